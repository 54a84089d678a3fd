/-! at, where there is no such place: what its throw asks of the tables and of the heap -/
def oA : List Cond := Bundle.ownAtoms RX2 100 RJx00060 ["java/lang/IndexOutOfBoundsException", "java/lang/RuntimeException", "java/lang/Exception"]
def gW (w : Cond) : Bool := w.onTables && w.keeps
def dW : Cond → Bool
  | .castable _ _ => true
  | .declares _ => true
  | _ => false
def oG : List Cond := oA.filter gW
def oD : List Cond := oA.filter dW
theorem dW_warm {w : Cond} (h : dW w = true) {s U : State} (hW : s.WarmedH U.vm) (hz : va_Nw w s) : va_Nw w U := by
  cases w <;> first | (exact va_Nw.warmC hW hz) | (exact va_Nw.warmD hW hz) | (simp [dW] at h)
theorem dW_tab {w : Cond} (h : dW w = true) : w.onTables = true := by
  cases w <;> first | rfl | (simp [dW] at h)
def SZ (n d : String) (U : State) : Prop := (Cond.laysStatic Bundle.tN n d).before #[] U = true ∧ (Cond.isRef (.static Bundle.tN n d)).before #[] U = true
theorem SZ.to {n d : String} {s U : State} {A : Array Value} (hv : s.vm.Alike U.vm) (hh : ∀ a : Nat, a < s.heap.size → U.heap[a]? = s.heap[a]?) (h : SZ n d s) : (Cond.laysStatic Bundle.tN n d).before A U = true ∧ (Cond.isRef (.static Bundle.tN n d)).before A U = true := by
  obtain ⟨c, k, i, f, a, cell, hc, hi, hst, ha, hcell, hs, hcls, hlt, hty⟩ := Cond.laysStatic_spec h.1
  have hr := h.2
  cases hev : (Term.static Bundle.tN n d).eval #[] s none [] s with
  | none => simp [Cond.before, Cond.holds, Cond.value, hev] at hr
  | some v =>
    obtain ⟨-, a', cell', ha', hcell', -, hslot⟩ := Term.static_spec hi hev
    cases ha.symm.trans ha'
    cases hcell.symm.trans hcell'
    obtain ⟨k', hi', he⟩ := State.fieldFound?_setVm hv hi
    have hi2 : U.fieldFound? Bundle.tN n d = some (c, k', i, f) := hi'
    have hc2 : U.vm.findClass Bundle.tN = some c := by rw [hv.findClass]; exact hc
    have ha2 : k'.statics = some a := by rw [he]; exact ha
    have hty2 : k'.staticTypes[f.slot]? = some f.type := by rw [he]; exact hty
    have hcell2 : U.heap[a]? = some cell := by rw [hh a (Array.getElem?_eq_some_iff.mp hcell).1]; exact hcell
    refine ⟨Cond.laysStatic_of hc2 hi2 hst ha2 hcell2 hs hcls hlt hty2, ?_⟩
    have he2 : (Term.static Bundle.tN n d).eval A U none [] U = some v := by
      simp [Term.eval, State.fieldNamed?, hi2, hst, ha2, hcell2, hs, hslot]
    simp only [Cond.before, Cond.holds, Cond.value, hev] at hr
    simp only [Cond.before, Cond.holds, Cond.value, he2]
    exact hr
def TX (q : Nat) (U : State) : Prop := SZ "UNASSIGNED_STACK" Bundle.steD U ∧ SZ "SUPPRESSED_SENTINEL" Bundle.listD U ∧ vk_R RX2 98 "no such place" q U ∧ ∀ w ∈ oD, va_Nw w U
theorem oD_d {w : Cond} (h : w ∈ oD) : dW w = true := (List.mem_filter.mp h).2
theorem TX.warm {q : Nat} {s U : State} (hW : s.WarmedH U.vm) (hh : ∀ a : Nat, a < s.heap.size → U.heap[a]? = s.heap[a]?) (h : TX q s) : TX q U :=
  ⟨SZ.to hW.alike hh h.1, SZ.to hW.alike hh h.2.1, vk_R.warm hW h.2.2.1, fun w hw => dW_warm (oD_d hw) hW (h.2.2.2 w hw)⟩
theorem TX.same {q : Nat} {s U : State} (hv : U.vm = s.vm) (hh : U.heap = s.heap) (h : TX q s) : TX q U :=
  ⟨SZ.to (by rw [hv]; exact Vm.Alike.refl _) (fun a _ => by rw [hh]) h.1, SZ.to (by rw [hv]; exact Vm.Alike.refl _) (fun a _ => by rw [hh]) h.2.1, vk_R.same hv h.2.2.1, fun w hw => va_Nw.same (dW_tab (oD_d hw)) hv.symm (h.2.2.2 w hw)⟩
theorem oA_split : ∀ w ∈ oA, w ∈ oG ∨ w ∈ oD ∨ w ∈ [Cond.laysStatic Bundle.tN "UNASSIGNED_STACK" Bundle.steD, Cond.isRef (.static Bundle.tN "UNASSIGNED_STACK" Bundle.steD), Cond.laysStatic Bundle.tN "SUPPRESSED_SENTINEL" Bundle.listD, Cond.isRef (.static Bundle.tN "SUPPRESSED_SENTINEL" Bundle.listD)] := by decide +kernel
theorem oA_ok {q : Nat} {U : State} {A : Array Value} (h : TX q U) (hg : ∀ w ∈ oG, w.before A U = true) : ∀ w ∈ oA, w.before A U = true := by
  intro w hw
  rcases oA_split w hw with h1 | h1 | h1
  · exact hg w h1
  · exact va_Nw.use (dW_tab (oD_d h1)) (h.2.2.2 w h1)
  · have e1 := SZ.to (A := A) (Vm.Alike.refl U.vm) (fun _ _ => rfl) h.1
    have e2 := SZ.to (A := A) (Vm.Alike.refl U.vm) (fun _ _ => rfl) h.2.1
    simp only [List.mem_cons, List.not_mem_nil, or_false] at h1
    rcases h1 with rfl | rfl | rfl | rfl
    · exact e1.1
    · exact e1.2
    · exact e2.1
    · exact e2.2
def wsAT : List Cond := wsX2_at ++ oG
/-- its start and its end -/
def PT (av : List Value) (D : va_G) (cI cP cR cJ : ClassId) (ws : va_W) (q : Nat) : Array Value → State → Prop := va_Pc av (fun U => (va_P D vwCl ws U.heap ∧ KK D cI cP cR cJ U) ∧ TX q U)
theorem PT_blind {av : List Value} {D : va_G} {cI cP cR cJ : ClassId} {ws : va_W} {q : Nat} : FrameBlind (PT av D cI cP cR cJ ws q) := fun a U g mk h => ⟨h.1, ⟨h.2.1.1, KK.same (s := U) (U := U.calling g mk a) rfl h.2.1.2⟩, TX.same (s := U) (U := U.calling g mk a) rfl rfl h.2.2⟩
def QT : Array Value → State → Outcome → State → Prop := fun _ st o t => ∃ (x : Addr) (ce : Cell), o = .threw x ∧ st.heap.size ≤ x ∧ t.heap[x]? = some ce ∧ ce.vm = .none ∧ st.vm.findClass RJx00060 = some ce.cls ∧ st.WarmedH t.vm ∧ st.sameButNew ({ t with vm := st.vm } : State) [] 1 6
