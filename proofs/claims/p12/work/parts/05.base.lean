/-! the array classes, the tables' words that a contract needs beside its own, and the two shapes of a contract -/
abbrev tyL (cI cP cR cJ : ClassId) : List (ClassId × FieldType) := [(cI, .int), (cP, .object "PrinterRows$Page"), (cR, .object "PrinterRows$Row"), (cJ, .long)]
def KK (D : va_G) (cI cP cR cJ : ClassId) (U : State) : Prop := va_K D vwCl (tyL cI cP cR cJ) U ∧ va_AO "PrinterRows$Page" U ∧ va_AO "PrinterRows$Row" U ∧ va_Nw (.methodLinkNest RX1 27 yX2_darker RX2) U
theorem KK.warm {D : va_G} {cI cP cR cJ : ClassId} {s U : State} (hW : s.WarmedH U.vm) (h : KK D cI cP cR cJ s) : KK D cI cP cR cJ U := ⟨va_K.moved hW.alike h.1, va_AO.moved hW.alike h.2.1, va_AO.moved hW.alike h.2.2.1, va_Nw.warmM hW h.2.2.2⟩
theorem KK.same {D : va_G} {cI cP cR cJ : ClassId} {s U : State} (h : s.vm = U.vm) (hk : KK D cI cP cR cJ s) : KK D cI cP cR cJ U := ⟨va_K.moved (by rw [h]; exact Vm.Alike.refl U.vm) hk.1, va_AO.moved (by rw [h]; exact Vm.Alike.refl U.vm) hk.2.1, va_AO.moved (by rw [h]; exact Vm.Alike.refl U.vm) hk.2.2.1, va_Nw.same rfl h hk.2.2.2⟩
theorem kI {D : va_G} {cI cP cR cJ cA : ClassId} {s : State} (h : va_K D vwCl (tyL cI cP cR cJ ++ [(cA, .int)]) s) : cA = cI :=
  Option.some.inj (((h.2 4 (cA, .int) rfl).2 : s.vm.findClass _ = some cA).symm.trans (h.2 0 (cI, .int) rfl).2)
theorem kP {D : va_G} {cI cP cR cJ cA : ClassId} {s : State} (h : va_K D vwCl (tyL cI cP cR cJ ++ [(cA, .object "PrinterRows$Page")]) s) : cA = cP := by
  obtain ⟨_, _, _, _, _, h1⟩ := (h.2 4 (cA, .object "PrinterRows$Page") rfl).2
  obtain ⟨_, _, _, _, _, h2⟩ := (h.2 1 (cP, .object "PrinterRows$Page") rfl).2
  exact Option.some.inj (h1.symm.trans h2)
theorem kR {D : va_G} {cI cP cR cJ cA : ClassId} {s : State} (h : va_K D vwCl (tyL cI cP cR cJ ++ [(cA, .object "PrinterRows$Row")]) s) : cA = cR := by
  obtain ⟨_, _, _, _, _, h1⟩ := (h.2 4 (cA, .object "PrinterRows$Row") rfl).2
  obtain ⟨_, _, _, _, _, h2⟩ := (h.2 2 (cR, .object "PrinterRows$Row") rfl).2
  exact Option.some.inj (h1.symm.trans h2)
theorem kJ {D : va_G} {cI cP cR cJ cA : ClassId} {s : State} (h : va_K D vwCl (tyL cI cP cR cJ ++ [(cA, .long)]) s) : cA = cJ :=
  Option.some.inj (((h.2 4 (cA, .long) rfl).2 : s.vm.findClass _ = some cA).symm.trans (h.2 3 (cJ, .long) rfl).2)
/-- a contract's start: no heap -/
def pu (av : List Value) : Array Value → State → Prop := va_Pc av (fun _ => True)
theorem pu_pre {s : State} {H : Heap} {As : List Value} : PreS s H (pu As) As := ⟨fun _ _ _ _ q => q, fun _ _ _ => ⟨rfl, trivial⟩⟩
/-- a contract's start: it reads alone -/
def ro (av : List Value) (D : va_G) (cI cP cR cJ : ClassId) (ws : va_W) : Array Value → State → Prop := va_Pc av (fun U => va_P D vwCl ws U.heap ∧ KK D cI cP cR cJ U)
theorem ro_blind {av : List Value} {D : va_G} {cI cP cR cJ : ClassId} {ws : va_W} : FrameBlind (ro av D cI cP cR cJ ws) := fun a U g mk q => ⟨q.1, q.2.1, KK.same (s := U) (U := U.calling g mk a) rfl q.2.2⟩
theorem ro_pre {s : State} {H : Heap} {D : va_G} {cI cP cR cJ : ClassId} {ws : va_W} {As : List Value} {a ci : Nat} {fs : List Value} {q : vw_C} (hK : KK D cI cP cR cJ s) (hP : va_P D vwCl ws H) (hc : vwCl[ci]? = some q) (q0 : Nat) (he : ws[q0]? = some (a, .inr (ci, fs))) : PreV s H q.1 a (ro (.ref a :: As) D cI cP cR cJ ws) As :=
  ⟨ro_blind, va_recv hK.1 hP hc he, fun U hU hW => ⟨rfl, by rw [hU]; exact hP, KK.warm hW hK⟩⟩
theorem ro_preS {s : State} {H : Heap} {D : va_G} {cI cP cR cJ : ClassId} {ws : va_W} {As : List Value} (hK : KK D cI cP cR cJ s) (hP : va_P D vwCl ws H) : PreS s H (ro As D cI cP cR cJ ws) As :=
  ⟨ro_blind, fun U hU hW => ⟨rfl, by rw [hU]; exact hP, KK.warm hW hK⟩⟩
/-- a contract's start: it writes, and may make cells -/
def mu (av : List Value) (D : va_G) (cI cP cR cJ : ClassId) (ws : va_W) (sz : Nat) : Array Value → State → Prop := va_Pc av (fun U => U.heap.size = sz ∧ va_P D vwCl ws U.heap ∧ KK D cI cP cR cJ U ∧ va_D (fun _ => True) ws)
theorem mu_blind {av : List Value} {D : va_G} {cI cP cR cJ : ClassId} {ws : va_W} {sz : Nat} : FrameBlind (mu av D cI cP cR cJ ws sz) := fun a U g mk q => ⟨q.1, q.2.1, q.2.2.1, KK.same (s := U) (U := U.calling g mk a) rfl q.2.2.2.1, q.2.2.2.2⟩
theorem mu_pre {s : State} {H : Heap} {D : va_G} {cI cP cR cJ : ClassId} {ws : va_W} {A0 : Nat → Prop} {As : List Value} {a ci : Nat} {fs : List Value} {q : vw_C} (hK : KK D cI cP cR cJ s) (hP : va_P D vwCl ws H) (hD : va_D A0 ws) (hc : vwCl[ci]? = some q) (q0 : Nat) (he : ws[q0]? = some (a, .inr (ci, fs))) : PreV s H q.1 a (mu (.ref a :: As) D cI cP cR cJ ws H.size) As :=
  ⟨mu_blind, va_recv hK.1 hP hc he, fun U hU hW => ⟨rfl, by rw [hU], by rw [hU]; exact hP, KK.warm hW hK, hD.weaken (fun _ _ _ _ => trivial)⟩⟩
theorem mu_preS {s : State} {H : Heap} {D : va_G} {cI cP cR cJ : ClassId} {ws : va_W} {A0 : Nat → Prop} {As : List Value} (hK : KK D cI cP cR cJ s) (hP : va_P D vwCl ws H) (hD : va_D A0 ws) : PreS s H (mu As D cI cP cR cJ ws H.size) As :=
  ⟨mu_blind, fun U hU hW => ⟨rfl, by rw [hU], by rw [hU]; exact hP, KK.warm hW hK, hD.weaken (fun _ _ _ _ => trivial)⟩⟩
/-- its end -/
def qi {S : Type} (D : va_G) (post : Int32 → S → Prop) (ww : S → va_W) (A : Nat → Prop) : Array Value → State → Outcome → State → Prop := va_Qi post (fun u t => va_P D vwCl (ww u) t.heap ∧ va_D A (ww u)) A
def qv {S : Type} (D : va_G) (post : S → Prop) (ww : S → va_W) (A : Nat → Prop) : Array Value → State → Outcome → State → Prop := va_Qv post (fun u t => va_P D vwCl (ww u) t.heap ∧ va_D A (ww u)) A
theorem fr_all {A0 : Nat → Prop} {ws : va_W} {H0 H : Heap} {locs : List Loc} (hD : va_D A0 ws) (hS : va_S A0 H0 H locs) (hA : ∀ q, H0.size ≤ q → A0 q) : ∀ q, va_A ws H.size q → A0 q := by
  intro q h
  rcases h with ⟨k, e, h⟩ | h
  · exact hD.2 k _ h
  · exact hA q (Nat.le_trans hS.1 h)
section CQ
variable {p : Program} {l : Launch} {e : Env} {R : Room} {s : State} {m : MethodId} {args : Array Value} {below : List Frame} {meth : Method} {c : Code} {H : Heap} {locs : List Loc} {cells slots : Nat} {Q : State → Prop}
variable {pc : Nat} {ls : Array Slot} {rest st0 : List Value} {a : Array Value} {A0 : Nat → Prop} {H0 : Heap} {mc ms : Nat} {D : va_G} {ws : va_W}
/-- a call that had the whole world -/
theorem callQi {S : Type} {post : Int32 → S → Prop} {ww : S → va_W} (hr : va_Run p l e R s m args below meth c H locs cells slots mc ms (F0 m pc ls st0) rest (qi D post ww (va_A ws H.size) a) (va_A ws H.size)) (hD : va_D A0 ws) (hS : va_S A0 H0 H locs) (hA : ∀ q, H0.size ≤ q → A0 q)
    (kk : ∀ (r : Int32) (u : S) (H1 : Heap) (locs1 : List Loc), post r u → va_P D vwCl (ww u) H1 → va_D A0 (ww u) → va_S A0 H0 H1 locs1 → W p l e R s m args below meth c H1 locs1 (cells + mc) (slots + ms) Q (F0 m (pc + 3) ls (.int r :: rest))) : W p l e R s m args below meth c H locs cells slots Q (F0 m pc ls st0) := by
  have hF := fr_all hD hS hA
  refine va_calli hr hS (fun q _ h => hF q h) hF (fun r u t H1 locs1 ht hvm hw hB hz hk hS1 => ?_)
  obtain ⟨hP1, hD1⟩ := hB
  rw [ht] at hP1
  exact kk r u H1 locs1 hw hP1 (hD1.weaken (fun _ q _ h => hF q.1 h)) hS1
theorem callQv {S : Type} {post : S → Prop} {ww : S → va_W} (hr : va_Run p l e R s m args below meth c H locs cells slots mc ms (F0 m pc ls st0) rest (qv D post ww (va_A ws H.size) a) (va_A ws H.size)) (hD : va_D A0 ws) (hS : va_S A0 H0 H locs) (hA : ∀ q, H0.size ≤ q → A0 q)
    (kk : ∀ (u : S) (H1 : Heap) (locs1 : List Loc), post u → va_P D vwCl (ww u) H1 → va_D A0 (ww u) → va_S A0 H0 H1 locs1 → W p l e R s m args below meth c H1 locs1 (cells + mc) (slots + ms) Q (F0 m (pc + 3) ls rest)) : W p l e R s m args below meth c H locs cells slots Q (F0 m pc ls st0) := by
  have hF := fr_all hD hS hA
  refine va_callv hr hS (fun q _ h => hF q h) hF (fun u t H1 locs1 ht hvm hw hB hz hk hS1 => ?_)
  obtain ⟨hP1, hD1⟩ := hB
  rw [ht] at hP1
  exact kk u H1 locs1 hw hP1 (hD1.weaken (fun _ q _ h => hF q.1 h)) hS1
end CQ
/-- a truth value as an int -/
def zb (b : Bool) : Int32 := if b then 1 else 0
theorem zb_nar (b : Bool) : narrow .boolean (.int (zb b)) = .int (zb b) := by cases b <;> decide +kernel
theorem zb_fit (b : Bool) : fits .boolean (.int (zb b)) = true := by cases b <;> decide +kernel
/-- the printer's own cells -/
def xF (L C : Int32) (aC aT aR : Nat) (rl : Int32) (aP : Nat) (bg on st mk rp sp sc sk fa : Int32) : List Value := [.int L, .int C, .ref aC, .ref aT, .ref aR, .int rl, .ref aP, .int bg, .int on, .int st, .int mk, .int rp, .int sp, .int sc, .int sk, .int fa]
def wX (cI cP : ClassId) (x aC aT aR aP : Nat) (L C rl bg on st mk rp sp sc sk fa : Int32) (ch tr rc : Nat → Int32) (pg : Nat → Option Nat) (pl : va_W) : va_W :=
  (x, .inr (3, xF L C aC aT aR rl aP bg on st mk rp sp sc sk fa)) :: (aC, .inl (cI, 13, .inl ch)) :: (aT, .inl (cI, 256, .inl tr)) :: (aR, .inl (cI, 200, .inl rc)) :: (aP, .inl (cP, 40, .inr (.inr (.inr (.inr pg))))) :: pl
/-- numbers -/
theorem i32 (x : Int32) : -2147483648 ≤ x.toInt ∧ x.toInt ≤ 2147483647 := ⟨Int32.le_toInt x, Int32.toInt_le x⟩
theorem i32_add (x y : Int32) : (x + y).toInt = x.toInt + y.toInt ∨ (x + y).toInt = x.toInt + y.toInt - 4294967296 ∨ (x + y).toInt = x.toInt + y.toInt + 4294967296 := by
  rw [Int32.toInt_add]
  have h1 := i32 x
  have h2 := i32 y
  simp only [Int.bmod]
  omega
theorem i32_sub (x y : Int32) : (x - y).toInt = x.toInt - y.toInt ∨ (x - y).toInt = x.toInt - y.toInt - 4294967296 ∨ (x - y).toInt = x.toInt - y.toInt + 4294967296 := by
  rw [Int32.toInt_sub]
  have h1 := i32 x
  have h2 := i32 y
  simp only [Int.bmod]
  omega
theorem i32_ext {x y : Int32} (h : x.toInt = y.toInt) : x = y := Int32.toInt_inj.mp h
theorem i32_lt {x y : Int32} : x < y ↔ x.toInt < y.toInt := Int32.lt_iff_toInt_lt
theorem i32_le {x y : Int32} : x ≤ y ↔ x.toInt ≤ y.toInt := Int32.le_iff_toInt_le
theorem i32_eq {x y : Int32} : x = y ↔ x.toInt = y.toInt := Int32.toInt_inj.symm
