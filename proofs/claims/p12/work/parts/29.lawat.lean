/-! the law's at -/
def wsLT : List Cond := wsL_at ++ (oG ++ [.classLink RL 13 RJx00060])
theorem gLT_at : GoodIn wsLT (wsV RL 7 RX2 yX2_at wsX2_at) := fun w hw => ⟨List.mem_append_left _ (gL_at_X2_at w hw).1, (gL_at_X2_at w hw).2⟩
theorem gLT_thr : GoodIn wsLT wsAT := by
  intro w hw
  rcases List.mem_append.mp hw with h | h
  · have h9 := gLT_at w (by unfold wsV; exact List.mem_append_right _ h)
    exact h9
  · exact ⟨List.mem_append_right _ (List.mem_append_left _ h), Or.inl (List.mem_filter.mp h).2⟩
def muT (av : List Value) (D : va_G) (cI cP cR cJ : ClassId) (ws : va_W) (sz sq : Nat) : Array Value → State → Prop := va_Pc av (fun U => (U.heap.size = sz ∧ va_P D vwCl ws U.heap ∧ KK D cI cP cR cJ U ∧ va_D (fun _ => True) ws) ∧ TX sq U)
theorem muT_blind {av : List Value} {D : va_G} {cI cP cR cJ : ClassId} {ws : va_W} {sz sq : Nat} : FrameBlind (muT av D cI cP cR cJ ws sz sq) := fun a U g mk q => ⟨q.1, ⟨q.2.1.1, q.2.1.2.1, KK.same (s := U) (U := U.calling g mk a) rfl q.2.1.2.2.1, q.2.1.2.2.2⟩, TX.same (s := U) (U := U.calling g mk a) rfl rfl q.2.2⟩
theorem keepP {D : va_G} {ws : va_W} {H H1 : Heap} (hP : va_P D vwCl ws H) (hk : ∀ q : Nat, q < H.size → H1[q]? = H[q]?) : va_P D vwCl ws H1 := fun k q hq => (hP k q hq).kept (hk q.1 (hP k q hq).lt)
theorem atO_spec {L C bg : Nat} {p l c : Int32} (hL : L ≤ 66) (hC : C ≤ 132) (hbg : bg ≤ 40) (h : atO L C bg p l c = true) : p = nI p.toNatClampNeg ∧ l = nI l.toNatClampNeg ∧ c = nI c.toNatClampNeg ∧ p.toNatClampNeg < bg ∧ l.toNatClampNeg < L ∧ c.toNatClampNeg < C := by
  unfold atO at h
  by_cases h1 : p < 0
  · rw [if_pos h1] at h; cases h
  rw [if_neg h1] at h
  by_cases h2 : nI bg ≤ p
  · rw [if_pos h2] at h; cases h
  rw [if_neg h2] at h
  by_cases h3 : l < 0
  · rw [if_pos h3] at h; cases h
  rw [if_neg h3] at h
  by_cases h4 : nI L ≤ l
  · rw [if_pos h4] at h; cases h
  rw [if_neg h4] at h
  by_cases h5 : c < 0
  · rw [if_pos h5] at h; cases h
  rw [if_neg h5] at h
  by_cases h6 : nI C ≤ c
  · rw [if_pos h6] at h; cases h
  obtain ⟨p, hp, rfl⟩ := nI_of (x := p) h1
  obtain ⟨l, hl, rfl⟩ := nI_of (x := l) h3
  obtain ⟨c, hc, rfl⟩ := nI_of (x := c) h5
  rw [nI_clamp hp, nI_clamp hl, nI_clamp hc]
  exact ⟨rfl, rfl, rfl, Nat.lt_of_not_le (fun q => h2 (nI_le q hp)), Nat.lt_of_not_le (fun q => h4 (nI_le q hl)), Nat.lt_of_not_le (fun q => h6 (nI_le q hc))⟩
set_option maxHeartbeats 1000000 in
set_option maxRecDepth 100000 in
theorem c_L_at (l : Launch) (hl0 : l.stackTraces = false) {D : va_G} {cI cP cR cJ : ClassId} {x aC aT aR aP L C rl bg st : Nat} {on : Bool} {mk rp sp sc sk fa : Int32} {ch tr rc : Nat → Int32} {pg : Nat → Option Nat} {pl : va_W} {own : Nat → Nat × Nat} {M : Nat → Nat → Nat → Int32} {o : Nat} {fo : Nat → Int64} {sq sz : Nat} (hL : L ≤ 66) (hC : C ≤ 132) (hbg : bg ≤ 40) (hPI : PI cI cR pl own L C bg pg M) (p0 l0 k0 : Int32) : Met l yL_at wsLT ({ frames := 8, cells := 1, slots := 6, locals := 119 }) (muT [.ref x, .int p0, .int l0, .int k0, .ref o] D cI cP cR cJ ((o, .inl (cJ, 1, .inr (.inl fo))) :: wX cI cP x aC aT aR aP (nI L) (nI C) (nI rl) (nI bg) (zb on) (nI st) mk rp sp sc sk fa ch tr rc pg pl) sz sq) (qi D (fun (r : Int32) (u : Nat → Int64) => (atO L C bg p0 l0 k0 = true ∧ r = 0 ∧ u 0 = (M p0.toNatClampNeg l0.toNatClampNeg k0.toNatClampNeg).toInt64) ∨ (atO L C bg p0 l0 k0 = false ∧ r = 1)) (fun u : Nat → Int64 => (o, .inl (cJ, 1, .inr (.inl u))) :: wX cI cP x aC aT aR aP (nI L) (nI C) (nI rl) (nI bg) (zb on) (nI st) mk rp sp sc sk fa ch tr rc pg pl) (va_A ((o, .inl (cJ, 1, .inr (.inl fo))) :: wX cI cP x aC aT aR aP (nI L) (nI C) (nI rl) (nI bg) (zb on) (nI st) mk rp sp sc sk fa ch tr rc pg pl) sz)) 1 6 (va_A ((o, .inl (cJ, 1, .inr (.inl fo))) :: wX cI cP x aC aT aR aP (nI L) (nI C) (nI rl) (nI bg) (zb on) (nI st) mk rp sp sc sk fa ch tr rc pg pl) sz) := by
  refine va_MetW (cc := cL_at) (maxL := 6) (ret := some .int) (hh := [(0, 12, 15, 13)]) (by decide) rfl ?_
  intro p e s m args below meth c s₁ B hml hv
  obtain ⟨rfl, ⟨hsz, hP, hK, hD0⟩, hTX⟩ := hv
  have hx := B.exec
  have hb := B.bytes
  have hr := B.returns
  have hts := atoms_spec (ws := wsLT) B.pre
  have hown : s.vm.findClass RL = some m.cls := findClass_of_methodNamed B.named
  have hlocks := B.notSynchronized
  subst hsz
  have hD := hD0.self (sz := s.heap.size)
  generalize hAe : va_A ((o, .inl (cJ, 1, .inr (.inl fo))) :: wX cI cP x aC aT aR aP (nI L) (nI C) (nI rl) (nI bg) (zb on) (nI st) mk rp sp sc sk fa ch tr rc pg pl) s.heap.size = A at hD ⊢
  have hA : ∀ q : Nat, s.heap.size ≤ q → A q := fun q h => by rw [← hAe]; exact Or.inr h
  have hS : va_S A s.heap s.heap [] := va_S.rf
  have hP : va_P D vwCl ((o, .inl (cJ, 1, .inr (.inl fo))) :: wX cI cP x aC aT aR aP (nI L) (nI C) (nI rl) (nI bg) (zb on) (nI st) mk rp sp sc sk fa ch tr rc pg pl) s.heap := hP
  have hl := lv_entry ([.ref x, .int p0, .int l0, .int k0, .ref o]) (n := 6) (Nat.le_of_ble_eq_true rfl)
  rw [lg_entry_eq]
  generalize (lg_sl ([.ref x, .int p0, .int l0, .int k0, .ref o]) ++ List.replicate (6 - (lg_sl ([.ref x, .int p0, .int l0, .int k0, .ref o])).length) Slot.unset).toArray = ls at hl ⊢
  have hl : lv_has ls 6 [(0, .ref x), (1, .int p0), (2, .int l0), (3, .int k0), (4, .ref o)] := hl
  refine lv_aload hx hb dL_at_0 (lv_at hl 4 rfl) ?_
  refine lv_iconst (v := 0) hx hb dL_at_2 (by decide +kernel) ?_
  refine lv_aload_n hx hb dL_at_3 rfl (lv_at hl 0 rfl) ?_
  refine lv_iload_n hx hb dL_at_4 rfl (lv_at hl 1 rfl) ?_
  refine lv_iload_n hx hb dL_at_5 rfl (lv_at hl 2 rfl) ?_
  refine lv_iload_n hx hb dL_at_6 rfl (lv_at hl 3 rfl) ?_
  cases hat : atO L C bg p0 l0 k0 with
  | true =>
    obtain ⟨ep, el, ek, hp, hi, hk⟩ := atO_spec hL hC hbg hat
    have hPx : va_P D vwCl (wX cI cP x aC aT aR aP (nI L) (nI C) (nI rl) (nI bg) (zb on) (nI st) mk rp sp sc sk fa ch tr rc pg pl) s.heap := sufP (wr := [_]) hP
    refine W.eq (g2 := F0 m 7 ls [.int (nI k0.toNatClampNeg), .int (nI l0.toNatClampNeg), .int (nI p0.toNatClampNeg), .ref x, .int 0, .ref o]) (by rw [← ep, ← el, ← ek]) ?_
    refine vp_callSi (W.runV (As := [.int (nI p0.toNatClampNeg), .int (nI l0.toNatClampNeg), .int (nI k0.toNatClampNeg)]) (rest := [.int 0, .ref o]) ⟨hx, hb, hml, hown, hts⟩ (c_X2_at_ok l hL hC hbg hPI p0.toNatClampNeg l0.toNatClampNeg k0.toNatClampNeg hp hi hk) (cwV 3 hts gLT_at rfl rfl rfl (by decide +kernel) ⟨(Nat.le_of_ble_eq_true rfl), (Nat.le_of_ble_eq_true rfl)⟩) (ro_pre hK hPx rfl 0 rfl) rfl rfl hl.1 rfl (lv_room (Nat.le_of_ble_eq_true rfl)) dL_at_7 ⟨(Nat.zero_le _), (Nat.zero_le _)⟩) (fun r_7 w_7 => ?_)
    subst w_7
    refine lv_i2l hx hb dL_at_10 rfl ?_
    refine va_last hx hb hK.1 hP hD hS 0 3 rfl rfl (by rw [vp_in_iff]; decide) dL_at_11 (fun H locs hP hD hS => ?_)
    refine lv_goto (tgt := 19) hx hb dL_at_12 (by decide) ?_
    refine lv_iconst (v := 0) hx hb dL_at_19 (by decide +kernel) ?_
    refine W.widen (k := 1) (n := 6) (by omega) (by omega) ?_
    exact W.iret (v := 0) hx hb hr (fun t ht hW => ⟨⟨_, _, rfl, Or.inl ⟨rfl, rfl, rfl⟩, by rw [ht]; exact hP, hD⟩, hS.F ht⟩) hS.2.2 dL_at_20
  | false =>
    obtain ⟨m9, meth9, c9, hn9, hm9, hc9, -, -, htab9, -, -, -⟩ := Cond.codeWith_spec (hts (.codeWith yL_at cL_at 6 (some .int) [(0, 12, 15, 13)]) List.mem_cons_self)
    cases B.named.symm.trans hn9
    cases B.method.symm.trans hm9
    intro T hT X
    cases X.code.symm.trans hc9
    obtain ⟨x0, htab, hx0⟩ : ∃ x0 : ExceptionTableEntry, c.exceptionTable.toList = [x0] ∧ (x0.startPc, x0.endPc, x0.handlerPc, x0.catchType) = (0, 12, 15, 13) := by
      match h9 : c.exceptionTable.toList with
      | [] => rw [h9] at htab9; simp at htab9
      | [y] => rw [h9] at htab9; exact ⟨y, rfl, by simpa using htab9⟩
      | y :: z :: r => rw [h9] at htab9; simp at htab9
    obtain ⟨h1, h2⟩ := Prod.mk.inj hx0
    obtain ⟨h2, h3⟩ := Prod.mk.inj h2
    obtain ⟨h3, h4⟩ := Prod.mk.inj h3
    obtain ⟨cellB, hcB, hoB, hclB⟩ := va_recv hK.1 hP rfl (q := vwCl[3]) (show ((o, .inl (cJ, 1, .inr (.inl fo))) :: wX cI cP x aC aT aR aP (nI L) (nI C) (nI rl) (nI bg) (zb on) (nI st) mk rp sp sc sk fa ch tr rc pg pl : va_W)[1]? = some (x, .inr (3, _)) from rfl)
    obtain ⟨T', xa, ce, X', hxa, hce, hcv, hcc, hz, hkeep, sto⟩ := call_thr (y := yX2_at) (own := RL) (C := RX2) (index := 7) (bytes := cX2_at) (maxL := 5) (ret := some .int) X hx (c_X2_at_thr l hl0 hbg p0 l0 k0 hat (sq := sq) (D := D) (cI := cI) (cP := cP) (cR := cR) (cJ := cJ) (x := x) (aC := aC) (aT := aT) (aR := aR) (aP := aP) (rl := rl) (st := st) (on := on) (mk := mk) (rp := rp) (sp := sp) (sc := sc) (sk := sk) (fa := fa) (ch := ch) (tr := tr) (rc := rc) (pg := pg) (pl := pl)) PT_blind hown
      (hts _ (gLT_at (.methodLink RL 7 yX2_at) (by simp [wsV])).1) (hts _ (gLT_at (.instanceMethod yX2_at) (by simp [wsV])).1) (hts _ (gLT_at (.selects RX2 yX2_at yX2_at) (by simp [wsV])).1) (hts _ (gLT_at (.initialized RX2) (by simp [wsV])).1) (hts _ (gLT_at (.code yX2_at cX2_at 5 (some .int)) (by unfold wsV; exact List.mem_append_right _ List.mem_cons_self)).1) (by decide +kernel)
      (Nat.le_of_ble_eq_true rfl) (Nat.le_of_ble_eq_true rfl) (pay_in hts gLT_thr) (Nat.le_of_ble_eq_true rfl) (Nat.le_of_ble_eq_true rfl) (by rw [hT]; exact hcB) hoB hclB (g := F0 m 7 ls [.int k0, .int l0, .int p0, .ref x, .int 0, .ref o]) rfl (by rw [hml]; exact hl.1) (argsL := [.int p0, .int l0, .int k0]) (rest := [.int 0, .ref o]) (fun sig h => by have h2 : (parseMethodDescriptor "(III)I").map (fun d => d.parameters.length) = some 3 := (by decide +kernel); have h3 : parseMethodDescriptor "(III)I" = some sig := h; rw [h3] at h2; exact (Option.some.inj h2).symm) rfl (lv_room (Nat.le_of_ble_eq_true rfl)) (by rw [hb]; exact dL_at_7)
      (fun vm₁ hW₁ => ⟨rfl, ⟨sufP (wr := [_]) (by show va_P D vwCl _ T.heap; rw [hT]; exact hP), KK.warm (U := T.setVm vm₁) hW₁ hK⟩, TX.warm (U := T.setVm vm₁) hW₁ (fun a _ => by show T.heap[a]? = _; rw [hT]) hTX⟩)
    obtain ⟨vm₁, X₁, st1⟩ := catch_cold X' (own := RL) (C := RJx00060) hown htab (by rw [h4]; exact hts _ (List.mem_append_right _ (List.mem_append_right _ List.mem_cons_self))) (by rw [h4]; decide) (g := F0 m 7 ls [.int 0, .ref o]) rfl (by unfold covers; rw [h1, h2]; rfl) hce (fun k h => by rw [hcv] at h; cases h) hcc
    have hP1 : va_P D vwCl ((o, .inl (cJ, 1, .inr (.inl fo))) :: wX cI cP x aC aT aR aP (nI L) (nI C) (nI rl) (nI bg) (zb on) (nI st) mk rp sp sc sk fa ch tr rc pg pl) T'.heap := keepP hP (fun q hq => by rw [hkeep q (by rw [hT]; exact hq), hT])
    have hS1 : va_S A s.heap T'.heap [] := ⟨by rw [← hT]; exact hz, fun q hq _ => by rw [hkeep q (by rw [hT]; exact hq), hT], fun _ h => by cases h⟩
    have kk : W p l e (headSpec wsLT ({ frames := 8, cells := 1, slots := 6, locals := 119 })).room s m ([.ref x, .int p0, .int l0, .int k0, .ref o] : List Value).toArray below meth c T'.heap [] (0 + 1) (0 + 6) (MQ below (qi D (fun (r : Int32) (u : Nat → Int64) => (atO L C bg p0 l0 k0 = true ∧ r = 0 ∧ u 0 = (M p0.toNatClampNeg l0.toNatClampNeg k0.toNatClampNeg).toInt64) ∨ (atO L C bg p0 l0 k0 = false ∧ r = 1)) (fun u : Nat → Int64 => (o, .inl (cJ, 1, .inr (.inl u))) :: wX cI cP x aC aT aR aP (nI L) (nI C) (nI rl) (nI bg) (zb on) (nI st) mk rp sp sc sk fa ch tr rc pg pl) A) ([.ref x, .int p0, .int l0, .int k0, .ref o] : List Value).toArray s 1 6 A) (F0 m 15 ls [.ref xa]) := by
      refine lv_astore (lv' := (5, .ref xa) :: [(0, .ref x), (1, .int p0), (2, .int l0), (3, .int k0), (4, .ref o)]) hx hb dL_at_15 hl (by decide) rfl (fun ls hl => ?_)
      refine lv_iconst (v := 1) hx hb dL_at_17 (by decide +kernel) ?_
      exact W.iret (v := 1) hx hb hr (fun t ht hW => ⟨⟨_, fo, rfl, Or.inr ⟨hat, rfl⟩, by rw [ht]; exact hP1, hD⟩, hS1.F ht⟩) hS1.2.2 dL_at_18
    obtain ⟨t, a1, b1⟩ := kk (T'.setVm vm₁) rfl X₁
    rw [h3] at st1
    exact ⟨t, sto t (st1 t a1), by simpa [hat] using b1⟩
