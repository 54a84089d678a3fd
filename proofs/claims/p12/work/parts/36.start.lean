/-! the law, from its entry -/
set_option maxHeartbeats 4000000 in
set_option maxRecDepth 100000 in
theorem whole_start {p : Program} {e : Env} {s : State} {m : MethodId} {below : List Frame} {meth : Method} {c : Code} (l : Launch) (hl0 : l.stackTraces = false) {b N : Nat} {xs : Nat → Int32} (hN : N ≤ 2050) (C0 : lw_At p s m meth c b N xs) : W p l e room_1 s m #[Value.ref b] below meth c s.heap [] 0 0 (lw_Z below #[Value.ref b] s) (entryFrame m ([Value.ref b] : List Value).toArray 7) := by
  obtain ⟨hx, hb, hr, hml, hown0, htl, hX, hbl, hlocks, hgv⟩ := id C0
  have hown : s.vm.findClass RL = some m.cls := hown0
  have hts : ∀ w ∈ wsL_law, w.before #[Value.ref b] s = true := fun w hw => htl w (lw_good w hw).1
  have hA : ∀ q : Nat, s.heap.size ≤ q → (fun q : Nat => s.heap.size ≤ q) q := fun _ h => h
  have hbA : ¬ (fun q : Nat => s.heap.size ≤ q) b := Nat.not_le.mpr hbl
  obtain ⟨D, cI, cP, cR, cJ, hK⟩ := begin_K htl
  obtain ⟨sq, hTX⟩ := begin_T htl hgv
  obtain ⟨L, hL1, hL2, hLe⟩ := hdTo_nI (clR N xs 0) (b := 66) (n := 66) rfl (by decide) (by decide)
  obtain ⟨C, hC1, hC2, hCe⟩ := hdTo_nI (clR N xs 1) (b := 132) (n := 132) rfl (by decide) (by decide)
  have hS : va_S (fun q : Nat => s.heap.size ≤ q) s.heap s.heap [] := va_S.rf
  have hP : va_P D vwCl [] s.heap := fun k q h => by simp at h
  have hD : va_D (fun q : Nat => s.heap.size ≤ q) [] := ⟨fun i j p q h => by simp at h, fun k q h => by simp at h⟩
  have hl := lv_entry ([.ref b]) (n := 7) (Nat.le_of_ble_eq_true rfl)
  rw [lg_entry_eq]
  generalize (lg_sl ([.ref b]) ++ List.replicate (7 - (lg_sl ([.ref b])).length) Slot.unset).toArray = ls at hl ⊢
  have hl : lv_has ls 7 [(0, .ref b)] := hl
  refine va_new (ci := 3) (fs := [.int 0, .int 0, .null, .null, .null, .int 0, .null, .int 0, .int 0, .int 0, .int 0, .int 0, .int 0, .int 0, .int 0, .int 0]) (C := RX2) (T := TX2) (N := 16) hx hb htl inX2 tyX2 tyX2_ok hown (hts (.classLink RL 8 RX2) (by decide +kernel)) (hts (.instantiable RX2 16) (by decide +kernel)) (hts (.initialized RX2) (by decide +kernel)) hK.1 hP hD hS hA rfl (fun j hj => by rcases (show j = 0 ∨ j = 1 ∨ j = 2 ∨ j = 3 ∨ j = 4 ∨ j = 5 ∨ j = 6 ∨ j = 7 ∨ j = 8 ∨ j = 9 ∨ j = 10 ∨ j = 11 ∨ j = 12 ∨ j = 13 ∨ j = 14 ∨ j = 15 by omega) with rfl | rfl | rfl | rfl | rfl | rfl | rfl | rfl | rfl | rfl | rfl | rfl | rfl | rfl | rfl | rfl <;> rfl) (by show 0 + 1 ≤ 601024; omega) (by show 0 + 16 ≤ 7293000; omega) dL_law_0 (fun x H hP hD hS => ?_)
  have hP : va_P D vwCl [(x, .inr (3, [.int 0, .int 0, .null, .null, .null, .int 0, .null, .int 0, .int 0, .int 0, .int 0, .int 0, .int 0, .int 0, .int 0, .int 0]))] H := hP
  have hD : va_D (fun q : Nat => s.heap.size ≤ q) [(x, .inr (3, [.int 0, .int 0, .null, .null, .null, .int 0, .null, .int 0, .int 0, .int 0, .int 0, .int 0, .int 0, .int 0, .int 0, .int 0]))] := hD
  refine lv_dup hx hb dL_law_3 rfl ?_
  refine lv_aload_n hx hb dL_law_4 rfl (lv_at hl 0 rfl) ?_
  refine lv_iconst (v := 0) hx hb dL_law_5 (by decide +kernel) ?_
  refine W.eq (g2 := F0 m 6 ls [.int (nI 0), .ref b, .ref x, .ref x]) rfl ?_
  refine vp_callSi (W.runS (As := [.ref b, .int (nI 0)]) (rest := [.ref x, .ref x]) ⟨hx, hb, hml, hown, hts⟩ (c_L_cell l hN 0 (by decide)) (va_cwS 2 hts gL_law_L_cell rfl rfl rfl (by decide +kernel) ⟨(Nat.le_of_ble_eq_true rfl), (Nat.le_of_ble_eq_true rfl)⟩) (PcX_pre (hX.kept (hS.2.1 b hbl hbA))) rfl rfl hl.1 rfl (lv_room (Nat.le_of_ble_eq_true rfl)) dL_law_6 ⟨(Nat.le_of_ble_eq_true rfl), (Nat.le_of_ble_eq_true rfl)⟩) (fun r0 w_6 => ?_)
  subst w_6
  refine lv_aload_n hx hb dL_law_9 rfl (lv_at hl 0 rfl) ?_
  refine lv_iconst (v := 1) hx hb dL_law_10 (by decide +kernel) ?_
  refine W.eq (g2 := F0 m 11 ls [.int (nI 1), .ref b, .int (clR N xs 0), .ref x, .ref x]) rfl ?_
  refine vp_callSi (W.runS (As := [.ref b, .int (nI 1)]) (rest := [.int (clR N xs 0), .ref x, .ref x]) ⟨hx, hb, hml, hown, hts⟩ (c_L_cell l hN 1 (by decide)) (va_cwS 2 hts gL_law_L_cell rfl rfl rfl (by decide +kernel) ⟨(Nat.le_of_ble_eq_true rfl), (Nat.le_of_ble_eq_true rfl)⟩) (PcX_pre (hX.kept (hS.2.1 b hbl hbA))) rfl rfl hl.1 rfl (lv_room (Nat.le_of_ble_eq_true rfl)) dL_law_11 ⟨(Nat.le_of_ble_eq_true rfl), (Nat.le_of_ble_eq_true rfl)⟩) (fun r1 w_11 => ?_)
  subst w_11
  refine callQv (va_runI (As := [.int (clR N xs 0), .int (clR N xs 1)]) (rest := [.ref x]) ⟨hx, hb, hml, hown, hts⟩ (c_X2_init l (clR N xs 0) (clR N xs 1) hLe hCe) (cwI 2 hts gL_law_X2_init rfl rfl rfl (hts (.initialized RX2) (by decide +kernel)) (hts (.methodLink RL 21 yX2_init) (by decide +kernel)) (hts (.instanceMethod yX2_init) (by decide +kernel)) rfl (by decide +kernel) ⟨(Nat.le_of_ble_eq_true rfl), (Nat.le_of_ble_eq_true rfl)⟩) (mu_preS hK hP hD) rfl rfl hl.1 rfl (lv_room (Nat.le_of_ble_eq_true rfl)) dL_law_14 ⟨(Nat.le_of_ble_eq_true rfl), (Nat.le_of_ble_eq_true rfl)⟩) hD hS hA (fun u H locs w hP hD hS => ?_)
  obtain ⟨⟨aC, aT, aR, aP⟩, chx, trx⟩ := u
  obtain ⟨hchx, htrx⟩ := w
  dsimp only at hchx htrx
  have hP : va_P D vwCl (wX cI cP x aC aT aR aP (nI L) (nI C) (nI 0) (nI 0) (zb false) (nI 0) 0 0 0 0 0 0 chx trx (fun _ => 0) (fun _ => none) []) H := hP
  have hD : va_D (fun q : Nat => s.heap.size ≤ q) (wX cI cP x aC aT aR aP (nI L) (nI C) (nI 0) (nI 0) (zb false) (nI 0) 0 0 0 0 0 0 chx trx (fun _ => 0) (fun _ => none) []) := hD
  refine lv_astore_n (lv' := [(1, .ref x), (0, .ref b)]) hx hb dL_law_17 rfl hl (by decide) rfl (fun ls hl => ?_)
  refine va_new (ci := 4) (fs := [.int 0, .int 0, .int 0, .null, .null, .null, .null, .null, .int 0, .int 0, .int 0, .int 0, .int 0, .int 0, .int 0, .int 0]) (C := RX3) (T := TX3) (N := 16) hx hb htl inX3 tyX3 tyX3_ok hown (hts (.classLink RL 24 RX3) (by decide +kernel)) (hts (.instantiable RX3 16) (by decide +kernel)) (hts (.initialized RX3) (by decide +kernel)) hK.1 hP hD hS hA rfl (fun j hj => by rcases (show j = 0 ∨ j = 1 ∨ j = 2 ∨ j = 3 ∨ j = 4 ∨ j = 5 ∨ j = 6 ∨ j = 7 ∨ j = 8 ∨ j = 9 ∨ j = 10 ∨ j = 11 ∨ j = 12 ∨ j = 13 ∨ j = 14 ∨ j = 15 by omega) with rfl | rfl | rfl | rfl | rfl | rfl | rfl | rfl | rfl | rfl | rfl | rfl | rfl | rfl | rfl | rfl <;> rfl) (by show 5 + 1 ≤ 601024; omega) (by show 525 + 16 ≤ 7293000; omega) dL_law_18 (fun m0 H hP hD hS => ?_)
  have hP : va_P D vwCl (wX cI cP x aC aT aR aP (nI L) (nI C) (nI 0) (nI 0) (zb false) (nI 0) 0 0 0 0 0 0 chx trx (fun _ => 0) (fun _ => none) [] ++ [(m0, .inr (4, [.int 0, .int 0, .int 0, .null, .null, .null, .null, .null, .int 0, .int 0, .int 0, .int 0, .int 0, .int 0, .int 0, .int 0]))]) H := hP
  have hD : va_D (fun q : Nat => s.heap.size ≤ q) (wX cI cP x aC aT aR aP (nI L) (nI C) (nI 0) (nI 0) (zb false) (nI 0) 0 0 0 0 0 0 chx trx (fun _ => 0) (fun _ => none) [] ++ [(m0, .inr (4, [.int 0, .int 0, .int 0, .null, .null, .null, .null, .null, .int 0, .int 0, .int 0, .int 0, .int 0, .int 0, .int 0, .int 0]))]) := hD
  refine lv_dup hx hb dL_law_21 rfl ?_
  refine lv_aload_n hx hb dL_law_22 rfl (lv_at hl 1 rfl) ?_
  refine lv_iconst (v := 0) hx hb dL_law_23 (by decide +kernel) ?_
  refine W.eq (g2 := F0 m 24 ls [.int (nI 0), .ref b, .ref m0, .ref m0]) rfl ?_
  refine vp_callSi (W.runS (As := [.ref b, .int (nI 0)]) (rest := [.ref m0, .ref m0]) ⟨hx, hb, hml, hown, hts⟩ (c_L_cell l hN 0 (by decide)) (va_cwS 2 hts gL_law_L_cell rfl rfl rfl (by decide +kernel) ⟨(Nat.le_of_ble_eq_true rfl), (Nat.le_of_ble_eq_true rfl)⟩) (PcX_pre (hX.kept (hS.2.1 b hbl hbA))) rfl rfl hl.1 rfl (lv_room (Nat.le_of_ble_eq_true rfl)) dL_law_24 ⟨(Nat.le_of_ble_eq_true rfl), (Nat.le_of_ble_eq_true rfl)⟩) (fun r2 w_24 => ?_)
  subst w_24
  refine lv_aload_n hx hb dL_law_27 rfl (lv_at hl 1 rfl) ?_
  refine lv_iconst (v := 1) hx hb dL_law_28 (by decide +kernel) ?_
  refine W.eq (g2 := F0 m 29 ls [.int (nI 1), .ref b, .int (clR N xs 0), .ref m0, .ref m0]) rfl ?_
  refine vp_callSi (W.runS (As := [.ref b, .int (nI 1)]) (rest := [.int (clR N xs 0), .ref m0, .ref m0]) ⟨hx, hb, hml, hown, hts⟩ (c_L_cell l hN 1 (by decide)) (va_cwS 2 hts gL_law_L_cell rfl rfl rfl (by decide +kernel) ⟨(Nat.le_of_ble_eq_true rfl), (Nat.le_of_ble_eq_true rfl)⟩) (PcX_pre (hX.kept (hS.2.1 b hbl hbA))) rfl rfl hl.1 rfl (lv_room (Nat.le_of_ble_eq_true rfl)) dL_law_29 ⟨(Nat.le_of_ble_eq_true rfl), (Nat.le_of_ble_eq_true rfl)⟩) (fun r3 w_29 => ?_)
  subst w_29
  refine callSv (wr := wX cI cP x aC aT aR aP (nI L) (nI C) (nI 0) (nI 0) (zb false) (nI 0) 0 0 0 0 0 0 chx trx (fun _ => 0) (fun _ => none) []) (wc := [(m0, .inr (4, [.int 0, .int 0, .int 0, .null, .null, .null, .null, .null, .int 0, .int 0, .int 0, .int 0, .int 0, .int 0, .int 0, .int 0]))]) (va_runI (As := [.int (clR N xs 0), .int (clR N xs 1)]) (rest := [.ref m0]) ⟨hx, hb, hml, hown, hts⟩ (c_X3_init l (clR N xs 0) (clR N xs 1) hLe hCe) (cwI 2 hts gL_law_X3_init rfl rfl rfl (hts (.initialized RX3) (by decide +kernel)) (hts (.methodLink RL 26 yX3_init) (by decide +kernel)) (hts (.instanceMethod yX3_init) (by decide +kernel)) rfl (by decide +kernel) ⟨(Nat.le_of_ble_eq_true rfl), (Nat.le_of_ble_eq_true rfl)⟩) (mu_preS hK (sufP hP) (sufD hD)) rfl rfl hl.1 rfl (lv_room (Nat.le_of_ble_eq_true rfl)) dL_law_32 ⟨(Nat.le_of_ble_eq_true rfl), (Nat.le_of_ble_eq_true rfl)⟩) hP hD hS hA (fun u H locs w hP hD hS => ?_)
  obtain ⟨⟨mS, mC, mT, mR, mA⟩, chm, trm⟩ := u
  obtain ⟨hchm, htrm⟩ := w
  dsimp only at hchm htrm
  have hP : va_P D vwCl (wX cI cP x aC aT aR aP (nI L) (nI C) (nI 0) (nI 0) (zb false) (nI 0) 0 0 0 0 0 0 chx trx (fun _ => 0) (fun _ => none) [] ++ wM cI m0 mS mC mT mR mA 0 (nI L) (nI C) (nI 0) (nI 0) (nI 0) 0 (zb false) (nI 0) (nI 0) (zb false) (fun _ => 0) chm trm (fun _ => 0) (fun _ => 0)) H := hP
  have hD : va_D (fun q : Nat => s.heap.size ≤ q) (wX cI cP x aC aT aR aP (nI L) (nI C) (nI 0) (nI 0) (zb false) (nI 0) 0 0 0 0 0 0 chx trx (fun _ => 0) (fun _ => none) [] ++ wM cI m0 mS mC mT mR mA 0 (nI L) (nI C) (nI 0) (nI 0) (nI 0) 0 (zb false) (nI 0) (nI 0) (zb false) (fun _ => 0) chm trm (fun _ => 0) (fun _ => 0)) := hD
  refine lv_astore_n (lv' := [(2, .ref m0), (1, .ref x), (0, .ref b)]) hx hb dL_law_35 rfl hl (by decide) rfl (fun ls hl => ?_)
  refine lv_iconst (v := 1) hx hb dL_law_36 (by decide +kernel) ?_
  refine va_newa (atype := .long) (ty := .long) hx hb (hts (.arrayClass .long) (by decide +kernel)) rfl hK.1 hP hD hS hA (n := 1) (N' := 1) (a0 := (1, .inr (.inl (fun _ => 0)))) (fun _ => rfl) (by decide) rfl (by decide) (by show 11 + 1 ≤ 601024; omega) (by show 349498 + 1 ≤ 7293000; omega) dL_law_37 (fun o cA H hK2 hP hD hS => ?_)
  rw [show cA = cJ from kJ hK2] at hP hD
  have hP : va_P D vwCl ((wX cI cP x aC aT aR aP (nI L) (nI C) (nI 0) (nI 0) (zb false) (nI 0) 0 0 0 0 0 0 chx trx (fun _ => 0) (fun _ => none) [] ++ wM cI m0 mS mC mT mR mA 0 (nI L) (nI C) (nI 0) (nI 0) (nI 0) 0 (zb false) (nI 0) (nI 0) (zb false) (fun _ => 0) chm trm (fun _ => 0) (fun _ => 0)) ++ [(o, .inl (cJ, 1, .inr (.inl (fun _ => 0))))]) H := hP
  have hD : va_D (fun q : Nat => s.heap.size ≤ q) ((wX cI cP x aC aT aR aP (nI L) (nI C) (nI 0) (nI 0) (zb false) (nI 0) 0 0 0 0 0 0 chx trx (fun _ => 0) (fun _ => none) [] ++ wM cI m0 mS mC mT mR mA 0 (nI L) (nI C) (nI 0) (nI 0) (nI 0) 0 (zb false) (nI 0) (nI 0) (zb false) (fun _ => 0) chm trm (fun _ => 0) (fun _ => 0)) ++ [(o, .inl (cJ, 1, .inr (.inl (fun _ => 0))))]) := hD
  refine lv_astore_n (lv' := [(3, .ref o), (2, .ref m0), (1, .ref x), (0, .ref b)]) hx hb dL_law_39 rfl hl (by decide) rfl (fun ls hl => ?_)
  refine lv_iconst (v := 2) hx hb dL_law_40 (by decide +kernel) ?_
  refine lv_istore (lv' := [(4, .int 2), (3, .ref o), (2, .ref m0), (1, .ref x), (0, .ref b)]) hx hb dL_law_41 hl (by decide) rfl (fun ls hl => ?_)
  have hP := swapF hP (k := 1) (g := fun _ => -1) rfl hchx
  have hD := hD.set (p := 1) (a := aC) (e := .inl (cI, 13, .inl (fun _ => -1))) rfl
  have hP := swapF hP (k := 2) (g := nI) rfl htrx
  have hD := hD.set (p := 2) (a := aT) (e := .inl (cI, 256, .inl nI)) rfl
  have hP := swapF hP (k := 7) (g := fun _ => -1) rfl hchm
  have hD := hD.set (p := 7) (a := mC) (e := .inl (cI, 13, .inl (fun _ => -1))) rfl
  have hP := swapF hP (k := 8) (g := nI) rfl htrm
  have hD := hD.set (p := 8) (a := mT) (e := .inl (cI, 256, .inl nI)) rfl
  have hP := hP.sub (ws' := wM cI m0 mS mC mT mR mA 0 (nI L) (nI C) (nI 0) (nI 0) (nI 0) 0 (zb false) (nI 0) (nI 0) (zb false) (fun _ => 0) (fun _ => -1) nI (fun _ => 0) (fun _ => 0) ++ ((o, .inl (cJ, 1, .inr (.inl (fun _ => 0)))) :: wX cI cP x aC aT aR aP (nI L) (nI C) (nI 0) (nI 0) (zb false) (nI 0) 0 0 0 0 0 0 (fun _ => -1) nI (fun _ => 0) (fun _ => none) [])) [5, 6, 7, 8, 9, 10, 11, 0, 1, 2, 3, 4] rfl
  have hD := hD.sub (ws' := wM cI m0 mS mC mT mR mA 0 (nI L) (nI C) (nI 0) (nI 0) (nI 0) 0 (zb false) (nI 0) (nI 0) (zb false) (fun _ => 0) (fun _ => -1) nI (fun _ => 0) (fun _ => 0) ++ ((o, .inl (cJ, 1, .inr (.inl (fun _ => 0)))) :: wX cI cP x aC aT aR aP (nI L) (nI C) (nI 0) (nI 0) (zb false) (nI 0) 0 0 0 0 0 0 (fun _ => -1) nI (fun _ => 0) (fun _ => none) [])) [5, 6, 7, 8, 9, 10, 11, 0, 1, 2, 3, 4] (by decide) rfl
  have hI : INX cI cR L C 0 0 0 false (fun _ => -1) (fun _ => 0) (fun _ => none) [] (fun _ => (0, 0)) (fun _ _ _ => 0) := ⟨by decide, by decide, by omega, fun _ _ _ => Or.inl rfl, fun j hj => absurd hj (Nat.not_lt_zero _), fun q hq => absurd hq (Nat.not_lt_zero _), fun q => (by cases q), fun q i c hq => absurd hq (Nat.not_lt_zero _)⟩
  have hJ : INM L 0 0 0 false (fun _ => -1) (fun _ => 0) := ⟨by decide, by decide, by omega, fun _ _ _ => Or.inl rfl, fun j hj => absurd hj (Nat.not_lt_zero _), fun q => (by cases q)⟩
  refine W.widen (k := 12 + 136 * 0) (n := 349499 + 4689 * 0) (by omega) (by omega) ?_
  exact law_loop l hl0 hN C0 hK hTX (by omega) hL2 hC2 513 0 _ _ _ _ _ _ _ _ _ _ _ _ _ _ _ _ _ _ _ _ _ _ _ _ _ _ _ _ _ _ _ _ (by omega) (by omega) hI hJ hP hD hS (lv_sub hl [4, 3, 2, 1, 0] rfl)
