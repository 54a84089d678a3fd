set_option maxHeartbeats 1000000 in
set_option maxRecDepth 100000 in
theorem c_X0_signIn (l : Launch) {D : va_G} {cI cP cR cJ : ClassId} {a ra L C : Nat} {g : Nat → Option Nat} {pl : va_W} (ka kr : Nat) (hka : pl[ka]? = some (a, .inr (1, [.ref ra, .int (nI C)]))) (hkr : pl[kr]? = some (ra, .inl (cR, L, .inr (.inr (.inr (.inr g)))))) (hL : L ≤ 66) (hC : C ≤ 132) (i k : Nat) (hi : i < L) (hk : k < C) (v : Int32) (hrow : (g i = none ∧ v = 32) ∨ ∃ (b sa : Nat) (f : Nat → Int32) (kb ks : Nat), g i = some b ∧ pl[kb]? = some (b, .inr (2, [.ref sa])) ∧ pl[ks]? = some (sa, .inl (cI, C, .inl f)) ∧ v = f k) : Met l yX0_signIn wsX0_signIn ({ frames := 1, cells := 0, slots := 0, locals := 21 }) (ro [.ref a, .int (nI i), .int (nI k)] D cI cP cR cJ (pl)) (vp_Si (fun r => r = v)) 0 0 (fun _ => False) := by
  refine Met.ofW (cc := cX0_signIn) (maxL := 3) (ret := (some .int)) (by decide) rfl ?_
  intro p e s m args below meth c s₁ B hml hv
  obtain ⟨rfl, hP, hK⟩ := hv
  have hx := B.exec
  have hb := B.bytes
  have hr := B.returns
  have hts := atoms_spec (ws := wsX0_signIn) B.pre
  have hown : s.vm.findClass RX0 = some m.cls := findClass_of_methodNamed B.named
  have hlocks := B.notSynchronized
  have hinX0 : ∀ w ∈ wsX00, w ∈ wsX0_signIn := by decide +kernel
  have hinX1 : ∀ w ∈ wsX10, w ∈ wsX0_signIn := by decide +kernel
  have hl := lv_entry ([.ref a, .int (nI i), .int (nI k)]) (n := 3) (Nat.le_of_ble_eq_true rfl)
  rw [lg_entry_eq]
  generalize (lg_sl ([.ref a, .int (nI i), .int (nI k)]) ++ List.replicate (3 - (lg_sl ([.ref a, .int (nI i), .int (nI k)])).length) Slot.unset).toArray = ls at hl ⊢
  have hl : lv_has ls 3 [(0, .ref a), (1, .int (nI i)), (2, .int (nI k))] := hl
  refine lv_iload_n hx hb dX0_signIn_0 rfl (lv_at hl 1 rfl) ?_
  refine lv_if_lt (tgt := 22) hx hb dX0_signIn_1 (by decide) (fun c_1 => absurd c_1 (nI_pos (by omega))) (fun c_1 => ?_)
  refine lv_iload_n hx hb dX0_signIn_4 rfl (lv_at hl 1 rfl) ?_
  refine lv_aload_n hx hb dX0_signIn_5 rfl (lv_at hl 0 rfl) ?_
  refine va_get (D := D) (ci := 1) (v := .ref ra) (C := RX0) (T := TX0) (N := 2) hx hb hts hinX0 hown hK.1 hP ka hka rfl 0 (by decide) (hts (.fieldLink RX0 17 "PrinterRows$Page" "rows" "[LPrinterRows$Row;") (by decide +kernel)) (fun _ h9 => h9) rfl dX0_signIn_6 ?_
  refine va_alen (v := (nI L)) hx hb hK.1 hP kr 2 hkr rfl rfl dX0_signIn_9 ?_
  refine lv_icmp_ge (tgt := 22) hx hb dX0_signIn_10 (by decide) (fun c_10 => absurd c_10 (nI_ge hi (by omega))) (fun c_10 => ?_)
  refine lv_aload_n hx hb dX0_signIn_13 rfl (lv_at hl 0 rfl) ?_
  refine va_get (D := D) (ci := 1) (v := .ref ra) (C := RX0) (T := TX0) (N := 2) hx hb hts hinX0 hown hK.1 hP ka hka rfl 0 (by decide) (hts (.fieldLink RX0 17 "PrinterRows$Page" "rows" "[LPrinterRows$Row;") (by decide +kernel)) (fun _ h9 => h9) rfl dX0_signIn_14 ?_
  refine lv_iload_n hx hb dX0_signIn_17 rfl (lv_at hl 1 rfl) ?_
  refine va_aldq hx hb hK.1 hP kr 2 hkr rfl (vp_in_nI hi (by omega)) dX0_signIn_18 ?_
  rcases hrow with ⟨hg, hv⟩ | ⟨b, sa, f, kb, ks, hg, hkb, hks, hv⟩
  ·
    refine W.eq (g2 := F0 m 19 ls [.null]) (by rw [nI_clamp (by omega), hg]; rfl) ?_
    refine lv_ifnonnullN hx hb dX0_signIn_19 ?_
    refine lv_bipush (v := 32) hx hb dX0_signIn_22 (by decide +kernel) ?_
    exact W.iret (v := 32) hx hb hr (fun t ht hW => ⟨_, rfl, hv.symm, ht⟩) (fun q h => by cases h) dX0_signIn_24
  ·
    refine W.eq (g2 := F0 m 19 ls [.ref b]) (by rw [nI_clamp (by omega), hg]; rfl) ?_
    refine lv_ifnonnull (tgt := 25) hx hb dX0_signIn_19 (by decide) ?_
    refine lv_aload_n hx hb dX0_signIn_25 rfl (lv_at hl 0 rfl) ?_
    refine va_get (D := D) (ci := 1) (v := .ref ra) (C := RX0) (T := TX0) (N := 2) hx hb hts hinX0 hown hK.1 hP ka hka rfl 0 (by decide) (hts (.fieldLink RX0 17 "PrinterRows$Page" "rows" "[LPrinterRows$Row;") (by decide +kernel)) (fun _ h9 => h9) rfl dX0_signIn_26 ?_
    refine lv_iload_n hx hb dX0_signIn_29 rfl (lv_at hl 1 rfl) ?_
    refine va_aldq hx hb hK.1 hP kr 2 hkr rfl (vp_in_nI hi (by omega)) dX0_signIn_30 ?_
    refine W.eq (g2 := F0 m 31 ls [.ref b]) (by rw [nI_clamp (by omega), hg]; rfl) ?_
    refine lv_iload_n hx hb dX0_signIn_31 rfl (lv_at hl 2 rfl) ?_
    refine vp_callSi (W.runV (As := [.int (nI k)]) (rest := []) ⟨hx, hb, hml, hown, hts⟩ (c_X1_signOf l kb ks hkb hks hC k hk) (cwV 1 hts gX0_signIn_X1_signOf rfl rfl rfl (by decide +kernel) ⟨(Nat.le_of_ble_eq_true rfl), (Nat.le_of_ble_eq_true rfl)⟩) (ro_pre hK hP rfl kb hkb) rfl rfl hl.1 rfl (lv_room (Nat.le_of_ble_eq_true rfl)) dX0_signIn_32 ⟨(Nat.le_of_ble_eq_true rfl), (Nat.le_of_ble_eq_true rfl)⟩) (fun r_32 w_32 => ?_)
    subst w_32
    exact W.iret (v := (f k)) hx hb hr (fun t ht hW => ⟨_, rfl, hv.symm, ht⟩) (fun q h => by cases h) dX0_signIn_35

set_option maxHeartbeats 1000000 in
set_option maxRecDepth 100000 in
theorem c_X0_join_old (l : Launch) {D : va_G} {cI cP cR cJ : ClassId} {a ra L C : Nat} {g : Nat → Option Nat} {pl : va_W} {b sa : Nat} {f : Nat → Int32} {sz : Nat} (ka kr : Nat) (hka : pl[ka]? = some (a, .inr (1, [.ref ra, .int (nI C)]))) (hkr : pl[kr]? = some (ra, .inl (cR, L, .inr (.inr (.inr (.inr g)))))) (hL : L ≤ 66) (hC : C ≤ 132) (i k : Nat) (hi : i < L) (hk : k < C) (v0 : Int32) (hg : g i = some b) (kb ks : Nat) (hkb : pl[kb]? = some (b, .inr (2, [.ref sa]))) (hks : pl[ks]? = some (sa, .inl (cI, C, .inl f))) : Met l yX0_join wsX0_join ({ frames := 3, cells := 0, slots := 0, locals := 56 }) (mu [.ref a, .int (nI i), .int (nI k), .int v0] D cI cP cR cJ (pl) sz) (qv D (fun (_ : Unit) => True) (fun _ : Unit => pl.set ks (sa, .inl (cI, C, .inl (upd f k (mx (f k) v0))))) (va_A (pl) sz)) 0 0 (va_A (pl) sz) := by
  refine Met.ofW (cc := cX0_join) (maxL := 4) (ret := none) (by decide) rfl ?_
  intro p e s m args below meth c s₁ B hml hv
  obtain ⟨rfl, hsz, hP, hK, hD0⟩ := hv
  have hx := B.exec
  have hb := B.bytes
  have hr := B.returns
  have hts := atoms_spec (ws := wsX0_join) B.pre
  have hown : s.vm.findClass RX0 = some m.cls := findClass_of_methodNamed B.named
  have hlocks := B.notSynchronized
  have hinX0 : ∀ w ∈ wsX00, w ∈ wsX0_join := by decide +kernel
  have hinX1 : ∀ w ∈ wsX10, w ∈ wsX0_join := by decide +kernel
  subst hsz
  have hD := hD0.self (sz := s.heap.size)
  generalize hAe : va_A (pl) s.heap.size = A at hD ⊢
  have hA : ∀ q : Nat, s.heap.size ≤ q → A q := fun q h => by rw [← hAe]; exact Or.inr h
  have hS : va_S A s.heap s.heap [] := va_S.rf
  have hP : va_P D vwCl (pl) s.heap := hP
  have hl := lv_entry ([.ref a, .int (nI i), .int (nI k), .int v0]) (n := 4) (Nat.le_of_ble_eq_true rfl)
  rw [lg_entry_eq]
  generalize (lg_sl ([.ref a, .int (nI i), .int (nI k), .int v0]) ++ List.replicate (4 - (lg_sl ([.ref a, .int (nI i), .int (nI k), .int v0])).length) Slot.unset).toArray = ls at hl ⊢
  have hl : lv_has ls 4 [(0, .ref a), (1, .int (nI i)), (2, .int (nI k)), (3, .int v0)] := hl
  refine lv_iload_n hx hb dX0_join_0 rfl (lv_at hl 1 rfl) ?_
  refine lv_if_lt (tgt := 13) hx hb dX0_join_1 (by decide) (fun c_1 => absurd c_1 (nI_pos (by omega))) (fun c_1 => ?_)
  refine lv_iload_n hx hb dX0_join_4 rfl (lv_at hl 1 rfl) ?_
  refine lv_aload_n hx hb dX0_join_5 rfl (lv_at hl 0 rfl) ?_
  refine va_get (D := D) (ci := 1) (v := .ref ra) (C := RX0) (T := TX0) (N := 2) hx hb hts hinX0 hown hK.1 hP ka hka rfl 0 (by decide) (hts (.fieldLink RX0 17 "PrinterRows$Page" "rows" "[LPrinterRows$Row;") (by decide +kernel)) (fun _ h9 => h9) rfl dX0_join_6 ?_
  refine va_alen (v := (nI L)) hx hb hK.1 hP kr 2 hkr rfl rfl dX0_join_9 ?_
  refine lv_icmp_lt (tgt := 14) hx hb dX0_join_10 (by decide) (fun c_10 => ?_) (fun c_10 => absurd (nI_lt hi (by omega)) c_10)
  refine lv_aload_n hx hb dX0_join_14 rfl (lv_at hl 0 rfl) ?_
  refine va_get (D := D) (ci := 1) (v := .ref ra) (C := RX0) (T := TX0) (N := 2) hx hb hts hinX0 hown hK.1 hP ka hka rfl 0 (by decide) (hts (.fieldLink RX0 17 "PrinterRows$Page" "rows" "[LPrinterRows$Row;") (by decide +kernel)) (fun _ h9 => h9) rfl dX0_join_15 ?_
  refine lv_iload_n hx hb dX0_join_18 rfl (lv_at hl 1 rfl) ?_
  refine va_aldq hx hb hK.1 hP kr 2 hkr rfl (vp_in_nI hi (by omega)) dX0_join_19 ?_
  refine W.eq (g2 := F0 m 20 ls [.ref b]) (by rw [nI_clamp (by omega), hg]; rfl) ?_
  refine lv_ifnonnull (tgt := 40) hx hb dX0_join_20 (by decide) ?_
  refine lv_aload_n hx hb dX0_join_40 rfl (lv_at hl 0 rfl) ?_
  refine va_get (D := D) (ci := 1) (v := .ref ra) (C := RX0) (T := TX0) (N := 2) hx hb hts hinX0 hown hK.1 hP ka hka rfl 0 (by decide) (hts (.fieldLink RX0 17 "PrinterRows$Page" "rows" "[LPrinterRows$Row;") (by decide +kernel)) (fun _ h9 => h9) rfl dX0_join_41 ?_
  refine lv_iload_n hx hb dX0_join_44 rfl (lv_at hl 1 rfl) ?_
  refine va_aldq hx hb hK.1 hP kr 2 hkr rfl (vp_in_nI hi (by omega)) dX0_join_45 ?_
  refine W.eq (g2 := F0 m 46 ls [.ref b]) (by rw [nI_clamp (by omega), hg]; rfl) ?_
  refine lv_iload_n hx hb dX0_join_46 rfl (lv_at hl 2 rfl) ?_
  refine lv_iload_n hx hb dX0_join_47 rfl (lv_at hl 3 rfl) ?_
  refine callQv (va_runV (As := [.int (nI k), .int v0]) (rest := []) ⟨hx, hb, hml, hown, hts⟩ (c_X1_joinSign l kb ks hkb hks hC k hk v0) (cwV 2 hts gX0_join_X1_joinSign rfl rfl rfl (by decide +kernel) ⟨(Nat.le_of_ble_eq_true rfl), (Nat.le_of_ble_eq_true rfl)⟩) (mu_pre hK hP hD rfl kb hkb) rfl rfl hl.1 rfl (lv_room (Nat.le_of_ble_eq_true rfl)) dX0_join_48 ⟨(Nat.le_of_ble_eq_true rfl), (Nat.le_of_ble_eq_true rfl)⟩) hD hS hA (fun u_48 H locs w_48 hP hD hS => ?_)
  have hP : va_P D vwCl (pl.set ks (sa, .inl (cI, C, .inl (upd f k (mx (f k) v0))))) H := hP
  have hD : va_D A (pl.set ks (sa, .inl (cI, C, .inl (upd f k (mx (f k) v0))))) := hD
  exact W.vret hx hb hr (fun t ht hW => ⟨⟨(), rfl, trivial, by rw [ht]; exact hP, hD⟩, hS.F ht⟩) hS.2.2 dX0_join_51

set_option maxHeartbeats 1000000 in
set_option maxRecDepth 100000 in
theorem c_X0_join_new (l : Launch) {D : va_G} {cI cP cR cJ : ClassId} {a ra L C : Nat} {g : Nat → Option Nat} {pl : va_W} {sz : Nat} (ka kr : Nat) (hka : pl[ka]? = some (a, .inr (1, [.ref ra, .int (nI C)]))) (hkr : pl[kr]? = some (ra, .inl (cR, L, .inr (.inr (.inr (.inr g)))))) (hL : L ≤ 66) (hC : C ≤ 132) (i k : Nat) (hi : i < L) (hk : k < C) (v0 : Int32) (hg : g i = none) : Met l yX0_join wsX0_join ({ frames := 3, cells := 2, slots := 133, locals := 56 }) (mu [.ref a, .int (nI i), .int (nI k), .int v0] D cI cP cR cJ (pl) sz) (qv D (fun (u : Nat × Nat × (Nat → Int32)) => ∀ j, j < C → u.2.2 j = if j = k then mx 32 v0 else 32) (fun u : Nat × Nat × (Nat → Int32) => pl.set kr (ra, .inl (cR, L, .inr (.inr (.inr (.inr (va_up g i (some u.1))))))) ++ [(u.1, .inr (2, [.ref u.2.1])), (u.2.1, .inl (cI, C, .inl u.2.2))]) (va_A (pl) sz)) 2 133 (va_A (pl) sz) := by
  refine Met.ofW (cc := cX0_join) (maxL := 4) (ret := none) (by decide) rfl ?_
  intro p e s m args below meth c s₁ B hml hv
  obtain ⟨rfl, hsz, hP, hK, hD0⟩ := hv
  have hx := B.exec
  have hb := B.bytes
  have hr := B.returns
  have hts := atoms_spec (ws := wsX0_join) B.pre
  have hown : s.vm.findClass RX0 = some m.cls := findClass_of_methodNamed B.named
  have hlocks := B.notSynchronized
  have hinX0 : ∀ w ∈ wsX00, w ∈ wsX0_join := by decide +kernel
  have hinX1 : ∀ w ∈ wsX10, w ∈ wsX0_join := by decide +kernel
  subst hsz
  have hD := hD0.self (sz := s.heap.size)
  generalize hAe : va_A (pl) s.heap.size = A at hD ⊢
  have hA : ∀ q : Nat, s.heap.size ≤ q → A q := fun q h => by rw [← hAe]; exact Or.inr h
  have hS : va_S A s.heap s.heap [] := va_S.rf
  have hP : va_P D vwCl (pl) s.heap := hP
  have hl := lv_entry ([.ref a, .int (nI i), .int (nI k), .int v0]) (n := 4) (Nat.le_of_ble_eq_true rfl)
  rw [lg_entry_eq]
  generalize (lg_sl ([.ref a, .int (nI i), .int (nI k), .int v0]) ++ List.replicate (4 - (lg_sl ([.ref a, .int (nI i), .int (nI k), .int v0])).length) Slot.unset).toArray = ls at hl ⊢
  have hl : lv_has ls 4 [(0, .ref a), (1, .int (nI i)), (2, .int (nI k)), (3, .int v0)] := hl
  refine lv_iload_n hx hb dX0_join_0 rfl (lv_at hl 1 rfl) ?_
  refine lv_if_lt (tgt := 13) hx hb dX0_join_1 (by decide) (fun c_1 => absurd c_1 (nI_pos (by omega))) (fun c_1 => ?_)
  refine lv_iload_n hx hb dX0_join_4 rfl (lv_at hl 1 rfl) ?_
  refine lv_aload_n hx hb dX0_join_5 rfl (lv_at hl 0 rfl) ?_
  refine va_get (D := D) (ci := 1) (v := .ref ra) (C := RX0) (T := TX0) (N := 2) hx hb hts hinX0 hown hK.1 hP ka hka rfl 0 (by decide) (hts (.fieldLink RX0 17 "PrinterRows$Page" "rows" "[LPrinterRows$Row;") (by decide +kernel)) (fun _ h9 => h9) rfl dX0_join_6 ?_
  refine va_alen (v := (nI L)) hx hb hK.1 hP kr 2 hkr rfl rfl dX0_join_9 ?_
  refine lv_icmp_lt (tgt := 14) hx hb dX0_join_10 (by decide) (fun c_10 => ?_) (fun c_10 => absurd (nI_lt hi (by omega)) c_10)
  refine lv_aload_n hx hb dX0_join_14 rfl (lv_at hl 0 rfl) ?_
  refine va_get (D := D) (ci := 1) (v := .ref ra) (C := RX0) (T := TX0) (N := 2) hx hb hts hinX0 hown hK.1 hP ka hka rfl 0 (by decide) (hts (.fieldLink RX0 17 "PrinterRows$Page" "rows" "[LPrinterRows$Row;") (by decide +kernel)) (fun _ h9 => h9) rfl dX0_join_15 ?_
  refine lv_iload_n hx hb dX0_join_18 rfl (lv_at hl 1 rfl) ?_
  refine va_aldq hx hb hK.1 hP kr 2 hkr rfl (vp_in_nI hi (by omega)) dX0_join_19 ?_
  refine W.eq (g2 := F0 m 20 ls [.null]) (by rw [nI_clamp (by omega), hg]; rfl) ?_
  refine lv_ifnonnullN hx hb dX0_join_20 ?_
  refine lv_aload_n hx hb dX0_join_23 rfl (lv_at hl 0 rfl) ?_
  refine va_get (D := D) (ci := 1) (v := .ref ra) (C := RX0) (T := TX0) (N := 2) hx hb hts hinX0 hown hK.1 hP ka hka rfl 0 (by decide) (hts (.fieldLink RX0 17 "PrinterRows$Page" "rows" "[LPrinterRows$Row;") (by decide +kernel)) (fun _ h9 => h9) rfl dX0_join_24 ?_
  refine lv_iload_n hx hb dX0_join_27 rfl (lv_at hl 1 rfl) ?_
  refine va_new (ci := 2) (fs := [.null]) (C := RX1) (T := TX1) (N := 1) hx hb hts hinX1 tyX1 tyX1_ok hown (hts (.classLink RX0 15 RX1) (by decide +kernel)) (hts (.instantiable RX1 1) (by decide +kernel)) (hts (.initialized RX1) (by decide +kernel)) hK.1 hP hD hS hA rfl (fun j hj => by rcases (show j = 0 by omega) with rfl; rfl) (by show 0 + 1 ≤ 2; omega) (by show 0 + 1 ≤ 133; omega) dX0_join_28 (fun b H hP hD hS => ?_)
  have hP : va_P D vwCl (pl ++ [(b, .inr (2, [.null]))]) H := hP
  have hD : va_D A (pl ++ [(b, .inr (2, [.null]))]) := hD
  refine lv_dup hx hb dX0_join_31 rfl ?_
  refine lv_aload_n hx hb dX0_join_32 rfl (lv_at hl 0 rfl) ?_
  refine va_get (D := D) (ci := 1) (v := .int (nI C)) (C := RX0) (T := TX0) (N := 2) hx hb hts hinX0 hown hK.1 hP ka (apL hka) rfl 1 (by decide) (hts (.fieldLink RX0 23 "PrinterRows$Page" "columns" "I") (by decide +kernel)) (fun _ h9 => h9) rfl dX0_join_33 ?_
  refine callSv (wr := pl) (wc := [(b, .inr (2, [.null]))]) (va_runI (As := [.int (nI C)]) (rest := [.ref b, .int (nI i), .ref ra]) ⟨hx, hb, hml, hown, hts⟩ (c_X1_init l hC) (cwI 1 hts gX0_join_X1_init rfl rfl rfl (hts (.initialized RX1) (by decide +kernel)) (hts (.methodLink RX0 27 yX1_init) (by decide +kernel)) (hts (.instanceMethod yX1_init) (by decide +kernel)) rfl (by decide +kernel) ⟨(Nat.le_of_ble_eq_true rfl), (Nat.le_of_ble_eq_true rfl)⟩) (mu_preS hK (sufP hP) (sufD hD)) rfl rfl hl.1 rfl (lv_room (Nat.le_of_ble_eq_true rfl)) dX0_join_36 ⟨(Nat.le_of_ble_eq_true rfl), (Nat.le_of_ble_eq_true rfl)⟩) hP hD hS hA (fun u_36 H locs w_36 hP hD hS => ?_)
  obtain ⟨sa, f⟩ := u_36
  have w_36 : ∀ j, j < C → f j = 32 := w_36
  have hP : va_P D vwCl (pl ++ [(b, .inr (2, [.ref sa])), (sa, .inl (cI, C, .inl f))]) H := hP
  have hD : va_D A (pl ++ [(b, .inr (2, [.ref sa])), (sa, .inl (cI, C, .inl f))]) := hD
  refine va_astq hx hb hK.1 hP hD hS kr 2 (pl.length + 0) 2 (apL hkr) rfl (apR 0 rfl) rfl (vp_in_nI hi (by omega)) dX0_join_39 (fun H locs hP hD hS => ?_)
  rw [nI_clamp (by omega), setL hkr] at hP hD
  have hP : va_P D vwCl ((pl.set kr (ra, .inl (cR, L, .inr (.inr (.inr (.inr (va_up g i (some b)))))))) ++ [(b, .inr (2, [.ref sa])), (sa, .inl (cI, C, .inl f))]) H := hP
  have hD : va_D A ((pl.set kr (ra, .inl (cR, L, .inr (.inr (.inr (.inr (va_up g i (some b)))))))) ++ [(b, .inr (2, [.ref sa])), (sa, .inl (cI, C, .inl f))]) := hD
  refine lv_aload_n hx hb dX0_join_40 rfl (lv_at hl 0 rfl) ?_
  refine va_get (D := D) (ci := 1) (v := .ref ra) (C := RX0) (T := TX0) (N := 2) hx hb hts hinX0 hown hK.1 hP ka (apL (setNe hka hkr (fun h9 => by cases h9))) rfl 0 (by decide) (hts (.fieldLink RX0 17 "PrinterRows$Page" "rows" "[LPrinterRows$Row;") (by decide +kernel)) (fun _ h9 => h9) rfl dX0_join_41 ?_
  refine lv_iload_n hx hb dX0_join_44 rfl (lv_at hl 1 rfl) ?_
  refine va_aldq hx hb hK.1 hP kr 2 (apL (setSelf hkr)) rfl (vp_in_nI hi (by omega)) dX0_join_45 ?_
  refine W.eq (g2 := F0 m 46 ls [.ref b]) (by rw [nI_clamp (by omega), va_up_self]; rfl) ?_
  refine lv_iload_n hx hb dX0_join_46 rfl (lv_at hl 2 rfl) ?_
  refine lv_iload_n hx hb dX0_join_47 rfl (lv_at hl 3 rfl) ?_
  refine callQv (va_runV (As := [.int (nI k), .int v0]) (rest := []) ⟨hx, hb, hml, hown, hts⟩ (c_X1_joinSign l ((pl.set kr (ra, .inl (cR, L, .inr (.inr (.inr (.inr (va_up g i (some b)))))))).length + 0) ((pl.set kr (ra, .inl (cR, L, .inr (.inr (.inr (.inr (va_up g i (some b)))))))).length + 1) (apR 0 rfl) (apR 1 rfl) hC k hk v0) (cwV 2 hts gX0_join_X1_joinSign rfl rfl rfl (by decide +kernel) ⟨(Nat.le_of_ble_eq_true rfl), (Nat.le_of_ble_eq_true rfl)⟩) (mu_pre hK hP hD rfl ((pl.set kr (ra, .inl (cR, L, .inr (.inr (.inr (.inr (va_up g i (some b)))))))).length + 0) (apR 0 rfl)) rfl rfl hl.1 rfl (lv_room (Nat.le_of_ble_eq_true rfl)) dX0_join_48 ⟨(Nat.le_of_ble_eq_true rfl), (Nat.le_of_ble_eq_true rfl)⟩) hD hS hA (fun u_48 H locs w_48 hP hD hS => ?_)
  have hP : va_P D vwCl (((pl.set kr (ra, .inl (cR, L, .inr (.inr (.inr (.inr (va_up g i (some b)))))))) ++ [(b, .inr (2, [.ref sa])), (sa, .inl (cI, C, .inl f))] : va_W).set ((pl.set kr (ra, .inl (cR, L, .inr (.inr (.inr (.inr (va_up g i (some b)))))))).length + 1) (sa, .inl (cI, C, .inl (upd f k (mx (f k) v0))))) H := hP
  have hD : va_D A (((pl.set kr (ra, .inl (cR, L, .inr (.inr (.inr (.inr (va_up g i (some b)))))))) ++ [(b, .inr (2, [.ref sa])), (sa, .inl (cI, C, .inl f))] : va_W).set ((pl.set kr (ra, .inl (cR, L, .inr (.inr (.inr (.inr (va_up g i (some b)))))))).length + 1) (sa, .inl (cI, C, .inl (upd f k (mx (f k) v0))))) := hD
  rw [setR 1] at hP hD
  have hP : va_P D vwCl ((pl.set kr (ra, .inl (cR, L, .inr (.inr (.inr (.inr (va_up g i (some b)))))))) ++ [(b, .inr (2, [.ref sa])), (sa, .inl (cI, C, .inl (upd f k (mx (f k) v0))))]) H := hP
  have hD : va_D A ((pl.set kr (ra, .inl (cR, L, .inr (.inr (.inr (.inr (va_up g i (some b)))))))) ++ [(b, .inr (2, [.ref sa])), (sa, .inl (cI, C, .inl (upd f k (mx (f k) v0))))]) := hD
  refine W.widen (k := 2) (n := 133) (by omega) (by omega) ?_
  exact W.vret hx hb hr (fun t ht hW => ⟨⟨(b, sa, upd f k (mx (f k) v0)), rfl, fun j hj => by dsimp only; rw [upd, w_36 k hk]; by_cases e9 : j = k; (rw [if_pos e9, if_pos e9]); (rw [if_neg e9, if_neg e9]; exact w_36 j hj), by rw [ht]; exact hP, hD⟩, hS.F ht⟩) hS.2.2 dX0_join_51
