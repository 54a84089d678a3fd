set_option maxHeartbeats 1000000 in
set_option maxRecDepth 100000 in
theorem c_J7_fill_53178 (l : Launch) {D : va_G} {cI cP cR cJ : ClassId} {a : Nat} {n0 : Nat} {f0 : Nat → Int32} {sz : Nat} (hn0 : n0 < 2 ^ 31) (v0 : Int32) : Met l yJ7_fill_53178 wsJ7_fill_53178 ({ frames := 0, cells := 0, slots := 0, locals := 0 }) (mu [.ref a, .int v0] D cI cP cR cJ ([(a, .inl (cI, n0, .inl f0))]) sz) (qv D (fun (u : Nat → Int32) => ∀ j, j < n0 → u j = v0) (fun u : Nat → Int32 => [(a, .inl (cI, n0, .inl u))]) (va_A ([(a, .inl (cI, n0, .inl f0))]) sz)) 0 0 (va_A ([(a, .inl (cI, n0, .inl f0))]) sz) := by
  refine Met.ofW (cc := cJ7_fill_53178) (maxL := 4) (ret := none) (by decide) rfl ?_
  intro p e s m args below meth c s₁ B hml hv
  obtain ⟨rfl, hsz, hP, hK, hD0⟩ := hv
  have hx := B.exec
  have hb := B.bytes
  have hr := B.returns
  have hts := atoms_spec (ws := wsJ7_fill_53178) B.pre
  have hown : s.vm.findClass RJ7 = some m.cls := findClass_of_methodNamed B.named
  have hlocks := B.notSynchronized
  subst hsz
  have hD := hD0.self (sz := s.heap.size)
  generalize hAe : va_A ([(a, .inl (cI, n0, .inl f0))]) s.heap.size = A at hD ⊢
  have hA : ∀ q : Nat, s.heap.size ≤ q → A q := fun q h => by rw [← hAe]; exact Or.inr h
  have hS : va_S A s.heap s.heap [] := va_S.rf
  have hP : va_P D vwCl ([(a, .inl (cI, n0, .inl f0))]) s.heap := hP
  have hl := lv_entry ([.ref a, .int v0]) (n := 4) (Nat.le_of_ble_eq_true rfl)
  rw [lg_entry_eq]
  generalize (lg_sl ([.ref a, .int v0]) ++ List.replicate (4 - (lg_sl ([.ref a, .int v0])).length) Slot.unset).toArray = ls at hl ⊢
  have hl : lv_has ls 4 [(0, .ref a), (1, .int v0)] := hl
  refine lv_iconst (v := 0) hx hb dJ7_fill_53178_0 (by decide +kernel) ?_
  refine lv_istore_n (lv' := [(2, .int 0), (0, .ref a), (1, .int v0)]) hx hb dJ7_fill_53178_1 rfl hl (by decide) rfl (fun ls hl => ?_)
  refine lv_aload_n hx hb dJ7_fill_53178_2 rfl (lv_at hl 1 rfl) ?_
  refine va_alen (v := (nI n0)) hx hb hK.1 hP 0 0 rfl rfl rfl dJ7_fill_53178_3 ?_
  refine lv_istore_n (lv' := [(3, .int (nI n0)), (2, .int 0), (0, .ref a), (1, .int v0)]) hx hb dJ7_fill_53178_4 rfl hl (by decide) rfl (fun ls hl => ?_)
  have loop : ∀ (n : Nat) (i : Nat) (g : Nat → Int32) (H : Heap) (locs : List Loc) (ls : Array Slot), (i ≤ n0) → (n0 - i < n) → (∀ j, j < i → g j = v0) → va_P D vwCl ([(a, .inl (cI, n0, .inl g))]) H → va_D A ([(a, .inl (cI, n0, .inl g))]) → va_S A s.heap H locs → lv_has ls 4 [(0, .ref a), (1, .int v0), (2, .int (nI i)), (3, .int (nI n0))] → W p l e (headSpec wsJ7_fill_53178 ({ frames := 0, cells := 0, slots := 0, locals := 0 })).room s m (([.ref a, .int v0] : List Value).toArray) below meth c H locs 0 0 (MQ below (qv D (fun (u : Nat → Int32) => ∀ j, j < n0 → u j = v0) (fun u : Nat → Int32 => [(a, .inl (cI, n0, .inl u))]) (A)) (([.ref a, .int v0] : List Value).toArray) s 0 0 A) (F0 m 5 ls []) := by
    intro n
    induction n with
    | zero => intro i g H locs ls hi hn hg hP hD hS hl; exact absurd hn (Nat.not_lt_zero _)
    | succ n ih =>
      intro i g H locs ls hi hn hg hP hD hS hl
      refine lv_iload_n hx hb dJ7_fill_53178_5 rfl (lv_at hl 2 rfl) ?_
      refine lv_iload_n hx hb dJ7_fill_53178_6 rfl (lv_at hl 3 rfl) ?_
      refine lv_icmp_ge (tgt := 20) hx hb dJ7_fill_53178_7 (by decide) (fun c_7 => ?_) (fun c_7 => ?_)
      ·
        exact W.vret hx hb hr (fun t ht hW => ⟨⟨g, rfl, fun j hj => hg j (by have := (nI_leI (by omega) (by omega)).mp c_7; omega), by rw [ht]; exact hP, hD⟩, hS.F ht⟩) hS.2.2 dJ7_fill_53178_20
      ·
        have hlt : i < n0 := Nat.lt_of_not_le (fun h9 => c_7 (nI_le h9 (by omega)))
        refine lv_aload_n hx hb dJ7_fill_53178_10 rfl (lv_at hl 0 rfl) ?_
        refine lv_iload_n hx hb dJ7_fill_53178_11 rfl (lv_at hl 2 rfl) ?_
        refine lv_iload_n hx hb dJ7_fill_53178_12 rfl (lv_at hl 1 rfl) ?_
        refine va_iast hx hb hK.1 hP hD hS 0 0 rfl rfl (vp_in_nI hlt (by omega)) dJ7_fill_53178_13 (fun H locs hP hD hS => ?_)
        rw [show (upd g ((nI i)).toNatClampNeg v0) = (upd g i v0) from by rw [nI_clamp (by omega)]] at hP hD
        have hP : va_P D vwCl ([(a, .inl (cI, n0, .inl (upd g i v0)))]) H := hP
        have hD : va_D A ([(a, .inl (cI, n0, .inl (upd g i v0)))]) := hD
        refine lv_iinc (v := (nI (i + 1))) (lv' := [(2, .int (nI (i + 1))), (0, .ref a), (1, .int v0), (3, .int (nI n0))]) hx hb dJ7_fill_53178_14 hl (k := 2) rfl (nI_1 i) (by decide) rfl (fun ls hl => ?_)
        refine lv_goto (tgt := 5) hx hb dJ7_fill_53178_17 (by decide) ?_
        exact ih (i + 1) _ _ _ _ (by omega) (by omega) (fill_step hg) hP hD hS (lv_sub hl [1, 2, 0, 3] rfl)
  exact loop (n0 + 1) 0 f0 _ _ _ (Nat.zero_le _) (by omega) (fun j hj => absurd hj (Nat.not_lt_zero j)) hP hD hS (lv_sub hl [2, 3, 1, 0] rfl)

set_option maxHeartbeats 1000000 in
set_option maxRecDepth 100000 in
theorem c_X1_init (l : Launch) {D : va_G} {cI cP cR cJ : ClassId} {b : Nat} {C : Nat} {sz : Nat} (hC : C ≤ 132) : Met l yX1_init wsX1_init ({ frames := 1, cells := 1, slots := 132, locals := 23 }) (mu [.ref b, .int (nI C)] D cI cP cR cJ ([(b, .inr (2, [.null]))]) sz) (qv D (fun (u : Nat × (Nat → Int32)) => ∀ j, j < C → u.2 j = 32) (fun u : Nat × (Nat → Int32) => [(b, .inr (2, [.ref u.1])), (u.1, .inl (cI, C, .inl u.2))]) (va_A ([(b, .inr (2, [.null]))]) sz)) 1 132 (va_A ([(b, .inr (2, [.null]))]) sz) := by
  refine Met.ofW (cc := cX1_init) (maxL := 2) (ret := none) (by decide) rfl ?_
  intro p e s m args below meth c s₁ B hml hv
  obtain ⟨rfl, hsz, hP, hK, hD0⟩ := hv
  have hx := B.exec
  have hb := B.bytes
  have hr := B.returns
  have hts := atoms_spec (ws := wsX1_init) B.pre
  have hown : s.vm.findClass RX1 = some m.cls := findClass_of_methodNamed B.named
  have hlocks := B.notSynchronized
  have hin : meth.name = "<init>" := (name_of_methodNamed B.named B.method).1
  have hinX1 : ∀ w ∈ wsX10, w ∈ wsX1_init := by decide +kernel
  subst hsz
  have hD := hD0.self (sz := s.heap.size)
  generalize hAe : va_A ([(b, .inr (2, [.null]))]) s.heap.size = A at hD ⊢
  have hA : ∀ q : Nat, s.heap.size ≤ q → A q := fun q h => by rw [← hAe]; exact Or.inr h
  have hS : va_S A s.heap s.heap [] := va_S.rf
  have hP : va_P D vwCl ([(b, .inr (2, [.null]))]) s.heap := hP
  have hl := lv_entry ([.ref b, .int (nI C)]) (n := 2) (Nat.le_of_ble_eq_true rfl)
  rw [lg_entry_eq]
  generalize (lg_sl ([.ref b, .int (nI C)]) ++ List.replicate (2 - (lg_sl ([.ref b, .int (nI C)])).length) Slot.unset).toArray = ls at hl ⊢
  have hl : lv_has ls 2 [(0, .ref b), (1, .int (nI C))] := hl
  refine lv_aload_n hx hb dX1_init_0 rfl (lv_at hl 0 rfl) ?_
  refine W.objInit hx hb hown (hts (.methodLink RX1 3 objectInit) (by decide +kernel)) (hts (.instanceMethod objectInit) (by decide +kernel)) (hts (.code objectInit ⟨#[0xb1]⟩ 1 none) (by decide +kernel)) rfl (by rw [hml]; exact hl.1) rfl dX1_init_1 (Nat.le_of_ble_eq_true rfl) (Nat.le_of_ble_eq_true rfl) ?_
  refine W.eq (g2 := F0 m 4 ls []) rfl ?_
  refine lv_aload_n hx hb dX1_init_4 rfl (lv_at hl 0 rfl) ?_
  refine lv_iconst (v := 0) hx hb dX1_init_5 (by decide +kernel) ?_
  refine lv_iload_n hx hb dX1_init_6 rfl (lv_at hl 1 rfl) ?_
  refine va_mmax hx hb (by rw [hml]; exact hl.1.symm) hown (hts (.methodLink RX1 9 Lib.Math.max.name) (by decide +kernel)) (hts (.static Lib.Math.max.name) (by decide +kernel)) (hts (.initialized "java/lang/Math") (by decide +kernel)) (hts (.code Lib.Math.max.name Lib.Math.max.code 2 (some .int)) (by decide +kernel)) (Nat.le_of_ble_eq_true rfl) (Nat.le_of_ble_eq_true rfl) (Nat.le_of_ble_eq_true rfl) (Nat.le_of_ble_eq_true rfl) dX1_init_7 ?_
  refine lv_topi (fun x_7 ex_7 => ?_)
  obtain rfl : x_7 = nI C := ex_7.trans (max0 (by omega))
  refine va_newa (atype := .int) (ty := .int) hx hb (hts (.arrayClass .int) (by decide +kernel)) rfl hK.1 hP hD hS hA (n := (nI C)) (N' := C) (a0 := (C, .inl (fun _ => 0))) (fun _ => rfl) (nI_pos (by omega)) (nI_clamp (by omega)) (by rw [show componentBytes .int = 4 from rfl]; omega) (by show 0 + 1 ≤ 1; omega) (by show 0 + C ≤ 132; omega) dX1_init_10 (fun sa cA H hK2 hP hD hS => ?_)
  rw [show cA = cI from kI hK2] at hP hD
  have hP : va_P D vwCl ([(b, .inr (2, [.null])), (sa, .inl (cI, C, .inl (fun _ => 0)))]) H := hP
  have hD : va_D A ([(b, .inr (2, [.null])), (sa, .inl (cI, C, .inl (fun _ => 0)))]) := hD
  refine W.widen (k := 1) (n := 132) (by omega) (by omega) ?_
  refine va_putF (D := D) (ci := 2) (v := .ref sa) (ty := .array .int) (C := RX1) (T := TX1) (N := 1) hx hb hts hinX1 tyX1 tyX1_ok nmX1 hown hK.1 hP hD hS 0 rfl rfl 0 (by decide) (hts (.fieldLink RX1 15 "PrinterRows$Row" "signs" "[I") (by decide +kernel)) (fun _ h9 => h9) rfl hin rfl (by decide +kernel) rfl rfl (Nat.le_of_ble_eq_true rfl) dX1_init_12 (fun H locs hP hD hS => ?_)
  have hP : va_P D vwCl ([(b, .inr (2, [.ref sa])), (sa, .inl (cI, C, .inl (fun _ => 0)))]) H := hP
  have hD : va_D A ([(b, .inr (2, [.ref sa])), (sa, .inl (cI, C, .inl (fun _ => 0)))]) := hD
  refine lv_aload_n hx hb dX1_init_15 rfl (lv_at hl 0 rfl) ?_
  refine va_get (D := D) (ci := 2) (v := .ref sa) (C := RX1) (T := TX1) (N := 1) hx hb hts hinX1 hown hK.1 hP 0 rfl rfl 0 (by decide) (hts (.fieldLink RX1 15 "PrinterRows$Row" "signs" "[I") (by decide +kernel)) (fun _ h9 => h9) rfl dX1_init_16 ?_
  refine lv_bipush (v := 32) hx hb dX1_init_19 (by decide +kernel) ?_
  have hP : va_P D vwCl ([(b, .inr (2, [.ref sa]))] ++ [(sa, .inl (cI, C, .inl (fun _ => 0)))]) H := hP
  have hD : va_D A ([(b, .inr (2, [.ref sa]))] ++ [(sa, .inl (cI, C, .inl (fun _ => 0)))]) := hD
  refine callSv (wr := [(b, .inr (2, [.ref sa]))]) (wc := [(sa, .inl (cI, C, .inl (fun _ => 0)))]) (va_runS (As := [.ref sa, .int 32]) (rest := []) ⟨hx, hb, hml, hown, hts⟩ (c_J7_fill_53178 l (by omega) 32) (va_cwS 2 hts gX1_init_J7_fill_53178 rfl rfl rfl (by decide +kernel) ⟨(Nat.le_of_ble_eq_true rfl), (Nat.le_of_ble_eq_true rfl)⟩) (mu_preS hK (sufP hP) (sufD hD)) rfl rfl hl.1 rfl (lv_room (Nat.le_of_ble_eq_true rfl)) dX1_init_21 ⟨(Nat.le_of_ble_eq_true rfl), (Nat.le_of_ble_eq_true rfl)⟩) hP hD hS hA (fun u_21 H locs w_21 hP hD hS => ?_)
  have hP : va_P D vwCl ([(b, .inr (2, [.ref sa])), (sa, .inl (cI, C, .inl u_21))]) H := hP
  have hD : va_D A ([(b, .inr (2, [.ref sa])), (sa, .inl (cI, C, .inl u_21))]) := hD
  refine W.widen (k := 1) (n := 132) (by omega) (by omega) ?_
  exact W.vret hx hb hr (fun t ht hW => ⟨⟨(sa, u_21), rfl, w_21, by rw [ht]; exact hP, hD⟩, hS.F ht⟩) hS.2.2 dX1_init_24

set_option maxHeartbeats 1000000 in
set_option maxRecDepth 100000 in
theorem c_X1_joinSign (l : Launch) {D : va_G} {cI cP cR cJ : ClassId} {b sa C : Nat} {f : Nat → Int32} {pl : va_W} {sz : Nat} (kb ks : Nat) (hkb : pl[kb]? = some (b, .inr (2, [.ref sa]))) (hks : pl[ks]? = some (sa, .inl (cI, C, .inl f))) (hC : C ≤ 132) (k : Nat) (hk : k < C) (v0 : Int32) : Met l yX1_joinSign wsX1_joinSign ({ frames := 2, cells := 0, slots := 0, locals := 34 }) (mu [.ref b, .int (nI k), .int v0] D cI cP cR cJ (pl) sz) (qv D (fun (_ : Unit) => True) (fun _ : Unit => pl.set ks (sa, .inl (cI, C, .inl (upd f k (mx (f k) v0))))) (va_A (pl) sz)) 0 0 (va_A (pl) sz) := by
  refine Met.ofW (cc := cX1_joinSign) (maxL := 3) (ret := none) (by decide) rfl ?_
  intro p e s m args below meth c s₁ B hml hv
  obtain ⟨rfl, hsz, hP, hK, hD0⟩ := hv
  have hx := B.exec
  have hb := B.bytes
  have hr := B.returns
  have hts := atoms_spec (ws := wsX1_joinSign) B.pre
  have hown : s.vm.findClass RX1 = some m.cls := findClass_of_methodNamed B.named
  have hlocks := B.notSynchronized
  have hinX1 : ∀ w ∈ wsX10, w ∈ wsX1_joinSign := by decide +kernel
  subst hsz
  have hD := hD0.self (sz := s.heap.size)
  generalize hAe : va_A (pl) s.heap.size = A at hD ⊢
  have hA : ∀ q : Nat, s.heap.size ≤ q → A q := fun q h => by rw [← hAe]; exact Or.inr h
  have hS : va_S A s.heap s.heap [] := va_S.rf
  have hP : va_P D vwCl (pl) s.heap := hP
  have hl := lv_entry ([.ref b, .int (nI k), .int v0]) (n := 3) (Nat.le_of_ble_eq_true rfl)
  rw [lg_entry_eq]
  generalize (lg_sl ([.ref b, .int (nI k), .int v0]) ++ List.replicate (3 - (lg_sl ([.ref b, .int (nI k), .int v0])).length) Slot.unset).toArray = ls at hl ⊢
  have hl : lv_has ls 3 [(0, .ref b), (1, .int (nI k)), (2, .int v0)] := hl
  refine lv_iload_n hx hb dX1_joinSign_0 rfl (lv_at hl 1 rfl) ?_
  refine lv_if_lt (tgt := 29) hx hb dX1_joinSign_1 (by decide) (fun c_1 => absurd c_1 (nI_pos (by omega))) (fun c_1 => ?_)
  refine lv_iload_n hx hb dX1_joinSign_4 rfl (lv_at hl 1 rfl) ?_
  refine lv_aload_n hx hb dX1_joinSign_5 rfl (lv_at hl 0 rfl) ?_
  refine va_get (D := D) (ci := 2) (v := .ref sa) (C := RX1) (T := TX1) (N := 1) hx hb hts hinX1 hown hK.1 hP kb hkb rfl 0 (by decide) (hts (.fieldLink RX1 15 "PrinterRows$Row" "signs" "[I") (by decide +kernel)) (fun _ h9 => h9) rfl dX1_joinSign_6 ?_
  refine va_alen (v := (nI C)) hx hb hK.1 hP ks 0 hks rfl rfl dX1_joinSign_9 ?_
  refine lv_icmp_ge (tgt := 29) hx hb dX1_joinSign_10 (by decide) (fun c_10 => absurd c_10 (nI_ge hk (by omega))) (fun c_10 => ?_)
  refine lv_aload_n hx hb dX1_joinSign_13 rfl (lv_at hl 0 rfl) ?_
  refine va_get (D := D) (ci := 2) (v := .ref sa) (C := RX1) (T := TX1) (N := 1) hx hb hts hinX1 hown hK.1 hP kb hkb rfl 0 (by decide) (hts (.fieldLink RX1 15 "PrinterRows$Row" "signs" "[I") (by decide +kernel)) (fun _ h9 => h9) rfl dX1_joinSign_14 ?_
  refine lv_iload_n hx hb dX1_joinSign_17 rfl (lv_at hl 1 rfl) ?_
  refine lv_aload_n hx hb dX1_joinSign_18 rfl (lv_at hl 0 rfl) ?_
  refine va_get (D := D) (ci := 2) (v := .ref sa) (C := RX1) (T := TX1) (N := 1) hx hb hts hinX1 hown hK.1 hP kb hkb rfl 0 (by decide) (hts (.fieldLink RX1 15 "PrinterRows$Row" "signs" "[I") (by decide +kernel)) (fun _ h9 => h9) rfl dX1_joinSign_19 ?_
  refine lv_iload_n hx hb dX1_joinSign_22 rfl (lv_at hl 1 rfl) ?_
  refine va_iald hx hb hK.1 hP ks 0 hks rfl (vp_in_nI hk (by omega)) dX1_joinSign_23 ?_
  refine lv_topi (fun x_23 ex_23 => ?_)
  obtain rfl : x_23 = f k := ex_23.trans (by rw [nI_clamp (by omega)])
  refine lv_iload_n hx hb dX1_joinSign_24 rfl (lv_at hl 2 rfl) ?_
  refine vp_callSi (fun T hT X => by obtain ⟨v, st0, t, T1, L1, q1, q2, q3, q4, -, q5, q6⟩ := va_runSN (As := [.int (f k), .int v0]) (rest := [.int (nI k), .ref sa]) ⟨hx, hb, hml, hown, hts⟩ (c_X2_darker l (f k) v0) ⟨va_cnB 2 hts gX1_joinSign_X2_darker_n27 rfl rfl rfl hK.2.2.2 (hts (.initialized RX2) (by decide +kernel)) (by decide +kernel) ⟨(Nat.le_of_ble_eq_true rfl), (Nat.le_of_ble_eq_true rfl)⟩, hts (.static yX2_darker) (by decide +kernel), trivial⟩ pu_pre rfl rfl hl.1 rfl (lv_room (Nat.le_of_ble_eq_true rfl)) dX1_joinSign_25 ⟨(Nat.le_of_ble_eq_true rfl), (Nat.le_of_ble_eq_true rfl)⟩ T hT X; exact ⟨v, st0, t, T1, L1, q1, q2, q3, q4, q5, q6⟩) (fun r_25 w_25 => ?_)
  subst w_25
  refine va_iast hx hb hK.1 hP hD hS ks 0 hks rfl (vp_in_nI hk (by omega)) dX1_joinSign_28 (fun H locs hP hD hS => ?_)
  rw [show (upd f ((nI k)).toNatClampNeg (mx (f k) v0)) = (upd f k (mx (f k) v0)) from by rw [nI_clamp (by omega)]] at hP hD
  have hP : va_P D vwCl (pl.set ks (sa, .inl (cI, C, .inl (upd f k (mx (f k) v0))))) H := hP
  have hD : va_D A (pl.set ks (sa, .inl (cI, C, .inl (upd f k (mx (f k) v0))))) := hD
  exact W.vret hx hb hr (fun t ht hW => ⟨⟨(), rfl, trivial, by rw [ht]; exact hP, hD⟩, hS.F ht⟩) hS.2.2 dX1_joinSign_29

set_option maxHeartbeats 1000000 in
set_option maxRecDepth 100000 in
theorem c_X1_signOf (l : Launch) {D : va_G} {cI cP cR cJ : ClassId} {b sa C : Nat} {f : Nat → Int32} {pl : va_W} (kb ks : Nat) (hkb : pl[kb]? = some (b, .inr (2, [.ref sa]))) (hks : pl[ks]? = some (sa, .inl (cI, C, .inl f))) (hC : C ≤ 132) (k : Nat) (hk : k < C) : Met l yX1_signOf wsX1_signOf ({ frames := 0, cells := 0, slots := 0, locals := 0 }) (ro [.ref b, .int (nI k)] D cI cP cR cJ (pl)) (vp_Si (fun r => r = f k)) 0 0 (fun _ => False) := by
  refine Met.ofW (cc := cX1_signOf) (maxL := 2) (ret := (some .int)) (by decide) rfl ?_
  intro p e s m args below meth c s₁ B hml hv
  obtain ⟨rfl, hP, hK⟩ := hv
  have hx := B.exec
  have hb := B.bytes
  have hr := B.returns
  have hts := atoms_spec (ws := wsX1_signOf) B.pre
  have hown : s.vm.findClass RX1 = some m.cls := findClass_of_methodNamed B.named
  have hlocks := B.notSynchronized
  have hinX1 : ∀ w ∈ wsX10, w ∈ wsX1_signOf := by decide +kernel
  have hl := lv_entry ([.ref b, .int (nI k)]) (n := 2) (Nat.le_of_ble_eq_true rfl)
  rw [lg_entry_eq]
  generalize (lg_sl ([.ref b, .int (nI k)]) ++ List.replicate (2 - (lg_sl ([.ref b, .int (nI k)])).length) Slot.unset).toArray = ls at hl ⊢
  have hl : lv_has ls 2 [(0, .ref b), (1, .int (nI k))] := hl
  refine lv_iload_n hx hb dX1_signOf_0 rfl (lv_at hl 1 rfl) ?_
  refine lv_if_lt (tgt := 22) hx hb dX1_signOf_1 (by decide) (fun c_1 => absurd c_1 (nI_pos (by omega))) (fun c_1 => ?_)
  refine lv_iload_n hx hb dX1_signOf_4 rfl (lv_at hl 1 rfl) ?_
  refine lv_aload_n hx hb dX1_signOf_5 rfl (lv_at hl 0 rfl) ?_
  refine va_get (D := D) (ci := 2) (v := .ref sa) (C := RX1) (T := TX1) (N := 1) hx hb hts hinX1 hown hK.1 hP kb hkb rfl 0 (by decide) (hts (.fieldLink RX1 15 "PrinterRows$Row" "signs" "[I") (by decide +kernel)) (fun _ h9 => h9) rfl dX1_signOf_6 ?_
  refine va_alen (v := (nI C)) hx hb hK.1 hP ks 0 hks rfl rfl dX1_signOf_9 ?_
  refine lv_icmp_ge (tgt := 22) hx hb dX1_signOf_10 (by decide) (fun c_10 => absurd c_10 (nI_ge hk (by omega))) (fun c_10 => ?_)
  refine lv_aload_n hx hb dX1_signOf_13 rfl (lv_at hl 0 rfl) ?_
  refine va_get (D := D) (ci := 2) (v := .ref sa) (C := RX1) (T := TX1) (N := 1) hx hb hts hinX1 hown hK.1 hP kb hkb rfl 0 (by decide) (hts (.fieldLink RX1 15 "PrinterRows$Row" "signs" "[I") (by decide +kernel)) (fun _ h9 => h9) rfl dX1_signOf_14 ?_
  refine lv_iload_n hx hb dX1_signOf_17 rfl (lv_at hl 1 rfl) ?_
  refine va_iald hx hb hK.1 hP ks 0 hks rfl (vp_in_nI hk (by omega)) dX1_signOf_18 ?_
  refine lv_topi (fun x_18 ex_18 => ?_)
  obtain rfl : x_18 = f k := ex_18.trans (by rw [nI_clamp (by omega)])
  refine lv_goto (tgt := 24) hx hb dX1_signOf_19 (by decide) ?_
  exact W.iret (v := (f k)) hx hb hr (fun t ht hW => ⟨_, rfl, rfl, ht⟩) (fun q h => by cases h) dX1_signOf_24

set_option maxHeartbeats 1000000 in
set_option maxRecDepth 100000 in
theorem c_X0_init (l : Launch) {D : va_G} {cI cP cR cJ : ClassId} {a L C : Nat} {sz : Nat} (hL : L ≤ 66) : Met l yX0_init wsX0_init ({ frames := 1, cells := 1, slots := 66, locals := 15 }) (mu [.ref a, .int (nI L), .int (nI C)] D cI cP cR cJ ([(a, .inr (1, [.null, .int 0]))]) sz) (qv D (fun (_ : Nat) => True) (fun u : Nat => [(a, .inr (1, [.ref u, .int (nI C)])), (u, .inl (cR, L, .inr (.inr (.inr (.inr (fun _ => none))))))]) (va_A ([(a, .inr (1, [.null, .int 0]))]) sz)) 1 66 (va_A ([(a, .inr (1, [.null, .int 0]))]) sz) := by
  refine Met.ofW (cc := cX0_init) (maxL := 3) (ret := none) (by decide) rfl ?_
  intro p e s m args below meth c s₁ B hml hv
  obtain ⟨rfl, hsz, hP, hK, hD0⟩ := hv
  have hx := B.exec
  have hb := B.bytes
  have hr := B.returns
  have hts := atoms_spec (ws := wsX0_init) B.pre
  have hown : s.vm.findClass RX0 = some m.cls := findClass_of_methodNamed B.named
  have hlocks := B.notSynchronized
  have hin : meth.name = "<init>" := (name_of_methodNamed B.named B.method).1
  have hinX0 : ∀ w ∈ wsX00, w ∈ wsX0_init := by decide +kernel
  subst hsz
  have hD := hD0.self (sz := s.heap.size)
  generalize hAe : va_A ([(a, .inr (1, [.null, .int 0]))]) s.heap.size = A at hD ⊢
  have hA : ∀ q : Nat, s.heap.size ≤ q → A q := fun q h => by rw [← hAe]; exact Or.inr h
  have hS : va_S A s.heap s.heap [] := va_S.rf
  have hP : va_P D vwCl ([(a, .inr (1, [.null, .int 0]))]) s.heap := hP
  have hl := lv_entry ([.ref a, .int (nI L), .int (nI C)]) (n := 3) (Nat.le_of_ble_eq_true rfl)
  rw [lg_entry_eq]
  generalize (lg_sl ([.ref a, .int (nI L), .int (nI C)]) ++ List.replicate (3 - (lg_sl ([.ref a, .int (nI L), .int (nI C)])).length) Slot.unset).toArray = ls at hl ⊢
  have hl : lv_has ls 3 [(0, .ref a), (1, .int (nI L)), (2, .int (nI C))] := hl
  refine lv_aload_n hx hb dX0_init_0 rfl (lv_at hl 0 rfl) ?_
  refine W.objInit hx hb hown (hts (.methodLink RX0 3 objectInit) (by decide +kernel)) (hts (.instanceMethod objectInit) (by decide +kernel)) (hts (.code objectInit ⟨#[0xb1]⟩ 1 none) (by decide +kernel)) rfl (by rw [hml]; exact hl.1) rfl dX0_init_1 (Nat.le_of_ble_eq_true rfl) (Nat.le_of_ble_eq_true rfl) ?_
  refine W.eq (g2 := F0 m 4 ls []) rfl ?_
  refine lv_aload_n hx hb dX0_init_4 rfl (lv_at hl 0 rfl) ?_
  refine lv_iconst (v := 0) hx hb dX0_init_5 (by decide +kernel) ?_
  refine lv_iload_n hx hb dX0_init_6 rfl (lv_at hl 1 rfl) ?_
  refine va_mmax hx hb (by rw [hml]; exact hl.1.symm) hown (hts (.methodLink RX0 9 Lib.Math.max.name) (by decide +kernel)) (hts (.static Lib.Math.max.name) (by decide +kernel)) (hts (.initialized "java/lang/Math") (by decide +kernel)) (hts (.code Lib.Math.max.name Lib.Math.max.code 2 (some .int)) (by decide +kernel)) (Nat.le_of_ble_eq_true rfl) (Nat.le_of_ble_eq_true rfl) (Nat.le_of_ble_eq_true rfl) (Nat.le_of_ble_eq_true rfl) dX0_init_7 ?_
  refine lv_topi (fun x_7 ex_7 => ?_)
  obtain rfl : x_7 = nI L := ex_7.trans (max0 (by omega))
  refine va_newq (C := "PrinterRows$Row") hx hb hown (hts (.classLink RX0 15 RX1) (by decide +kernel)) hK.2.2.1 hK.1 hP hD hS hA (n := (nI L)) (N' := L) (nI_pos (by omega)) (nI_clamp (by omega)) (by omega) (by show 0 + 1 ≤ 1; omega) (by show 0 + L ≤ 66; omega) dX0_init_10 (fun ra cA H hK2 hP hD hS => ?_)
  rw [show cA = cR from kR hK2] at hP hD
  have hP : va_P D vwCl ([(a, .inr (1, [.null, .int 0])), (ra, .inl (cR, L, .inr (.inr (.inr (.inr (fun _ => none))))))]) H := hP
  have hD : va_D A ([(a, .inr (1, [.null, .int 0])), (ra, .inl (cR, L, .inr (.inr (.inr (.inr (fun _ => none))))))]) := hD
  refine W.widen (k := 1) (n := 66) (by omega) (by omega) ?_
  refine va_putF (D := D) (ci := 1) (v := .ref ra) (ty := .array (.object "PrinterRows$Row")) (C := RX0) (T := TX0) (N := 2) hx hb hts hinX0 tyX0 tyX0_ok nmX0 hown hK.1 hP hD hS 0 rfl rfl 0 (by decide) (hts (.fieldLink RX0 17 "PrinterRows$Page" "rows" "[LPrinterRows$Row;") (by decide +kernel)) (fun _ h9 => h9) rfl hin rfl (by decide +kernel) rfl rfl (Nat.le_of_ble_eq_true rfl) dX0_init_13 (fun H locs hP hD hS => ?_)
  have hP : va_P D vwCl ([(a, .inr (1, [.ref ra, .int 0])), (ra, .inl (cR, L, .inr (.inr (.inr (.inr (fun _ => none))))))]) H := hP
  have hD : va_D A ([(a, .inr (1, [.ref ra, .int 0])), (ra, .inl (cR, L, .inr (.inr (.inr (.inr (fun _ => none))))))]) := hD
  refine lv_aload_n hx hb dX0_init_16 rfl (lv_at hl 0 rfl) ?_
  refine lv_iload_n hx hb dX0_init_17 rfl (lv_at hl 2 rfl) ?_
  refine va_putF (D := D) (ci := 1) (v := .int (nI C)) (ty := .int) (C := RX0) (T := TX0) (N := 2) hx hb hts hinX0 tyX0 tyX0_ok nmX0 hown hK.1 hP hD hS 0 rfl rfl 1 (by decide) (hts (.fieldLink RX0 23 "PrinterRows$Page" "columns" "I") (by decide +kernel)) (fun _ h9 => h9) rfl hin rfl (by decide +kernel) rfl rfl (Nat.le_of_ble_eq_true rfl) dX0_init_18 (fun H locs hP hD hS => ?_)
  have hP : va_P D vwCl ([(a, .inr (1, [.ref ra, .int (nI C)])), (ra, .inl (cR, L, .inr (.inr (.inr (.inr (fun _ => none))))))]) H := hP
  have hD : va_D A ([(a, .inr (1, [.ref ra, .int (nI C)])), (ra, .inl (cR, L, .inr (.inr (.inr (.inr (fun _ => none))))))]) := hD
  refine W.widen (k := 1) (n := 66) (by omega) (by omega) ?_
  exact W.vret hx hb hr (fun t ht hW => ⟨⟨ra, rfl, trivial, by rw [ht]; exact hP, hD⟩, hS.F ht⟩) hS.2.2 dX0_init_21
