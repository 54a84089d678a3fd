/-! the class's constructor -/
theorem hdTo_nI (a : Int32) {b : Int32} {n : Nat} (hb : b = nI n) (h1 : 1 ≤ n) (h2 : n < 2 ^ 31) : ∃ k : Nat, 1 ≤ k ∧ k ≤ n ∧ hdTo a b = nI k := by
  subst hb
  unfold hdTo mx
  have e1 : (1 : Int32).toInt = 1 := rfl
  have en := nI_toInt h2
  have ha := i32 a
  by_cases q : nI n < a
  · rw [if_pos q]
    by_cases q2 : (1 : Int32) < nI n
    · rw [if_pos q2]; exact ⟨n, h1, Nat.le_refl _, rfl⟩
    · rw [if_neg q2]; exact ⟨1, Nat.le_refl _, h1, rfl⟩
  · rw [if_neg q]
    by_cases q2 : (1 : Int32) < a
    · rw [if_pos q2]
      rw [i32_lt] at q q2
      refine ⟨a.toInt.toNat, by omega, by omega, i32_ext ?_⟩
      rw [nI_toInt (by omega)]; omega
    · rw [if_neg q2]; exact ⟨1, Nat.le_refl _, h1, rfl⟩
theorem id_step {g : Nat → Int32} {i : Nat} (h : ∀ j, j < i → g j = nI j) : ∀ j, j < i + 1 → upd g i (nI i) j = nI j := by
  intro j hj
  by_cases e : j = i
  · rw [e]; exact if_pos rfl
  · rw [pk_un e]; exact h j (by omega)

set_option maxHeartbeats 1000000 in
set_option maxRecDepth 100000 in
theorem c_X2_init (l : Launch) {D : va_G} {cI cP cR cJ : ClassId} {x L C : Nat} {sz : Nat} (l0 c0 : Int32) (hL : hdTo l0 66 = nI L) (hC : hdTo c0 132 = nI C) : Met l yX2_init wsX2_init ({ frames := 2, cells := 4, slots := 509, locals := 35 }) (mu [.ref x, .int l0, .int c0] D cI cP cR cJ ([(x, .inr (3, [.int 0, .int 0, .null, .null, .null, .int 0, .null, .int 0, .int 0, .int 0, .int 0, .int 0, .int 0, .int 0, .int 0, .int 0]))]) sz) (qv D (fun (u : (Nat × Nat × Nat × Nat) × (Nat → Int32) × (Nat → Int32)) => (∀ k, k < 13 → u.2.1 k = -1) ∧ ∀ k, k < 256 → u.2.2 k = nI k) (fun u : (Nat × Nat × Nat × Nat) × (Nat → Int32) × (Nat → Int32) => wX cI cP x u.1.1 u.1.2.1 u.1.2.2.1 u.1.2.2.2 (nI L) (nI C) (nI 0) (nI 0) (zb false) (nI 0) 0 0 0 0 0 0 u.2.1 u.2.2 (fun _ => 0) (fun _ => none) []) (va_A ([(x, .inr (3, [.int 0, .int 0, .null, .null, .null, .int 0, .null, .int 0, .int 0, .int 0, .int 0, .int 0, .int 0, .int 0, .int 0, .int 0]))]) sz)) 4 509 (va_A ([(x, .inr (3, [.int 0, .int 0, .null, .null, .null, .int 0, .null, .int 0, .int 0, .int 0, .int 0, .int 0, .int 0, .int 0, .int 0, .int 0]))]) sz) := by
  refine Met.ofW (cc := cX2_init) (maxL := 4) (ret := none) (by decide) rfl ?_
  intro p e s m args below meth c s₁ B hml hv
  obtain ⟨rfl, hsz, hP, hK, hD0⟩ := hv
  have hx := B.exec
  have hb := B.bytes
  have hr := B.returns
  have hts := atoms_spec (ws := wsX2_init) B.pre
  have hown : s.vm.findClass RX2 = some m.cls := findClass_of_methodNamed B.named
  have hlocks := B.notSynchronized
  have hin : meth.name = "<init>" := (name_of_methodNamed B.named B.method).1
  have hinX2 : ∀ w ∈ wsX20, w ∈ wsX2_init := by decide +kernel
  subst hsz
  have hD := hD0.self (sz := s.heap.size)
  generalize hAe : va_A ([(x, .inr (3, [.int 0, .int 0, .null, .null, .null, .int 0, .null, .int 0, .int 0, .int 0, .int 0, .int 0, .int 0, .int 0, .int 0, .int 0]))]) s.heap.size = A at hD ⊢
  have hA : ∀ q : Nat, s.heap.size ≤ q → A q := fun q h => by rw [← hAe]; exact Or.inr h
  have hS : va_S A s.heap s.heap [] := va_S.rf
  have hP : va_P D vwCl ([(x, .inr (3, [.int 0, .int 0, .null, .null, .null, .int 0, .null, .int 0, .int 0, .int 0, .int 0, .int 0, .int 0, .int 0, .int 0, .int 0]))]) s.heap := hP
  have hl := lv_entry ([.ref x, .int l0, .int c0]) (n := 4) (Nat.le_of_ble_eq_true rfl)
  rw [lg_entry_eq]
  generalize (lg_sl ([.ref x, .int l0, .int c0]) ++ List.replicate (4 - (lg_sl ([.ref x, .int l0, .int c0])).length) Slot.unset).toArray = ls at hl ⊢
  have hl : lv_has ls 4 [(0, .ref x), (1, .int l0), (2, .int c0)] := hl
  refine lv_aload_n hx hb dX2_init_0 rfl (lv_at hl 0 rfl) ?_
  refine W.objInit hx hb hown (hts (.methodLink RX2 3 objectInit) (by decide +kernel)) (hts (.instanceMethod objectInit) (by decide +kernel)) (hts (.code objectInit ⟨#[0xb1]⟩ 1 none) (by decide +kernel)) rfl (by rw [hml]; exact hl.1) rfl dX2_init_1 (Nat.le_of_ble_eq_true rfl) (Nat.le_of_ble_eq_true rfl) ?_
  refine W.eq (g2 := F0 m 4 ls []) rfl ?_
  refine lv_aload_n hx hb dX2_init_4 rfl (lv_at hl 0 rfl) ?_
  refine lv_iload_n hx hb dX2_init_5 rfl (lv_at hl 1 rfl) ?_
  refine lv_bipush (v := 66) hx hb dX2_init_6 (by decide +kernel) ?_
  refine vp_callSi (W.runS (As := [.int l0, .int 66]) (rest := [.ref x]) ⟨hx, hb, hml, hown, hts⟩ (c_X2_heldTo l (l0) (66)) (va_cwS 2 hts gX2_init_X2_heldTo rfl rfl rfl (by decide +kernel) ⟨(Nat.le_of_ble_eq_true rfl), (Nat.le_of_ble_eq_true rfl)⟩) pu_pre rfl rfl hl.1 rfl (lv_room (Nat.le_of_ble_eq_true rfl)) dX2_init_8 ⟨(Nat.le_of_ble_eq_true rfl), (Nat.le_of_ble_eq_true rfl)⟩) (fun r_8 w_8 => ?_)
  subst w_8
  refine lv_topi (fun x_8 ex_8 => ?_)
  obtain rfl : x_8 = nI L := ex_8.trans hL
  refine va_putF (D := D) (ci := 3) (v := .int (nI L)) (ty := .int) (C := RX2) (T := TX2) (N := 16) hx hb hts hinX2 tyX2 tyX2_ok nmX2 hown hK.1 hP hD hS 0 rfl rfl 0 (by decide) (hts (.fieldLink RX2 13 "PrinterRows" "lines" "I") (by decide +kernel)) (fun _ h9 => h9) rfl hin rfl (by decide +kernel) rfl rfl (Nat.le_of_ble_eq_true rfl) dX2_init_11 (fun H locs hP hD hS => ?_)
  have hP : va_P D vwCl ([(x, .inr (3, [.int (nI L), .int 0, .null, .null, .null, .int 0, .null, .int 0, .int 0, .int 0, .int 0, .int 0, .int 0, .int 0, .int 0, .int 0]))]) H := hP
  have hD : va_D A ([(x, .inr (3, [.int (nI L), .int 0, .null, .null, .null, .int 0, .null, .int 0, .int 0, .int 0, .int 0, .int 0, .int 0, .int 0, .int 0, .int 0]))]) := hD
  refine lv_aload_n hx hb dX2_init_14 rfl (lv_at hl 0 rfl) ?_
  refine lv_iload_n hx hb dX2_init_15 rfl (lv_at hl 2 rfl) ?_
  refine lv_sipush (v := 132) hx hb dX2_init_16 (by decide +kernel) ?_
  refine vp_callSi (W.runS (As := [.int c0, .int 132]) (rest := [.ref x]) ⟨hx, hb, hml, hown, hts⟩ (c_X2_heldTo l (c0) (132)) (va_cwS 2 hts gX2_init_X2_heldTo rfl rfl rfl (by decide +kernel) ⟨(Nat.le_of_ble_eq_true rfl), (Nat.le_of_ble_eq_true rfl)⟩) pu_pre rfl rfl hl.1 rfl (lv_room (Nat.le_of_ble_eq_true rfl)) dX2_init_19 ⟨(Nat.le_of_ble_eq_true rfl), (Nat.le_of_ble_eq_true rfl)⟩) (fun r_19 w_19 => ?_)
  subst w_19
  refine lv_topi (fun x_19 ex_19 => ?_)
  obtain rfl : x_19 = nI C := ex_19.trans hC
  refine va_putF (D := D) (ci := 3) (v := .int (nI C)) (ty := .int) (C := RX2) (T := TX2) (N := 16) hx hb hts hinX2 tyX2 tyX2_ok nmX2 hown hK.1 hP hD hS 0 rfl rfl 1 (by decide) (hts (.fieldLink RX2 17 "PrinterRows" "columns" "I") (by decide +kernel)) (fun _ h9 => h9) rfl hin rfl (by decide +kernel) rfl rfl (Nat.le_of_ble_eq_true rfl) dX2_init_22 (fun H locs hP hD hS => ?_)
  have hP : va_P D vwCl ([(x, .inr (3, [.int (nI L), .int (nI C), .null, .null, .null, .int 0, .null, .int 0, .int 0, .int 0, .int 0, .int 0, .int 0, .int 0, .int 0, .int 0]))]) H := hP
  have hD : va_D A ([(x, .inr (3, [.int (nI L), .int (nI C), .null, .null, .null, .int 0, .null, .int 0, .int 0, .int 0, .int 0, .int 0, .int 0, .int 0, .int 0, .int 0]))]) := hD
  refine lv_aload_n hx hb dX2_init_25 rfl (lv_at hl 0 rfl) ?_
  refine lv_bipush (v := 13) hx hb dX2_init_26 (by decide +kernel) ?_
  refine va_newa (atype := .int) (ty := .int) hx hb (hts (.arrayClass .int) (by decide +kernel)) rfl hK.1 hP hD hS hA (n := 13) (N' := 13) (a0 := (13, .inl (fun _ => 0))) (fun _ => rfl) (by decide) (by decide) (by decide) (by show 0 + 1 ≤ 4; omega) (by show 0 + 13 ≤ 509; omega) dX2_init_28 (fun aC cA H hK2 hP hD hS => ?_)
  rw [show cA = cI from kI hK2] at hP hD
  have hP : va_P D vwCl ([(x, .inr (3, [.int (nI L), .int (nI C), .null, .null, .null, .int 0, .null, .int 0, .int 0, .int 0, .int 0, .int 0, .int 0, .int 0, .int 0, .int 0])), (aC, .inl (cI, 13, .inl (fun _ => 0)))]) H := hP
  have hD : va_D A ([(x, .inr (3, [.int (nI L), .int (nI C), .null, .null, .null, .int 0, .null, .int 0, .int 0, .int 0, .int 0, .int 0, .int 0, .int 0, .int 0, .int 0])), (aC, .inl (cI, 13, .inl (fun _ => 0)))]) := hD
  refine W.widen (k := 1) (n := 13) (by omega) (by omega) ?_
  refine va_putF (D := D) (ci := 3) (v := .ref aC) (ty := .array .int) (C := RX2) (T := TX2) (N := 16) hx hb hts hinX2 tyX2 tyX2_ok nmX2 hown hK.1 hP hD hS 0 rfl rfl 2 (by decide) (hts (.fieldLink RX2 20 "PrinterRows" "channelLines" "[I") (by decide +kernel)) (fun _ h9 => h9) rfl hin rfl (by decide +kernel) rfl rfl (Nat.le_of_ble_eq_true rfl) dX2_init_30 (fun H locs hP hD hS => ?_)
  have hP : va_P D vwCl ([(x, .inr (3, [.int (nI L), .int (nI C), .ref aC, .null, .null, .int 0, .null, .int 0, .int 0, .int 0, .int 0, .int 0, .int 0, .int 0, .int 0, .int 0])), (aC, .inl (cI, 13, .inl (fun _ => 0)))]) H := hP
  have hD : va_D A ([(x, .inr (3, [.int (nI L), .int (nI C), .ref aC, .null, .null, .int 0, .null, .int 0, .int 0, .int 0, .int 0, .int 0, .int 0, .int 0, .int 0, .int 0])), (aC, .inl (cI, 13, .inl (fun _ => 0)))]) := hD
  refine lv_aload_n hx hb dX2_init_33 rfl (lv_at hl 0 rfl) ?_
  refine va_get (D := D) (ci := 3) (v := .ref aC) (C := RX2) (T := TX2) (N := 16) hx hb hts hinX2 hown hK.1 hP 0 rfl rfl 2 (by decide) (hts (.fieldLink RX2 20 "PrinterRows" "channelLines" "[I") (by decide +kernel)) (fun _ h9 => h9) rfl dX2_init_34 ?_
  refine lv_iconst (v := (-1)) hx hb dX2_init_37 (by decide +kernel) ?_
  have hP : va_P D vwCl ([(x, .inr (3, [.int (nI L), .int (nI C), .ref aC, .null, .null, .int 0, .null, .int 0, .int 0, .int 0, .int 0, .int 0, .int 0, .int 0, .int 0, .int 0]))] ++ [(aC, .inl (cI, 13, .inl (fun _ => 0)))]) H := hP
  have hD : va_D A ([(x, .inr (3, [.int (nI L), .int (nI C), .ref aC, .null, .null, .int 0, .null, .int 0, .int 0, .int 0, .int 0, .int 0, .int 0, .int 0, .int 0, .int 0]))] ++ [(aC, .inl (cI, 13, .inl (fun _ => 0)))]) := hD
  refine callSv (wr := [(x, .inr (3, [.int (nI L), .int (nI C), .ref aC, .null, .null, .int 0, .null, .int 0, .int 0, .int 0, .int 0, .int 0, .int 0, .int 0, .int 0, .int 0]))]) (wc := [(aC, .inl (cI, 13, .inl (fun _ => 0)))]) (va_runS (As := [.ref aC, .int (-1)]) (rest := []) ⟨hx, hb, hml, hown, hts⟩ (c_J7_fill_53178 l (by decide) (-1)) (va_cwS 2 hts gX2_init_J7_fill_53178 rfl rfl rfl (by decide +kernel) ⟨(Nat.le_of_ble_eq_true rfl), (Nat.le_of_ble_eq_true rfl)⟩) (mu_preS hK (sufP hP) (sufD hD)) rfl rfl hl.1 rfl (lv_room (Nat.le_of_ble_eq_true rfl)) dX2_init_38 ⟨(Nat.le_of_ble_eq_true rfl), (Nat.le_of_ble_eq_true rfl)⟩) hP hD hS hA (fun u_38 H locs w_38 hP hD hS => ?_)
  have hP : va_P D vwCl ([(x, .inr (3, [.int (nI L), .int (nI C), .ref aC, .null, .null, .int 0, .null, .int 0, .int 0, .int 0, .int 0, .int 0, .int 0, .int 0, .int 0, .int 0])), (aC, .inl (cI, 13, .inl u_38))]) H := hP
  have hD : va_D A ([(x, .inr (3, [.int (nI L), .int (nI C), .ref aC, .null, .null, .int 0, .null, .int 0, .int 0, .int 0, .int 0, .int 0, .int 0, .int 0, .int 0, .int 0])), (aC, .inl (cI, 13, .inl u_38))]) := hD
  refine lv_aload_n hx hb dX2_init_41 rfl (lv_at hl 0 rfl) ?_
  refine lv_sipush (v := 256) hx hb dX2_init_42 (by decide +kernel) ?_
  refine va_newa (atype := .int) (ty := .int) hx hb (hts (.arrayClass .int) (by decide +kernel)) rfl hK.1 hP hD hS hA (n := 256) (N' := 256) (a0 := (256, .inl (fun _ => 0))) (fun _ => rfl) (by decide) (by decide) (by decide) (by show 1 + 1 ≤ 4; omega) (by show 13 + 256 ≤ 509; omega) dX2_init_45 (fun aT cA H hK2 hP hD hS => ?_)
  rw [show cA = cI from kI hK2] at hP hD
  have hP : va_P D vwCl ([(x, .inr (3, [.int (nI L), .int (nI C), .ref aC, .null, .null, .int 0, .null, .int 0, .int 0, .int 0, .int 0, .int 0, .int 0, .int 0, .int 0, .int 0])), (aC, .inl (cI, 13, .inl u_38)), (aT, .inl (cI, 256, .inl (fun _ => 0)))]) H := hP
  have hD : va_D A ([(x, .inr (3, [.int (nI L), .int (nI C), .ref aC, .null, .null, .int 0, .null, .int 0, .int 0, .int 0, .int 0, .int 0, .int 0, .int 0, .int 0, .int 0])), (aC, .inl (cI, 13, .inl u_38)), (aT, .inl (cI, 256, .inl (fun _ => 0)))]) := hD
  refine W.widen (k := 2) (n := 269) (by omega) (by omega) ?_
  refine va_putF (D := D) (ci := 3) (v := .ref aT) (ty := .array .int) (C := RX2) (T := TX2) (N := 16) hx hb hts hinX2 tyX2 tyX2_ok nmX2 hown hK.1 hP hD hS 0 rfl rfl 3 (by decide) (hts (.fieldLink RX2 30 "PrinterRows" "printedAs" "[I") (by decide +kernel)) (fun _ h9 => h9) rfl hin rfl (by decide +kernel) rfl rfl (Nat.le_of_ble_eq_true rfl) dX2_init_47 (fun H locs hP hD hS => ?_)
  have hP : va_P D vwCl ([(x, .inr (3, [.int (nI L), .int (nI C), .ref aC, .ref aT, .null, .int 0, .null, .int 0, .int 0, .int 0, .int 0, .int 0, .int 0, .int 0, .int 0, .int 0])), (aC, .inl (cI, 13, .inl u_38)), (aT, .inl (cI, 256, .inl (fun _ => 0)))]) H := hP
  have hD : va_D A ([(x, .inr (3, [.int (nI L), .int (nI C), .ref aC, .ref aT, .null, .int 0, .null, .int 0, .int 0, .int 0, .int 0, .int 0, .int 0, .int 0, .int 0, .int 0])), (aC, .inl (cI, 13, .inl u_38)), (aT, .inl (cI, 256, .inl (fun _ => 0)))]) := hD
  refine lv_iconst (v := 0) hx hb dX2_init_50 (by decide +kernel) ?_
  refine lv_istore_n (lv' := [(3, .int 0), (0, .ref x), (1, .int l0), (2, .int c0)]) hx hb dX2_init_51 rfl hl (by decide) rfl (fun ls hl => ?_)
  have loop : ∀ (n : Nat) (i : Nat) (g : Nat → Int32) (H : Heap) (locs : List Loc) (ls : Array Slot), (i ≤ 256) → (256 - i < n) → (∀ j, j < i → g j = nI j) → va_P D vwCl ([(x, .inr (3, [.int (nI L), .int (nI C), .ref aC, .ref aT, .null, .int 0, .null, .int 0, .int 0, .int 0, .int 0, .int 0, .int 0, .int 0, .int 0, .int 0])), (aC, .inl (cI, 13, .inl u_38)), (aT, .inl (cI, 256, .inl g))]) H → va_D A ([(x, .inr (3, [.int (nI L), .int (nI C), .ref aC, .ref aT, .null, .int 0, .null, .int 0, .int 0, .int 0, .int 0, .int 0, .int 0, .int 0, .int 0, .int 0])), (aC, .inl (cI, 13, .inl u_38)), (aT, .inl (cI, 256, .inl g))]) → va_S A s.heap H locs → lv_has ls 4 [(0, .ref x), (1, .int l0), (2, .int c0), (3, .int (nI i))] → W p l e (headSpec wsX2_init ({ frames := 2, cells := 4, slots := 509, locals := 35 })).room s m (([.ref x, .int l0, .int c0] : List Value).toArray) below meth c H locs 2 269 (MQ below (qv D (fun (u : (Nat × Nat × Nat × Nat) × (Nat → Int32) × (Nat → Int32)) => (∀ k, k < 13 → u.2.1 k = -1) ∧ ∀ k, k < 256 → u.2.2 k = nI k) (fun u : (Nat × Nat × Nat × Nat) × (Nat → Int32) × (Nat → Int32) => wX cI cP x u.1.1 u.1.2.1 u.1.2.2.1 u.1.2.2.2 (nI L) (nI C) (nI 0) (nI 0) (zb false) (nI 0) 0 0 0 0 0 0 u.2.1 u.2.2 (fun _ => 0) (fun _ => none) []) (A)) (([.ref x, .int l0, .int c0] : List Value).toArray) s 4 509 A) (F0 m 52 ls []) := by
    intro n
    induction n with
    | zero => intro i g H locs ls hi hn hg hP hD hS hl; exact absurd hn (Nat.not_lt_zero _)
    | succ n ih =>
      intro i g H locs ls hi hn hg hP hD hS hl
      refine lv_iload_n hx hb dX2_init_52 rfl (lv_at hl 3 rfl) ?_
      refine lv_sipush (v := 256) hx hb dX2_init_53 (by decide +kernel) ?_
      refine lv_icmp_ge (tgt := 72) hx hb dX2_init_56 (by decide) (fun c_56 => ?_) (fun c_56 => ?_)
      ·
        have hie : 256 = i := by have := (nI_leI (a := 256) (by decide) (by omega)).mp c_56; omega
        subst hie
        refine lv_aload_n hx hb dX2_init_72 rfl (lv_at hl 0 rfl) ?_
        refine lv_sipush (v := 200) hx hb dX2_init_73 (by decide +kernel) ?_
        refine va_newa (atype := .int) (ty := .int) hx hb (hts (.arrayClass .int) (by decide +kernel)) rfl hK.1 hP hD hS hA (n := 200) (N' := 200) (a0 := (200, .inl (fun _ => 0))) (fun _ => rfl) (by decide) (by decide) (by decide) (by show 2 + 1 ≤ 4; omega) (by show 269 + 200 ≤ 509; omega) dX2_init_76 (fun aR cA H hK2 hP hD hS => ?_)
        rw [show cA = cI from kI hK2] at hP hD
        have hP : va_P D vwCl ([(x, .inr (3, [.int (nI L), .int (nI C), .ref aC, .ref aT, .null, .int 0, .null, .int 0, .int 0, .int 0, .int 0, .int 0, .int 0, .int 0, .int 0, .int 0])), (aC, .inl (cI, 13, .inl u_38)), (aT, .inl (cI, 256, .inl g)), (aR, .inl (cI, 200, .inl (fun _ => 0)))]) H := hP
        have hD : va_D A ([(x, .inr (3, [.int (nI L), .int (nI C), .ref aC, .ref aT, .null, .int 0, .null, .int 0, .int 0, .int 0, .int 0, .int 0, .int 0, .int 0, .int 0, .int 0])), (aC, .inl (cI, 13, .inl u_38)), (aT, .inl (cI, 256, .inl g)), (aR, .inl (cI, 200, .inl (fun _ => 0)))]) := hD
        refine W.widen (k := 3) (n := 469) (by omega) (by omega) ?_
        refine va_putF (D := D) (ci := 3) (v := .ref aR) (ty := .array .int) (C := RX2) (T := TX2) (N := 16) hx hb hts hinX2 tyX2 tyX2_ok nmX2 hown hK.1 hP hD hS 0 rfl rfl 4 (by decide) (hts (.fieldLink RX2 33 "PrinterRows" "record" "[I") (by decide +kernel)) (fun _ h9 => h9) rfl hin rfl (by decide +kernel) rfl rfl (Nat.le_of_ble_eq_true rfl) dX2_init_78 (fun H locs hP hD hS => ?_)
        have hP : va_P D vwCl ([(x, .inr (3, [.int (nI L), .int (nI C), .ref aC, .ref aT, .ref aR, .int 0, .null, .int 0, .int 0, .int 0, .int 0, .int 0, .int 0, .int 0, .int 0, .int 0])), (aC, .inl (cI, 13, .inl u_38)), (aT, .inl (cI, 256, .inl g)), (aR, .inl (cI, 200, .inl (fun _ => 0)))]) H := hP
        have hD : va_D A ([(x, .inr (3, [.int (nI L), .int (nI C), .ref aC, .ref aT, .ref aR, .int 0, .null, .int 0, .int 0, .int 0, .int 0, .int 0, .int 0, .int 0, .int 0, .int 0])), (aC, .inl (cI, 13, .inl u_38)), (aT, .inl (cI, 256, .inl g)), (aR, .inl (cI, 200, .inl (fun _ => 0)))]) := hD
        refine lv_aload_n hx hb dX2_init_81 rfl (lv_at hl 0 rfl) ?_
        refine lv_bipush (v := 40) hx hb dX2_init_82 (by decide +kernel) ?_
        refine va_newq (C := "PrinterRows$Page") hx hb hown (hts (.classLink RX2 36 RX0) (by decide +kernel)) hK.2.1 hK.1 hP hD hS hA (n := 40) (N' := 40) (by decide) (by decide) (by decide) (by show 3 + 1 ≤ 4; omega) (by show 469 + 40 ≤ 509; omega) dX2_init_84 (fun aP cA H hK2 hP hD hS => ?_)
        rw [show cA = cP from kP hK2] at hP hD
        have hP : va_P D vwCl ([(x, .inr (3, [.int (nI L), .int (nI C), .ref aC, .ref aT, .ref aR, .int 0, .null, .int 0, .int 0, .int 0, .int 0, .int 0, .int 0, .int 0, .int 0, .int 0])), (aC, .inl (cI, 13, .inl u_38)), (aT, .inl (cI, 256, .inl g)), (aR, .inl (cI, 200, .inl (fun _ => 0))), (aP, .inl (cP, 40, .inr (.inr (.inr (.inr (fun _ => none))))))]) H := hP
        have hD : va_D A ([(x, .inr (3, [.int (nI L), .int (nI C), .ref aC, .ref aT, .ref aR, .int 0, .null, .int 0, .int 0, .int 0, .int 0, .int 0, .int 0, .int 0, .int 0, .int 0])), (aC, .inl (cI, 13, .inl u_38)), (aT, .inl (cI, 256, .inl g)), (aR, .inl (cI, 200, .inl (fun _ => 0))), (aP, .inl (cP, 40, .inr (.inr (.inr (.inr (fun _ => none))))))]) := hD
        refine W.widen (k := 4) (n := 509) (by omega) (by omega) ?_
        refine va_putF (D := D) (ci := 3) (v := .ref aP) (ty := .array (.object "PrinterRows$Page")) (C := RX2) (T := TX2) (N := 16) hx hb hts hinX2 tyX2 tyX2_ok nmX2 hown hK.1 hP hD hS 0 rfl rfl 6 (by decide) (hts (.fieldLink RX2 38 "PrinterRows" "pages" "[LPrinterRows$Page;") (by decide +kernel)) (fun _ h9 => h9) rfl hin rfl (by decide +kernel) rfl rfl (Nat.le_of_ble_eq_true rfl) dX2_init_87 (fun H locs hP hD hS => ?_)
        have hP : va_P D vwCl ([(x, .inr (3, [.int (nI L), .int (nI C), .ref aC, .ref aT, .ref aR, .int 0, .ref aP, .int 0, .int 0, .int 0, .int 0, .int 0, .int 0, .int 0, .int 0, .int 0])), (aC, .inl (cI, 13, .inl u_38)), (aT, .inl (cI, 256, .inl g)), (aR, .inl (cI, 200, .inl (fun _ => 0))), (aP, .inl (cP, 40, .inr (.inr (.inr (.inr (fun _ => none))))))]) H := hP
        have hD : va_D A ([(x, .inr (3, [.int (nI L), .int (nI C), .ref aC, .ref aT, .ref aR, .int 0, .ref aP, .int 0, .int 0, .int 0, .int 0, .int 0, .int 0, .int 0, .int 0, .int 0])), (aC, .inl (cI, 13, .inl u_38)), (aT, .inl (cI, 256, .inl g)), (aR, .inl (cI, 200, .inl (fun _ => 0))), (aP, .inl (cP, 40, .inr (.inr (.inr (.inr (fun _ => none))))))]) := hD
        refine W.widen (k := 4) (n := 509) (by omega) (by omega) ?_
        exact W.vret hx hb hr (fun t ht hW => ⟨⟨((aC, aT, aR, aP), u_38, g), rfl, ⟨w_38, hg⟩, by rw [ht]; exact hP, hD⟩, hS.F ht⟩) hS.2.2 dX2_init_90
      ·
        have hlt : i < 256 := Nat.lt_of_not_le (fun h9 => c_56 (nI_le (a := 256) h9 (by omega)))
        refine lv_aload_n hx hb dX2_init_59 rfl (lv_at hl 0 rfl) ?_
        refine va_get (D := D) (ci := 3) (v := .ref aT) (C := RX2) (T := TX2) (N := 16) hx hb hts hinX2 hown hK.1 hP 0 rfl rfl 3 (by decide) (hts (.fieldLink RX2 30 "PrinterRows" "printedAs" "[I") (by decide +kernel)) (fun _ h9 => h9) rfl dX2_init_60 ?_
        refine lv_iload_n hx hb dX2_init_63 rfl (lv_at hl 3 rfl) ?_
        refine lv_iload_n hx hb dX2_init_64 rfl (lv_at hl 3 rfl) ?_
        refine va_iast hx hb hK.1 hP hD hS 2 0 rfl rfl (vp_in_nI hlt (by decide)) dX2_init_65 (fun H locs hP hD hS => ?_)
        rw [show (upd g ((nI i)).toNatClampNeg (nI i)) = (upd g i (nI i)) from by rw [nI_clamp (by omega)]] at hP hD
        have hP : va_P D vwCl ([(x, .inr (3, [.int (nI L), .int (nI C), .ref aC, .ref aT, .null, .int 0, .null, .int 0, .int 0, .int 0, .int 0, .int 0, .int 0, .int 0, .int 0, .int 0])), (aC, .inl (cI, 13, .inl u_38)), (aT, .inl (cI, 256, .inl (upd g i (nI i))))]) H := hP
        have hD : va_D A ([(x, .inr (3, [.int (nI L), .int (nI C), .ref aC, .ref aT, .null, .int 0, .null, .int 0, .int 0, .int 0, .int 0, .int 0, .int 0, .int 0, .int 0, .int 0])), (aC, .inl (cI, 13, .inl u_38)), (aT, .inl (cI, 256, .inl (upd g i (nI i))))]) := hD
        refine lv_iinc (v := (nI (i + 1))) (lv' := [(3, .int (nI (i + 1))), (0, .ref x), (1, .int l0), (2, .int c0)]) hx hb dX2_init_66 hl (k := 3) rfl (nI_1 i) (by decide) rfl (fun ls hl => ?_)
        refine lv_goto (tgt := 52) hx hb dX2_init_69 (by decide) ?_
        exact ih (i + 1) _ _ _ _ (by omega) (by omega) (id_step hg) hP hD hS (lv_sub hl [1, 2, 3, 0] rfl)
  exact loop 257 0 (fun _ => 0) _ _ _ (Nat.zero_le _) (by omega) (fun j hj => absurd hj (Nat.not_lt_zero j)) hP hD hS (lv_sub hl [1, 2, 3, 0] rfl)
