/-! the reference: skip and line -/
theorem upd_id {f : Nat → Int32} {k : Nat} {x : Int32} (h : f k = x) : upd f k x = f := by
  funext j
  unfold upd
  by_cases e : j = k
  · rw [if_pos e, e, h]
  · rw [if_neg e]
theorem isSk_iff {c : Int32} : isSk c = true ↔ (256 ≤ c.toInt ∧ c.toInt ≤ 259) ∨ (273 ≤ c.toInt ∧ c.toInt ≤ 284) := by
  have e256 : (256 : Int32).toInt = 256 := rfl
  have e259 : (259 : Int32).toInt = 259 := rfl
  have e272 : (272 : Int32).toInt = 272 := rfl
  have hc := i32 c
  have hp : isPl c = true ↔ 256 ≤ c.toInt ∧ c.toInt ≤ 259 := by
    unfold isPl
    by_cases h1 : c < 256
    · rw [if_pos h1]; have := i32_lt.mp h1; exact ⟨fun h => (by cases h), fun h => (by omega)⟩
    · rw [if_neg h1]
      have h1' := i32_nlt h1
      by_cases h2 : 259 < c
      · rw [if_pos h2]; have := i32_lt.mp h2; exact ⟨fun h => (by cases h), fun h => (by omega)⟩
      · rw [if_neg h2]; have h2' := i32_nlt h2; exact ⟨fun _ => by omega, fun _ => rfl⟩
  have hh : isCh (c - 272) = true ↔ 273 ≤ c.toInt ∧ c.toInt ≤ 284 := by
    rw [isCh_iff]
    have h9 := i32 (c - 272)
    constructor <;> intro h <;> rcases i32_sub c 272 with e | e | e <;> rw [e272] at e <;> omega
  unfold isSk
  by_cases q : zb (isPl c) = 0
  · rw [if_pos q, hh]
    have q2 : ¬ (256 ≤ c.toInt ∧ c.toInt ≤ 259) := fun z => by have := hp.mpr z; rw [zb0.mp q] at this; cases this
    exact ⟨fun h => Or.inr h, fun h => h.elim (fun z => absurd z q2) id⟩
  · rw [if_neg q]
    exact ⟨fun _ => Or.inl (hp.mp (zb1.mp q)), fun _ => rfl⟩
theorem isPl_iff {c : Int32} : isPl c = true ↔ 256 ≤ c.toInt ∧ c.toInt ≤ 259 := by
  have e256 : (256 : Int32).toInt = 256 := rfl
  have e259 : (259 : Int32).toInt = 259 := rfl
  unfold isPl
  by_cases h1 : c < 256
  · rw [if_pos h1]; have := i32_lt.mp h1; exact ⟨fun h => (by cases h), fun h => (by omega)⟩
  · rw [if_neg h1]
    have h1' := i32_nlt h1
    by_cases h2 : 259 < c
    · rw [if_pos h2]; have := i32_lt.mp h2; exact ⟨fun h => (by cases h), fun h => (by omega)⟩
    · rw [if_neg h2]; have h2' := i32_nlt h2; exact ⟨fun _ => by omega, fun _ => rfl⟩
theorem isSk_no {c : Int32} (h : ¬ ((256 ≤ c.toInt ∧ c.toInt ≤ 259) ∨ (273 ≤ c.toInt ∧ c.toInt ≤ 284))) : isSk c = false := by
  cases h9 : isSk c with
  | false => rfl
  | true => exact absurd (isSk_iff.mp h9) h
theorem isSk_first {c : Int32} (h : isSk c = false) : zb (isPl c) = 0 ∧ ¬ (273 ≤ c.toInt ∧ c.toInt ≤ 284) := by
  refine ⟨?_, fun z => by rw [isSk_iff.mpr (Or.inr z)] at h; cases h⟩
  cases h9 : isPl c with
  | false => rfl
  | true => rw [isSk_iff.mpr (Or.inl (isPl_iff.mp h9))] at h; cases h
theorem coN_le {c : Int32} (h : coN c ≤ 0) : zb (isCh (chOf c)) = 0 := by
  by_cases q : zb (isCh (chOf c)) = 0
  · exact q
  · exfalso
    have h1 := isCh_iff.mp (zb1.mp q)
    unfold coN at h
    rw [if_neg q, i32_le] at h
    have : (0 : Int32).toInt = 0 := rfl
    omega
theorem coN_gt {c : Int32} (h : ¬ coN c ≤ 0) : ¬ zb (isCh (chOf c)) = 0 ∧ coN c = chOf c := by
  by_cases q : zb (isCh (chOf c)) = 0
  · exfalso
    unfold coN at h
    rw [if_pos q] at h
    exact h (by decide)
  · exact ⟨q, by unfold coN; rw [if_neg q]⟩
theorem bgB_pos {bg : Nat} {on : Bool} (h : on = true → 0 < bg) : 0 < bgB bg on := by
  cases on
  · exact Nat.succ_pos _
  · exact h rfl
theorem bgB_ge (bg : Nat) (on : Bool) : bg ≤ bgB bg on := by
  cases on
  · exact Nat.le_succ _
  · exact Nat.le_refl _
theorem bgB_up (bg : Nat) (on : Bool) : bgB bg on ≤ bg + 1 := by
  cases on
  · exact Nat.le_refl _
  · exact Nat.le_succ _

set_option maxHeartbeats 1000000 in
set_option maxRecDepth 100000 in
theorem c_X3_skip (l : Launch) {D : va_G} {cI cP cR cJ : ClassId} {m0 mS mC mT mR mA L C rl bg st tp tl : Nat} {on tb : Bool} {th mk : Int32} {sg ch tr rc ta : Nat → Int32} {sz : Nat} (hL0 : 0 < L) (hL : L ≤ 66) (hC : C ≤ 132) (hst : st < L) (hbg : bg ≤ 40) (hon : on = true → 0 < bg) (hch : ∀ k, 1 ≤ k → k ≤ 12 → chOK L (ch k)) (c0 : Int32) : Met l yX3_skip wsX3_skip ({ frames := 1, cells := 0, slots := 0, locals := 22 }) (mu [.ref m0, .int c0] D cI cP cR cJ (wM cI m0 mS mC mT mR mA th (nI L) (nI C) (nI rl) (nI bg) (nI st) mk (zb on) (nI tp) (nI tl) (zb tb) sg ch tr rc ta) sz) (qi D (fun (r : Int32) (u : (Nat → Int32) × (Nat → Int32) × (Nat × Nat × Bool) × (Nat × Nat × Bool)) => r = skR L st ch bg on c0 ∧ u.2.2.1 = (if skO L st ch bg on c0 then skT L st ch bg on c0 else (bg, st, on)) ∧ u.2.1 = (if skO L st ch bg on c0 then upd ta 5 (skN ch (ta 5) c0) else ta) ∧ u.1 = (if skO L st ch bg on c0 then stG bg (skT L st ch bg on c0).1 sg else sg)) (fun u : (Nat → Int32) × (Nat → Int32) × (Nat × Nat × Bool) × (Nat × Nat × Bool) => wM cI m0 mS mC mT mR mA 0 (nI L) (nI C) (nI rl) (nI u.2.2.1.1) (nI u.2.2.1.2.1) mk (zb u.2.2.1.2.2) (nI u.2.2.2.1) (nI u.2.2.2.2.1) (zb u.2.2.2.2.2) u.1 ch tr rc u.2.1) (va_A (wM cI m0 mS mC mT mR mA th (nI L) (nI C) (nI rl) (nI bg) (nI st) mk (zb on) (nI tp) (nI tl) (zb tb) sg ch tr rc ta) sz)) 0 0 (va_A (wM cI m0 mS mC mT mR mA th (nI L) (nI C) (nI rl) (nI bg) (nI st) mk (zb on) (nI tp) (nI tl) (zb tb) sg ch tr rc ta) sz) := by
  refine Met.ofW (cc := cX3_skip) (maxL := 3) (ret := (some .int)) (by decide) rfl ?_
  intro p e s m args below meth c s₁ B hml hv
  obtain ⟨rfl, hsz, hP, hK, hD0⟩ := hv
  have hx := B.exec
  have hb := B.bytes
  have hr := B.returns
  have hts := atoms_spec (ws := wsX3_skip) B.pre
  have hown : s.vm.findClass RX3 = some m.cls := findClass_of_methodNamed B.named
  have hlocks := B.notSynchronized
  have hinX3 : ∀ w ∈ wsX30, w ∈ wsX3_skip := by decide +kernel
  subst hsz
  have hD := hD0.self (sz := s.heap.size)
  generalize hAe : va_A (wM cI m0 mS mC mT mR mA th (nI L) (nI C) (nI rl) (nI bg) (nI st) mk (zb on) (nI tp) (nI tl) (zb tb) sg ch tr rc ta) s.heap.size = A at hD ⊢
  have hA : ∀ q : Nat, s.heap.size ≤ q → A q := fun q h => by rw [← hAe]; exact Or.inr h
  have hS : va_S A s.heap s.heap [] := va_S.rf
  have hP : va_P D vwCl (wM cI m0 mS mC mT mR mA th (nI L) (nI C) (nI rl) (nI bg) (nI st) mk (zb on) (nI tp) (nI tl) (zb tb) sg ch tr rc ta) s.heap := hP
  have hl := lv_entry ([.ref m0, .int c0]) (n := 3) (Nat.le_of_ble_eq_true rfl)
  rw [lg_entry_eq]
  generalize (lg_sl ([.ref m0, .int c0]) ++ List.replicate (3 - (lg_sl ([.ref m0, .int c0])).length) Slot.unset).toArray = ls at hl ⊢
  have hl : lv_has ls 3 [(0, .ref m0), (1, .int c0)] := hl
  refine lv_aload_n hx hb dX3_skip_0 rfl (lv_at hl 0 rfl) ?_
  refine lv_iconst (v := 0) hx hb dX3_skip_1 (by decide +kernel) ?_
  refine va_put (D := D) (ci := 4) (v := .int 0) (ty := .int) (C := RX3) (T := TX3) (N := 16) hx hb hts hinX3 tyX3 tyX3_ok nmX3 hown hK.1 hP hD hS 0 rfl rfl 0 (by decide) (hts (.fieldLink RX3 33 "PrinterRowsModel" "thrown" "I") (by decide +kernel)) (fun _ h9 => h9) rfl (by decide +kernel) rfl rfl (Nat.le_of_ble_eq_true rfl) dX3_skip_2 (fun H locs hP hD hS => ?_)
  have hP : va_P D vwCl (wM cI m0 mS mC mT mR mA 0 (nI L) (nI C) (nI rl) (nI bg) (nI st) mk (zb on) (nI tp) (nI tl) (zb tb) sg ch tr rc ta) H := hP
  have hD : va_D A (wM cI m0 mS mC mT mR mA 0 (nI L) (nI C) (nI rl) (nI bg) (nI st) mk (zb on) (nI tp) (nI tl) (zb tb) sg ch tr rc ta) := hD
  refine lv_iload_n hx hb dX3_skip_5 rfl (lv_at hl 1 rfl) ?_
  refine lv_iconst (v := 1) hx hb dX3_skip_6 (by decide +kernel) ?_
  refine lv_icmp_lt (tgt := 16) hx hb dX3_skip_7 (by decide) (fun c_7 => ?_) (fun c_7 => ?_)
  ·
    refine lv_iconst (v := 0) hx hb dX3_skip_16 (by decide +kernel) ?_
    exact W.iret (v := 0) hx hb hr (fun t ht hW => ⟨⟨_, (sg, ta, (bg, st, on), (tp, tl, tb)), rfl, ⟨by rw [skR, isCh, if_pos c_7]; rfl, by rw [skO, isCh, if_pos c_7]; rfl, by rw [skO, isCh, if_pos c_7]; rfl, by rw [skO, isCh, if_pos c_7]; rfl⟩, by rw [ht]; exact hP, hD⟩, hS.F ht⟩) hS.2.2 dX3_skip_17
  ·
    refine lv_iload_n hx hb dX3_skip_10 rfl (lv_at hl 1 rfl) ?_
    refine lv_bipush (v := 12) hx hb dX3_skip_11 (by decide +kernel) ?_
    refine lv_icmp_le (tgt := 18) hx hb dX3_skip_13 (by decide) (fun c_13 => ?_) (fun c_13 => ?_)
    ·
      have hic : ¬ zb (isCh c0) = 0 := by rw [isCh, if_neg c_7, if_neg (fun h9 => by have h8 := i32_lt.mp h9; have h7 := i32_le.mp c_13; omega)]; decide
      have hwl : (wyN L st (ch c0.toNatClampNeg)) ≤ 66 := by
        obtain ⟨k9, h7, h8, h9⟩ := isCh_nI (zb1.mp hic)
        rw [h9, nI_clamp (by omega)]
        exact Nat.le_trans (wyN_le hst hL (hch k9 h7 h8)) hL
      refine lv_aload_n hx hb dX3_skip_18 rfl (lv_at hl 0 rfl) ?_
      refine callQv (va_runV (As := []) (rest := []) ⟨hx, hb, hml, hown, hts⟩ (c_X3_tries l) (cwV 0 hts gX3_skip_X3_tries rfl rfl rfl (by decide +kernel) ⟨(Nat.le_of_ble_eq_true rfl), (Nat.le_of_ble_eq_true rfl)⟩) (mu_pre hK hP hD rfl 0 rfl) rfl rfl hl.1 rfl (lv_room (Nat.le_of_ble_eq_true rfl)) dX3_skip_19 ⟨(Nat.le_of_ble_eq_true rfl), (Nat.le_of_ble_eq_true rfl)⟩) hD hS hA (fun u_19 H locs w_19 hP hD hS => ?_)
      have hP : va_P D vwCl (wM cI m0 mS mC mT mR mA 0 (nI L) (nI C) (nI rl) (nI bg) (nI st) mk (zb on) (nI bg) (nI st) (zb on) sg ch tr rc ta) H := hP
      have hD : va_D A (wM cI m0 mS mC mT mR mA 0 (nI L) (nI C) (nI rl) (nI bg) (nI st) mk (zb on) (nI bg) (nI st) (zb on) sg ch tr rc ta) := hD
      refine lv_aload_n hx hb dX3_skip_22 rfl (lv_at hl 0 rfl) ?_
      refine lv_iload_n hx hb dX3_skip_23 rfl (lv_at hl 1 rfl) ?_
      refine vp_callSi (W.runV (As := [.int c0]) (rest := []) ⟨hx, hb, hml, hown, hts⟩ (c_X3_wayI l hL0 hL hst hch c0 (zb1.mp hic)) (cwV 1 hts gX3_skip_X3_way rfl rfl rfl (by decide +kernel) ⟨(Nat.le_of_ble_eq_true rfl), (Nat.le_of_ble_eq_true rfl)⟩) (ro_pre hK hP rfl 0 rfl) rfl rfl hl.1 rfl (lv_room (Nat.le_of_ble_eq_true rfl)) dX3_skip_24 ⟨(Nat.le_of_ble_eq_true rfl), (Nat.le_of_ble_eq_true rfl)⟩) (fun r_24 w_24 => ?_)
      subst w_24
      refine lv_istore_n (lv' := [(2, .int (nI (wyN L st (ch c0.toNatClampNeg)))), (0, .ref m0), (1, .int c0)]) hx hb dX3_skip_27 rfl hl (by decide) rfl (fun ls hl => ?_)
      refine lv_aload_n hx hb dX3_skip_28 rfl (lv_at hl 1 rfl) ?_
      refine lv_iload_n hx hb dX3_skip_29 rfl (lv_at hl 0 rfl) ?_
      refine callQv (va_runV (As := [.int (nI (wyN L st (ch c0.toNatClampNeg)))]) (rest := []) ⟨hx, hb, hml, hown, hts⟩ (c_X3_move l hL0 hL hst (by omega) (wyN L st (ch c0.toNatClampNeg)) hwl) (cwV 1 hts gX3_skip_X3_move rfl rfl rfl (by decide +kernel) ⟨(Nat.le_of_ble_eq_true rfl), (Nat.le_of_ble_eq_true rfl)⟩) (mu_pre hK hP hD rfl 0 rfl) rfl rfl hl.1 rfl (lv_room (Nat.le_of_ble_eq_true rfl)) dX3_skip_30 ⟨(Nat.le_of_ble_eq_true rfl), (Nat.le_of_ble_eq_true rfl)⟩) hD hS hA (fun u_30 H locs w_30 hP hD hS => ?_)
      obtain ⟨t1, t2, t3⟩ := u_30
      have hT : (t1, t2, t3) = skT L st ch bg on c0 := w_30
      have hP : va_P D vwCl (wM cI m0 mS mC mT mR mA 0 (nI L) (nI C) (nI rl) (nI bg) (nI st) mk (zb on) (nI t1) (nI t2) (zb t3) sg ch tr rc ta) H := hP
      have hD : va_D A (wM cI m0 mS mC mT mR mA 0 (nI L) (nI C) (nI rl) (nI bg) (nI st) mk (zb on) (nI t1) (nI t2) (zb t3) sg ch tr rc ta) := hD
      have hT1 : (skT L st ch bg on c0).1 = t1 := by rw [← hT]
      have ht1 : bg ≤ t1 ∧ t1 ≤ 106 := by
        have h8 := mvn_le (L := L) (Nat.zero_le (wyN L st (ch c0.toNatClampNeg))) (bg, st, on)
        have h9 := mvn_up (L := L) (wyN L st (ch c0.toNatClampNeg)) (bg, st, on)
        rw [show mvn L (wyN L st (ch c0.toNatClampNeg)) (bg, st, on) = (t1, t2, t3) from hT.symm] at h8 h9
        dsimp only [mvn] at h8 h9
        omega
      refine lv_aload_n hx hb dX3_skip_33 rfl (lv_at hl 1 rfl) ?_
      refine va_get (D := D) (ci := 4) (v := .int (nI t1)) (C := RX3) (T := TX3) (N := 16) hx hb hts hinX3 hown hK.1 hP 0 rfl rfl 13 (by decide) (hts (.fieldLink RX3 42 "PrinterRowsModel" "trialPages" "I") (by decide +kernel)) (fun _ h9 => h9) rfl dX3_skip_34 ?_
      refine lv_bipush (v := 40) hx hb dX3_skip_37 (by decide +kernel) ?_
      refine lv_icmp_le (tgt := 45) hx hb dX3_skip_39 (by decide) (fun c_39 => ?_) (fun c_39 => ?_)
      ·
        have hfit : t1 ≤ 40 := (nI_leI (b := 40) (by omega) (by decide)).mp c_39
        have hok : skO L st ch bg on c0 = true := by rw [skO, if_neg hic, hT1, decide_eq_true hfit]
        refine lv_aload_n hx hb dX3_skip_45 rfl (lv_at hl 1 rfl) ?_
        refine callQv (va_runV (As := []) (rest := []) ⟨hx, hb, hml, hown, hts⟩ (c_X3_settle l ht1.1 hfit) (cwV 0 hts gX3_skip_X3_settle rfl rfl rfl (by decide +kernel) ⟨(Nat.le_of_ble_eq_true rfl), (Nat.le_of_ble_eq_true rfl)⟩) (mu_pre hK hP hD rfl 0 rfl) rfl rfl hl.1 rfl (lv_room (Nat.le_of_ble_eq_true rfl)) dX3_skip_46 ⟨(Nat.le_of_ble_eq_true rfl), (Nat.le_of_ble_eq_true rfl)⟩) hD hS hA (fun u_46 H locs w_46 hP hD hS => ?_)
        subst w_46
        have hP : va_P D vwCl (wM cI m0 mS mC mT mR mA 0 (nI L) (nI C) (nI rl) (nI t1) (nI t2) mk (zb t3) (nI t1) (nI t2) (zb t3) (stG bg t1 sg) ch tr rc ta) H := hP
        have hD : va_D A (wM cI m0 mS mC mT mR mA 0 (nI L) (nI C) (nI rl) (nI t1) (nI t2) mk (zb t3) (nI t1) (nI t2) (zb t3) (stG bg t1 sg) ch tr rc ta) := hD
        refine lv_aload_n hx hb dX3_skip_49 rfl (lv_at hl 1 rfl) ?_
        refine va_get (D := D) (ci := 4) (v := .ref mC) (C := RX3) (T := TX3) (N := 16) hx hb hts hinX3 hown hK.1 hP 0 rfl rfl 4 (by decide) (hts (.fieldLink RX3 14 "PrinterRowsModel" "channels" "[I") (by decide +kernel)) (fun _ h9 => h9) rfl dX3_skip_50 ?_
        refine lv_iload_n hx hb dX3_skip_53 rfl (lv_at hl 2 rfl) ?_
        refine va_iald hx hb hK.1 hP 2 0 rfl rfl (isCh_in hic) dX3_skip_54 ?_
        refine lv_iconst (v := (-1)) hx hb dX3_skip_55 (by decide +kernel) ?_
        refine lv_icmp_eq (tgt := 61) hx hb dX3_skip_56 (by decide) (fun c_56 => ?_) (fun c_56 => ?_)
        ·
          refine lv_aload_n hx hb dX3_skip_61 rfl (lv_at hl 1 rfl) ?_
          refine va_get (D := D) (ci := 4) (v := .ref mA) (C := RX3) (T := TX3) (N := 16) hx hb hts hinX3 hown hK.1 hP 0 rfl rfl 7 (by decide) (hts (.fieldLink RX3 23 "PrinterRowsModel" "tallies" "[I") (by decide +kernel)) (fun _ h9 => h9) rfl dX3_skip_62 ?_
          refine lv_iconst (v := 5) hx hb dX3_skip_65 (by decide +kernel) ?_
          refine lv_dup2_11 hx hb dX3_skip_66 rfl rfl ?_
          refine va_iald hx hb hK.1 hP 5 0 rfl rfl (vp_in_iff.mpr (by decide +kernel)) dX3_skip_67 ?_
          refine lv_topi (fun x_67 ex_67 => ?_)
          obtain rfl : x_67 = (ta 5) := ex_67
          refine lv_iconst (v := 1) hx hb dX3_skip_68 (by decide +kernel) ?_
          refine lv_iadd hx hb dX3_skip_69 ?_
          refine va_iast hx hb hK.1 hP hD hS 5 0 rfl rfl (vp_in_iff.mpr (by decide +kernel)) dX3_skip_70 (fun H locs hP hD hS => ?_)
          rw [show (upd ta (5 : Int32).toNatClampNeg ((ta 5) + 1)) = (upd ta 5 (ta 5 + 1)) from rfl] at hP hD
          have hP : va_P D vwCl (wM cI m0 mS mC mT mR mA 0 (nI L) (nI C) (nI rl) (nI t1) (nI t2) mk (zb t3) (nI t1) (nI t2) (zb t3) (stG bg t1 sg) ch tr rc (upd ta 5 (ta 5 + 1))) H := hP
          have hD : va_D A (wM cI m0 mS mC mT mR mA 0 (nI L) (nI C) (nI rl) (nI t1) (nI t2) mk (zb t3) (nI t1) (nI t2) (zb t3) (stG bg t1 sg) ch tr rc (upd ta 5 (ta 5 + 1))) := hD
          refine lv_iconst (v := (-1)) hx hb dX3_skip_71 (by decide +kernel) ?_
          exact W.iret (v := (-1)) hx hb hr (fun t ht hW => ⟨⟨_, (stG bg t1 sg, upd ta 5 (ta 5 + 1), (t1, t2, t3), (t1, t2, t3)), rfl, ⟨by rw [skR, if_neg hic, hT1, if_pos hfit, if_neg (fun h9 => h9 c_56)], by rw [hok]; exact hT, by rw [hok, if_pos rfl, skN, if_neg hic, if_neg (fun h9 => h9 c_56)], by rw [hok, hT1]; rfl⟩, by rw [ht]; exact hP, hD⟩, hS.F ht⟩) hS.2.2 dX3_skip_72
        ·
          refine lv_iload_n hx hb dX3_skip_59 rfl (lv_at hl 0 rfl) ?_
          exact W.iret (v := (nI (wyN L st (ch c0.toNatClampNeg)))) hx hb hr (fun t ht hW => ⟨⟨_, (stG bg t1 sg, ta, (t1, t2, t3), (t1, t2, t3)), rfl, ⟨by rw [skR, if_neg hic, hT1, if_pos hfit, if_pos c_56], by rw [hok]; exact hT, by rw [hok, if_pos rfl, skN, if_neg hic, if_pos c_56, upd_id rfl], by rw [hok, hT1]; rfl⟩, by rw [ht]; exact hP, hD⟩, hS.F ht⟩) hS.2.2 dX3_skip_60
      ·
        have hfit : ¬ t1 ≤ 40 := fun h9 => c_39 (nI_le (b := 40) h9 (by decide))
        have hok : skO L st ch bg on c0 = false := by rw [skO, if_neg hic, hT1, decide_eq_false hfit]
        refine lv_bipush (v := (-6)) hx hb dX3_skip_42 (by decide +kernel) ?_
        exact W.iret (v := (-6)) hx hb hr (fun t ht hW => ⟨⟨_, (sg, ta, (bg, st, on), (t1, t2, t3)), rfl, ⟨by rw [skR, if_neg hic, hT1, if_neg hfit], by rw [hok]; rfl, by rw [hok]; rfl, by rw [hok]; rfl⟩, by rw [ht]; exact hP, hD⟩, hS.F ht⟩) hS.2.2 dX3_skip_44
    ·
      have hnc : zb (isCh c0) = 0 := by rw [isCh, if_neg c_7, if_pos (i32_lt.mpr (by have := i32_nle c_13; omega))]; rfl
      refine lv_iconst (v := 0) hx hb dX3_skip_16 (by decide +kernel) ?_
      exact W.iret (v := 0) hx hb hr (fun t ht hW => ⟨⟨_, (sg, ta, (bg, st, on), (tp, tl, tb)), rfl, ⟨by rw [skR, hnc]; rfl, by rw [skO, hnc]; rfl, by rw [skO, hnc]; rfl, by rw [skO, hnc]; rfl⟩, by rw [ht]; exact hP, hD⟩, hS.F ht⟩) hS.2.2 dX3_skip_17

theorem mvn_on {L : Nat} (n : Nat) (t : Nat × Nat × Bool) (h : (mvn L n t).2.2 = true) : t.2.2 = true := by
  induction n with
  | zero => exact h
  | succ n ih =>
    refine ih ?_
    have h' : (mv1 L (mvn L n t)).2.2 = true := h
    unfold mv1 at h'
    by_cases q : (mvn L n t).2.1 + 1 < L
    · rw [if_pos q] at h'; exact h'
    · rw [if_neg q] at h'; cases h'

set_option maxHeartbeats 1000000 in
set_option maxRecDepth 100000 in
theorem c_X3_line (l : Launch) {D : va_G} {cI cP cR cJ : ClassId} {m0 mS mC mT mR mA L C rl bg st tp tl : Nat} {on tb : Bool} {th mk : Int32} {sg ch tr rc ta : Nat → Int32} {sz : Nat} (hL0 : 0 < L) (hL : L ≤ 66) (hC : C ≤ 132) (hst : st < L) (hbg : bg ≤ 40) (hon : on = true → 0 < bg) (hch : ∀ k, 1 ≤ k → k ≤ 12 → chOK L (ch k)) (hrl : rl ≤ 200) (hrc : ∀ j, j < rl → isSg (rc j) = true) (c0 : Int32) (w : Nat) (hw : w = lwy L st ch c0) : Met l yX3_line wsX3_line ({ frames := 2, cells := 0, slots := 0, locals := 46 }) (mu [.ref m0, .int c0] D cI cP cR cJ (wM cI m0 mS mC mT mR mA th (nI L) (nI C) (nI rl) (nI bg) (nI st) mk (zb on) (nI tp) (nI tl) (zb tb) sg ch tr rc ta) sz) (qi D (fun (r : Int32) (u : (Nat → Int32) × (Nat → Int32) × (Nat × Nat × Bool) × Nat × (Nat × Nat × Bool)) => ((lnT L bg st on (isSk c0) w).1 ≤ 40 ∧ r = nI (lnT L bg st on (isSk c0) w).1 ∧ u.2.2.1 = (lnT L bg st on (isSk c0) w) ∧ u.2.2.2.1 = 0 ∧ u.1 = prG (8712 * lnQ L bg st on (isSk c0) w + 132 * lnI L bg st on (isSk c0) w) (min rl C) tr rc (stG bg (lnT L bg st on (isSk c0) w).1 sg) ∧ u.2.1 = upd (taP (upd ta 5 (skN ch (ta 5) (chOf c0))) (ta 3 + cS tr rc C rl) (ta 4 + cC C rl)) 2 (ta 2 + 1)) ∨ (¬ (lnT L bg st on (isSk c0) w).1 ≤ 40 ∧ r = -6 ∧ (u.1, u.2.1, u.2.2.1, u.2.2.2.1) = (sg, ta, (bg, st, on), rl))) (fun u : (Nat → Int32) × (Nat → Int32) × (Nat × Nat × Bool) × Nat × (Nat × Nat × Bool) => wM cI m0 mS mC mT mR mA 0 (nI L) (nI C) (nI u.2.2.2.1) (nI u.2.2.1.1) (nI u.2.2.1.2.1) mk (zb u.2.2.1.2.2) (nI u.2.2.2.2.1) (nI u.2.2.2.2.2.1) (zb u.2.2.2.2.2.2) u.1 ch tr rc u.2.1) (va_A (wM cI m0 mS mC mT mR mA th (nI L) (nI C) (nI rl) (nI bg) (nI st) mk (zb on) (nI tp) (nI tl) (zb tb) sg ch tr rc ta) sz)) 0 0 (va_A (wM cI m0 mS mC mT mR mA th (nI L) (nI C) (nI rl) (nI bg) (nI st) mk (zb on) (nI tp) (nI tl) (zb tb) sg ch tr rc ta) sz) := by
  refine Met.ofW (cc := cX3_line) (maxL := 6) (ret := (some .int)) (by decide) rfl ?_
  intro p e s m args below meth c s₁ B hml hv
  obtain ⟨rfl, hsz, hP, hK, hD0⟩ := hv
  have hx := B.exec
  have hb := B.bytes
  have hr := B.returns
  have hts := atoms_spec (ws := wsX3_line) B.pre
  have hown : s.vm.findClass RX3 = some m.cls := findClass_of_methodNamed B.named
  have hlocks := B.notSynchronized
  have hinX3 : ∀ w ∈ wsX30, w ∈ wsX3_line := by decide +kernel
  subst hsz
  have hD := hD0.self (sz := s.heap.size)
  generalize hAe : va_A (wM cI m0 mS mC mT mR mA th (nI L) (nI C) (nI rl) (nI bg) (nI st) mk (zb on) (nI tp) (nI tl) (zb tb) sg ch tr rc ta) s.heap.size = A at hD ⊢
  have hA : ∀ q : Nat, s.heap.size ≤ q → A q := fun q h => by rw [← hAe]; exact Or.inr h
  have hS : va_S A s.heap s.heap [] := va_S.rf
  have hP : va_P D vwCl (wM cI m0 mS mC mT mR mA th (nI L) (nI C) (nI rl) (nI bg) (nI st) mk (zb on) (nI tp) (nI tl) (zb tb) sg ch tr rc ta) s.heap := hP
  have hl := lv_entry ([.ref m0, .int c0]) (n := 6) (Nat.le_of_ble_eq_true rfl)
  rw [lg_entry_eq]
  generalize (lg_sl ([.ref m0, .int c0]) ++ List.replicate (6 - (lg_sl ([.ref m0, .int c0])).length) Slot.unset).toArray = ls at hl ⊢
  have hl : lv_has ls 6 [(0, .ref m0), (1, .int c0)] := hl
  have e256 : (256 : Int32).toInt = 256 := rfl
  have e259 : (259 : Int32).toInt = 259 := rfl
  have e273 : (273 : Int32).toInt = 273 := rfl
  have e284 : (284 : Int32).toInt = 284 := rfl
  have e260 : (260 : Int32).toInt = 260 := rfl
  have hwl : w ≤ 66 := by rw [hw]; exact lwy_le hst hL hch c0
  refine lv_aload_n hx hb dX3_line_0 rfl (lv_at hl 0 rfl) ?_
  refine lv_iconst (v := 0) hx hb dX3_line_1 (by decide +kernel) ?_
  refine va_put (D := D) (ci := 4) (v := .int 0) (ty := .int) (C := RX3) (T := TX3) (N := 16) hx hb hts hinX3 tyX3 tyX3_ok nmX3 hown hK.1 hP hD hS 0 rfl rfl 0 (by decide) (hts (.fieldLink RX3 33 "PrinterRowsModel" "thrown" "I") (by decide +kernel)) (fun _ h9 => h9) rfl (by decide +kernel) rfl rfl (Nat.le_of_ble_eq_true rfl) dX3_line_2 (fun H locs hP hD hS => ?_)
  have hP : va_P D vwCl (wM cI m0 mS mC mT mR mA 0 (nI L) (nI C) (nI rl) (nI bg) (nI st) mk (zb on) (nI tp) (nI tl) (zb tb) sg ch tr rc ta) H := hP
  have hD : va_D A (wM cI m0 mS mC mT mR mA 0 (nI L) (nI C) (nI rl) (nI bg) (nI st) mk (zb on) (nI tp) (nI tl) (zb tb) sg ch tr rc ta) := hD
  have k1 : ∀ (H : Heap) (locs : List Loc) (ls : Array Slot), (isSk c0 = true) → va_P D vwCl (wM cI m0 mS mC mT mR mA 0 (nI L) (nI C) (nI rl) (nI bg) (nI st) mk (zb on) (nI tp) (nI tl) (zb tb) sg ch tr rc ta) H → va_D A (wM cI m0 mS mC mT mR mA 0 (nI L) (nI C) (nI rl) (nI bg) (nI st) mk (zb on) (nI tp) (nI tl) (zb tb) sg ch tr rc ta) → va_S A s.heap H locs → lv_has ls 6 [(0, .ref m0), (1, .int c0), (2, .int 1)] → W p l e (headSpec wsX3_line ({ frames := 2, cells := 0, slots := 0, locals := 46 })).room s m (([.ref m0, .int c0] : List Value).toArray) below meth c H locs 0 0 (MQ below (qi D (fun (r : Int32) (u : (Nat → Int32) × (Nat → Int32) × (Nat × Nat × Bool) × Nat × (Nat × Nat × Bool)) => ((lnT L bg st on (isSk c0) w).1 ≤ 40 ∧ r = nI (lnT L bg st on (isSk c0) w).1 ∧ u.2.2.1 = (lnT L bg st on (isSk c0) w) ∧ u.2.2.2.1 = 0 ∧ u.1 = prG (8712 * lnQ L bg st on (isSk c0) w + 132 * lnI L bg st on (isSk c0) w) (min rl C) tr rc (stG bg (lnT L bg st on (isSk c0) w).1 sg) ∧ u.2.1 = upd (taP (upd ta 5 (skN ch (ta 5) (chOf c0))) (ta 3 + cS tr rc C rl) (ta 4 + cC C rl)) 2 (ta 2 + 1)) ∨ (¬ (lnT L bg st on (isSk c0) w).1 ≤ 40 ∧ r = -6 ∧ (u.1, u.2.1, u.2.2.1, u.2.2.2.1) = (sg, ta, (bg, st, on), rl))) (fun u : (Nat → Int32) × (Nat → Int32) × (Nat × Nat × Bool) × Nat × (Nat × Nat × Bool) => wM cI m0 mS mC mT mR mA 0 (nI L) (nI C) (nI u.2.2.2.1) (nI u.2.2.1.1) (nI u.2.2.1.2.1) mk (zb u.2.2.1.2.2) (nI u.2.2.2.2.1) (nI u.2.2.2.2.2.1) (zb u.2.2.2.2.2.2) u.1 ch tr rc u.2.1) (A)) (([.ref m0, .int c0] : List Value).toArray) s 0 0 A) (F0 m 39 ls []) := by
    intro H locs ls hsk hP hD hS hl
    refine lv_aload_n hx hb dX3_line_39 rfl (lv_at hl 0 rfl) ?_
    refine callQv (va_runV (As := []) (rest := []) ⟨hx, hb, hml, hown, hts⟩ (c_X3_tries l) (cwV 0 hts gX3_line_X3_tries rfl rfl rfl (by decide +kernel) ⟨(Nat.le_of_ble_eq_true rfl), (Nat.le_of_ble_eq_true rfl)⟩) (mu_pre hK hP hD rfl 0 rfl) rfl rfl hl.1 rfl (lv_room (Nat.le_of_ble_eq_true rfl)) dX3_line_40 ⟨(Nat.le_of_ble_eq_true rfl), (Nat.le_of_ble_eq_true rfl)⟩) hD hS hA (fun u_40 H locs w_40 hP hD hS => ?_)
    have hP : va_P D vwCl (wM cI m0 mS mC mT mR mA 0 (nI L) (nI C) (nI rl) (nI bg) (nI st) mk (zb on) (nI bg) (nI st) (zb on) sg ch tr rc ta) H := hP
    have hD : va_D A (wM cI m0 mS mC mT mR mA 0 (nI L) (nI C) (nI rl) (nI bg) (nI st) mk (zb on) (nI bg) (nI st) (zb on) sg ch tr rc ta) := hD
    refine lv_iload_n hx hb dX3_line_43 rfl (lv_at hl 2 rfl) ?_
    refine lv_if_ne (tgt := 56) hx hb dX3_line_44 (by decide) (fun c_44 => ?_) (fun c_44 => absurd c_44 (by decide))
    refine lv_aload_n hx hb dX3_line_56 rfl (lv_at hl 0 rfl) ?_
    refine callQv (va_runV (As := []) (rest := []) ⟨hx, hb, hml, hown, hts⟩ (c_X3_begin l) (cwV 0 hts gX3_line_X3_begin rfl rfl rfl (by decide +kernel) ⟨(Nat.le_of_ble_eq_true rfl), (Nat.le_of_ble_eq_true rfl)⟩) (mu_pre hK hP hD rfl 0 rfl) rfl rfl hl.1 rfl (lv_room (Nat.le_of_ble_eq_true rfl)) dX3_line_57 ⟨(Nat.le_of_ble_eq_true rfl), (Nat.le_of_ble_eq_true rfl)⟩) hD hS hA (fun u_57 H locs w_57 hP hD hS => ?_)
    have hP : va_P D vwCl (wM cI m0 mS mC mT mR mA 0 (nI L) (nI C) (nI rl) (nI bg) (nI st) mk (zb on) (nI (bgB bg on)) (nI st) (zb true) sg ch tr rc ta) H := hP
    have hD : va_D A (wM cI m0 mS mC mT mR mA 0 (nI L) (nI C) (nI rl) (nI bg) (nI st) mk (zb on) (nI (bgB bg on)) (nI st) (zb true) sg ch tr rc ta) := hD
    have hpp : 0 < bgB bg on := bgB_pos hon
    have hup : bgB bg on ≤ 41 := Nat.le_trans (bgB_up bg on) (by omega)
    refine lv_aload_n hx hb dX3_line_60 rfl (lv_at hl 0 rfl) ?_
    refine va_get (D := D) (ci := 4) (v := .int (nI (bgB bg on))) (C := RX3) (T := TX3) (N := 16) hx hb hts hinX3 hown hK.1 hP 0 rfl rfl 13 (by decide) (hts (.fieldLink RX3 42 "PrinterRowsModel" "trialPages" "I") (by decide +kernel)) (fun _ h9 => h9) rfl dX3_line_61 ?_
    refine lv_iconst (v := 1) hx hb dX3_line_64 (by decide +kernel) ?_
    refine lv_isub hx hb dX3_line_65 ?_
    refine lv_topi (fun x_65 ex_65 => ?_)
    obtain rfl : x_65 = nI ((bgB bg on) - 1) := ex_65.trans (sub1 hpp)
    refine lv_istore_n (lv' := [(3, .int (nI ((bgB bg on) - 1))), (0, .ref m0), (1, .int c0), (2, .int 1)]) hx hb dX3_line_66 rfl hl (by decide) rfl (fun ls hl => ?_)
    refine lv_aload_n hx hb dX3_line_67 rfl (lv_at hl 1 rfl) ?_
    refine va_get (D := D) (ci := 4) (v := .int (nI st)) (C := RX3) (T := TX3) (N := 16) hx hb hts hinX3 hown hK.1 hP 0 rfl rfl 14 (by decide) (hts (.fieldLink RX3 48 "PrinterRowsModel" "trialLine" "I") (by decide +kernel)) (fun _ h9 => h9) rfl dX3_line_68 ?_
    refine lv_istore (lv' := [(4, .int (nI st)), (3, .int (nI ((bgB bg on) - 1))), (0, .ref m0), (1, .int c0), (2, .int 1)]) hx hb dX3_line_71 hl (by decide) rfl (fun ls hl => ?_)
    refine lv_iload_n hx hb dX3_line_73 rfl (lv_at hl 4 rfl) ?_
    refine lv_if_eq (tgt := 105) hx hb dX3_line_74 (by decide) (fun c_74 => absurd c_74 (by decide)) (fun c_74 => ?_)
    refine lv_aload_n hx hb dX3_line_77 rfl (lv_at hl 2 rfl) ?_
    refine lv_iload_n hx hb dX3_line_78 rfl (lv_at hl 3 rfl) ?_
    refine lv_sipush (v := 260) hx hb dX3_line_79 (by decide +kernel) ?_
    refine lv_icmp_ge (tgt := 93) hx hb dX3_line_82 (by decide) (fun c_82 => ?_) (fun c_82 => ?_)
    ·
      refine lv_aload_n hx hb dX3_line_93 rfl (lv_at hl 2 rfl) ?_
      refine lv_iload_n hx hb dX3_line_94 rfl (lv_at hl 3 rfl) ?_
      refine lv_sipush (v := 272) hx hb dX3_line_95 (by decide +kernel) ?_
      refine lv_isub hx hb dX3_line_98 ?_
      have f_82 := i32_le.mp c_82
      have hcc : chOf c0 = c0 - 272 ∧ isCh (chOf c0) = true := by
        have h0 := isSk_iff.mp hsk
        rcases chOf_cases c0 with ⟨h1, h2, h3⟩ | ⟨h1, h2, h3⟩ | ⟨h1, h2, h3⟩ | ⟨h1, h2⟩
        · exfalso; omega
        · exfalso; omega
        · exact ⟨h2, isCh_iff.mpr (by omega)⟩
        · exfalso; omega
      rw [← hcc.1]
      refine vp_callSi (W.runV (As := [.int (chOf c0)]) (rest := [.ref m0]) ⟨hx, hb, hml, hown, hts⟩ (c_X3_wayI l hL0 hL hst hch (chOf c0) hcc.2) (cwV 1 hts gX3_line_X3_way rfl rfl rfl (by decide +kernel) ⟨(Nat.le_of_ble_eq_true rfl), (Nat.le_of_ble_eq_true rfl)⟩) (ro_pre hK hP rfl 0 rfl) rfl rfl hl.1 rfl (lv_room (Nat.le_of_ble_eq_true rfl)) dX3_line_99 ⟨(Nat.le_of_ble_eq_true rfl), (Nat.le_of_ble_eq_true rfl)⟩) (fun r_99 w_99 => ?_)
      subst w_99
      refine lv_topi (fun x_99 ex_99 => ?_)
      obtain rfl : x_99 = nI w := ex_99.trans (by rw [hw, lwy, if_neg (zb1.mpr hcc.2)])
      refine callQv (va_runV (As := [.int (nI w)]) (rest := []) ⟨hx, hb, hml, hown, hts⟩ (c_X3_move l hL0 hL hst (by omega) w hwl) (cwV 1 hts gX3_line_X3_move rfl rfl rfl (by decide +kernel) ⟨(Nat.le_of_ble_eq_true rfl), (Nat.le_of_ble_eq_true rfl)⟩) (mu_pre hK hP hD rfl 0 rfl) rfl rfl hl.1 rfl (lv_room (Nat.le_of_ble_eq_true rfl)) dX3_line_102 ⟨(Nat.le_of_ble_eq_true rfl), (Nat.le_of_ble_eq_true rfl)⟩) hD hS hA (fun u_102 H locs w_102 hP hD hS => ?_)
      obtain ⟨t1, t2, t3⟩ := u_102
      have hmv : (t1, t2, t3) = mvn L w (bgB bg on, st, true) := w_102
      have hP : va_P D vwCl (wM cI m0 mS mC mT mR mA 0 (nI L) (nI C) (nI rl) (nI bg) (nI st) mk (zb on) (nI t1) (nI t2) (zb t3) sg ch tr rc ta) H := hP
      have hD : va_D A (wM cI m0 mS mC mT mR mA 0 (nI L) (nI C) (nI rl) (nI bg) (nI st) mk (zb on) (nI t1) (nI t2) (zb t3) sg ch tr rc ta) := hD
      have ht1 : bgB bg on ≤ t1 ∧ t1 ≤ 107 := by
        have h8 := mvn_le (L := L) (Nat.zero_le w) (bgB bg on, st, true)
        have h9 := mvn_up (L := L) w (bgB bg on, st, true)
        rw [← hmv] at h8 h9
        dsimp only [mvn] at h8 h9
        omega
      have hT : (t1, t2, t3) = (lnT L bg st on (isSk c0) w) := by rw [lnT, hsk, if_pos rfl]; exact hmv
      have hT1 : (lnT L bg st on (isSk c0) w).1 = t1 := by rw [← hT]
      have hbt : bg ≤ t1 := Nat.le_trans (bgB_ge bg on) ht1.1
      refine lv_aload_n hx hb dX3_line_105 rfl (lv_at hl 2 rfl) ?_
      refine va_get (D := D) (ci := 4) (v := .int (nI t1)) (C := RX3) (T := TX3) (N := 16) hx hb hts hinX3 hown hK.1 hP 0 rfl rfl 13 (by decide) (hts (.fieldLink RX3 42 "PrinterRowsModel" "trialPages" "I") (by decide +kernel)) (fun _ h9 => h9) rfl dX3_line_106 ?_
      refine lv_bipush (v := 40) hx hb dX3_line_109 (by decide +kernel) ?_
      refine lv_icmp_le (tgt := 117) hx hb dX3_line_111 (by decide) (fun c_111 => ?_) (fun c_111 => ?_)
      ·
        have hfit : t1 ≤ 40 := (nI_leI (b := 40) (by omega) (by decide)).mp c_111
        refine lv_iload_n hx hb dX3_line_117 rfl (lv_at hl 3 rfl) ?_
        refine vp_callSi (W.runS (As := [.int c0]) (rest := []) ⟨hx, hb, hml, hown, hts⟩ (c_X3_channelOf l (c0)) (va_cwS 1 hts gX3_line_X3_channelOf rfl rfl rfl (by decide +kernel) ⟨(Nat.le_of_ble_eq_true rfl), (Nat.le_of_ble_eq_true rfl)⟩) pu_pre rfl rfl hl.1 rfl (lv_room (Nat.le_of_ble_eq_true rfl)) dX3_line_118 ⟨(Nat.le_of_ble_eq_true rfl), (Nat.le_of_ble_eq_true rfl)⟩) (fun r_118 w_118 => ?_)
        subst w_118
        refine lv_istore (lv' := [(5, .int (coN c0)), (4, .int (nI st)), (3, .int (nI ((bgB bg on) - 1))), (0, .ref m0), (1, .int c0), (2, .int 1)]) hx hb dX3_line_121 hl (by decide) rfl (fun ls hl => ?_)
        refine lv_aload_n hx hb dX3_line_123 rfl (lv_at hl 3 rfl) ?_
        refine va_get (D := D) (ci := 4) (v := .ref mA) (C := RX3) (T := TX3) (N := 16) hx hb hts hinX3 hown hK.1 hP 0 rfl rfl 7 (by decide) (hts (.fieldLink RX3 23 "PrinterRowsModel" "tallies" "[I") (by decide +kernel)) (fun _ h9 => h9) rfl dX3_line_124 ?_
        refine lv_iconst (v := 5) hx hb dX3_line_127 (by decide +kernel) ?_
        refine lv_dup2_11 hx hb dX3_line_128 rfl rfl ?_
        refine va_iald hx hb hK.1 hP 5 0 rfl rfl (vp_in_iff.mpr (by decide +kernel)) dX3_line_129 ?_
        refine lv_topi (fun x_129 ex_129 => ?_)
        obtain rfl : x_129 = (ta 5) := ex_129
        refine lv_iload hx hb dX3_line_130 (lv_at hl 0 rfl) ?_
        refine lv_if_le (tgt := 150) hx hb dX3_line_132 (by decide) (fun c_132 => ?_) (fun c_132 => ?_)
        ·
          refine lv_iconst (v := 0) hx hb dX3_line_150 (by decide +kernel) ?_
          refine lv_iadd hx hb dX3_line_151 ?_
          refine va_iast hx hb hK.1 hP hD hS 5 0 rfl rfl (vp_in_iff.mpr (by decide +kernel)) dX3_line_152 (fun H locs hP hD hS => ?_)
          rw [show (upd ta (5 : Int32).toNatClampNeg ((ta 5) + 0)) = (upd ta 5 (skN ch (ta 5) (chOf c0))) from by rw [show (5 : Int32).toNatClampNeg = 5 from rfl, skN, if_pos (coN_le c_132), Int32.add_zero]] at hP hD
          have hP : va_P D vwCl (wM cI m0 mS mC mT mR mA 0 (nI L) (nI C) (nI rl) (nI bg) (nI st) mk (zb on) (nI t1) (nI t2) (zb t3) sg ch tr rc (upd ta 5 (skN ch (ta 5) (chOf c0)))) H := hP
          have hD : va_D A (wM cI m0 mS mC mT mR mA 0 (nI L) (nI C) (nI rl) (nI bg) (nI st) mk (zb on) (nI t1) (nI t2) (zb t3) sg ch tr rc (upd ta 5 (skN ch (ta 5) (chOf c0)))) := hD
          refine lv_aload_n hx hb dX3_line_153 rfl (lv_at hl 3 rfl) ?_
          refine callQv (va_runV (As := []) (rest := []) ⟨hx, hb, hml, hown, hts⟩ (c_X3_settle l hbt hfit) (cwV 0 hts gX3_line_X3_settle rfl rfl rfl (by decide +kernel) ⟨(Nat.le_of_ble_eq_true rfl), (Nat.le_of_ble_eq_true rfl)⟩) (mu_pre hK hP hD rfl 0 rfl) rfl rfl hl.1 rfl (lv_room (Nat.le_of_ble_eq_true rfl)) dX3_line_154 ⟨(Nat.le_of_ble_eq_true rfl), (Nat.le_of_ble_eq_true rfl)⟩) hD hS hA (fun u_154 H locs w_154 hP hD hS => ?_)
          subst w_154
          have hP : va_P D vwCl (wM cI m0 mS mC mT mR mA 0 (nI L) (nI C) (nI rl) (nI t1) (nI t2) mk (zb t3) (nI t1) (nI t2) (zb t3) (stG bg t1 sg) ch tr rc (upd ta 5 (skN ch (ta 5) (chOf c0)))) H := hP
          have hD : va_D A (wM cI m0 mS mC mT mR mA 0 (nI L) (nI C) (nI rl) (nI t1) (nI t2) mk (zb t3) (nI t1) (nI t2) (zb t3) (stG bg t1 sg) ch tr rc (upd ta 5 (skN ch (ta 5) (chOf c0)))) := hD
          refine lv_aload_n hx hb dX3_line_157 rfl (lv_at hl 3 rfl) ?_
          refine lv_iload_n hx hb dX3_line_158 rfl (lv_at hl 2 rfl) ?_
          refine lv_iload hx hb dX3_line_159 (lv_at hl 1 rfl) ?_
          refine callQv (va_runV (As := [.int (nI ((bgB bg on) - 1)), .int (nI st)]) (rest := []) ⟨hx, hb, hml, hown, hts⟩ (c_X3_print l hC hrl hrc (bgB bg on - 1) st (by omega) (by omega)) (cwV 2 hts gX3_line_X3_print rfl rfl rfl (by decide +kernel) ⟨(Nat.le_of_ble_eq_true rfl), (Nat.le_of_ble_eq_true rfl)⟩) (mu_pre hK hP hD rfl 0 rfl) rfl rfl hl.1 rfl (lv_room (Nat.le_of_ble_eq_true rfl)) dX3_line_161 ⟨(Nat.le_of_ble_eq_true rfl), (Nat.le_of_ble_eq_true rfl)⟩) hD hS hA (fun u_161 H locs w_161 hP hD hS => ?_)
          have hP : va_P D vwCl (wM cI m0 mS mC mT mR mA 0 (nI L) (nI C) (nI 0) (nI t1) (nI t2) mk (zb t3) (nI t1) (nI t2) (zb t3) (prG (8712 * (bgB bg on - 1) + 132 * st) (min rl C) tr rc (stG bg t1 sg)) ch tr rc (upd (taP (upd ta 5 (skN ch (ta 5) (chOf c0))) (ta 3 + cS tr rc C rl) (ta 4 + cC C rl)) 2 (ta 2 + 1))) H := hP
          have hD : va_D A (wM cI m0 mS mC mT mR mA 0 (nI L) (nI C) (nI 0) (nI t1) (nI t2) mk (zb t3) (nI t1) (nI t2) (zb t3) (prG (8712 * (bgB bg on - 1) + 132 * st) (min rl C) tr rc (stG bg t1 sg)) ch tr rc (upd (taP (upd ta 5 (skN ch (ta 5) (chOf c0))) (ta 3 + cS tr rc C rl) (ta 4 + cC C rl)) 2 (ta 2 + 1))) := hD
          refine lv_aload_n hx hb dX3_line_164 rfl (lv_at hl 3 rfl) ?_
          refine va_get (D := D) (ci := 4) (v := .int (nI t1)) (C := RX3) (T := TX3) (N := 16) hx hb hts hinX3 hown hK.1 hP 0 rfl rfl 9 (by decide) (hts (.fieldLink RX3 39 "PrinterRowsModel" "pages" "I") (by decide +kernel)) (fun _ h9 => h9) rfl dX3_line_165 ?_
          exact W.iret (v := (nI t1)) hx hb hr (fun t ht hW => ⟨⟨_, ((prG (8712 * (bgB bg on - 1) + 132 * st) (min rl C) tr rc (stG bg t1 sg)), (upd (taP (upd ta 5 (skN ch (ta 5) (chOf c0))) (ta 3 + cS tr rc C rl) (ta 4 + cC C rl)) 2 (ta 2 + 1)), (t1, t2, t3), 0, (t1, t2, t3)), rfl, Or.inl ⟨by rw [hT1]; exact hfit, by rw [hT1], hT, rfl, by rw [hT1, lnQ, lnI, hsk, if_pos rfl, if_pos rfl], rfl⟩, by rw [ht]; exact hP, hD⟩, hS.F ht⟩) hS.2.2 dX3_line_168
        ·
          refine lv_aload_n hx hb dX3_line_135 rfl (lv_at hl 3 rfl) ?_
          refine va_get (D := D) (ci := 4) (v := .ref mC) (C := RX3) (T := TX3) (N := 16) hx hb hts hinX3 hown hK.1 hP 0 rfl rfl 4 (by decide) (hts (.fieldLink RX3 14 "PrinterRowsModel" "channels" "[I") (by decide +kernel)) (fun _ h9 => h9) rfl dX3_line_136 ?_
          refine lv_iload hx hb dX3_line_139 (lv_at hl 0 rfl) ?_
          refine va_iald hx hb hK.1 hP 2 0 rfl rfl (by rw [(coN_gt c_132).2]; exact isCh_in (coN_gt c_132).1) dX3_line_141 ?_
          refine lv_iconst (v := (-1)) hx hb dX3_line_142 (by decide +kernel) ?_
          refine lv_icmp_ne (tgt := 150) hx hb dX3_line_143 (by decide) (fun c_143 => ?_) (fun c_143 => ?_)
          ·
            refine lv_iconst (v := 0) hx hb dX3_line_150 (by decide +kernel) ?_
            refine lv_iadd hx hb dX3_line_151 ?_
            refine va_iast hx hb hK.1 hP hD hS 5 0 rfl rfl (vp_in_iff.mpr (by decide +kernel)) dX3_line_152 (fun H locs hP hD hS => ?_)
            rw [show (upd ta (5 : Int32).toNatClampNeg ((ta 5) + 0)) = (upd ta 5 (skN ch (ta 5) (chOf c0))) from by rw [show (5 : Int32).toNatClampNeg = 5 from rfl, skN, if_neg (coN_gt c_132).1, if_pos (by rw [← (coN_gt c_132).2]; exact c_143), Int32.add_zero]] at hP hD
            have hP : va_P D vwCl (wM cI m0 mS mC mT mR mA 0 (nI L) (nI C) (nI rl) (nI bg) (nI st) mk (zb on) (nI t1) (nI t2) (zb t3) sg ch tr rc (upd ta 5 (skN ch (ta 5) (chOf c0)))) H := hP
            have hD : va_D A (wM cI m0 mS mC mT mR mA 0 (nI L) (nI C) (nI rl) (nI bg) (nI st) mk (zb on) (nI t1) (nI t2) (zb t3) sg ch tr rc (upd ta 5 (skN ch (ta 5) (chOf c0)))) := hD
            refine lv_aload_n hx hb dX3_line_153 rfl (lv_at hl 3 rfl) ?_
            refine callQv (va_runV (As := []) (rest := []) ⟨hx, hb, hml, hown, hts⟩ (c_X3_settle l hbt hfit) (cwV 0 hts gX3_line_X3_settle rfl rfl rfl (by decide +kernel) ⟨(Nat.le_of_ble_eq_true rfl), (Nat.le_of_ble_eq_true rfl)⟩) (mu_pre hK hP hD rfl 0 rfl) rfl rfl hl.1 rfl (lv_room (Nat.le_of_ble_eq_true rfl)) dX3_line_154 ⟨(Nat.le_of_ble_eq_true rfl), (Nat.le_of_ble_eq_true rfl)⟩) hD hS hA (fun u_154 H locs w_154 hP hD hS => ?_)
            subst w_154
            have hP : va_P D vwCl (wM cI m0 mS mC mT mR mA 0 (nI L) (nI C) (nI rl) (nI t1) (nI t2) mk (zb t3) (nI t1) (nI t2) (zb t3) (stG bg t1 sg) ch tr rc (upd ta 5 (skN ch (ta 5) (chOf c0)))) H := hP
            have hD : va_D A (wM cI m0 mS mC mT mR mA 0 (nI L) (nI C) (nI rl) (nI t1) (nI t2) mk (zb t3) (nI t1) (nI t2) (zb t3) (stG bg t1 sg) ch tr rc (upd ta 5 (skN ch (ta 5) (chOf c0)))) := hD
            refine lv_aload_n hx hb dX3_line_157 rfl (lv_at hl 3 rfl) ?_
            refine lv_iload_n hx hb dX3_line_158 rfl (lv_at hl 2 rfl) ?_
            refine lv_iload hx hb dX3_line_159 (lv_at hl 1 rfl) ?_
            refine callQv (va_runV (As := [.int (nI ((bgB bg on) - 1)), .int (nI st)]) (rest := []) ⟨hx, hb, hml, hown, hts⟩ (c_X3_print l hC hrl hrc (bgB bg on - 1) st (by omega) (by omega)) (cwV 2 hts gX3_line_X3_print rfl rfl rfl (by decide +kernel) ⟨(Nat.le_of_ble_eq_true rfl), (Nat.le_of_ble_eq_true rfl)⟩) (mu_pre hK hP hD rfl 0 rfl) rfl rfl hl.1 rfl (lv_room (Nat.le_of_ble_eq_true rfl)) dX3_line_161 ⟨(Nat.le_of_ble_eq_true rfl), (Nat.le_of_ble_eq_true rfl)⟩) hD hS hA (fun u_161 H locs w_161 hP hD hS => ?_)
            have hP : va_P D vwCl (wM cI m0 mS mC mT mR mA 0 (nI L) (nI C) (nI 0) (nI t1) (nI t2) mk (zb t3) (nI t1) (nI t2) (zb t3) (prG (8712 * (bgB bg on - 1) + 132 * st) (min rl C) tr rc (stG bg t1 sg)) ch tr rc (upd (taP (upd ta 5 (skN ch (ta 5) (chOf c0))) (ta 3 + cS tr rc C rl) (ta 4 + cC C rl)) 2 (ta 2 + 1))) H := hP
            have hD : va_D A (wM cI m0 mS mC mT mR mA 0 (nI L) (nI C) (nI 0) (nI t1) (nI t2) mk (zb t3) (nI t1) (nI t2) (zb t3) (prG (8712 * (bgB bg on - 1) + 132 * st) (min rl C) tr rc (stG bg t1 sg)) ch tr rc (upd (taP (upd ta 5 (skN ch (ta 5) (chOf c0))) (ta 3 + cS tr rc C rl) (ta 4 + cC C rl)) 2 (ta 2 + 1))) := hD
            refine lv_aload_n hx hb dX3_line_164 rfl (lv_at hl 3 rfl) ?_
            refine va_get (D := D) (ci := 4) (v := .int (nI t1)) (C := RX3) (T := TX3) (N := 16) hx hb hts hinX3 hown hK.1 hP 0 rfl rfl 9 (by decide) (hts (.fieldLink RX3 39 "PrinterRowsModel" "pages" "I") (by decide +kernel)) (fun _ h9 => h9) rfl dX3_line_165 ?_
            exact W.iret (v := (nI t1)) hx hb hr (fun t ht hW => ⟨⟨_, ((prG (8712 * (bgB bg on - 1) + 132 * st) (min rl C) tr rc (stG bg t1 sg)), (upd (taP (upd ta 5 (skN ch (ta 5) (chOf c0))) (ta 3 + cS tr rc C rl) (ta 4 + cC C rl)) 2 (ta 2 + 1)), (t1, t2, t3), 0, (t1, t2, t3)), rfl, Or.inl ⟨by rw [hT1]; exact hfit, by rw [hT1], hT, rfl, by rw [hT1, lnQ, lnI, hsk, if_pos rfl, if_pos rfl], rfl⟩, by rw [ht]; exact hP, hD⟩, hS.F ht⟩) hS.2.2 dX3_line_168
          ·
            refine lv_iconst (v := 1) hx hb dX3_line_146 (by decide +kernel) ?_
            refine lv_goto (tgt := 151) hx hb dX3_line_147 (by decide) ?_
            refine lv_iadd hx hb dX3_line_151 ?_
            refine va_iast hx hb hK.1 hP hD hS 5 0 rfl rfl (vp_in_iff.mpr (by decide +kernel)) dX3_line_152 (fun H locs hP hD hS => ?_)
            rw [show (upd ta (5 : Int32).toNatClampNeg ((ta 5) + 1)) = (upd ta 5 (skN ch (ta 5) (chOf c0))) from by rw [show (5 : Int32).toNatClampNeg = 5 from rfl, skN, if_neg (coN_gt c_132).1, if_neg (fun h9 => h9 (by rw [← (coN_gt c_132).2]; exact c_143))]] at hP hD
            have hP : va_P D vwCl (wM cI m0 mS mC mT mR mA 0 (nI L) (nI C) (nI rl) (nI bg) (nI st) mk (zb on) (nI t1) (nI t2) (zb t3) sg ch tr rc (upd ta 5 (skN ch (ta 5) (chOf c0)))) H := hP
            have hD : va_D A (wM cI m0 mS mC mT mR mA 0 (nI L) (nI C) (nI rl) (nI bg) (nI st) mk (zb on) (nI t1) (nI t2) (zb t3) sg ch tr rc (upd ta 5 (skN ch (ta 5) (chOf c0)))) := hD
            refine lv_aload_n hx hb dX3_line_153 rfl (lv_at hl 3 rfl) ?_
            refine callQv (va_runV (As := []) (rest := []) ⟨hx, hb, hml, hown, hts⟩ (c_X3_settle l hbt hfit) (cwV 0 hts gX3_line_X3_settle rfl rfl rfl (by decide +kernel) ⟨(Nat.le_of_ble_eq_true rfl), (Nat.le_of_ble_eq_true rfl)⟩) (mu_pre hK hP hD rfl 0 rfl) rfl rfl hl.1 rfl (lv_room (Nat.le_of_ble_eq_true rfl)) dX3_line_154 ⟨(Nat.le_of_ble_eq_true rfl), (Nat.le_of_ble_eq_true rfl)⟩) hD hS hA (fun u_154 H locs w_154 hP hD hS => ?_)
            subst w_154
            have hP : va_P D vwCl (wM cI m0 mS mC mT mR mA 0 (nI L) (nI C) (nI rl) (nI t1) (nI t2) mk (zb t3) (nI t1) (nI t2) (zb t3) (stG bg t1 sg) ch tr rc (upd ta 5 (skN ch (ta 5) (chOf c0)))) H := hP
            have hD : va_D A (wM cI m0 mS mC mT mR mA 0 (nI L) (nI C) (nI rl) (nI t1) (nI t2) mk (zb t3) (nI t1) (nI t2) (zb t3) (stG bg t1 sg) ch tr rc (upd ta 5 (skN ch (ta 5) (chOf c0)))) := hD
            refine lv_aload_n hx hb dX3_line_157 rfl (lv_at hl 3 rfl) ?_
            refine lv_iload_n hx hb dX3_line_158 rfl (lv_at hl 2 rfl) ?_
            refine lv_iload hx hb dX3_line_159 (lv_at hl 1 rfl) ?_
            refine callQv (va_runV (As := [.int (nI ((bgB bg on) - 1)), .int (nI st)]) (rest := []) ⟨hx, hb, hml, hown, hts⟩ (c_X3_print l hC hrl hrc (bgB bg on - 1) st (by omega) (by omega)) (cwV 2 hts gX3_line_X3_print rfl rfl rfl (by decide +kernel) ⟨(Nat.le_of_ble_eq_true rfl), (Nat.le_of_ble_eq_true rfl)⟩) (mu_pre hK hP hD rfl 0 rfl) rfl rfl hl.1 rfl (lv_room (Nat.le_of_ble_eq_true rfl)) dX3_line_161 ⟨(Nat.le_of_ble_eq_true rfl), (Nat.le_of_ble_eq_true rfl)⟩) hD hS hA (fun u_161 H locs w_161 hP hD hS => ?_)
            have hP : va_P D vwCl (wM cI m0 mS mC mT mR mA 0 (nI L) (nI C) (nI 0) (nI t1) (nI t2) mk (zb t3) (nI t1) (nI t2) (zb t3) (prG (8712 * (bgB bg on - 1) + 132 * st) (min rl C) tr rc (stG bg t1 sg)) ch tr rc (upd (taP (upd ta 5 (skN ch (ta 5) (chOf c0))) (ta 3 + cS tr rc C rl) (ta 4 + cC C rl)) 2 (ta 2 + 1))) H := hP
            have hD : va_D A (wM cI m0 mS mC mT mR mA 0 (nI L) (nI C) (nI 0) (nI t1) (nI t2) mk (zb t3) (nI t1) (nI t2) (zb t3) (prG (8712 * (bgB bg on - 1) + 132 * st) (min rl C) tr rc (stG bg t1 sg)) ch tr rc (upd (taP (upd ta 5 (skN ch (ta 5) (chOf c0))) (ta 3 + cS tr rc C rl) (ta 4 + cC C rl)) 2 (ta 2 + 1))) := hD
            refine lv_aload_n hx hb dX3_line_164 rfl (lv_at hl 3 rfl) ?_
            refine va_get (D := D) (ci := 4) (v := .int (nI t1)) (C := RX3) (T := TX3) (N := 16) hx hb hts hinX3 hown hK.1 hP 0 rfl rfl 9 (by decide) (hts (.fieldLink RX3 39 "PrinterRowsModel" "pages" "I") (by decide +kernel)) (fun _ h9 => h9) rfl dX3_line_165 ?_
            exact W.iret (v := (nI t1)) hx hb hr (fun t ht hW => ⟨⟨_, ((prG (8712 * (bgB bg on - 1) + 132 * st) (min rl C) tr rc (stG bg t1 sg)), (upd (taP (upd ta 5 (skN ch (ta 5) (chOf c0))) (ta 3 + cS tr rc C rl) (ta 4 + cC C rl)) 2 (ta 2 + 1)), (t1, t2, t3), 0, (t1, t2, t3)), rfl, Or.inl ⟨by rw [hT1]; exact hfit, by rw [hT1], hT, rfl, by rw [hT1, lnQ, lnI, hsk, if_pos rfl, if_pos rfl], rfl⟩, by rw [ht]; exact hP, hD⟩, hS.F ht⟩) hS.2.2 dX3_line_168
      ·
        have hfit : ¬ t1 ≤ 40 := fun h9 => c_111 (nI_le (b := 40) h9 (by decide))
        refine lv_bipush (v := (-6)) hx hb dX3_line_114 (by decide +kernel) ?_
        exact W.iret (v := (-6)) hx hb hr (fun t ht hW => ⟨⟨_, (sg, ta, (bg, st, on), rl, (t1, t2, t3)), rfl, Or.inr ⟨by rw [hT1]; exact hfit, rfl, rfl⟩, by rw [ht]; exact hP, hD⟩, hS.F ht⟩) hS.2.2 dX3_line_116
    ·
      refine lv_iload_n hx hb dX3_line_85 rfl (lv_at hl 3 rfl) ?_
      refine lv_sipush (v := 256) hx hb dX3_line_86 (by decide +kernel) ?_
      refine lv_isub hx hb dX3_line_89 ?_
      have f_82 := i32_nle c_82
      have hpl : isPl c0 = true := isPl_iff.mpr (by have h0 := isSk_iff.mp hsk; omega)
      have hno : zb (isCh (chOf c0)) = 0 := by
        have h0 := isPl_iff.mp hpl
        rcases chOf_cases c0 with ⟨h1, h2, h3⟩ | ⟨h1, h2, h3⟩ | ⟨h1, h2, h3⟩ | ⟨h1, h2⟩
        · exfalso; omega
        · exfalso; omega
        · exfalso; omega
        · rw [h2]; decide +kernel
      have hlw : c0 - 256 = nI w := by
        rw [hw, lwy, if_pos hno]
        obtain ⟨k9, h8, h9⟩ := lnOf_nI c0
        rw [h9, nI_clamp (by omega), ← h9, lnOf, if_neg (zb1.mpr hpl)]
      refine lv_topi (fun x_89 ex_89 => ?_)
      obtain rfl : x_89 = nI w := ex_89.trans hlw
      refine lv_goto (tgt := 102) hx hb dX3_line_90 (by decide) ?_
      refine callQv (va_runV (As := [.int (nI w)]) (rest := []) ⟨hx, hb, hml, hown, hts⟩ (c_X3_move l hL0 hL hst (by omega) w hwl) (cwV 1 hts gX3_line_X3_move rfl rfl rfl (by decide +kernel) ⟨(Nat.le_of_ble_eq_true rfl), (Nat.le_of_ble_eq_true rfl)⟩) (mu_pre hK hP hD rfl 0 rfl) rfl rfl hl.1 rfl (lv_room (Nat.le_of_ble_eq_true rfl)) dX3_line_102 ⟨(Nat.le_of_ble_eq_true rfl), (Nat.le_of_ble_eq_true rfl)⟩) hD hS hA (fun u_102 H locs w_102 hP hD hS => ?_)
      obtain ⟨t1, t2, t3⟩ := u_102
      have hmv : (t1, t2, t3) = mvn L w (bgB bg on, st, true) := w_102
      have hP : va_P D vwCl (wM cI m0 mS mC mT mR mA 0 (nI L) (nI C) (nI rl) (nI bg) (nI st) mk (zb on) (nI t1) (nI t2) (zb t3) sg ch tr rc ta) H := hP
      have hD : va_D A (wM cI m0 mS mC mT mR mA 0 (nI L) (nI C) (nI rl) (nI bg) (nI st) mk (zb on) (nI t1) (nI t2) (zb t3) sg ch tr rc ta) := hD
      have ht1 : bgB bg on ≤ t1 ∧ t1 ≤ 107 := by
        have h8 := mvn_le (L := L) (Nat.zero_le w) (bgB bg on, st, true)
        have h9 := mvn_up (L := L) w (bgB bg on, st, true)
        rw [← hmv] at h8 h9
        dsimp only [mvn] at h8 h9
        omega
      have hT : (t1, t2, t3) = (lnT L bg st on (isSk c0) w) := by rw [lnT, hsk, if_pos rfl]; exact hmv
      have hT1 : (lnT L bg st on (isSk c0) w).1 = t1 := by rw [← hT]
      have hbt : bg ≤ t1 := Nat.le_trans (bgB_ge bg on) ht1.1
      refine lv_aload_n hx hb dX3_line_105 rfl (lv_at hl 2 rfl) ?_
      refine va_get (D := D) (ci := 4) (v := .int (nI t1)) (C := RX3) (T := TX3) (N := 16) hx hb hts hinX3 hown hK.1 hP 0 rfl rfl 13 (by decide) (hts (.fieldLink RX3 42 "PrinterRowsModel" "trialPages" "I") (by decide +kernel)) (fun _ h9 => h9) rfl dX3_line_106 ?_
      refine lv_bipush (v := 40) hx hb dX3_line_109 (by decide +kernel) ?_
      refine lv_icmp_le (tgt := 117) hx hb dX3_line_111 (by decide) (fun c_111 => ?_) (fun c_111 => ?_)
      ·
        have hfit : t1 ≤ 40 := (nI_leI (b := 40) (by omega) (by decide)).mp c_111
        refine lv_iload_n hx hb dX3_line_117 rfl (lv_at hl 3 rfl) ?_
        refine vp_callSi (W.runS (As := [.int c0]) (rest := []) ⟨hx, hb, hml, hown, hts⟩ (c_X3_channelOf l (c0)) (va_cwS 1 hts gX3_line_X3_channelOf rfl rfl rfl (by decide +kernel) ⟨(Nat.le_of_ble_eq_true rfl), (Nat.le_of_ble_eq_true rfl)⟩) pu_pre rfl rfl hl.1 rfl (lv_room (Nat.le_of_ble_eq_true rfl)) dX3_line_118 ⟨(Nat.le_of_ble_eq_true rfl), (Nat.le_of_ble_eq_true rfl)⟩) (fun r_118 w_118 => ?_)
        subst w_118
        refine lv_istore (lv' := [(5, .int (coN c0)), (4, .int (nI st)), (3, .int (nI ((bgB bg on) - 1))), (0, .ref m0), (1, .int c0), (2, .int 1)]) hx hb dX3_line_121 hl (by decide) rfl (fun ls hl => ?_)
        refine lv_aload_n hx hb dX3_line_123 rfl (lv_at hl 3 rfl) ?_
        refine va_get (D := D) (ci := 4) (v := .ref mA) (C := RX3) (T := TX3) (N := 16) hx hb hts hinX3 hown hK.1 hP 0 rfl rfl 7 (by decide) (hts (.fieldLink RX3 23 "PrinterRowsModel" "tallies" "[I") (by decide +kernel)) (fun _ h9 => h9) rfl dX3_line_124 ?_
        refine lv_iconst (v := 5) hx hb dX3_line_127 (by decide +kernel) ?_
        refine lv_dup2_11 hx hb dX3_line_128 rfl rfl ?_
        refine va_iald hx hb hK.1 hP 5 0 rfl rfl (vp_in_iff.mpr (by decide +kernel)) dX3_line_129 ?_
        refine lv_topi (fun x_129 ex_129 => ?_)
        obtain rfl : x_129 = (ta 5) := ex_129
        refine lv_iload hx hb dX3_line_130 (lv_at hl 0 rfl) ?_
        refine lv_if_le (tgt := 150) hx hb dX3_line_132 (by decide) (fun c_132 => ?_) (fun c_132 => ?_)
        ·
          refine lv_iconst (v := 0) hx hb dX3_line_150 (by decide +kernel) ?_
          refine lv_iadd hx hb dX3_line_151 ?_
          refine va_iast hx hb hK.1 hP hD hS 5 0 rfl rfl (vp_in_iff.mpr (by decide +kernel)) dX3_line_152 (fun H locs hP hD hS => ?_)
          rw [show (upd ta (5 : Int32).toNatClampNeg ((ta 5) + 0)) = (upd ta 5 (skN ch (ta 5) (chOf c0))) from by rw [show (5 : Int32).toNatClampNeg = 5 from rfl, skN, if_pos (coN_le c_132), Int32.add_zero]] at hP hD
          have hP : va_P D vwCl (wM cI m0 mS mC mT mR mA 0 (nI L) (nI C) (nI rl) (nI bg) (nI st) mk (zb on) (nI t1) (nI t2) (zb t3) sg ch tr rc (upd ta 5 (skN ch (ta 5) (chOf c0)))) H := hP
          have hD : va_D A (wM cI m0 mS mC mT mR mA 0 (nI L) (nI C) (nI rl) (nI bg) (nI st) mk (zb on) (nI t1) (nI t2) (zb t3) sg ch tr rc (upd ta 5 (skN ch (ta 5) (chOf c0)))) := hD
          refine lv_aload_n hx hb dX3_line_153 rfl (lv_at hl 3 rfl) ?_
          refine callQv (va_runV (As := []) (rest := []) ⟨hx, hb, hml, hown, hts⟩ (c_X3_settle l hbt hfit) (cwV 0 hts gX3_line_X3_settle rfl rfl rfl (by decide +kernel) ⟨(Nat.le_of_ble_eq_true rfl), (Nat.le_of_ble_eq_true rfl)⟩) (mu_pre hK hP hD rfl 0 rfl) rfl rfl hl.1 rfl (lv_room (Nat.le_of_ble_eq_true rfl)) dX3_line_154 ⟨(Nat.le_of_ble_eq_true rfl), (Nat.le_of_ble_eq_true rfl)⟩) hD hS hA (fun u_154 H locs w_154 hP hD hS => ?_)
          subst w_154
          have hP : va_P D vwCl (wM cI m0 mS mC mT mR mA 0 (nI L) (nI C) (nI rl) (nI t1) (nI t2) mk (zb t3) (nI t1) (nI t2) (zb t3) (stG bg t1 sg) ch tr rc (upd ta 5 (skN ch (ta 5) (chOf c0)))) H := hP
          have hD : va_D A (wM cI m0 mS mC mT mR mA 0 (nI L) (nI C) (nI rl) (nI t1) (nI t2) mk (zb t3) (nI t1) (nI t2) (zb t3) (stG bg t1 sg) ch tr rc (upd ta 5 (skN ch (ta 5) (chOf c0)))) := hD
          refine lv_aload_n hx hb dX3_line_157 rfl (lv_at hl 3 rfl) ?_
          refine lv_iload_n hx hb dX3_line_158 rfl (lv_at hl 2 rfl) ?_
          refine lv_iload hx hb dX3_line_159 (lv_at hl 1 rfl) ?_
          refine callQv (va_runV (As := [.int (nI ((bgB bg on) - 1)), .int (nI st)]) (rest := []) ⟨hx, hb, hml, hown, hts⟩ (c_X3_print l hC hrl hrc (bgB bg on - 1) st (by omega) (by omega)) (cwV 2 hts gX3_line_X3_print rfl rfl rfl (by decide +kernel) ⟨(Nat.le_of_ble_eq_true rfl), (Nat.le_of_ble_eq_true rfl)⟩) (mu_pre hK hP hD rfl 0 rfl) rfl rfl hl.1 rfl (lv_room (Nat.le_of_ble_eq_true rfl)) dX3_line_161 ⟨(Nat.le_of_ble_eq_true rfl), (Nat.le_of_ble_eq_true rfl)⟩) hD hS hA (fun u_161 H locs w_161 hP hD hS => ?_)
          have hP : va_P D vwCl (wM cI m0 mS mC mT mR mA 0 (nI L) (nI C) (nI 0) (nI t1) (nI t2) mk (zb t3) (nI t1) (nI t2) (zb t3) (prG (8712 * (bgB bg on - 1) + 132 * st) (min rl C) tr rc (stG bg t1 sg)) ch tr rc (upd (taP (upd ta 5 (skN ch (ta 5) (chOf c0))) (ta 3 + cS tr rc C rl) (ta 4 + cC C rl)) 2 (ta 2 + 1))) H := hP
          have hD : va_D A (wM cI m0 mS mC mT mR mA 0 (nI L) (nI C) (nI 0) (nI t1) (nI t2) mk (zb t3) (nI t1) (nI t2) (zb t3) (prG (8712 * (bgB bg on - 1) + 132 * st) (min rl C) tr rc (stG bg t1 sg)) ch tr rc (upd (taP (upd ta 5 (skN ch (ta 5) (chOf c0))) (ta 3 + cS tr rc C rl) (ta 4 + cC C rl)) 2 (ta 2 + 1))) := hD
          refine lv_aload_n hx hb dX3_line_164 rfl (lv_at hl 3 rfl) ?_
          refine va_get (D := D) (ci := 4) (v := .int (nI t1)) (C := RX3) (T := TX3) (N := 16) hx hb hts hinX3 hown hK.1 hP 0 rfl rfl 9 (by decide) (hts (.fieldLink RX3 39 "PrinterRowsModel" "pages" "I") (by decide +kernel)) (fun _ h9 => h9) rfl dX3_line_165 ?_
          exact W.iret (v := (nI t1)) hx hb hr (fun t ht hW => ⟨⟨_, ((prG (8712 * (bgB bg on - 1) + 132 * st) (min rl C) tr rc (stG bg t1 sg)), (upd (taP (upd ta 5 (skN ch (ta 5) (chOf c0))) (ta 3 + cS tr rc C rl) (ta 4 + cC C rl)) 2 (ta 2 + 1)), (t1, t2, t3), 0, (t1, t2, t3)), rfl, Or.inl ⟨by rw [hT1]; exact hfit, by rw [hT1], hT, rfl, by rw [hT1, lnQ, lnI, hsk, if_pos rfl, if_pos rfl], rfl⟩, by rw [ht]; exact hP, hD⟩, hS.F ht⟩) hS.2.2 dX3_line_168
        ·
          refine lv_aload_n hx hb dX3_line_135 rfl (lv_at hl 3 rfl) ?_
          refine va_get (D := D) (ci := 4) (v := .ref mC) (C := RX3) (T := TX3) (N := 16) hx hb hts hinX3 hown hK.1 hP 0 rfl rfl 4 (by decide) (hts (.fieldLink RX3 14 "PrinterRowsModel" "channels" "[I") (by decide +kernel)) (fun _ h9 => h9) rfl dX3_line_136 ?_
          refine lv_iload hx hb dX3_line_139 (lv_at hl 0 rfl) ?_
          refine va_iald hx hb hK.1 hP 2 0 rfl rfl (by rw [(coN_gt c_132).2]; exact isCh_in (coN_gt c_132).1) dX3_line_141 ?_
          refine lv_iconst (v := (-1)) hx hb dX3_line_142 (by decide +kernel) ?_
          refine lv_icmp_ne (tgt := 150) hx hb dX3_line_143 (by decide) (fun c_143 => ?_) (fun c_143 => ?_)
          ·
            refine lv_iconst (v := 0) hx hb dX3_line_150 (by decide +kernel) ?_
            refine lv_iadd hx hb dX3_line_151 ?_
            refine va_iast hx hb hK.1 hP hD hS 5 0 rfl rfl (vp_in_iff.mpr (by decide +kernel)) dX3_line_152 (fun H locs hP hD hS => ?_)
            rw [show (upd ta (5 : Int32).toNatClampNeg ((ta 5) + 0)) = (upd ta 5 (skN ch (ta 5) (chOf c0))) from by rw [show (5 : Int32).toNatClampNeg = 5 from rfl, skN, if_neg (coN_gt c_132).1, if_pos (by rw [← (coN_gt c_132).2]; exact c_143), Int32.add_zero]] at hP hD
            have hP : va_P D vwCl (wM cI m0 mS mC mT mR mA 0 (nI L) (nI C) (nI rl) (nI bg) (nI st) mk (zb on) (nI t1) (nI t2) (zb t3) sg ch tr rc (upd ta 5 (skN ch (ta 5) (chOf c0)))) H := hP
            have hD : va_D A (wM cI m0 mS mC mT mR mA 0 (nI L) (nI C) (nI rl) (nI bg) (nI st) mk (zb on) (nI t1) (nI t2) (zb t3) sg ch tr rc (upd ta 5 (skN ch (ta 5) (chOf c0)))) := hD
            refine lv_aload_n hx hb dX3_line_153 rfl (lv_at hl 3 rfl) ?_
            refine callQv (va_runV (As := []) (rest := []) ⟨hx, hb, hml, hown, hts⟩ (c_X3_settle l hbt hfit) (cwV 0 hts gX3_line_X3_settle rfl rfl rfl (by decide +kernel) ⟨(Nat.le_of_ble_eq_true rfl), (Nat.le_of_ble_eq_true rfl)⟩) (mu_pre hK hP hD rfl 0 rfl) rfl rfl hl.1 rfl (lv_room (Nat.le_of_ble_eq_true rfl)) dX3_line_154 ⟨(Nat.le_of_ble_eq_true rfl), (Nat.le_of_ble_eq_true rfl)⟩) hD hS hA (fun u_154 H locs w_154 hP hD hS => ?_)
            subst w_154
            have hP : va_P D vwCl (wM cI m0 mS mC mT mR mA 0 (nI L) (nI C) (nI rl) (nI t1) (nI t2) mk (zb t3) (nI t1) (nI t2) (zb t3) (stG bg t1 sg) ch tr rc (upd ta 5 (skN ch (ta 5) (chOf c0)))) H := hP
            have hD : va_D A (wM cI m0 mS mC mT mR mA 0 (nI L) (nI C) (nI rl) (nI t1) (nI t2) mk (zb t3) (nI t1) (nI t2) (zb t3) (stG bg t1 sg) ch tr rc (upd ta 5 (skN ch (ta 5) (chOf c0)))) := hD
            refine lv_aload_n hx hb dX3_line_157 rfl (lv_at hl 3 rfl) ?_
            refine lv_iload_n hx hb dX3_line_158 rfl (lv_at hl 2 rfl) ?_
            refine lv_iload hx hb dX3_line_159 (lv_at hl 1 rfl) ?_
            refine callQv (va_runV (As := [.int (nI ((bgB bg on) - 1)), .int (nI st)]) (rest := []) ⟨hx, hb, hml, hown, hts⟩ (c_X3_print l hC hrl hrc (bgB bg on - 1) st (by omega) (by omega)) (cwV 2 hts gX3_line_X3_print rfl rfl rfl (by decide +kernel) ⟨(Nat.le_of_ble_eq_true rfl), (Nat.le_of_ble_eq_true rfl)⟩) (mu_pre hK hP hD rfl 0 rfl) rfl rfl hl.1 rfl (lv_room (Nat.le_of_ble_eq_true rfl)) dX3_line_161 ⟨(Nat.le_of_ble_eq_true rfl), (Nat.le_of_ble_eq_true rfl)⟩) hD hS hA (fun u_161 H locs w_161 hP hD hS => ?_)
            have hP : va_P D vwCl (wM cI m0 mS mC mT mR mA 0 (nI L) (nI C) (nI 0) (nI t1) (nI t2) mk (zb t3) (nI t1) (nI t2) (zb t3) (prG (8712 * (bgB bg on - 1) + 132 * st) (min rl C) tr rc (stG bg t1 sg)) ch tr rc (upd (taP (upd ta 5 (skN ch (ta 5) (chOf c0))) (ta 3 + cS tr rc C rl) (ta 4 + cC C rl)) 2 (ta 2 + 1))) H := hP
            have hD : va_D A (wM cI m0 mS mC mT mR mA 0 (nI L) (nI C) (nI 0) (nI t1) (nI t2) mk (zb t3) (nI t1) (nI t2) (zb t3) (prG (8712 * (bgB bg on - 1) + 132 * st) (min rl C) tr rc (stG bg t1 sg)) ch tr rc (upd (taP (upd ta 5 (skN ch (ta 5) (chOf c0))) (ta 3 + cS tr rc C rl) (ta 4 + cC C rl)) 2 (ta 2 + 1))) := hD
            refine lv_aload_n hx hb dX3_line_164 rfl (lv_at hl 3 rfl) ?_
            refine va_get (D := D) (ci := 4) (v := .int (nI t1)) (C := RX3) (T := TX3) (N := 16) hx hb hts hinX3 hown hK.1 hP 0 rfl rfl 9 (by decide) (hts (.fieldLink RX3 39 "PrinterRowsModel" "pages" "I") (by decide +kernel)) (fun _ h9 => h9) rfl dX3_line_165 ?_
            exact W.iret (v := (nI t1)) hx hb hr (fun t ht hW => ⟨⟨_, ((prG (8712 * (bgB bg on - 1) + 132 * st) (min rl C) tr rc (stG bg t1 sg)), (upd (taP (upd ta 5 (skN ch (ta 5) (chOf c0))) (ta 3 + cS tr rc C rl) (ta 4 + cC C rl)) 2 (ta 2 + 1)), (t1, t2, t3), 0, (t1, t2, t3)), rfl, Or.inl ⟨by rw [hT1]; exact hfit, by rw [hT1], hT, rfl, by rw [hT1, lnQ, lnI, hsk, if_pos rfl, if_pos rfl], rfl⟩, by rw [ht]; exact hP, hD⟩, hS.F ht⟩) hS.2.2 dX3_line_168
          ·
            refine lv_iconst (v := 1) hx hb dX3_line_146 (by decide +kernel) ?_
            refine lv_goto (tgt := 151) hx hb dX3_line_147 (by decide) ?_
            refine lv_iadd hx hb dX3_line_151 ?_
            refine va_iast hx hb hK.1 hP hD hS 5 0 rfl rfl (vp_in_iff.mpr (by decide +kernel)) dX3_line_152 (fun H locs hP hD hS => ?_)
            rw [show (upd ta (5 : Int32).toNatClampNeg ((ta 5) + 1)) = (upd ta 5 (skN ch (ta 5) (chOf c0))) from by rw [show (5 : Int32).toNatClampNeg = 5 from rfl, skN, if_neg (coN_gt c_132).1, if_neg (fun h9 => h9 (by rw [← (coN_gt c_132).2]; exact c_143))]] at hP hD
            have hP : va_P D vwCl (wM cI m0 mS mC mT mR mA 0 (nI L) (nI C) (nI rl) (nI bg) (nI st) mk (zb on) (nI t1) (nI t2) (zb t3) sg ch tr rc (upd ta 5 (skN ch (ta 5) (chOf c0)))) H := hP
            have hD : va_D A (wM cI m0 mS mC mT mR mA 0 (nI L) (nI C) (nI rl) (nI bg) (nI st) mk (zb on) (nI t1) (nI t2) (zb t3) sg ch tr rc (upd ta 5 (skN ch (ta 5) (chOf c0)))) := hD
            refine lv_aload_n hx hb dX3_line_153 rfl (lv_at hl 3 rfl) ?_
            refine callQv (va_runV (As := []) (rest := []) ⟨hx, hb, hml, hown, hts⟩ (c_X3_settle l hbt hfit) (cwV 0 hts gX3_line_X3_settle rfl rfl rfl (by decide +kernel) ⟨(Nat.le_of_ble_eq_true rfl), (Nat.le_of_ble_eq_true rfl)⟩) (mu_pre hK hP hD rfl 0 rfl) rfl rfl hl.1 rfl (lv_room (Nat.le_of_ble_eq_true rfl)) dX3_line_154 ⟨(Nat.le_of_ble_eq_true rfl), (Nat.le_of_ble_eq_true rfl)⟩) hD hS hA (fun u_154 H locs w_154 hP hD hS => ?_)
            subst w_154
            have hP : va_P D vwCl (wM cI m0 mS mC mT mR mA 0 (nI L) (nI C) (nI rl) (nI t1) (nI t2) mk (zb t3) (nI t1) (nI t2) (zb t3) (stG bg t1 sg) ch tr rc (upd ta 5 (skN ch (ta 5) (chOf c0)))) H := hP
            have hD : va_D A (wM cI m0 mS mC mT mR mA 0 (nI L) (nI C) (nI rl) (nI t1) (nI t2) mk (zb t3) (nI t1) (nI t2) (zb t3) (stG bg t1 sg) ch tr rc (upd ta 5 (skN ch (ta 5) (chOf c0)))) := hD
            refine lv_aload_n hx hb dX3_line_157 rfl (lv_at hl 3 rfl) ?_
            refine lv_iload_n hx hb dX3_line_158 rfl (lv_at hl 2 rfl) ?_
            refine lv_iload hx hb dX3_line_159 (lv_at hl 1 rfl) ?_
            refine callQv (va_runV (As := [.int (nI ((bgB bg on) - 1)), .int (nI st)]) (rest := []) ⟨hx, hb, hml, hown, hts⟩ (c_X3_print l hC hrl hrc (bgB bg on - 1) st (by omega) (by omega)) (cwV 2 hts gX3_line_X3_print rfl rfl rfl (by decide +kernel) ⟨(Nat.le_of_ble_eq_true rfl), (Nat.le_of_ble_eq_true rfl)⟩) (mu_pre hK hP hD rfl 0 rfl) rfl rfl hl.1 rfl (lv_room (Nat.le_of_ble_eq_true rfl)) dX3_line_161 ⟨(Nat.le_of_ble_eq_true rfl), (Nat.le_of_ble_eq_true rfl)⟩) hD hS hA (fun u_161 H locs w_161 hP hD hS => ?_)
            have hP : va_P D vwCl (wM cI m0 mS mC mT mR mA 0 (nI L) (nI C) (nI 0) (nI t1) (nI t2) mk (zb t3) (nI t1) (nI t2) (zb t3) (prG (8712 * (bgB bg on - 1) + 132 * st) (min rl C) tr rc (stG bg t1 sg)) ch tr rc (upd (taP (upd ta 5 (skN ch (ta 5) (chOf c0))) (ta 3 + cS tr rc C rl) (ta 4 + cC C rl)) 2 (ta 2 + 1))) H := hP
            have hD : va_D A (wM cI m0 mS mC mT mR mA 0 (nI L) (nI C) (nI 0) (nI t1) (nI t2) mk (zb t3) (nI t1) (nI t2) (zb t3) (prG (8712 * (bgB bg on - 1) + 132 * st) (min rl C) tr rc (stG bg t1 sg)) ch tr rc (upd (taP (upd ta 5 (skN ch (ta 5) (chOf c0))) (ta 3 + cS tr rc C rl) (ta 4 + cC C rl)) 2 (ta 2 + 1))) := hD
            refine lv_aload_n hx hb dX3_line_164 rfl (lv_at hl 3 rfl) ?_
            refine va_get (D := D) (ci := 4) (v := .int (nI t1)) (C := RX3) (T := TX3) (N := 16) hx hb hts hinX3 hown hK.1 hP 0 rfl rfl 9 (by decide) (hts (.fieldLink RX3 39 "PrinterRowsModel" "pages" "I") (by decide +kernel)) (fun _ h9 => h9) rfl dX3_line_165 ?_
            exact W.iret (v := (nI t1)) hx hb hr (fun t ht hW => ⟨⟨_, ((prG (8712 * (bgB bg on - 1) + 132 * st) (min rl C) tr rc (stG bg t1 sg)), (upd (taP (upd ta 5 (skN ch (ta 5) (chOf c0))) (ta 3 + cS tr rc C rl) (ta 4 + cC C rl)) 2 (ta 2 + 1)), (t1, t2, t3), 0, (t1, t2, t3)), rfl, Or.inl ⟨by rw [hT1]; exact hfit, by rw [hT1], hT, rfl, by rw [hT1, lnQ, lnI, hsk, if_pos rfl, if_pos rfl], rfl⟩, by rw [ht]; exact hP, hD⟩, hS.F ht⟩) hS.2.2 dX3_line_168
      ·
        have hfit : ¬ t1 ≤ 40 := fun h9 => c_111 (nI_le (b := 40) h9 (by decide))
        refine lv_bipush (v := (-6)) hx hb dX3_line_114 (by decide +kernel) ?_
        exact W.iret (v := (-6)) hx hb hr (fun t ht hW => ⟨⟨_, (sg, ta, (bg, st, on), rl, (t1, t2, t3)), rfl, Or.inr ⟨by rw [hT1]; exact hfit, rfl, rfl⟩, by rw [ht]; exact hP, hD⟩, hS.F ht⟩) hS.2.2 dX3_line_116
  have k0 : ∀ (H : Heap) (locs : List Loc) (ls : Array Slot), (isSk c0 = false) → va_P D vwCl (wM cI m0 mS mC mT mR mA 0 (nI L) (nI C) (nI rl) (nI bg) (nI st) mk (zb on) (nI tp) (nI tl) (zb tb) sg ch tr rc ta) H → va_D A (wM cI m0 mS mC mT mR mA 0 (nI L) (nI C) (nI rl) (nI bg) (nI st) mk (zb on) (nI tp) (nI tl) (zb tb) sg ch tr rc ta) → va_S A s.heap H locs → lv_has ls 6 [(0, .ref m0), (1, .int c0), (2, .int 0)] → W p l e (headSpec wsX3_line ({ frames := 2, cells := 0, slots := 0, locals := 46 })).room s m (([.ref m0, .int c0] : List Value).toArray) below meth c H locs 0 0 (MQ below (qi D (fun (r : Int32) (u : (Nat → Int32) × (Nat → Int32) × (Nat × Nat × Bool) × Nat × (Nat × Nat × Bool)) => ((lnT L bg st on (isSk c0) w).1 ≤ 40 ∧ r = nI (lnT L bg st on (isSk c0) w).1 ∧ u.2.2.1 = (lnT L bg st on (isSk c0) w) ∧ u.2.2.2.1 = 0 ∧ u.1 = prG (8712 * lnQ L bg st on (isSk c0) w + 132 * lnI L bg st on (isSk c0) w) (min rl C) tr rc (stG bg (lnT L bg st on (isSk c0) w).1 sg) ∧ u.2.1 = upd (taP (upd ta 5 (skN ch (ta 5) (chOf c0))) (ta 3 + cS tr rc C rl) (ta 4 + cC C rl)) 2 (ta 2 + 1)) ∨ (¬ (lnT L bg st on (isSk c0) w).1 ≤ 40 ∧ r = -6 ∧ (u.1, u.2.1, u.2.2.1, u.2.2.2.1) = (sg, ta, (bg, st, on), rl))) (fun u : (Nat → Int32) × (Nat → Int32) × (Nat × Nat × Bool) × Nat × (Nat × Nat × Bool) => wM cI m0 mS mC mT mR mA 0 (nI L) (nI C) (nI u.2.2.2.1) (nI u.2.2.1.1) (nI u.2.2.1.2.1) mk (zb u.2.2.1.2.2) (nI u.2.2.2.2.1) (nI u.2.2.2.2.2.1) (zb u.2.2.2.2.2.2) u.1 ch tr rc u.2.1) (A)) (([.ref m0, .int c0] : List Value).toArray) s 0 0 A) (F0 m 39 ls []) := by
    intro H locs ls hsk hP hD hS hl
    refine lv_aload_n hx hb dX3_line_39 rfl (lv_at hl 0 rfl) ?_
    refine callQv (va_runV (As := []) (rest := []) ⟨hx, hb, hml, hown, hts⟩ (c_X3_tries l) (cwV 0 hts gX3_line_X3_tries rfl rfl rfl (by decide +kernel) ⟨(Nat.le_of_ble_eq_true rfl), (Nat.le_of_ble_eq_true rfl)⟩) (mu_pre hK hP hD rfl 0 rfl) rfl rfl hl.1 rfl (lv_room (Nat.le_of_ble_eq_true rfl)) dX3_line_40 ⟨(Nat.le_of_ble_eq_true rfl), (Nat.le_of_ble_eq_true rfl)⟩) hD hS hA (fun u_40 H locs w_40 hP hD hS => ?_)
    have hP : va_P D vwCl (wM cI m0 mS mC mT mR mA 0 (nI L) (nI C) (nI rl) (nI bg) (nI st) mk (zb on) (nI bg) (nI st) (zb on) sg ch tr rc ta) H := hP
    have hD : va_D A (wM cI m0 mS mC mT mR mA 0 (nI L) (nI C) (nI rl) (nI bg) (nI st) mk (zb on) (nI bg) (nI st) (zb on) sg ch tr rc ta) := hD
    refine lv_iload_n hx hb dX3_line_43 rfl (lv_at hl 2 rfl) ?_
    refine lv_if_ne (tgt := 56) hx hb dX3_line_44 (by decide) (fun c_44 => absurd (rfl) c_44) (fun c_44 => ?_)
    refine lv_aload_n hx hb dX3_line_47 rfl (lv_at hl 0 rfl) ?_
    refine lv_aload_n hx hb dX3_line_48 rfl (lv_at hl 0 rfl) ?_
    refine lv_iload_n hx hb dX3_line_49 rfl (lv_at hl 1 rfl) ?_
    refine vp_callSi (W.runV (As := [.int c0]) (rest := [.ref m0]) ⟨hx, hb, hml, hown, hts⟩ (c_X3_ahead l hL0 hL hst hch c0 (isSk_first hsk)) (cwV 1 hts gX3_line_X3_ahead rfl rfl rfl (by decide +kernel) ⟨(Nat.le_of_ble_eq_true rfl), (Nat.le_of_ble_eq_true rfl)⟩) (ro_pre hK hP rfl 0 rfl) rfl rfl hl.1 rfl (lv_room (Nat.le_of_ble_eq_true rfl)) dX3_line_50 ⟨(Nat.le_of_ble_eq_true rfl), (Nat.le_of_ble_eq_true rfl)⟩) (fun r_50 w_50 => ?_)
    subst w_50
    refine lv_topi (fun x_50 ex_50 => ?_)
    obtain rfl : x_50 = nI w := ex_50.trans (by rw [hw])
    refine callQv (va_runV (As := [.int (nI w)]) (rest := []) ⟨hx, hb, hml, hown, hts⟩ (c_X3_move l hL0 hL hst (by omega) w hwl) (cwV 1 hts gX3_line_X3_move rfl rfl rfl (by decide +kernel) ⟨(Nat.le_of_ble_eq_true rfl), (Nat.le_of_ble_eq_true rfl)⟩) (mu_pre hK hP hD rfl 0 rfl) rfl rfl hl.1 rfl (lv_room (Nat.le_of_ble_eq_true rfl)) dX3_line_53 ⟨(Nat.le_of_ble_eq_true rfl), (Nat.le_of_ble_eq_true rfl)⟩) hD hS hA (fun u_53 H locs w_53 hP hD hS => ?_)
    obtain ⟨t1, t2, t3⟩ := u_53
    have hmv : (t1, t2, t3) = mvn L w (bg, st, on) := w_53
    have hP : va_P D vwCl (wM cI m0 mS mC mT mR mA 0 (nI L) (nI C) (nI rl) (nI bg) (nI st) mk (zb on) (nI t1) (nI t2) (zb t3) sg ch tr rc ta) H := hP
    have hD : va_D A (wM cI m0 mS mC mT mR mA 0 (nI L) (nI C) (nI rl) (nI bg) (nI st) mk (zb on) (nI t1) (nI t2) (zb t3) sg ch tr rc ta) := hD
    have ht2 : t2 < L := by have h9 := mvn_st hL0 w (bg, st, on) hst; rw [← hmv] at h9; exact h9
    have ht1 : bg ≤ t1 ∧ t1 ≤ 106 := by
      have h8 := mvn_le (L := L) (Nat.zero_le w) (bg, st, on)
      have h9 := mvn_up (L := L) w (bg, st, on)
      rw [← hmv] at h8 h9
      dsimp only [mvn] at h8 h9
      omega
    have ht3 : t3 = true → 0 < t1 := fun h9 => by
      have h8 := mvn_on (L := L) w (bg, st, on) (by rw [← hmv]; exact h9)
      exact Nat.lt_of_lt_of_le (hon h8) ht1.1
    refine lv_aload_n hx hb dX3_line_56 rfl (lv_at hl 0 rfl) ?_
    refine callQv (va_runV (As := []) (rest := []) ⟨hx, hb, hml, hown, hts⟩ (c_X3_begin l) (cwV 0 hts gX3_line_X3_begin rfl rfl rfl (by decide +kernel) ⟨(Nat.le_of_ble_eq_true rfl), (Nat.le_of_ble_eq_true rfl)⟩) (mu_pre hK hP hD rfl 0 rfl) rfl rfl hl.1 rfl (lv_room (Nat.le_of_ble_eq_true rfl)) dX3_line_57 ⟨(Nat.le_of_ble_eq_true rfl), (Nat.le_of_ble_eq_true rfl)⟩) hD hS hA (fun u_57 H locs w_57 hP hD hS => ?_)
    have hP : va_P D vwCl (wM cI m0 mS mC mT mR mA 0 (nI L) (nI C) (nI rl) (nI bg) (nI st) mk (zb on) (nI (bgB t1 t3)) (nI t2) (zb true) sg ch tr rc ta) H := hP
    have hD : va_D A (wM cI m0 mS mC mT mR mA 0 (nI L) (nI C) (nI rl) (nI bg) (nI st) mk (zb on) (nI (bgB t1 t3)) (nI t2) (zb true) sg ch tr rc ta) := hD
    have hpp : 0 < bgB t1 t3 := bgB_pos ht3
    have hup : bgB t1 t3 ≤ 107 := Nat.le_trans (bgB_up t1 t3) (by omega)
    refine lv_aload_n hx hb dX3_line_60 rfl (lv_at hl 0 rfl) ?_
    refine va_get (D := D) (ci := 4) (v := .int (nI (bgB t1 t3))) (C := RX3) (T := TX3) (N := 16) hx hb hts hinX3 hown hK.1 hP 0 rfl rfl 13 (by decide) (hts (.fieldLink RX3 42 "PrinterRowsModel" "trialPages" "I") (by decide +kernel)) (fun _ h9 => h9) rfl dX3_line_61 ?_
    refine lv_iconst (v := 1) hx hb dX3_line_64 (by decide +kernel) ?_
    refine lv_isub hx hb dX3_line_65 ?_
    refine lv_topi (fun x_65 ex_65 => ?_)
    obtain rfl : x_65 = nI ((bgB t1 t3) - 1) := ex_65.trans (sub1 hpp)
    refine lv_istore_n (lv' := [(3, .int (nI ((bgB t1 t3) - 1))), (0, .ref m0), (1, .int c0), (2, .int 0)]) hx hb dX3_line_66 rfl hl (by decide) rfl (fun ls hl => ?_)
    refine lv_aload_n hx hb dX3_line_67 rfl (lv_at hl 1 rfl) ?_
    refine va_get (D := D) (ci := 4) (v := .int (nI t2)) (C := RX3) (T := TX3) (N := 16) hx hb hts hinX3 hown hK.1 hP 0 rfl rfl 14 (by decide) (hts (.fieldLink RX3 48 "PrinterRowsModel" "trialLine" "I") (by decide +kernel)) (fun _ h9 => h9) rfl dX3_line_68 ?_
    refine lv_istore (lv' := [(4, .int (nI t2)), (3, .int (nI ((bgB t1 t3) - 1))), (0, .ref m0), (1, .int c0), (2, .int 0)]) hx hb dX3_line_71 hl (by decide) rfl (fun ls hl => ?_)
    refine lv_iload_n hx hb dX3_line_73 rfl (lv_at hl 4 rfl) ?_
    refine lv_if_eq (tgt := 105) hx hb dX3_line_74 (by decide) (fun c_74 => ?_) (fun c_74 => absurd (rfl) c_74)
    have hT : (bgB t1 t3, t2, true) = (lnT L bg st on (isSk c0) w) := by rw [lnT, hsk, if_neg (by decide), ← hmv]
    have hT1 : (lnT L bg st on (isSk c0) w).1 = (bgB t1 t3) := by rw [← hT]
    have hbt : bg ≤ (bgB t1 t3) := Nat.le_trans ht1.1 (bgB_ge t1 t3)
    refine lv_aload_n hx hb dX3_line_105 rfl (lv_at hl 2 rfl) ?_
    refine va_get (D := D) (ci := 4) (v := .int (nI (bgB t1 t3))) (C := RX3) (T := TX3) (N := 16) hx hb hts hinX3 hown hK.1 hP 0 rfl rfl 13 (by decide) (hts (.fieldLink RX3 42 "PrinterRowsModel" "trialPages" "I") (by decide +kernel)) (fun _ h9 => h9) rfl dX3_line_106 ?_
    refine lv_bipush (v := 40) hx hb dX3_line_109 (by decide +kernel) ?_
    refine lv_icmp_le (tgt := 117) hx hb dX3_line_111 (by decide) (fun c_111 => ?_) (fun c_111 => ?_)
    ·
      have hfit : (bgB t1 t3) ≤ 40 := (nI_leI (b := 40) (by omega) (by decide)).mp c_111
      refine lv_iload_n hx hb dX3_line_117 rfl (lv_at hl 3 rfl) ?_
      refine vp_callSi (W.runS (As := [.int c0]) (rest := []) ⟨hx, hb, hml, hown, hts⟩ (c_X3_channelOf l (c0)) (va_cwS 1 hts gX3_line_X3_channelOf rfl rfl rfl (by decide +kernel) ⟨(Nat.le_of_ble_eq_true rfl), (Nat.le_of_ble_eq_true rfl)⟩) pu_pre rfl rfl hl.1 rfl (lv_room (Nat.le_of_ble_eq_true rfl)) dX3_line_118 ⟨(Nat.le_of_ble_eq_true rfl), (Nat.le_of_ble_eq_true rfl)⟩) (fun r_118 w_118 => ?_)
      subst w_118
      refine lv_istore (lv' := [(5, .int (coN c0)), (4, .int (nI t2)), (3, .int (nI ((bgB t1 t3) - 1))), (0, .ref m0), (1, .int c0), (2, .int 0)]) hx hb dX3_line_121 hl (by decide) rfl (fun ls hl => ?_)
      refine lv_aload_n hx hb dX3_line_123 rfl (lv_at hl 3 rfl) ?_
      refine va_get (D := D) (ci := 4) (v := .ref mA) (C := RX3) (T := TX3) (N := 16) hx hb hts hinX3 hown hK.1 hP 0 rfl rfl 7 (by decide) (hts (.fieldLink RX3 23 "PrinterRowsModel" "tallies" "[I") (by decide +kernel)) (fun _ h9 => h9) rfl dX3_line_124 ?_
      refine lv_iconst (v := 5) hx hb dX3_line_127 (by decide +kernel) ?_
      refine lv_dup2_11 hx hb dX3_line_128 rfl rfl ?_
      refine va_iald hx hb hK.1 hP 5 0 rfl rfl (vp_in_iff.mpr (by decide +kernel)) dX3_line_129 ?_
      refine lv_topi (fun x_129 ex_129 => ?_)
      obtain rfl : x_129 = (ta 5) := ex_129
      refine lv_iload hx hb dX3_line_130 (lv_at hl 0 rfl) ?_
      refine lv_if_le (tgt := 150) hx hb dX3_line_132 (by decide) (fun c_132 => ?_) (fun c_132 => ?_)
      ·
        refine lv_iconst (v := 0) hx hb dX3_line_150 (by decide +kernel) ?_
        refine lv_iadd hx hb dX3_line_151 ?_
        refine va_iast hx hb hK.1 hP hD hS 5 0 rfl rfl (vp_in_iff.mpr (by decide +kernel)) dX3_line_152 (fun H locs hP hD hS => ?_)
        rw [show (upd ta (5 : Int32).toNatClampNeg ((ta 5) + 0)) = (upd ta 5 (skN ch (ta 5) (chOf c0))) from by rw [show (5 : Int32).toNatClampNeg = 5 from rfl, skN, if_pos (coN_le c_132), Int32.add_zero]] at hP hD
        have hP : va_P D vwCl (wM cI m0 mS mC mT mR mA 0 (nI L) (nI C) (nI rl) (nI bg) (nI st) mk (zb on) (nI (bgB t1 t3)) (nI t2) (zb true) sg ch tr rc (upd ta 5 (skN ch (ta 5) (chOf c0)))) H := hP
        have hD : va_D A (wM cI m0 mS mC mT mR mA 0 (nI L) (nI C) (nI rl) (nI bg) (nI st) mk (zb on) (nI (bgB t1 t3)) (nI t2) (zb true) sg ch tr rc (upd ta 5 (skN ch (ta 5) (chOf c0)))) := hD
        refine lv_aload_n hx hb dX3_line_153 rfl (lv_at hl 3 rfl) ?_
        refine callQv (va_runV (As := []) (rest := []) ⟨hx, hb, hml, hown, hts⟩ (c_X3_settle l hbt hfit) (cwV 0 hts gX3_line_X3_settle rfl rfl rfl (by decide +kernel) ⟨(Nat.le_of_ble_eq_true rfl), (Nat.le_of_ble_eq_true rfl)⟩) (mu_pre hK hP hD rfl 0 rfl) rfl rfl hl.1 rfl (lv_room (Nat.le_of_ble_eq_true rfl)) dX3_line_154 ⟨(Nat.le_of_ble_eq_true rfl), (Nat.le_of_ble_eq_true rfl)⟩) hD hS hA (fun u_154 H locs w_154 hP hD hS => ?_)
        subst w_154
        have hP : va_P D vwCl (wM cI m0 mS mC mT mR mA 0 (nI L) (nI C) (nI rl) (nI (bgB t1 t3)) (nI t2) mk (zb true) (nI (bgB t1 t3)) (nI t2) (zb true) (stG bg (bgB t1 t3) sg) ch tr rc (upd ta 5 (skN ch (ta 5) (chOf c0)))) H := hP
        have hD : va_D A (wM cI m0 mS mC mT mR mA 0 (nI L) (nI C) (nI rl) (nI (bgB t1 t3)) (nI t2) mk (zb true) (nI (bgB t1 t3)) (nI t2) (zb true) (stG bg (bgB t1 t3) sg) ch tr rc (upd ta 5 (skN ch (ta 5) (chOf c0)))) := hD
        refine lv_aload_n hx hb dX3_line_157 rfl (lv_at hl 3 rfl) ?_
        refine lv_iload_n hx hb dX3_line_158 rfl (lv_at hl 2 rfl) ?_
        refine lv_iload hx hb dX3_line_159 (lv_at hl 1 rfl) ?_
        refine callQv (va_runV (As := [.int (nI ((bgB t1 t3) - 1)), .int (nI t2)]) (rest := []) ⟨hx, hb, hml, hown, hts⟩ (c_X3_print l hC hrl hrc (bgB t1 t3 - 1) t2 (by omega) (by omega)) (cwV 2 hts gX3_line_X3_print rfl rfl rfl (by decide +kernel) ⟨(Nat.le_of_ble_eq_true rfl), (Nat.le_of_ble_eq_true rfl)⟩) (mu_pre hK hP hD rfl 0 rfl) rfl rfl hl.1 rfl (lv_room (Nat.le_of_ble_eq_true rfl)) dX3_line_161 ⟨(Nat.le_of_ble_eq_true rfl), (Nat.le_of_ble_eq_true rfl)⟩) hD hS hA (fun u_161 H locs w_161 hP hD hS => ?_)
        have hP : va_P D vwCl (wM cI m0 mS mC mT mR mA 0 (nI L) (nI C) (nI 0) (nI (bgB t1 t3)) (nI t2) mk (zb true) (nI (bgB t1 t3)) (nI t2) (zb true) (prG (8712 * (bgB t1 t3 - 1) + 132 * t2) (min rl C) tr rc (stG bg (bgB t1 t3) sg)) ch tr rc (upd (taP (upd ta 5 (skN ch (ta 5) (chOf c0))) (ta 3 + cS tr rc C rl) (ta 4 + cC C rl)) 2 (ta 2 + 1))) H := hP
        have hD : va_D A (wM cI m0 mS mC mT mR mA 0 (nI L) (nI C) (nI 0) (nI (bgB t1 t3)) (nI t2) mk (zb true) (nI (bgB t1 t3)) (nI t2) (zb true) (prG (8712 * (bgB t1 t3 - 1) + 132 * t2) (min rl C) tr rc (stG bg (bgB t1 t3) sg)) ch tr rc (upd (taP (upd ta 5 (skN ch (ta 5) (chOf c0))) (ta 3 + cS tr rc C rl) (ta 4 + cC C rl)) 2 (ta 2 + 1))) := hD
        refine lv_aload_n hx hb dX3_line_164 rfl (lv_at hl 3 rfl) ?_
        refine va_get (D := D) (ci := 4) (v := .int (nI (bgB t1 t3))) (C := RX3) (T := TX3) (N := 16) hx hb hts hinX3 hown hK.1 hP 0 rfl rfl 9 (by decide) (hts (.fieldLink RX3 39 "PrinterRowsModel" "pages" "I") (by decide +kernel)) (fun _ h9 => h9) rfl dX3_line_165 ?_
        exact W.iret (v := (nI (bgB t1 t3))) hx hb hr (fun t ht hW => ⟨⟨_, ((prG (8712 * (bgB t1 t3 - 1) + 132 * t2) (min rl C) tr rc (stG bg (bgB t1 t3) sg)), (upd (taP (upd ta 5 (skN ch (ta 5) (chOf c0))) (ta 3 + cS tr rc C rl) (ta 4 + cC C rl)) 2 (ta 2 + 1)), ((bgB t1 t3), t2, true), 0, ((bgB t1 t3), t2, true)), rfl, Or.inl ⟨by rw [hT1]; exact hfit, by rw [hT1], hT, rfl, by rw [hT1, lnQ, lnI, hsk, if_neg (by decide), if_neg (by decide), ← hmv], rfl⟩, by rw [ht]; exact hP, hD⟩, hS.F ht⟩) hS.2.2 dX3_line_168
      ·
        refine lv_aload_n hx hb dX3_line_135 rfl (lv_at hl 3 rfl) ?_
        refine va_get (D := D) (ci := 4) (v := .ref mC) (C := RX3) (T := TX3) (N := 16) hx hb hts hinX3 hown hK.1 hP 0 rfl rfl 4 (by decide) (hts (.fieldLink RX3 14 "PrinterRowsModel" "channels" "[I") (by decide +kernel)) (fun _ h9 => h9) rfl dX3_line_136 ?_
        refine lv_iload hx hb dX3_line_139 (lv_at hl 0 rfl) ?_
        refine va_iald hx hb hK.1 hP 2 0 rfl rfl (by rw [(coN_gt c_132).2]; exact isCh_in (coN_gt c_132).1) dX3_line_141 ?_
        refine lv_iconst (v := (-1)) hx hb dX3_line_142 (by decide +kernel) ?_
        refine lv_icmp_ne (tgt := 150) hx hb dX3_line_143 (by decide) (fun c_143 => ?_) (fun c_143 => ?_)
        ·
          refine lv_iconst (v := 0) hx hb dX3_line_150 (by decide +kernel) ?_
          refine lv_iadd hx hb dX3_line_151 ?_
          refine va_iast hx hb hK.1 hP hD hS 5 0 rfl rfl (vp_in_iff.mpr (by decide +kernel)) dX3_line_152 (fun H locs hP hD hS => ?_)
          rw [show (upd ta (5 : Int32).toNatClampNeg ((ta 5) + 0)) = (upd ta 5 (skN ch (ta 5) (chOf c0))) from by rw [show (5 : Int32).toNatClampNeg = 5 from rfl, skN, if_neg (coN_gt c_132).1, if_pos (by rw [← (coN_gt c_132).2]; exact c_143), Int32.add_zero]] at hP hD
          have hP : va_P D vwCl (wM cI m0 mS mC mT mR mA 0 (nI L) (nI C) (nI rl) (nI bg) (nI st) mk (zb on) (nI (bgB t1 t3)) (nI t2) (zb true) sg ch tr rc (upd ta 5 (skN ch (ta 5) (chOf c0)))) H := hP
          have hD : va_D A (wM cI m0 mS mC mT mR mA 0 (nI L) (nI C) (nI rl) (nI bg) (nI st) mk (zb on) (nI (bgB t1 t3)) (nI t2) (zb true) sg ch tr rc (upd ta 5 (skN ch (ta 5) (chOf c0)))) := hD
          refine lv_aload_n hx hb dX3_line_153 rfl (lv_at hl 3 rfl) ?_
          refine callQv (va_runV (As := []) (rest := []) ⟨hx, hb, hml, hown, hts⟩ (c_X3_settle l hbt hfit) (cwV 0 hts gX3_line_X3_settle rfl rfl rfl (by decide +kernel) ⟨(Nat.le_of_ble_eq_true rfl), (Nat.le_of_ble_eq_true rfl)⟩) (mu_pre hK hP hD rfl 0 rfl) rfl rfl hl.1 rfl (lv_room (Nat.le_of_ble_eq_true rfl)) dX3_line_154 ⟨(Nat.le_of_ble_eq_true rfl), (Nat.le_of_ble_eq_true rfl)⟩) hD hS hA (fun u_154 H locs w_154 hP hD hS => ?_)
          subst w_154
          have hP : va_P D vwCl (wM cI m0 mS mC mT mR mA 0 (nI L) (nI C) (nI rl) (nI (bgB t1 t3)) (nI t2) mk (zb true) (nI (bgB t1 t3)) (nI t2) (zb true) (stG bg (bgB t1 t3) sg) ch tr rc (upd ta 5 (skN ch (ta 5) (chOf c0)))) H := hP
          have hD : va_D A (wM cI m0 mS mC mT mR mA 0 (nI L) (nI C) (nI rl) (nI (bgB t1 t3)) (nI t2) mk (zb true) (nI (bgB t1 t3)) (nI t2) (zb true) (stG bg (bgB t1 t3) sg) ch tr rc (upd ta 5 (skN ch (ta 5) (chOf c0)))) := hD
          refine lv_aload_n hx hb dX3_line_157 rfl (lv_at hl 3 rfl) ?_
          refine lv_iload_n hx hb dX3_line_158 rfl (lv_at hl 2 rfl) ?_
          refine lv_iload hx hb dX3_line_159 (lv_at hl 1 rfl) ?_
          refine callQv (va_runV (As := [.int (nI ((bgB t1 t3) - 1)), .int (nI t2)]) (rest := []) ⟨hx, hb, hml, hown, hts⟩ (c_X3_print l hC hrl hrc (bgB t1 t3 - 1) t2 (by omega) (by omega)) (cwV 2 hts gX3_line_X3_print rfl rfl rfl (by decide +kernel) ⟨(Nat.le_of_ble_eq_true rfl), (Nat.le_of_ble_eq_true rfl)⟩) (mu_pre hK hP hD rfl 0 rfl) rfl rfl hl.1 rfl (lv_room (Nat.le_of_ble_eq_true rfl)) dX3_line_161 ⟨(Nat.le_of_ble_eq_true rfl), (Nat.le_of_ble_eq_true rfl)⟩) hD hS hA (fun u_161 H locs w_161 hP hD hS => ?_)
          have hP : va_P D vwCl (wM cI m0 mS mC mT mR mA 0 (nI L) (nI C) (nI 0) (nI (bgB t1 t3)) (nI t2) mk (zb true) (nI (bgB t1 t3)) (nI t2) (zb true) (prG (8712 * (bgB t1 t3 - 1) + 132 * t2) (min rl C) tr rc (stG bg (bgB t1 t3) sg)) ch tr rc (upd (taP (upd ta 5 (skN ch (ta 5) (chOf c0))) (ta 3 + cS tr rc C rl) (ta 4 + cC C rl)) 2 (ta 2 + 1))) H := hP
          have hD : va_D A (wM cI m0 mS mC mT mR mA 0 (nI L) (nI C) (nI 0) (nI (bgB t1 t3)) (nI t2) mk (zb true) (nI (bgB t1 t3)) (nI t2) (zb true) (prG (8712 * (bgB t1 t3 - 1) + 132 * t2) (min rl C) tr rc (stG bg (bgB t1 t3) sg)) ch tr rc (upd (taP (upd ta 5 (skN ch (ta 5) (chOf c0))) (ta 3 + cS tr rc C rl) (ta 4 + cC C rl)) 2 (ta 2 + 1))) := hD
          refine lv_aload_n hx hb dX3_line_164 rfl (lv_at hl 3 rfl) ?_
          refine va_get (D := D) (ci := 4) (v := .int (nI (bgB t1 t3))) (C := RX3) (T := TX3) (N := 16) hx hb hts hinX3 hown hK.1 hP 0 rfl rfl 9 (by decide) (hts (.fieldLink RX3 39 "PrinterRowsModel" "pages" "I") (by decide +kernel)) (fun _ h9 => h9) rfl dX3_line_165 ?_
          exact W.iret (v := (nI (bgB t1 t3))) hx hb hr (fun t ht hW => ⟨⟨_, ((prG (8712 * (bgB t1 t3 - 1) + 132 * t2) (min rl C) tr rc (stG bg (bgB t1 t3) sg)), (upd (taP (upd ta 5 (skN ch (ta 5) (chOf c0))) (ta 3 + cS tr rc C rl) (ta 4 + cC C rl)) 2 (ta 2 + 1)), ((bgB t1 t3), t2, true), 0, ((bgB t1 t3), t2, true)), rfl, Or.inl ⟨by rw [hT1]; exact hfit, by rw [hT1], hT, rfl, by rw [hT1, lnQ, lnI, hsk, if_neg (by decide), if_neg (by decide), ← hmv], rfl⟩, by rw [ht]; exact hP, hD⟩, hS.F ht⟩) hS.2.2 dX3_line_168
        ·
          refine lv_iconst (v := 1) hx hb dX3_line_146 (by decide +kernel) ?_
          refine lv_goto (tgt := 151) hx hb dX3_line_147 (by decide) ?_
          refine lv_iadd hx hb dX3_line_151 ?_
          refine va_iast hx hb hK.1 hP hD hS 5 0 rfl rfl (vp_in_iff.mpr (by decide +kernel)) dX3_line_152 (fun H locs hP hD hS => ?_)
          rw [show (upd ta (5 : Int32).toNatClampNeg ((ta 5) + 1)) = (upd ta 5 (skN ch (ta 5) (chOf c0))) from by rw [show (5 : Int32).toNatClampNeg = 5 from rfl, skN, if_neg (coN_gt c_132).1, if_neg (fun h9 => h9 (by rw [← (coN_gt c_132).2]; exact c_143))]] at hP hD
          have hP : va_P D vwCl (wM cI m0 mS mC mT mR mA 0 (nI L) (nI C) (nI rl) (nI bg) (nI st) mk (zb on) (nI (bgB t1 t3)) (nI t2) (zb true) sg ch tr rc (upd ta 5 (skN ch (ta 5) (chOf c0)))) H := hP
          have hD : va_D A (wM cI m0 mS mC mT mR mA 0 (nI L) (nI C) (nI rl) (nI bg) (nI st) mk (zb on) (nI (bgB t1 t3)) (nI t2) (zb true) sg ch tr rc (upd ta 5 (skN ch (ta 5) (chOf c0)))) := hD
          refine lv_aload_n hx hb dX3_line_153 rfl (lv_at hl 3 rfl) ?_
          refine callQv (va_runV (As := []) (rest := []) ⟨hx, hb, hml, hown, hts⟩ (c_X3_settle l hbt hfit) (cwV 0 hts gX3_line_X3_settle rfl rfl rfl (by decide +kernel) ⟨(Nat.le_of_ble_eq_true rfl), (Nat.le_of_ble_eq_true rfl)⟩) (mu_pre hK hP hD rfl 0 rfl) rfl rfl hl.1 rfl (lv_room (Nat.le_of_ble_eq_true rfl)) dX3_line_154 ⟨(Nat.le_of_ble_eq_true rfl), (Nat.le_of_ble_eq_true rfl)⟩) hD hS hA (fun u_154 H locs w_154 hP hD hS => ?_)
          subst w_154
          have hP : va_P D vwCl (wM cI m0 mS mC mT mR mA 0 (nI L) (nI C) (nI rl) (nI (bgB t1 t3)) (nI t2) mk (zb true) (nI (bgB t1 t3)) (nI t2) (zb true) (stG bg (bgB t1 t3) sg) ch tr rc (upd ta 5 (skN ch (ta 5) (chOf c0)))) H := hP
          have hD : va_D A (wM cI m0 mS mC mT mR mA 0 (nI L) (nI C) (nI rl) (nI (bgB t1 t3)) (nI t2) mk (zb true) (nI (bgB t1 t3)) (nI t2) (zb true) (stG bg (bgB t1 t3) sg) ch tr rc (upd ta 5 (skN ch (ta 5) (chOf c0)))) := hD
          refine lv_aload_n hx hb dX3_line_157 rfl (lv_at hl 3 rfl) ?_
          refine lv_iload_n hx hb dX3_line_158 rfl (lv_at hl 2 rfl) ?_
          refine lv_iload hx hb dX3_line_159 (lv_at hl 1 rfl) ?_
          refine callQv (va_runV (As := [.int (nI ((bgB t1 t3) - 1)), .int (nI t2)]) (rest := []) ⟨hx, hb, hml, hown, hts⟩ (c_X3_print l hC hrl hrc (bgB t1 t3 - 1) t2 (by omega) (by omega)) (cwV 2 hts gX3_line_X3_print rfl rfl rfl (by decide +kernel) ⟨(Nat.le_of_ble_eq_true rfl), (Nat.le_of_ble_eq_true rfl)⟩) (mu_pre hK hP hD rfl 0 rfl) rfl rfl hl.1 rfl (lv_room (Nat.le_of_ble_eq_true rfl)) dX3_line_161 ⟨(Nat.le_of_ble_eq_true rfl), (Nat.le_of_ble_eq_true rfl)⟩) hD hS hA (fun u_161 H locs w_161 hP hD hS => ?_)
          have hP : va_P D vwCl (wM cI m0 mS mC mT mR mA 0 (nI L) (nI C) (nI 0) (nI (bgB t1 t3)) (nI t2) mk (zb true) (nI (bgB t1 t3)) (nI t2) (zb true) (prG (8712 * (bgB t1 t3 - 1) + 132 * t2) (min rl C) tr rc (stG bg (bgB t1 t3) sg)) ch tr rc (upd (taP (upd ta 5 (skN ch (ta 5) (chOf c0))) (ta 3 + cS tr rc C rl) (ta 4 + cC C rl)) 2 (ta 2 + 1))) H := hP
          have hD : va_D A (wM cI m0 mS mC mT mR mA 0 (nI L) (nI C) (nI 0) (nI (bgB t1 t3)) (nI t2) mk (zb true) (nI (bgB t1 t3)) (nI t2) (zb true) (prG (8712 * (bgB t1 t3 - 1) + 132 * t2) (min rl C) tr rc (stG bg (bgB t1 t3) sg)) ch tr rc (upd (taP (upd ta 5 (skN ch (ta 5) (chOf c0))) (ta 3 + cS tr rc C rl) (ta 4 + cC C rl)) 2 (ta 2 + 1))) := hD
          refine lv_aload_n hx hb dX3_line_164 rfl (lv_at hl 3 rfl) ?_
          refine va_get (D := D) (ci := 4) (v := .int (nI (bgB t1 t3))) (C := RX3) (T := TX3) (N := 16) hx hb hts hinX3 hown hK.1 hP 0 rfl rfl 9 (by decide) (hts (.fieldLink RX3 39 "PrinterRowsModel" "pages" "I") (by decide +kernel)) (fun _ h9 => h9) rfl dX3_line_165 ?_
          exact W.iret (v := (nI (bgB t1 t3))) hx hb hr (fun t ht hW => ⟨⟨_, ((prG (8712 * (bgB t1 t3 - 1) + 132 * t2) (min rl C) tr rc (stG bg (bgB t1 t3) sg)), (upd (taP (upd ta 5 (skN ch (ta 5) (chOf c0))) (ta 3 + cS tr rc C rl) (ta 4 + cC C rl)) 2 (ta 2 + 1)), ((bgB t1 t3), t2, true), 0, ((bgB t1 t3), t2, true)), rfl, Or.inl ⟨by rw [hT1]; exact hfit, by rw [hT1], hT, rfl, by rw [hT1, lnQ, lnI, hsk, if_neg (by decide), if_neg (by decide), ← hmv], rfl⟩, by rw [ht]; exact hP, hD⟩, hS.F ht⟩) hS.2.2 dX3_line_168
    ·
      have hfit : ¬ (bgB t1 t3) ≤ 40 := fun h9 => c_111 (nI_le (b := 40) h9 (by decide))
      refine lv_bipush (v := (-6)) hx hb dX3_line_114 (by decide +kernel) ?_
      exact W.iret (v := (-6)) hx hb hr (fun t ht hW => ⟨⟨_, (sg, ta, (bg, st, on), rl, (bgB t1 t3, t2, true)), rfl, Or.inr ⟨by rw [hT1]; exact hfit, rfl, rfl⟩, by rw [ht]; exact hP, hD⟩, hS.F ht⟩) hS.2.2 dX3_line_116
  refine lv_iload_n hx hb dX3_line_5 rfl (lv_at hl 1 rfl) ?_
  refine lv_sipush (v := 256) hx hb dX3_line_6 (by decide +kernel) ?_
  refine lv_icmp_lt (tgt := 19) hx hb dX3_line_9 (by decide) (fun c_9 => ?_) (fun c_9 => ?_)
  ·
    refine lv_iload_n hx hb dX3_line_19 rfl (lv_at hl 1 rfl) ?_
    refine lv_sipush (v := 273) hx hb dX3_line_20 (by decide +kernel) ?_
    refine lv_icmp_lt (tgt := 37) hx hb dX3_line_23 (by decide) (fun c_23 => ?_) (fun c_23 => ?_)
    ·
      refine lv_iconst (v := 0) hx hb dX3_line_37 (by decide +kernel) ?_
      refine lv_istore_n (lv' := [(2, .int 0), (0, .ref m0), (1, .int c0)]) hx hb dX3_line_38 rfl hl (by decide) rfl (fun ls hl => ?_)
      have f_9 := i32_lt.mp c_9
      have f_23 := i32_lt.mp c_23
      exact k0 _ _ _ (isSk_no (by omega)) hP hD hS (lv_sub hl [1, 2, 0] rfl)
    ·
      refine lv_iload_n hx hb dX3_line_26 rfl (lv_at hl 1 rfl) ?_
      refine lv_sipush (v := 284) hx hb dX3_line_27 (by decide +kernel) ?_
      refine lv_icmp_gt (tgt := 37) hx hb dX3_line_30 (by decide) (fun c_30 => ?_) (fun c_30 => ?_)
      ·
        refine lv_iconst (v := 0) hx hb dX3_line_37 (by decide +kernel) ?_
        refine lv_istore_n (lv' := [(2, .int 0), (0, .ref m0), (1, .int c0)]) hx hb dX3_line_38 rfl hl (by decide) rfl (fun ls hl => ?_)
        have f_9 := i32_lt.mp c_9
        have f_23 := i32_nlt c_23
        have f_30 := i32_lt.mp c_30
        exact k0 _ _ _ (isSk_no (by omega)) hP hD hS (lv_sub hl [1, 2, 0] rfl)
      ·
        refine lv_iconst (v := 1) hx hb dX3_line_33 (by decide +kernel) ?_
        refine lv_goto (tgt := 38) hx hb dX3_line_34 (by decide) ?_
        refine lv_istore_n (lv' := [(2, .int 1), (0, .ref m0), (1, .int c0)]) hx hb dX3_line_38 rfl hl (by decide) rfl (fun ls hl => ?_)
        have f_9 := i32_lt.mp c_9
        have f_23 := i32_nlt c_23
        have f_30 := i32_nlt c_30
        exact k1 _ _ _ (isSk_iff.mpr (by omega)) hP hD hS (lv_sub hl [1, 2, 0] rfl)
  ·
    refine lv_iload_n hx hb dX3_line_12 rfl (lv_at hl 1 rfl) ?_
    refine lv_sipush (v := 259) hx hb dX3_line_13 (by decide +kernel) ?_
    refine lv_icmp_le (tgt := 33) hx hb dX3_line_16 (by decide) (fun c_16 => ?_) (fun c_16 => ?_)
    ·
      refine lv_iconst (v := 1) hx hb dX3_line_33 (by decide +kernel) ?_
      refine lv_goto (tgt := 38) hx hb dX3_line_34 (by decide) ?_
      refine lv_istore_n (lv' := [(2, .int 1), (0, .ref m0), (1, .int c0)]) hx hb dX3_line_38 rfl hl (by decide) rfl (fun ls hl => ?_)
      have f_9 := i32_nlt c_9
      have f_16 := i32_le.mp c_16
      exact k1 _ _ _ (isSk_iff.mpr (by omega)) hP hD hS (lv_sub hl [1, 2, 0] rfl)
    ·
      refine lv_iload_n hx hb dX3_line_19 rfl (lv_at hl 1 rfl) ?_
      refine lv_sipush (v := 273) hx hb dX3_line_20 (by decide +kernel) ?_
      refine lv_icmp_lt (tgt := 37) hx hb dX3_line_23 (by decide) (fun c_23 => ?_) (fun c_23 => ?_)
      ·
        refine lv_iconst (v := 0) hx hb dX3_line_37 (by decide +kernel) ?_
        refine lv_istore_n (lv' := [(2, .int 0), (0, .ref m0), (1, .int c0)]) hx hb dX3_line_38 rfl hl (by decide) rfl (fun ls hl => ?_)
        have f_9 := i32_nlt c_9
        have f_16 := i32_nle c_16
        have f_23 := i32_lt.mp c_23
        exact k0 _ _ _ (isSk_no (by omega)) hP hD hS (lv_sub hl [1, 2, 0] rfl)
      ·
        refine lv_iload_n hx hb dX3_line_26 rfl (lv_at hl 1 rfl) ?_
        refine lv_sipush (v := 284) hx hb dX3_line_27 (by decide +kernel) ?_
        refine lv_icmp_gt (tgt := 37) hx hb dX3_line_30 (by decide) (fun c_30 => ?_) (fun c_30 => ?_)
        ·
          refine lv_iconst (v := 0) hx hb dX3_line_37 (by decide +kernel) ?_
          refine lv_istore_n (lv' := [(2, .int 0), (0, .ref m0), (1, .int c0)]) hx hb dX3_line_38 rfl hl (by decide) rfl (fun ls hl => ?_)
          have f_9 := i32_nlt c_9
          have f_16 := i32_nle c_16
          have f_23 := i32_nlt c_23
          have f_30 := i32_lt.mp c_30
          exact k0 _ _ _ (isSk_no (by omega)) hP hD hS (lv_sub hl [1, 2, 0] rfl)
        ·
          refine lv_iconst (v := 1) hx hb dX3_line_33 (by decide +kernel) ?_
          refine lv_goto (tgt := 38) hx hb dX3_line_34 (by decide) ?_
          refine lv_istore_n (lv' := [(2, .int 1), (0, .ref m0), (1, .int c0)]) hx hb dX3_line_38 rfl hl (by decide) rfl (fun ls hl => ?_)
          have f_9 := i32_nlt c_9
          have f_16 := i32_nle c_16
          have f_23 := i32_nlt c_23
          have f_30 := i32_nlt c_30
          exact k1 _ _ _ (isSk_iff.mpr (by omega)) hP hD hS (lv_sub hl [1, 2, 0] rfl)
