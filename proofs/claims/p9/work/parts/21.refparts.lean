/-! the reference's parts -/
theorem wy_pos {j st : Nat} (hj : j < 2 ^ 30) (hs : st < 2 ^ 30) : nI j - nI st ≤ 0 ↔ ¬ st < j := by
  rw [i32_le, pk_sub_toInt hj hs]
  have : (0 : Int32).toInt = 0 := rfl
  omega
/-- what settle leaves -/
def stG (b t : Nat) (sg : Nat → Int32) : Nat → Int32 := fun j => if 8712 * b ≤ j ∧ j < 8712 * t then 32 else sg j
def stH (b i : Nat) (sg : Nat → Int32) : Nat → Int32 := fun j => if 8712 * b ≤ j ∧ j < i then 32 else sg j
theorem stH_step {b i : Nat} {sg : Nat → Int32} (h : 8712 * b ≤ i) : upd (stH b i sg) i 32 = stH b (i + 1) sg := by
  funext j
  unfold upd stH
  by_cases e : j = i
  · rw [if_pos e, if_pos (by omega)]
  · rw [if_neg e]
    by_cases q : 8712 * b ≤ j ∧ j < i
    · rw [if_pos q, if_pos (by omega)]
    · rw [if_neg q, if_neg (by omega)]
theorem stH_0 {b : Nat} {sg : Nat → Int32} : stH b (8712 * b) sg = sg := by
  funext j
  exact if_neg (fun z => by omega)
/-- what print leaves -/
def prG (base n : Nat) (tr rc sg : Nat → Int32) : Nat → Int32 := fun j => if base ≤ j ∧ j < base + n then mx (sg j) (tr (rc (j - base)).toNatClampNeg) else sg j
theorem prG_step {base k : Nat} {tr rc sg : Nat → Int32} : upd (prG base k tr rc sg) (base + k) (mx (prG base k tr rc sg (base + k)) (tr (rc k).toNatClampNeg)) = prG base (k + 1) tr rc sg := by
  funext j
  have e0 : prG base k tr rc sg (base + k) = sg (base + k) := if_neg (fun z => by omega)
  rw [e0]
  unfold upd prG
  by_cases e : j = base + k
  · subst e
    rw [if_pos rfl, if_pos (by omega), Nat.add_sub_cancel_left]
  · rw [if_neg e]
    by_cases q : base ≤ j ∧ j < base + k
    · rw [if_pos q, if_pos (by omega)]
    · rw [if_neg q, if_neg (by omega)]
theorem prG_0 {base : Nat} {tr rc sg : Nat → Int32} : prG base 0 tr rc sg = sg := by
  funext j
  exact if_neg (fun z => by omega)

set_option maxHeartbeats 1000000 in
set_option maxRecDepth 100000 in
theorem c_X3_way (l : Launch) {D : va_G} {cI cP cR cJ : ClassId} {m0 mS mC mT mR mA L C rl bg st tp tl : Nat} {on tb : Bool} {th mk : Int32} {sg ch tr rc ta : Nat → Int32} (hL0 : 0 < L) (hL : L ≤ 66) (htl : tl < L) (k : Nat) (hk1 : 1 ≤ k) (hk2 : k ≤ 12) (hch : chOK L (ch k)) : Met l yX3_way wsX3_way ({ frames := 0, cells := 0, slots := 0, locals := 0 }) (ro [.ref m0, .int (nI k)] D cI cP cR cJ (wM cI m0 mS mC mT mR mA th (nI L) (nI C) (nI rl) (nI bg) (nI st) mk (zb on) (nI tp) (nI tl) (zb tb) sg ch tr rc ta)) (vp_Si (fun r => r = nI (wyN L tl (ch k)))) 0 0 (fun _ => False) := by
  refine Met.ofW (cc := cX3_way) (maxL := 3) (ret := (some .int)) (by decide) rfl ?_
  intro p e s m args below meth c s₁ B hml hv
  obtain ⟨rfl, hP, hK⟩ := hv
  have hx := B.exec
  have hb := B.bytes
  have hr := B.returns
  have hts := atoms_spec (ws := wsX3_way) B.pre
  have hown : s.vm.findClass RX3 = some m.cls := findClass_of_methodNamed B.named
  have hlocks := B.notSynchronized
  have hinX3 : ∀ w ∈ wsX30, w ∈ wsX3_way := by decide +kernel
  have hl := lv_entry ([.ref m0, .int (nI k)]) (n := 3) (Nat.le_of_ble_eq_true rfl)
  rw [lg_entry_eq]
  generalize (lg_sl ([.ref m0, .int (nI k)]) ++ List.replicate (3 - (lg_sl ([.ref m0, .int (nI k)])).length) Slot.unset).toArray = ls at hl ⊢
  have hl : lv_has ls 3 [(0, .ref m0), (1, .int (nI k))] := hl
  refine lv_aload_n hx hb dX3_way_0 rfl (lv_at hl 0 rfl) ?_
  refine va_get (D := D) (ci := 4) (v := .ref mC) (C := RX3) (T := TX3) (N := 16) hx hb hts hinX3 hown hK.1 hP 0 rfl rfl 4 (by decide) (hts (.fieldLink RX3 14 "PrinterRowsModel" "channels" "[I") (by decide +kernel)) (fun _ h9 => h9) rfl dX3_way_1 ?_
  refine lv_iload_n hx hb dX3_way_4 rfl (lv_at hl 1 rfl) ?_
  refine va_iald hx hb hK.1 hP 2 0 rfl rfl (vp_in_nI (by omega) (by decide)) dX3_way_5 ?_
  refine lv_topi (fun x_5 ex_5 => ?_)
  obtain rfl : x_5 = ch k := ex_5.trans (by rw [nI_clamp (by omega)])
  refine lv_iconst (v := (-1)) hx hb dX3_way_6 (by decide +kernel) ?_
  refine lv_icmp_ne (tgt := 15) hx hb dX3_way_7 (by decide) (fun c_7 => ?_) (fun c_7 => ?_)
  ·
    rcases hch with hch | ⟨j, hj, hch⟩
    · exact absurd hch c_7
    have hcl : (ch k).toNatClampNeg = j := by rw [hch, nI_clamp (by omega)]
    refine lv_aload_n hx hb dX3_way_15 rfl (lv_at hl 0 rfl) ?_
    refine va_get (D := D) (ci := 4) (v := .ref mC) (C := RX3) (T := TX3) (N := 16) hx hb hts hinX3 hown hK.1 hP 0 rfl rfl 4 (by decide) (hts (.fieldLink RX3 14 "PrinterRowsModel" "channels" "[I") (by decide +kernel)) (fun _ h9 => h9) rfl dX3_way_16 ?_
    refine lv_iload_n hx hb dX3_way_19 rfl (lv_at hl 1 rfl) ?_
    refine va_iald hx hb hK.1 hP 2 0 rfl rfl (vp_in_nI (by omega) (by decide)) dX3_way_20 ?_
    refine lv_topi (fun x_20 ex_20 => ?_)
    obtain rfl : x_20 = ch k := ex_20.trans (by rw [nI_clamp (by omega)])
    refine lv_aload_n hx hb dX3_way_21 rfl (lv_at hl 0 rfl) ?_
    refine va_get (D := D) (ci := 4) (v := .int (nI tl)) (C := RX3) (T := TX3) (N := 16) hx hb hts hinX3 hown hK.1 hP 0 rfl rfl 14 (by decide) (hts (.fieldLink RX3 48 "PrinterRowsModel" "trialLine" "I") (by decide +kernel)) (fun _ h9 => h9) rfl dX3_way_22 ?_
    refine lv_isub hx hb dX3_way_25 ?_
    refine lv_istore_n (lv' := [(2, .int ((ch k) - (nI tl))), (0, .ref m0), (1, .int (nI k))]) hx hb dX3_way_26 rfl hl (by decide) rfl (fun ls hl => ?_)
    refine lv_iload_n hx hb dX3_way_27 rfl (lv_at hl 0 rfl) ?_
    refine lv_if_le (tgt := 35) hx hb dX3_way_28 (by decide) (fun c_28 => ?_) (fun c_28 => ?_)
    ·
      refine lv_iload_n hx hb dX3_way_35 rfl (lv_at hl 0 rfl) ?_
      refine lv_aload_n hx hb dX3_way_36 rfl (lv_at hl 1 rfl) ?_
      refine va_get (D := D) (ci := 4) (v := .int (nI L)) (C := RX3) (T := TX3) (N := 16) hx hb hts hinX3 hown hK.1 hP 0 rfl rfl 1 (by decide) (hts (.fieldLink RX3 26 "PrinterRowsModel" "lines" "I") (by decide +kernel)) (fun _ h9 => h9) rfl dX3_way_37 ?_
      refine lv_iadd hx hb dX3_way_40 ?_
      exact W.iret (v := (((ch k) - (nI tl)) + (nI L))) hx hb hr (fun t ht hW => ⟨_, rfl, by rw [hch] at c_28 ⊢; rw [wyN, if_neg (by rw [← hch]; exact c_7), nI_clamp (by omega), if_neg ((wy_pos (by omega) (by omega)).mp c_28)]; exact way_sub htl, ht⟩) (fun q h => by cases h) dX3_way_41
    ·
      refine lv_iload_n hx hb dX3_way_31 rfl (lv_at hl 0 rfl) ?_
      refine lv_goto (tgt := 41) hx hb dX3_way_32 (by decide) ?_
      exact W.iret (v := ((ch k) - (nI tl))) hx hb hr (fun t ht hW => ⟨_, rfl, by rw [hch] at c_28 ⊢; rw [wyN, if_neg (by rw [← hch]; exact c_7), nI_clamp (by omega), if_pos (Decidable.of_not_not (fun h9 => c_28 ((wy_pos (by omega) (by omega)).mpr h9))), pk_sub (by have := Decidable.of_not_not (fun h9 => c_28 ((wy_pos (by omega) (by omega)).mpr h9)); omega)], ht⟩) (fun q h => by cases h) dX3_way_41
  ·
    refine lv_aload_n hx hb dX3_way_10 rfl (lv_at hl 0 rfl) ?_
    refine va_get (D := D) (ci := 4) (v := .int (nI L)) (C := RX3) (T := TX3) (N := 16) hx hb hts hinX3 hown hK.1 hP 0 rfl rfl 1 (by decide) (hts (.fieldLink RX3 26 "PrinterRowsModel" "lines" "I") (by decide +kernel)) (fun _ h9 => h9) rfl dX3_way_11 ?_
    exact W.iret (v := (nI L)) hx hb hr (fun t ht hW => ⟨_, rfl, by rw [wyN, if_pos c_7], ht⟩) (fun q h => by cases h) dX3_way_14

theorem c_X3_wayI (l : Launch) {D : va_G} {cI cP cR cJ : ClassId} {m0 mS mC mT mR mA L C rl bg st tp tl : Nat} {on tb : Bool} {th mk : Int32} {sg ch tr rc ta : Nat → Int32} (hL0 : 0 < L) (hL : L ≤ 66) (htl : tl < L) (hch : ∀ k, 1 ≤ k → k ≤ 12 → chOK L (ch k)) (c0 : Int32) (hc : isCh c0 = true) : Met l yX3_way wsX3_way ({ frames := 0, cells := 0, slots := 0, locals := 0 }) (ro [.ref m0, .int c0] D cI cP cR cJ (wM cI m0 mS mC mT mR mA th (nI L) (nI C) (nI rl) (nI bg) (nI st) mk (zb on) (nI tp) (nI tl) (zb tb) sg ch tr rc ta)) (vp_Si (fun r => r = nI (wyN L tl (ch c0.toNatClampNeg)))) 0 0 (fun _ => False) := by
  obtain ⟨k, h1, h2, rfl⟩ := isCh_nI hc
  rw [nI_clamp (by omega)]
  exact c_X3_way l hL0 hL htl k h1 h2 (hch k h1 h2)

set_option maxHeartbeats 1000000 in
set_option maxRecDepth 100000 in
theorem c_X3_ahead (l : Launch) {D : va_G} {cI cP cR cJ : ClassId} {m0 mS mC mT mR mA L C rl bg st tp tl : Nat} {on tb : Bool} {th mk : Int32} {sg ch tr rc ta : Nat → Int32} (hL0 : 0 < L) (hL : L ≤ 66) (htl : tl < L) (hch : ∀ k, 1 ≤ k → k ≤ 12 → chOK L (ch k)) (c0 : Int32) (hsec : zb (isPl c0) = 0 ∧ ¬ (273 ≤ c0.toInt ∧ c0.toInt ≤ 284)) : Met l yX3_ahead wsX3_ahead ({ frames := 1, cells := 0, slots := 0, locals := 22 }) (ro [.ref m0, .int c0] D cI cP cR cJ (wM cI m0 mS mC mT mR mA th (nI L) (nI C) (nI rl) (nI bg) (nI st) mk (zb on) (nI tp) (nI tl) (zb tb) sg ch tr rc ta)) (vp_Si (fun r => r = nI (lwy L tl ch c0))) 0 0 (fun _ => False) := by
  refine Met.ofW (cc := cX3_ahead) (maxL := 2) (ret := (some .int)) (by decide) rfl ?_
  intro p e s m args below meth c s₁ B hml hv
  obtain ⟨rfl, hP, hK⟩ := hv
  have hx := B.exec
  have hb := B.bytes
  have hr := B.returns
  have hts := atoms_spec (ws := wsX3_ahead) B.pre
  have hown : s.vm.findClass RX3 = some m.cls := findClass_of_methodNamed B.named
  have hlocks := B.notSynchronized
  have hinX3 : ∀ w ∈ wsX30, w ∈ wsX3_ahead := by decide +kernel
  have hl := lv_entry ([.ref m0, .int c0]) (n := 2) (Nat.le_of_ble_eq_true rfl)
  rw [lg_entry_eq]
  generalize (lg_sl ([.ref m0, .int c0]) ++ List.replicate (2 - (lg_sl ([.ref m0, .int c0])).length) Slot.unset).toArray = ls at hl ⊢
  have hl : lv_has ls 2 [(0, .ref m0), (1, .int c0)] := hl
  have e49 : (49 : Int32).toInt = 49 := rfl
  have e57 : (57 : Int32).toInt = 57 := rfl
  have e65 : (65 : Int32).toInt = 65 := rfl
  have e67 : (67 : Int32).toInt = 67 := rfl
  have e48 : (48 : Int32).toInt = 48 := rfl
  have e45 : (45 : Int32).toInt = 45 := rfl
  have e43 : (43 : Int32).toInt = 43 := rfl
  refine lv_iload_n hx hb dX3_ahead_0 rfl (lv_at hl 1 rfl) ?_
  refine lv_bipush (v := 49) hx hb dX3_ahead_1 (by decide +kernel) ?_
  refine lv_icmp_lt (tgt := 21) hx hb dX3_ahead_3 (by decide) (fun c_3 => ?_) (fun c_3 => ?_)
  ·
    refine lv_iload_n hx hb dX3_ahead_21 rfl (lv_at hl 1 rfl) ?_
    refine lv_bipush (v := 65) hx hb dX3_ahead_22 (by decide +kernel) ?_
    refine lv_icmp_lt (tgt := 42) hx hb dX3_ahead_24 (by decide) (fun c_24 => ?_) (fun c_24 => ?_)
    ·
      refine lv_iload_n hx hb dX3_ahead_42 rfl (lv_at hl 1 rfl) ?_
      refine lv_bipush (v := 48) hx hb dX3_ahead_43 (by decide +kernel) ?_
      refine lv_icmp_ne (tgt := 52) hx hb dX3_ahead_45 (by decide) (fun c_45 => ?_) (fun c_45 => ?_)
      ·
        refine lv_iload_n hx hb dX3_ahead_52 rfl (lv_at hl 1 rfl) ?_
        refine lv_bipush (v := 45) hx hb dX3_ahead_53 (by decide +kernel) ?_
        refine lv_icmp_ne (tgt := 62) hx hb dX3_ahead_55 (by decide) (fun c_55 => ?_) (fun c_55 => ?_)
        ·
          refine lv_iload_n hx hb dX3_ahead_62 rfl (lv_at hl 1 rfl) ?_
          refine lv_bipush (v := 43) hx hb dX3_ahead_63 (by decide +kernel) ?_
          refine lv_icmp_ne (tgt := 72) hx hb dX3_ahead_65 (by decide) (fun c_65 => ?_) (fun c_65 => ?_)
          ·
            refine lv_iconst (v := 1) hx hb dX3_ahead_72 (by decide +kernel) ?_
            have f_3 := i32_lt.mp c_3
            have f_24 := i32_lt.mp c_24
            have hno : zb (isCh (chOf c0)) = 0 := by
              rcases chOf_cases c0 with ⟨h1, h2, h3⟩ | ⟨h1, h2, h3⟩ | ⟨h1, h2, h3⟩ | ⟨h1, h2⟩
              · exfalso; omega
              · exfalso; omega
              · exfalso; exact hsec.2 h1
              · rw [h2]; decide +kernel
            have hln : lnOf c0 = 1 := by rw [lnOf, if_pos hsec.1, if_neg c_65, if_neg c_55, if_neg c_45]
            exact W.iret (v := 1) hx hb hr (fun t ht hW => ⟨_, rfl, by rw [lwy, if_pos hno, hln]; rfl, ht⟩) (fun q h => by cases h) dX3_ahead_73
          ·
            refine lv_iconst (v := 0) hx hb dX3_ahead_68 (by decide +kernel) ?_
            refine lv_goto (tgt := 73) hx hb dX3_ahead_69 (by decide) ?_
            have f_3 := i32_lt.mp c_3
            have f_24 := i32_lt.mp c_24
            have hno : zb (isCh (chOf c0)) = 0 := by
              rcases chOf_cases c0 with ⟨h1, h2, h3⟩ | ⟨h1, h2, h3⟩ | ⟨h1, h2, h3⟩ | ⟨h1, h2⟩
              · exfalso; omega
              · exfalso; omega
              · exfalso; exact hsec.2 h1
              · rw [h2]; decide +kernel
            have hln : lnOf c0 = 0 := by rw [lnOf, if_pos hsec.1, if_pos c_65]
            exact W.iret (v := 0) hx hb hr (fun t ht hW => ⟨_, rfl, by rw [lwy, if_pos hno, hln]; rfl, ht⟩) (fun q h => by cases h) dX3_ahead_73
        ·
          refine lv_iconst (v := 3) hx hb dX3_ahead_58 (by decide +kernel) ?_
          refine lv_goto (tgt := 73) hx hb dX3_ahead_59 (by decide) ?_
          have f_3 := i32_lt.mp c_3
          have f_24 := i32_lt.mp c_24
          have hno : zb (isCh (chOf c0)) = 0 := by
            rcases chOf_cases c0 with ⟨h1, h2, h3⟩ | ⟨h1, h2, h3⟩ | ⟨h1, h2, h3⟩ | ⟨h1, h2⟩
            · exfalso; omega
            · exfalso; omega
            · exfalso; exact hsec.2 h1
            · rw [h2]; decide +kernel
          have hln : lnOf c0 = 3 := by rw [lnOf, if_pos hsec.1, if_neg (fun h9 => by rw [h9] at c_55; exact absurd c_55 (by decide)), if_pos c_55]
          exact W.iret (v := 3) hx hb hr (fun t ht hW => ⟨_, rfl, by rw [lwy, if_pos hno, hln]; rfl, ht⟩) (fun q h => by cases h) dX3_ahead_73
      ·
        refine lv_iconst (v := 2) hx hb dX3_ahead_48 (by decide +kernel) ?_
        refine lv_goto (tgt := 73) hx hb dX3_ahead_49 (by decide) ?_
        have f_3 := i32_lt.mp c_3
        have f_24 := i32_lt.mp c_24
        have hno : zb (isCh (chOf c0)) = 0 := by
          rcases chOf_cases c0 with ⟨h1, h2, h3⟩ | ⟨h1, h2, h3⟩ | ⟨h1, h2, h3⟩ | ⟨h1, h2⟩
          · exfalso; omega
          · exfalso; omega
          · exfalso; exact hsec.2 h1
          · rw [h2]; decide +kernel
        have hln : lnOf c0 = 2 := by rw [lnOf, if_pos hsec.1, if_neg (fun h9 => by rw [h9] at c_45; exact absurd c_45 (by decide)), if_neg (fun h9 => by rw [h9] at c_45; exact absurd c_45 (by decide)), if_pos c_45]
        exact W.iret (v := 2) hx hb hr (fun t ht hW => ⟨_, rfl, by rw [lwy, if_pos hno, hln]; rfl, ht⟩) (fun q h => by cases h) dX3_ahead_73
    ·
      refine lv_iload_n hx hb dX3_ahead_27 rfl (lv_at hl 1 rfl) ?_
      refine lv_bipush (v := 67) hx hb dX3_ahead_28 (by decide +kernel) ?_
      refine lv_icmp_gt (tgt := 42) hx hb dX3_ahead_30 (by decide) (fun c_30 => ?_) (fun c_30 => ?_)
      ·
        refine lv_iload_n hx hb dX3_ahead_42 rfl (lv_at hl 1 rfl) ?_
        refine lv_bipush (v := 48) hx hb dX3_ahead_43 (by decide +kernel) ?_
        refine lv_icmp_ne (tgt := 52) hx hb dX3_ahead_45 (by decide) (fun c_45 => ?_) (fun c_45 => ?_)
        ·
          refine lv_iload_n hx hb dX3_ahead_52 rfl (lv_at hl 1 rfl) ?_
          refine lv_bipush (v := 45) hx hb dX3_ahead_53 (by decide +kernel) ?_
          refine lv_icmp_ne (tgt := 62) hx hb dX3_ahead_55 (by decide) (fun c_55 => ?_) (fun c_55 => ?_)
          ·
            refine lv_iload_n hx hb dX3_ahead_62 rfl (lv_at hl 1 rfl) ?_
            refine lv_bipush (v := 43) hx hb dX3_ahead_63 (by decide +kernel) ?_
            refine lv_icmp_ne (tgt := 72) hx hb dX3_ahead_65 (by decide) (fun c_65 => ?_) (fun c_65 => ?_)
            ·
              refine lv_iconst (v := 1) hx hb dX3_ahead_72 (by decide +kernel) ?_
              have f_3 := i32_lt.mp c_3
              have f_24 := i32_nlt c_24
              have f_30 := i32_lt.mp c_30
              have hno : zb (isCh (chOf c0)) = 0 := by
                rcases chOf_cases c0 with ⟨h1, h2, h3⟩ | ⟨h1, h2, h3⟩ | ⟨h1, h2, h3⟩ | ⟨h1, h2⟩
                · exfalso; omega
                · exfalso; omega
                · exfalso; exact hsec.2 h1
                · rw [h2]; decide +kernel
              have hln : lnOf c0 = 1 := by rw [lnOf, if_pos hsec.1, if_neg c_65, if_neg c_55, if_neg c_45]
              exact W.iret (v := 1) hx hb hr (fun t ht hW => ⟨_, rfl, by rw [lwy, if_pos hno, hln]; rfl, ht⟩) (fun q h => by cases h) dX3_ahead_73
            ·
              refine lv_iconst (v := 0) hx hb dX3_ahead_68 (by decide +kernel) ?_
              refine lv_goto (tgt := 73) hx hb dX3_ahead_69 (by decide) ?_
              have f_3 := i32_lt.mp c_3
              have f_24 := i32_nlt c_24
              have f_30 := i32_lt.mp c_30
              have hno : zb (isCh (chOf c0)) = 0 := by
                rcases chOf_cases c0 with ⟨h1, h2, h3⟩ | ⟨h1, h2, h3⟩ | ⟨h1, h2, h3⟩ | ⟨h1, h2⟩
                · exfalso; omega
                · exfalso; omega
                · exfalso; exact hsec.2 h1
                · rw [h2]; decide +kernel
              have hln : lnOf c0 = 0 := by rw [lnOf, if_pos hsec.1, if_pos c_65]
              exact W.iret (v := 0) hx hb hr (fun t ht hW => ⟨_, rfl, by rw [lwy, if_pos hno, hln]; rfl, ht⟩) (fun q h => by cases h) dX3_ahead_73
          ·
            refine lv_iconst (v := 3) hx hb dX3_ahead_58 (by decide +kernel) ?_
            refine lv_goto (tgt := 73) hx hb dX3_ahead_59 (by decide) ?_
            have f_3 := i32_lt.mp c_3
            have f_24 := i32_nlt c_24
            have f_30 := i32_lt.mp c_30
            have hno : zb (isCh (chOf c0)) = 0 := by
              rcases chOf_cases c0 with ⟨h1, h2, h3⟩ | ⟨h1, h2, h3⟩ | ⟨h1, h2, h3⟩ | ⟨h1, h2⟩
              · exfalso; omega
              · exfalso; omega
              · exfalso; exact hsec.2 h1
              · rw [h2]; decide +kernel
            have hln : lnOf c0 = 3 := by rw [lnOf, if_pos hsec.1, if_neg (fun h9 => by rw [h9] at c_55; exact absurd c_55 (by decide)), if_pos c_55]
            exact W.iret (v := 3) hx hb hr (fun t ht hW => ⟨_, rfl, by rw [lwy, if_pos hno, hln]; rfl, ht⟩) (fun q h => by cases h) dX3_ahead_73
        ·
          refine lv_iconst (v := 2) hx hb dX3_ahead_48 (by decide +kernel) ?_
          refine lv_goto (tgt := 73) hx hb dX3_ahead_49 (by decide) ?_
          have f_3 := i32_lt.mp c_3
          have f_24 := i32_nlt c_24
          have f_30 := i32_lt.mp c_30
          have hno : zb (isCh (chOf c0)) = 0 := by
            rcases chOf_cases c0 with ⟨h1, h2, h3⟩ | ⟨h1, h2, h3⟩ | ⟨h1, h2, h3⟩ | ⟨h1, h2⟩
            · exfalso; omega
            · exfalso; omega
            · exfalso; exact hsec.2 h1
            · rw [h2]; decide +kernel
          have hln : lnOf c0 = 2 := by rw [lnOf, if_pos hsec.1, if_neg (fun h9 => by rw [h9] at c_45; exact absurd c_45 (by decide)), if_neg (fun h9 => by rw [h9] at c_45; exact absurd c_45 (by decide)), if_pos c_45]
          exact W.iret (v := 2) hx hb hr (fun t ht hW => ⟨_, rfl, by rw [lwy, if_pos hno, hln]; rfl, ht⟩) (fun q h => by cases h) dX3_ahead_73
      ·
        refine lv_aload_n hx hb dX3_ahead_33 rfl (lv_at hl 0 rfl) ?_
        refine lv_iload_n hx hb dX3_ahead_34 rfl (lv_at hl 1 rfl) ?_
        refine lv_bipush (v := 55) hx hb dX3_ahead_35 (by decide +kernel) ?_
        refine lv_isub hx hb dX3_ahead_37 ?_
        have f_a := i32_nlt c_24
        have f_b := i32_nlt c_30
        have hcc : chOf c0 = c0 - 55 ∧ isCh (chOf c0) = true := by
          rcases chOf_cases c0 with ⟨h1, h2, h3⟩ | ⟨h1, h2, h3⟩ | ⟨h1, h2, h3⟩ | ⟨h1, h2⟩
          · first | exact ⟨h2, isCh_iff.mpr (by omega)⟩ | (exfalso; omega)
          · first | exact ⟨h2, isCh_iff.mpr (by omega)⟩ | (exfalso; omega)
          · exfalso; omega
          · exfalso; omega
        rw [← hcc.1]
        refine vp_callSi (W.runV (As := [.int (chOf c0)]) (rest := []) ⟨hx, hb, hml, hown, hts⟩ (c_X3_wayI l hL0 hL htl hch (chOf c0) hcc.2) (cwV 1 hts gX3_ahead_X3_way rfl rfl rfl (by decide +kernel) ⟨(Nat.le_of_ble_eq_true rfl), (Nat.le_of_ble_eq_true rfl)⟩) (ro_pre hK hP rfl 0 rfl) rfl rfl hl.1 rfl (lv_room (Nat.le_of_ble_eq_true rfl)) dX3_ahead_38 ⟨(Nat.le_of_ble_eq_true rfl), (Nat.le_of_ble_eq_true rfl)⟩) (fun r_38 w_38 => ?_)
        subst w_38
        exact W.iret (v := (nI (wyN L tl (ch (chOf c0).toNatClampNeg)))) hx hb hr (fun t ht hW => ⟨_, rfl, by rw [lwy, if_neg (zb1.mpr hcc.2)], ht⟩) (fun q h => by cases h) dX3_ahead_41
  ·
    refine lv_iload_n hx hb dX3_ahead_6 rfl (lv_at hl 1 rfl) ?_
    refine lv_bipush (v := 57) hx hb dX3_ahead_7 (by decide +kernel) ?_
    refine lv_icmp_gt (tgt := 21) hx hb dX3_ahead_9 (by decide) (fun c_9 => ?_) (fun c_9 => ?_)
    ·
      refine lv_iload_n hx hb dX3_ahead_21 rfl (lv_at hl 1 rfl) ?_
      refine lv_bipush (v := 65) hx hb dX3_ahead_22 (by decide +kernel) ?_
      refine lv_icmp_lt (tgt := 42) hx hb dX3_ahead_24 (by decide) (fun c_24 => ?_) (fun c_24 => ?_)
      ·
        refine lv_iload_n hx hb dX3_ahead_42 rfl (lv_at hl 1 rfl) ?_
        refine lv_bipush (v := 48) hx hb dX3_ahead_43 (by decide +kernel) ?_
        refine lv_icmp_ne (tgt := 52) hx hb dX3_ahead_45 (by decide) (fun c_45 => ?_) (fun c_45 => ?_)
        ·
          refine lv_iload_n hx hb dX3_ahead_52 rfl (lv_at hl 1 rfl) ?_
          refine lv_bipush (v := 45) hx hb dX3_ahead_53 (by decide +kernel) ?_
          refine lv_icmp_ne (tgt := 62) hx hb dX3_ahead_55 (by decide) (fun c_55 => ?_) (fun c_55 => ?_)
          ·
            refine lv_iload_n hx hb dX3_ahead_62 rfl (lv_at hl 1 rfl) ?_
            refine lv_bipush (v := 43) hx hb dX3_ahead_63 (by decide +kernel) ?_
            refine lv_icmp_ne (tgt := 72) hx hb dX3_ahead_65 (by decide) (fun c_65 => ?_) (fun c_65 => ?_)
            ·
              refine lv_iconst (v := 1) hx hb dX3_ahead_72 (by decide +kernel) ?_
              have f_3 := i32_nlt c_3
              have f_9 := i32_lt.mp c_9
              have f_24 := i32_lt.mp c_24
              have hno : zb (isCh (chOf c0)) = 0 := by
                rcases chOf_cases c0 with ⟨h1, h2, h3⟩ | ⟨h1, h2, h3⟩ | ⟨h1, h2, h3⟩ | ⟨h1, h2⟩
                · exfalso; omega
                · exfalso; omega
                · exfalso; exact hsec.2 h1
                · rw [h2]; decide +kernel
              have hln : lnOf c0 = 1 := by rw [lnOf, if_pos hsec.1, if_neg c_65, if_neg c_55, if_neg c_45]
              exact W.iret (v := 1) hx hb hr (fun t ht hW => ⟨_, rfl, by rw [lwy, if_pos hno, hln]; rfl, ht⟩) (fun q h => by cases h) dX3_ahead_73
            ·
              refine lv_iconst (v := 0) hx hb dX3_ahead_68 (by decide +kernel) ?_
              refine lv_goto (tgt := 73) hx hb dX3_ahead_69 (by decide) ?_
              have f_3 := i32_nlt c_3
              have f_9 := i32_lt.mp c_9
              have f_24 := i32_lt.mp c_24
              have hno : zb (isCh (chOf c0)) = 0 := by
                rcases chOf_cases c0 with ⟨h1, h2, h3⟩ | ⟨h1, h2, h3⟩ | ⟨h1, h2, h3⟩ | ⟨h1, h2⟩
                · exfalso; omega
                · exfalso; omega
                · exfalso; exact hsec.2 h1
                · rw [h2]; decide +kernel
              have hln : lnOf c0 = 0 := by rw [lnOf, if_pos hsec.1, if_pos c_65]
              exact W.iret (v := 0) hx hb hr (fun t ht hW => ⟨_, rfl, by rw [lwy, if_pos hno, hln]; rfl, ht⟩) (fun q h => by cases h) dX3_ahead_73
          ·
            refine lv_iconst (v := 3) hx hb dX3_ahead_58 (by decide +kernel) ?_
            refine lv_goto (tgt := 73) hx hb dX3_ahead_59 (by decide) ?_
            have f_3 := i32_nlt c_3
            have f_9 := i32_lt.mp c_9
            have f_24 := i32_lt.mp c_24
            have hno : zb (isCh (chOf c0)) = 0 := by
              rcases chOf_cases c0 with ⟨h1, h2, h3⟩ | ⟨h1, h2, h3⟩ | ⟨h1, h2, h3⟩ | ⟨h1, h2⟩
              · exfalso; omega
              · exfalso; omega
              · exfalso; exact hsec.2 h1
              · rw [h2]; decide +kernel
            have hln : lnOf c0 = 3 := by rw [lnOf, if_pos hsec.1, if_neg (fun h9 => by rw [h9] at c_55; exact absurd c_55 (by decide)), if_pos c_55]
            exact W.iret (v := 3) hx hb hr (fun t ht hW => ⟨_, rfl, by rw [lwy, if_pos hno, hln]; rfl, ht⟩) (fun q h => by cases h) dX3_ahead_73
        ·
          refine lv_iconst (v := 2) hx hb dX3_ahead_48 (by decide +kernel) ?_
          refine lv_goto (tgt := 73) hx hb dX3_ahead_49 (by decide) ?_
          have f_3 := i32_nlt c_3
          have f_9 := i32_lt.mp c_9
          have f_24 := i32_lt.mp c_24
          have hno : zb (isCh (chOf c0)) = 0 := by
            rcases chOf_cases c0 with ⟨h1, h2, h3⟩ | ⟨h1, h2, h3⟩ | ⟨h1, h2, h3⟩ | ⟨h1, h2⟩
            · exfalso; omega
            · exfalso; omega
            · exfalso; exact hsec.2 h1
            · rw [h2]; decide +kernel
          have hln : lnOf c0 = 2 := by rw [lnOf, if_pos hsec.1, if_neg (fun h9 => by rw [h9] at c_45; exact absurd c_45 (by decide)), if_neg (fun h9 => by rw [h9] at c_45; exact absurd c_45 (by decide)), if_pos c_45]
          exact W.iret (v := 2) hx hb hr (fun t ht hW => ⟨_, rfl, by rw [lwy, if_pos hno, hln]; rfl, ht⟩) (fun q h => by cases h) dX3_ahead_73
      ·
        refine lv_iload_n hx hb dX3_ahead_27 rfl (lv_at hl 1 rfl) ?_
        refine lv_bipush (v := 67) hx hb dX3_ahead_28 (by decide +kernel) ?_
        refine lv_icmp_gt (tgt := 42) hx hb dX3_ahead_30 (by decide) (fun c_30 => ?_) (fun c_30 => ?_)
        ·
          refine lv_iload_n hx hb dX3_ahead_42 rfl (lv_at hl 1 rfl) ?_
          refine lv_bipush (v := 48) hx hb dX3_ahead_43 (by decide +kernel) ?_
          refine lv_icmp_ne (tgt := 52) hx hb dX3_ahead_45 (by decide) (fun c_45 => ?_) (fun c_45 => ?_)
          ·
            refine lv_iload_n hx hb dX3_ahead_52 rfl (lv_at hl 1 rfl) ?_
            refine lv_bipush (v := 45) hx hb dX3_ahead_53 (by decide +kernel) ?_
            refine lv_icmp_ne (tgt := 62) hx hb dX3_ahead_55 (by decide) (fun c_55 => ?_) (fun c_55 => ?_)
            ·
              refine lv_iload_n hx hb dX3_ahead_62 rfl (lv_at hl 1 rfl) ?_
              refine lv_bipush (v := 43) hx hb dX3_ahead_63 (by decide +kernel) ?_
              refine lv_icmp_ne (tgt := 72) hx hb dX3_ahead_65 (by decide) (fun c_65 => ?_) (fun c_65 => ?_)
              ·
                refine lv_iconst (v := 1) hx hb dX3_ahead_72 (by decide +kernel) ?_
                have f_3 := i32_nlt c_3
                have f_9 := i32_lt.mp c_9
                have f_24 := i32_nlt c_24
                have f_30 := i32_lt.mp c_30
                have hno : zb (isCh (chOf c0)) = 0 := by
                  rcases chOf_cases c0 with ⟨h1, h2, h3⟩ | ⟨h1, h2, h3⟩ | ⟨h1, h2, h3⟩ | ⟨h1, h2⟩
                  · exfalso; omega
                  · exfalso; omega
                  · exfalso; exact hsec.2 h1
                  · rw [h2]; decide +kernel
                have hln : lnOf c0 = 1 := by rw [lnOf, if_pos hsec.1, if_neg c_65, if_neg c_55, if_neg c_45]
                exact W.iret (v := 1) hx hb hr (fun t ht hW => ⟨_, rfl, by rw [lwy, if_pos hno, hln]; rfl, ht⟩) (fun q h => by cases h) dX3_ahead_73
              ·
                refine lv_iconst (v := 0) hx hb dX3_ahead_68 (by decide +kernel) ?_
                refine lv_goto (tgt := 73) hx hb dX3_ahead_69 (by decide) ?_
                have f_3 := i32_nlt c_3
                have f_9 := i32_lt.mp c_9
                have f_24 := i32_nlt c_24
                have f_30 := i32_lt.mp c_30
                have hno : zb (isCh (chOf c0)) = 0 := by
                  rcases chOf_cases c0 with ⟨h1, h2, h3⟩ | ⟨h1, h2, h3⟩ | ⟨h1, h2, h3⟩ | ⟨h1, h2⟩
                  · exfalso; omega
                  · exfalso; omega
                  · exfalso; exact hsec.2 h1
                  · rw [h2]; decide +kernel
                have hln : lnOf c0 = 0 := by rw [lnOf, if_pos hsec.1, if_pos c_65]
                exact W.iret (v := 0) hx hb hr (fun t ht hW => ⟨_, rfl, by rw [lwy, if_pos hno, hln]; rfl, ht⟩) (fun q h => by cases h) dX3_ahead_73
            ·
              refine lv_iconst (v := 3) hx hb dX3_ahead_58 (by decide +kernel) ?_
              refine lv_goto (tgt := 73) hx hb dX3_ahead_59 (by decide) ?_
              have f_3 := i32_nlt c_3
              have f_9 := i32_lt.mp c_9
              have f_24 := i32_nlt c_24
              have f_30 := i32_lt.mp c_30
              have hno : zb (isCh (chOf c0)) = 0 := by
                rcases chOf_cases c0 with ⟨h1, h2, h3⟩ | ⟨h1, h2, h3⟩ | ⟨h1, h2, h3⟩ | ⟨h1, h2⟩
                · exfalso; omega
                · exfalso; omega
                · exfalso; exact hsec.2 h1
                · rw [h2]; decide +kernel
              have hln : lnOf c0 = 3 := by rw [lnOf, if_pos hsec.1, if_neg (fun h9 => by rw [h9] at c_55; exact absurd c_55 (by decide)), if_pos c_55]
              exact W.iret (v := 3) hx hb hr (fun t ht hW => ⟨_, rfl, by rw [lwy, if_pos hno, hln]; rfl, ht⟩) (fun q h => by cases h) dX3_ahead_73
          ·
            refine lv_iconst (v := 2) hx hb dX3_ahead_48 (by decide +kernel) ?_
            refine lv_goto (tgt := 73) hx hb dX3_ahead_49 (by decide) ?_
            have f_3 := i32_nlt c_3
            have f_9 := i32_lt.mp c_9
            have f_24 := i32_nlt c_24
            have f_30 := i32_lt.mp c_30
            have hno : zb (isCh (chOf c0)) = 0 := by
              rcases chOf_cases c0 with ⟨h1, h2, h3⟩ | ⟨h1, h2, h3⟩ | ⟨h1, h2, h3⟩ | ⟨h1, h2⟩
              · exfalso; omega
              · exfalso; omega
              · exfalso; exact hsec.2 h1
              · rw [h2]; decide +kernel
            have hln : lnOf c0 = 2 := by rw [lnOf, if_pos hsec.1, if_neg (fun h9 => by rw [h9] at c_45; exact absurd c_45 (by decide)), if_neg (fun h9 => by rw [h9] at c_45; exact absurd c_45 (by decide)), if_pos c_45]
            exact W.iret (v := 2) hx hb hr (fun t ht hW => ⟨_, rfl, by rw [lwy, if_pos hno, hln]; rfl, ht⟩) (fun q h => by cases h) dX3_ahead_73
        ·
          refine lv_aload_n hx hb dX3_ahead_33 rfl (lv_at hl 0 rfl) ?_
          refine lv_iload_n hx hb dX3_ahead_34 rfl (lv_at hl 1 rfl) ?_
          refine lv_bipush (v := 55) hx hb dX3_ahead_35 (by decide +kernel) ?_
          refine lv_isub hx hb dX3_ahead_37 ?_
          have f_a := i32_nlt c_24
          have f_b := i32_nlt c_30
          have hcc : chOf c0 = c0 - 55 ∧ isCh (chOf c0) = true := by
            rcases chOf_cases c0 with ⟨h1, h2, h3⟩ | ⟨h1, h2, h3⟩ | ⟨h1, h2, h3⟩ | ⟨h1, h2⟩
            · first | exact ⟨h2, isCh_iff.mpr (by omega)⟩ | (exfalso; omega)
            · first | exact ⟨h2, isCh_iff.mpr (by omega)⟩ | (exfalso; omega)
            · exfalso; omega
            · exfalso; omega
          rw [← hcc.1]
          refine vp_callSi (W.runV (As := [.int (chOf c0)]) (rest := []) ⟨hx, hb, hml, hown, hts⟩ (c_X3_wayI l hL0 hL htl hch (chOf c0) hcc.2) (cwV 1 hts gX3_ahead_X3_way rfl rfl rfl (by decide +kernel) ⟨(Nat.le_of_ble_eq_true rfl), (Nat.le_of_ble_eq_true rfl)⟩) (ro_pre hK hP rfl 0 rfl) rfl rfl hl.1 rfl (lv_room (Nat.le_of_ble_eq_true rfl)) dX3_ahead_38 ⟨(Nat.le_of_ble_eq_true rfl), (Nat.le_of_ble_eq_true rfl)⟩) (fun r_38 w_38 => ?_)
          subst w_38
          exact W.iret (v := (nI (wyN L tl (ch (chOf c0).toNatClampNeg)))) hx hb hr (fun t ht hW => ⟨_, rfl, by rw [lwy, if_neg (zb1.mpr hcc.2)], ht⟩) (fun q h => by cases h) dX3_ahead_41
    ·
      refine lv_aload_n hx hb dX3_ahead_12 rfl (lv_at hl 0 rfl) ?_
      refine lv_iload_n hx hb dX3_ahead_13 rfl (lv_at hl 1 rfl) ?_
      refine lv_bipush (v := 48) hx hb dX3_ahead_14 (by decide +kernel) ?_
      refine lv_isub hx hb dX3_ahead_16 ?_
      have f_a := i32_nlt c_3
      have f_b := i32_nlt c_9
      have hcc : chOf c0 = c0 - 48 ∧ isCh (chOf c0) = true := by
        rcases chOf_cases c0 with ⟨h1, h2, h3⟩ | ⟨h1, h2, h3⟩ | ⟨h1, h2, h3⟩ | ⟨h1, h2⟩
        · first | exact ⟨h2, isCh_iff.mpr (by omega)⟩ | (exfalso; omega)
        · first | exact ⟨h2, isCh_iff.mpr (by omega)⟩ | (exfalso; omega)
        · exfalso; omega
        · exfalso; omega
      rw [← hcc.1]
      refine vp_callSi (W.runV (As := [.int (chOf c0)]) (rest := []) ⟨hx, hb, hml, hown, hts⟩ (c_X3_wayI l hL0 hL htl hch (chOf c0) hcc.2) (cwV 1 hts gX3_ahead_X3_way rfl rfl rfl (by decide +kernel) ⟨(Nat.le_of_ble_eq_true rfl), (Nat.le_of_ble_eq_true rfl)⟩) (ro_pre hK hP rfl 0 rfl) rfl rfl hl.1 rfl (lv_room (Nat.le_of_ble_eq_true rfl)) dX3_ahead_17 ⟨(Nat.le_of_ble_eq_true rfl), (Nat.le_of_ble_eq_true rfl)⟩) (fun r_17 w_17 => ?_)
      subst w_17
      exact W.iret (v := (nI (wyN L tl (ch (chOf c0).toNatClampNeg)))) hx hb hr (fun t ht hW => ⟨_, rfl, by rw [lwy, if_neg (zb1.mpr hcc.2)], ht⟩) (fun q h => by cases h) dX3_ahead_20

set_option maxHeartbeats 1000000 in
set_option maxRecDepth 100000 in
theorem c_X3_tries (l : Launch) {D : va_G} {cI cP cR cJ : ClassId} {m0 mS mC mT mR mA L C rl bg st tp tl : Nat} {on tb : Bool} {th mk : Int32} {sg ch tr rc ta : Nat → Int32} {sz : Nat} : Met l yX3_tries wsX3_tries ({ frames := 0, cells := 0, slots := 0, locals := 0 }) (mu [.ref m0] D cI cP cR cJ (wM cI m0 mS mC mT mR mA th (nI L) (nI C) (nI rl) (nI bg) (nI st) mk (zb on) (nI tp) (nI tl) (zb tb) sg ch tr rc ta) sz) (qv D (fun (_ : Unit) => True) (fun _ : Unit => wM cI m0 mS mC mT mR mA th (nI L) (nI C) (nI rl) (nI bg) (nI st) mk (zb on) (nI bg) (nI st) (zb on) sg ch tr rc ta) (va_A (wM cI m0 mS mC mT mR mA th (nI L) (nI C) (nI rl) (nI bg) (nI st) mk (zb on) (nI tp) (nI tl) (zb tb) sg ch tr rc ta) sz)) 0 0 (va_A (wM cI m0 mS mC mT mR mA th (nI L) (nI C) (nI rl) (nI bg) (nI st) mk (zb on) (nI tp) (nI tl) (zb tb) sg ch tr rc ta) sz) := by
  refine Met.ofW (cc := cX3_tries) (maxL := 1) (ret := none) (by decide) rfl ?_
  intro p e s m args below meth c s₁ B hml hv
  obtain ⟨rfl, hsz, hP, hK, hD0⟩ := hv
  have hx := B.exec
  have hb := B.bytes
  have hr := B.returns
  have hts := atoms_spec (ws := wsX3_tries) B.pre
  have hown : s.vm.findClass RX3 = some m.cls := findClass_of_methodNamed B.named
  have hlocks := B.notSynchronized
  have hinX3 : ∀ w ∈ wsX30, w ∈ wsX3_tries := by decide +kernel
  subst hsz
  have hD := hD0.self (sz := s.heap.size)
  generalize hAe : va_A (wM cI m0 mS mC mT mR mA th (nI L) (nI C) (nI rl) (nI bg) (nI st) mk (zb on) (nI tp) (nI tl) (zb tb) sg ch tr rc ta) s.heap.size = A at hD ⊢
  have hA : ∀ q : Nat, s.heap.size ≤ q → A q := fun q h => by rw [← hAe]; exact Or.inr h
  have hS : va_S A s.heap s.heap [] := va_S.rf
  have hP : va_P D vwCl (wM cI m0 mS mC mT mR mA th (nI L) (nI C) (nI rl) (nI bg) (nI st) mk (zb on) (nI tp) (nI tl) (zb tb) sg ch tr rc ta) s.heap := hP
  have hl := lv_entry ([.ref m0]) (n := 1) (Nat.le_of_ble_eq_true rfl)
  rw [lg_entry_eq]
  generalize (lg_sl ([.ref m0]) ++ List.replicate (1 - (lg_sl ([.ref m0])).length) Slot.unset).toArray = ls at hl ⊢
  have hl : lv_has ls 1 [(0, .ref m0)] := hl
  refine lv_aload_n hx hb dX3_tries_0 rfl (lv_at hl 0 rfl) ?_
  refine lv_aload_n hx hb dX3_tries_1 rfl (lv_at hl 0 rfl) ?_
  refine va_get (D := D) (ci := 4) (v := .int (nI bg)) (C := RX3) (T := TX3) (N := 16) hx hb hts hinX3 hown hK.1 hP 0 rfl rfl 9 (by decide) (hts (.fieldLink RX3 39 "PrinterRowsModel" "pages" "I") (by decide +kernel)) (fun _ h9 => h9) rfl dX3_tries_2 ?_
  refine va_put (D := D) (ci := 4) (v := .int (nI bg)) (ty := .int) (C := RX3) (T := TX3) (N := 16) hx hb hts hinX3 tyX3 tyX3_ok nmX3 hown hK.1 hP hD hS 0 rfl rfl 13 (by decide) (hts (.fieldLink RX3 42 "PrinterRowsModel" "trialPages" "I") (by decide +kernel)) (fun _ h9 => h9) rfl (by decide +kernel) rfl rfl (Nat.le_of_ble_eq_true rfl) dX3_tries_5 (fun H locs hP hD hS => ?_)
  have hP : va_P D vwCl (wM cI m0 mS mC mT mR mA th (nI L) (nI C) (nI rl) (nI bg) (nI st) mk (zb on) (nI bg) (nI tl) (zb tb) sg ch tr rc ta) H := hP
  have hD : va_D A (wM cI m0 mS mC mT mR mA th (nI L) (nI C) (nI rl) (nI bg) (nI st) mk (zb on) (nI bg) (nI tl) (zb tb) sg ch tr rc ta) := hD
  refine lv_aload_n hx hb dX3_tries_8 rfl (lv_at hl 0 rfl) ?_
  refine lv_aload_n hx hb dX3_tries_9 rfl (lv_at hl 0 rfl) ?_
  refine va_get (D := D) (ci := 4) (v := .int (nI st)) (C := RX3) (T := TX3) (N := 16) hx hb hts hinX3 hown hK.1 hP 0 rfl rfl 10 (by decide) (hts (.fieldLink RX3 45 "PrinterRowsModel" "at" "I") (by decide +kernel)) (fun _ h9 => h9) rfl dX3_tries_10 ?_
  refine va_put (D := D) (ci := 4) (v := .int (nI st)) (ty := .int) (C := RX3) (T := TX3) (N := 16) hx hb hts hinX3 tyX3 tyX3_ok nmX3 hown hK.1 hP hD hS 0 rfl rfl 14 (by decide) (hts (.fieldLink RX3 48 "PrinterRowsModel" "trialLine" "I") (by decide +kernel)) (fun _ h9 => h9) rfl (by decide +kernel) rfl rfl (Nat.le_of_ble_eq_true rfl) dX3_tries_13 (fun H locs hP hD hS => ?_)
  have hP : va_P D vwCl (wM cI m0 mS mC mT mR mA th (nI L) (nI C) (nI rl) (nI bg) (nI st) mk (zb on) (nI bg) (nI st) (zb tb) sg ch tr rc ta) H := hP
  have hD : va_D A (wM cI m0 mS mC mT mR mA th (nI L) (nI C) (nI rl) (nI bg) (nI st) mk (zb on) (nI bg) (nI st) (zb tb) sg ch tr rc ta) := hD
  refine lv_aload_n hx hb dX3_tries_16 rfl (lv_at hl 0 rfl) ?_
  refine lv_aload_n hx hb dX3_tries_17 rfl (lv_at hl 0 rfl) ?_
  refine va_get (D := D) (ci := 4) (v := .int (zb on)) (C := RX3) (T := TX3) (N := 16) hx hb hts hinX3 hown hK.1 hP 0 rfl rfl 12 (by decide) (hts (.fieldLink RX3 51 "PrinterRowsModel" "begun" "Z") (by decide +kernel)) (fun _ h9 => h9) rfl dX3_tries_18 ?_
  refine va_put (D := D) (ci := 4) (v := .int (zb on)) (ty := .boolean) (C := RX3) (T := TX3) (N := 16) hx hb hts hinX3 tyX3 tyX3_ok nmX3 hown hK.1 hP hD hS 0 rfl rfl 15 (by decide) (hts (.fieldLink RX3 55 "PrinterRowsModel" "trialBegun" "Z") (by decide +kernel)) (fun _ h9 => h9) rfl (by decide +kernel) (zb_nar _) (zb_fit _) (Nat.le_of_ble_eq_true rfl) dX3_tries_21 (fun H locs hP hD hS => ?_)
  have hP : va_P D vwCl (wM cI m0 mS mC mT mR mA th (nI L) (nI C) (nI rl) (nI bg) (nI st) mk (zb on) (nI bg) (nI st) (zb on) sg ch tr rc ta) H := hP
  have hD : va_D A (wM cI m0 mS mC mT mR mA th (nI L) (nI C) (nI rl) (nI bg) (nI st) mk (zb on) (nI bg) (nI st) (zb on) sg ch tr rc ta) := hD
  exact W.vret hx hb hr (fun t ht hW => ⟨⟨(), rfl, trivial, by rw [ht]; exact hP, hD⟩, hS.F ht⟩) hS.2.2 dX3_tries_24

set_option maxHeartbeats 1000000 in
set_option maxRecDepth 100000 in
theorem c_X3_pass (l : Launch) {D : va_G} {cI cP cR cJ : ClassId} {m0 mS mC mT mR mA L C rl bg st tp tl : Nat} {on tb : Bool} {th mk : Int32} {sg ch tr rc ta : Nat → Int32} {sz : Nat} : Met l yX3_pass wsX3_pass ({ frames := 0, cells := 0, slots := 0, locals := 0 }) (mu [.ref m0] D cI cP cR cJ (wM cI m0 mS mC mT mR mA th (nI L) (nI C) (nI rl) (nI bg) (nI st) mk (zb on) (nI tp) (nI tl) (zb tb) sg ch tr rc ta) sz) (qv D (fun (_ : Unit) => True) (fun _ : Unit => wM cI m0 mS mC mT mR mA th (nI L) (nI C) (nI rl) (nI bg) (nI 0) mk (zb false) (nI tp) (nI tl) (zb tb) sg ch tr rc ta) (va_A (wM cI m0 mS mC mT mR mA th (nI L) (nI C) (nI rl) (nI bg) (nI st) mk (zb on) (nI tp) (nI tl) (zb tb) sg ch tr rc ta) sz)) 0 0 (va_A (wM cI m0 mS mC mT mR mA th (nI L) (nI C) (nI rl) (nI bg) (nI st) mk (zb on) (nI tp) (nI tl) (zb tb) sg ch tr rc ta) sz) := by
  refine Met.ofW (cc := cX3_pass) (maxL := 1) (ret := none) (by decide) rfl ?_
  intro p e s m args below meth c s₁ B hml hv
  obtain ⟨rfl, hsz, hP, hK, hD0⟩ := hv
  have hx := B.exec
  have hb := B.bytes
  have hr := B.returns
  have hts := atoms_spec (ws := wsX3_pass) B.pre
  have hown : s.vm.findClass RX3 = some m.cls := findClass_of_methodNamed B.named
  have hlocks := B.notSynchronized
  have hinX3 : ∀ w ∈ wsX30, w ∈ wsX3_pass := by decide +kernel
  subst hsz
  have hD := hD0.self (sz := s.heap.size)
  generalize hAe : va_A (wM cI m0 mS mC mT mR mA th (nI L) (nI C) (nI rl) (nI bg) (nI st) mk (zb on) (nI tp) (nI tl) (zb tb) sg ch tr rc ta) s.heap.size = A at hD ⊢
  have hA : ∀ q : Nat, s.heap.size ≤ q → A q := fun q h => by rw [← hAe]; exact Or.inr h
  have hS : va_S A s.heap s.heap [] := va_S.rf
  have hP : va_P D vwCl (wM cI m0 mS mC mT mR mA th (nI L) (nI C) (nI rl) (nI bg) (nI st) mk (zb on) (nI tp) (nI tl) (zb tb) sg ch tr rc ta) s.heap := hP
  have hl := lv_entry ([.ref m0]) (n := 1) (Nat.le_of_ble_eq_true rfl)
  rw [lg_entry_eq]
  generalize (lg_sl ([.ref m0]) ++ List.replicate (1 - (lg_sl ([.ref m0])).length) Slot.unset).toArray = ls at hl ⊢
  have hl : lv_has ls 1 [(0, .ref m0)] := hl
  refine lv_aload_n hx hb dX3_pass_0 rfl (lv_at hl 0 rfl) ?_
  refine lv_iconst (v := 0) hx hb dX3_pass_1 (by decide +kernel) ?_
  refine va_put (D := D) (ci := 4) (v := .int 0) (ty := .boolean) (C := RX3) (T := TX3) (N := 16) hx hb hts hinX3 tyX3 tyX3_ok nmX3 hown hK.1 hP hD hS 0 rfl rfl 12 (by decide) (hts (.fieldLink RX3 51 "PrinterRowsModel" "begun" "Z") (by decide +kernel)) (fun _ h9 => h9) rfl (by decide +kernel) (by decide +kernel) (by decide +kernel) (Nat.le_of_ble_eq_true rfl) dX3_pass_2 (fun H locs hP hD hS => ?_)
  have hP : va_P D vwCl (wM cI m0 mS mC mT mR mA th (nI L) (nI C) (nI rl) (nI bg) (nI st) mk 0 (nI tp) (nI tl) (zb tb) sg ch tr rc ta) H := hP
  have hD : va_D A (wM cI m0 mS mC mT mR mA th (nI L) (nI C) (nI rl) (nI bg) (nI st) mk 0 (nI tp) (nI tl) (zb tb) sg ch tr rc ta) := hD
  refine lv_aload_n hx hb dX3_pass_5 rfl (lv_at hl 0 rfl) ?_
  refine lv_iconst (v := 0) hx hb dX3_pass_6 (by decide +kernel) ?_
  refine va_put (D := D) (ci := 4) (v := .int 0) (ty := .int) (C := RX3) (T := TX3) (N := 16) hx hb hts hinX3 tyX3 tyX3_ok nmX3 hown hK.1 hP hD hS 0 rfl rfl 10 (by decide) (hts (.fieldLink RX3 45 "PrinterRowsModel" "at" "I") (by decide +kernel)) (fun _ h9 => h9) rfl (by decide +kernel) rfl rfl (Nat.le_of_ble_eq_true rfl) dX3_pass_7 (fun H locs hP hD hS => ?_)
  have hP : va_P D vwCl (wM cI m0 mS mC mT mR mA th (nI L) (nI C) (nI rl) (nI bg) 0 mk 0 (nI tp) (nI tl) (zb tb) sg ch tr rc ta) H := hP
  have hD : va_D A (wM cI m0 mS mC mT mR mA th (nI L) (nI C) (nI rl) (nI bg) 0 mk 0 (nI tp) (nI tl) (zb tb) sg ch tr rc ta) := hD
  exact W.vret hx hb hr (fun t ht hW => ⟨⟨(), rfl, trivial, by rw [ht]; exact hP, hD⟩, hS.F ht⟩) hS.2.2 dX3_pass_10

set_option maxHeartbeats 1000000 in
set_option maxRecDepth 100000 in
theorem c_X3_begin (l : Launch) {D : va_G} {cI cP cR cJ : ClassId} {m0 mS mC mT mR mA L C rl bg st tp tl : Nat} {on tb : Bool} {th mk : Int32} {sg ch tr rc ta : Nat → Int32} {sz : Nat} : Met l yX3_begin wsX3_begin ({ frames := 0, cells := 0, slots := 0, locals := 0 }) (mu [.ref m0] D cI cP cR cJ (wM cI m0 mS mC mT mR mA th (nI L) (nI C) (nI rl) (nI bg) (nI st) mk (zb on) (nI tp) (nI tl) (zb tb) sg ch tr rc ta) sz) (qv D (fun (_ : Unit) => True) (fun _ : Unit => wM cI m0 mS mC mT mR mA th (nI L) (nI C) (nI rl) (nI bg) (nI st) mk (zb on) (nI (bgB tp tb)) (nI tl) (zb true) sg ch tr rc ta) (va_A (wM cI m0 mS mC mT mR mA th (nI L) (nI C) (nI rl) (nI bg) (nI st) mk (zb on) (nI tp) (nI tl) (zb tb) sg ch tr rc ta) sz)) 0 0 (va_A (wM cI m0 mS mC mT mR mA th (nI L) (nI C) (nI rl) (nI bg) (nI st) mk (zb on) (nI tp) (nI tl) (zb tb) sg ch tr rc ta) sz) := by
  refine Met.ofW (cc := cX3_begin) (maxL := 1) (ret := none) (by decide) rfl ?_
  intro p e s m args below meth c s₁ B hml hv
  obtain ⟨rfl, hsz, hP, hK, hD0⟩ := hv
  have hx := B.exec
  have hb := B.bytes
  have hr := B.returns
  have hts := atoms_spec (ws := wsX3_begin) B.pre
  have hown : s.vm.findClass RX3 = some m.cls := findClass_of_methodNamed B.named
  have hlocks := B.notSynchronized
  have hinX3 : ∀ w ∈ wsX30, w ∈ wsX3_begin := by decide +kernel
  subst hsz
  have hD := hD0.self (sz := s.heap.size)
  generalize hAe : va_A (wM cI m0 mS mC mT mR mA th (nI L) (nI C) (nI rl) (nI bg) (nI st) mk (zb on) (nI tp) (nI tl) (zb tb) sg ch tr rc ta) s.heap.size = A at hD ⊢
  have hA : ∀ q : Nat, s.heap.size ≤ q → A q := fun q h => by rw [← hAe]; exact Or.inr h
  have hS : va_S A s.heap s.heap [] := va_S.rf
  have hP : va_P D vwCl (wM cI m0 mS mC mT mR mA th (nI L) (nI C) (nI rl) (nI bg) (nI st) mk (zb on) (nI tp) (nI tl) (zb tb) sg ch tr rc ta) s.heap := hP
  have hl := lv_entry ([.ref m0]) (n := 1) (Nat.le_of_ble_eq_true rfl)
  rw [lg_entry_eq]
  generalize (lg_sl ([.ref m0]) ++ List.replicate (1 - (lg_sl ([.ref m0])).length) Slot.unset).toArray = ls at hl ⊢
  have hl : lv_has ls 1 [(0, .ref m0)] := hl
  refine lv_aload_n hx hb dX3_begin_0 rfl (lv_at hl 0 rfl) ?_
  refine lv_dup hx hb dX3_begin_1 rfl ?_
  refine va_get (D := D) (ci := 4) (v := .int (nI tp)) (C := RX3) (T := TX3) (N := 16) hx hb hts hinX3 hown hK.1 hP 0 rfl rfl 13 (by decide) (hts (.fieldLink RX3 42 "PrinterRowsModel" "trialPages" "I") (by decide +kernel)) (fun _ h9 => h9) rfl dX3_begin_2 ?_
  refine lv_aload_n hx hb dX3_begin_5 rfl (lv_at hl 0 rfl) ?_
  refine va_get (D := D) (ci := 4) (v := .int (zb tb)) (C := RX3) (T := TX3) (N := 16) hx hb hts hinX3 hown hK.1 hP 0 rfl rfl 15 (by decide) (hts (.fieldLink RX3 55 "PrinterRowsModel" "trialBegun" "Z") (by decide +kernel)) (fun _ h9 => h9) rfl dX3_begin_6 ?_
  refine lv_if_eq (tgt := 16) hx hb dX3_begin_9 (by decide) (fun c_9 => ?_) (fun c_9 => ?_)
  ·
    obtain rfl : tb = false := zb0.mp c_9
    refine lv_iconst (v := 1) hx hb dX3_begin_16 (by decide +kernel) ?_
    refine lv_iadd hx hb dX3_begin_17 ?_
    refine lv_topi (fun x_17 ex_17 => ?_)
    obtain rfl : x_17 = nI (tp + 1) := ex_17.trans (nI_1 tp)
    refine va_put (D := D) (ci := 4) (v := .int (nI (tp + 1))) (ty := .int) (C := RX3) (T := TX3) (N := 16) hx hb hts hinX3 tyX3 tyX3_ok nmX3 hown hK.1 hP hD hS 0 rfl rfl 13 (by decide) (hts (.fieldLink RX3 42 "PrinterRowsModel" "trialPages" "I") (by decide +kernel)) (fun _ h9 => h9) rfl (by decide +kernel) rfl rfl (Nat.le_of_ble_eq_true rfl) dX3_begin_18 (fun H locs hP hD hS => ?_)
    have hP : va_P D vwCl (wM cI m0 mS mC mT mR mA th (nI L) (nI C) (nI rl) (nI bg) (nI st) mk (zb on) (nI (tp + 1)) (nI tl) (zb false) sg ch tr rc ta) H := hP
    have hD : va_D A (wM cI m0 mS mC mT mR mA th (nI L) (nI C) (nI rl) (nI bg) (nI st) mk (zb on) (nI (tp + 1)) (nI tl) (zb false) sg ch tr rc ta) := hD
    refine lv_aload_n hx hb dX3_begin_21 rfl (lv_at hl 0 rfl) ?_
    refine lv_iconst (v := 1) hx hb dX3_begin_22 (by decide +kernel) ?_
    refine va_put (D := D) (ci := 4) (v := .int 1) (ty := .boolean) (C := RX3) (T := TX3) (N := 16) hx hb hts hinX3 tyX3 tyX3_ok nmX3 hown hK.1 hP hD hS 0 rfl rfl 15 (by decide) (hts (.fieldLink RX3 55 "PrinterRowsModel" "trialBegun" "Z") (by decide +kernel)) (fun _ h9 => h9) rfl (by decide +kernel) (by decide +kernel) (by decide +kernel) (Nat.le_of_ble_eq_true rfl) dX3_begin_23 (fun H locs hP hD hS => ?_)
    have hP : va_P D vwCl (wM cI m0 mS mC mT mR mA th (nI L) (nI C) (nI rl) (nI bg) (nI st) mk (zb on) (nI (tp + 1)) (nI tl) 1 sg ch tr rc ta) H := hP
    have hD : va_D A (wM cI m0 mS mC mT mR mA th (nI L) (nI C) (nI rl) (nI bg) (nI st) mk (zb on) (nI (tp + 1)) (nI tl) 1 sg ch tr rc ta) := hD
    exact W.vret hx hb hr (fun t ht hW => ⟨⟨(), rfl, trivial, by rw [ht]; exact hP, hD⟩, hS.F ht⟩) hS.2.2 dX3_begin_26
  ·
    obtain rfl : tb = true := zb1.mp c_9
    refine lv_iconst (v := 0) hx hb dX3_begin_12 (by decide +kernel) ?_
    refine lv_goto (tgt := 17) hx hb dX3_begin_13 (by decide) ?_
    refine lv_iadd hx hb dX3_begin_17 ?_
    refine lv_topi (fun x_17 ex_17 => ?_)
    obtain rfl : x_17 = nI tp := ex_17.trans (Int32.add_zero _)
    refine va_put (D := D) (ci := 4) (v := .int (nI tp)) (ty := .int) (C := RX3) (T := TX3) (N := 16) hx hb hts hinX3 tyX3 tyX3_ok nmX3 hown hK.1 hP hD hS 0 rfl rfl 13 (by decide) (hts (.fieldLink RX3 42 "PrinterRowsModel" "trialPages" "I") (by decide +kernel)) (fun _ h9 => h9) rfl (by decide +kernel) rfl rfl (Nat.le_of_ble_eq_true rfl) dX3_begin_18 (fun H locs hP hD hS => ?_)
    have hP : va_P D vwCl (wM cI m0 mS mC mT mR mA th (nI L) (nI C) (nI rl) (nI bg) (nI st) mk (zb on) (nI tp) (nI tl) (zb true) sg ch tr rc ta) H := hP
    have hD : va_D A (wM cI m0 mS mC mT mR mA th (nI L) (nI C) (nI rl) (nI bg) (nI st) mk (zb on) (nI tp) (nI tl) (zb true) sg ch tr rc ta) := hD
    refine lv_aload_n hx hb dX3_begin_21 rfl (lv_at hl 0 rfl) ?_
    refine lv_iconst (v := 1) hx hb dX3_begin_22 (by decide +kernel) ?_
    refine va_put (D := D) (ci := 4) (v := .int 1) (ty := .boolean) (C := RX3) (T := TX3) (N := 16) hx hb hts hinX3 tyX3 tyX3_ok nmX3 hown hK.1 hP hD hS 0 rfl rfl 15 (by decide) (hts (.fieldLink RX3 55 "PrinterRowsModel" "trialBegun" "Z") (by decide +kernel)) (fun _ h9 => h9) rfl (by decide +kernel) (by decide +kernel) (by decide +kernel) (Nat.le_of_ble_eq_true rfl) dX3_begin_23 (fun H locs hP hD hS => ?_)
    have hP : va_P D vwCl (wM cI m0 mS mC mT mR mA th (nI L) (nI C) (nI rl) (nI bg) (nI st) mk (zb on) (nI tp) (nI tl) 1 sg ch tr rc ta) H := hP
    have hD : va_D A (wM cI m0 mS mC mT mR mA th (nI L) (nI C) (nI rl) (nI bg) (nI st) mk (zb on) (nI tp) (nI tl) 1 sg ch tr rc ta) := hD
    exact W.vret hx hb hr (fun t ht hW => ⟨⟨(), rfl, trivial, by rw [ht]; exact hP, hD⟩, hS.F ht⟩) hS.2.2 dX3_begin_26

theorem mvn_up {L : Nat} (n : Nat) (t : Nat × Nat × Bool) : (mvn L n t).1 ≤ t.1 + n := by
  induction n with
  | zero => exact Nat.le_refl _
  | succ n ih =>
    show (mv1 L (mvn L n t)).1 ≤ _
    unfold mv1
    by_cases q : (mvn L n t).2.1 + 1 < L
    · rw [if_pos q]; dsimp only; omega
    · rw [if_neg q]; dsimp only; split <;> omega

set_option maxHeartbeats 1000000 in
set_option maxRecDepth 100000 in
theorem c_X3_move (l : Launch) {D : va_G} {cI cP cR cJ : ClassId} {m0 mS mC mT mR mA L C rl bg st tp tl : Nat} {on tb : Bool} {th mk : Int32} {sg ch tr rc ta : Nat → Int32} {sz : Nat} (hL0 : 0 < L) (hL : L ≤ 66) (htl : tl < L) (htp : tp ≤ 1000) (w : Nat) (hw : w ≤ 66) : Met l yX3_move wsX3_move ({ frames := 0, cells := 0, slots := 0, locals := 0 }) (mu [.ref m0, .int (nI w)] D cI cP cR cJ (wM cI m0 mS mC mT mR mA th (nI L) (nI C) (nI rl) (nI bg) (nI st) mk (zb on) (nI tp) (nI tl) (zb tb) sg ch tr rc ta) sz) (qv D (fun (u : Nat × Nat × Bool) => u = mvn L w (tp, tl, tb)) (fun u : Nat × Nat × Bool => wM cI m0 mS mC mT mR mA th (nI L) (nI C) (nI rl) (nI bg) (nI st) mk (zb on) (nI u.1) (nI u.2.1) (zb u.2.2) sg ch tr rc ta) (va_A (wM cI m0 mS mC mT mR mA th (nI L) (nI C) (nI rl) (nI bg) (nI st) mk (zb on) (nI tp) (nI tl) (zb tb) sg ch tr rc ta) sz)) 0 0 (va_A (wM cI m0 mS mC mT mR mA th (nI L) (nI C) (nI rl) (nI bg) (nI st) mk (zb on) (nI tp) (nI tl) (zb tb) sg ch tr rc ta) sz) := by
  refine Met.ofW (cc := cX3_move) (maxL := 3) (ret := none) (by decide) rfl ?_
  intro p e s m args below meth c s₁ B hml hv
  obtain ⟨rfl, hsz, hP, hK, hD0⟩ := hv
  have hx := B.exec
  have hb := B.bytes
  have hr := B.returns
  have hts := atoms_spec (ws := wsX3_move) B.pre
  have hown : s.vm.findClass RX3 = some m.cls := findClass_of_methodNamed B.named
  have hlocks := B.notSynchronized
  have hinX3 : ∀ w ∈ wsX30, w ∈ wsX3_move := by decide +kernel
  subst hsz
  have hD := hD0.self (sz := s.heap.size)
  generalize hAe : va_A (wM cI m0 mS mC mT mR mA th (nI L) (nI C) (nI rl) (nI bg) (nI st) mk (zb on) (nI tp) (nI tl) (zb tb) sg ch tr rc ta) s.heap.size = A at hD ⊢
  have hA : ∀ q : Nat, s.heap.size ≤ q → A q := fun q h => by rw [← hAe]; exact Or.inr h
  have hS : va_S A s.heap s.heap [] := va_S.rf
  have hP : va_P D vwCl (wM cI m0 mS mC mT mR mA th (nI L) (nI C) (nI rl) (nI bg) (nI st) mk (zb on) (nI tp) (nI tl) (zb tb) sg ch tr rc ta) s.heap := hP
  have hl := lv_entry ([.ref m0, .int (nI w)]) (n := 3) (Nat.le_of_ble_eq_true rfl)
  rw [lg_entry_eq]
  generalize (lg_sl ([.ref m0, .int (nI w)]) ++ List.replicate (3 - (lg_sl ([.ref m0, .int (nI w)])).length) Slot.unset).toArray = ls at hl ⊢
  have hl : lv_has ls 3 [(0, .ref m0), (1, .int (nI w))] := hl
  refine lv_iconst (v := 0) hx hb dX3_move_0 (by decide +kernel) ?_
  refine lv_istore_n (lv' := [(2, .int 0), (0, .ref m0), (1, .int (nI w))]) hx hb dX3_move_1 rfl hl (by decide) rfl (fun ls hl => ?_)
  have loop : ∀ (n : Nat) (i tpv tlv : Nat) (tbv : Bool) (H : Heap) (locs : List Loc) (ls : Array Slot), (i ≤ w) → (w - i < n) → ((tpv, tlv, tbv) = mvn L i (tp, tl, tb)) → va_P D vwCl (wM cI m0 mS mC mT mR mA th (nI L) (nI C) (nI rl) (nI bg) (nI st) mk (zb on) (nI tpv) (nI tlv) (zb tbv) sg ch tr rc ta) H → va_D A (wM cI m0 mS mC mT mR mA th (nI L) (nI C) (nI rl) (nI bg) (nI st) mk (zb on) (nI tpv) (nI tlv) (zb tbv) sg ch tr rc ta) → va_S A s.heap H locs → lv_has ls 3 [(0, .ref m0), (1, .int (nI w)), (2, .int (nI i))] → W p l e (headSpec wsX3_move ({ frames := 0, cells := 0, slots := 0, locals := 0 })).room s m (([.ref m0, .int (nI w)] : List Value).toArray) below meth c H locs 0 0 (MQ below (qv D (fun (u : Nat × Nat × Bool) => u = mvn L w (tp, tl, tb)) (fun u : Nat × Nat × Bool => wM cI m0 mS mC mT mR mA th (nI L) (nI C) (nI rl) (nI bg) (nI st) mk (zb on) (nI u.1) (nI u.2.1) (zb u.2.2) sg ch tr rc ta) (A)) (([.ref m0, .int (nI w)] : List Value).toArray) s 0 0 A) (F0 m 2 ls []) := by
    intro n
    induction n with
    | zero => intro i tpv tlv tbv H locs ls hi hn hmv hP hD hS hl; exact absurd hn (Nat.not_lt_zero _)
    | succ n ih =>
      intro i tpv tlv tbv H locs ls hi hn hmv hP hD hS hl
      refine lv_iload_n hx hb dX3_move_2 rfl (lv_at hl 2 rfl) ?_
      refine lv_iload_n hx hb dX3_move_3 rfl (lv_at hl 1 rfl) ?_
      refine lv_icmp_ge (tgt := 68) hx hb dX3_move_4 (by decide) (fun c_4 => ?_) (fun c_4 => ?_)
      ·
        have hie : w = i := by have := (nI_leI (by omega) (by omega)).mp c_4; omega
        exact W.vret hx hb hr (fun t ht hW => ⟨⟨(tpv, tlv, tbv), rfl, by rw [hie]; exact hmv, by rw [ht]; exact hP, hD⟩, hS.F ht⟩) hS.2.2 dX3_move_68
      ·
        have hlt : i < w := Nat.lt_of_not_le (fun h9 => c_4 (nI_le h9 (by omega)))
        have hsl : tlv < L := by have h9 := mvn_st hL0 i (tp, tl, tb) htl; rw [← hmv] at h9; exact h9
        have hup : tpv ≤ 2000 := by have h9 := mvn_up (L := L) i (tp, tl, tb); rw [← hmv] at h9; dsimp only at h9; omega
        refine lv_aload_n hx hb dX3_move_7 rfl (lv_at hl 0 rfl) ?_
        refine lv_dup hx hb dX3_move_8 rfl ?_
        refine va_get (D := D) (ci := 4) (v := .int (nI tlv)) (C := RX3) (T := TX3) (N := 16) hx hb hts hinX3 hown hK.1 hP 0 rfl rfl 14 (by decide) (hts (.fieldLink RX3 48 "PrinterRowsModel" "trialLine" "I") (by decide +kernel)) (fun _ h9 => h9) rfl dX3_move_9 ?_
        refine lv_iconst (v := 1) hx hb dX3_move_12 (by decide +kernel) ?_
        refine lv_iadd hx hb dX3_move_13 ?_
        refine lv_topi (fun x_13 ex_13 => ?_)
        obtain rfl : x_13 = nI (tlv + 1) := ex_13.trans (nI_1 tlv)
        refine va_put (D := D) (ci := 4) (v := .int (nI (tlv + 1))) (ty := .int) (C := RX3) (T := TX3) (N := 16) hx hb hts hinX3 tyX3 tyX3_ok nmX3 hown hK.1 hP hD hS 0 rfl rfl 14 (by decide) (hts (.fieldLink RX3 48 "PrinterRowsModel" "trialLine" "I") (by decide +kernel)) (fun _ h9 => h9) rfl (by decide +kernel) rfl rfl (Nat.le_of_ble_eq_true rfl) dX3_move_14 (fun H locs hP hD hS => ?_)
        have hP : va_P D vwCl (wM cI m0 mS mC mT mR mA th (nI L) (nI C) (nI rl) (nI bg) (nI st) mk (zb on) (nI tpv) (nI (tlv + 1)) (zb tbv) sg ch tr rc ta) H := hP
        have hD : va_D A (wM cI m0 mS mC mT mR mA th (nI L) (nI C) (nI rl) (nI bg) (nI st) mk (zb on) (nI tpv) (nI (tlv + 1)) (zb tbv) sg ch tr rc ta) := hD
        refine lv_aload_n hx hb dX3_move_17 rfl (lv_at hl 0 rfl) ?_
        refine va_get (D := D) (ci := 4) (v := .int (nI (tlv + 1))) (C := RX3) (T := TX3) (N := 16) hx hb hts hinX3 hown hK.1 hP 0 rfl rfl 14 (by decide) (hts (.fieldLink RX3 48 "PrinterRowsModel" "trialLine" "I") (by decide +kernel)) (fun _ h9 => h9) rfl dX3_move_18 ?_
        refine lv_aload_n hx hb dX3_move_21 rfl (lv_at hl 0 rfl) ?_
        refine va_get (D := D) (ci := 4) (v := .int (nI L)) (C := RX3) (T := TX3) (N := 16) hx hb hts hinX3 hown hK.1 hP 0 rfl rfl 1 (by decide) (hts (.fieldLink RX3 26 "PrinterRowsModel" "lines" "I") (by decide +kernel)) (fun _ h9 => h9) rfl dX3_move_22 ?_
        refine lv_icmp_ge (tgt := 31) hx hb dX3_move_25 (by decide) (fun c_25 => ?_) (fun c_25 => ?_)
        ·
          have hs1 : ¬ tlv + 1 < L := fun h9 => nI_ge h9 (by omega) c_25
          refine lv_aload_n hx hb dX3_move_31 rfl (lv_at hl 0 rfl) ?_
          refine lv_dup hx hb dX3_move_32 rfl ?_
          refine va_get (D := D) (ci := 4) (v := .int (nI tpv)) (C := RX3) (T := TX3) (N := 16) hx hb hts hinX3 hown hK.1 hP 0 rfl rfl 13 (by decide) (hts (.fieldLink RX3 42 "PrinterRowsModel" "trialPages" "I") (by decide +kernel)) (fun _ h9 => h9) rfl dX3_move_33 ?_
          refine lv_aload_n hx hb dX3_move_36 rfl (lv_at hl 0 rfl) ?_
          refine va_get (D := D) (ci := 4) (v := .int (zb tbv)) (C := RX3) (T := TX3) (N := 16) hx hb hts hinX3 hown hK.1 hP 0 rfl rfl 15 (by decide) (hts (.fieldLink RX3 55 "PrinterRowsModel" "trialBegun" "Z") (by decide +kernel)) (fun _ h9 => h9) rfl dX3_move_37 ?_
          refine lv_if_eq (tgt := 47) hx hb dX3_move_40 (by decide) (fun c_40 => ?_) (fun c_40 => ?_)
          ·
            obtain rfl : tbv = false := zb0.mp c_40
            refine lv_iconst (v := 1) hx hb dX3_move_47 (by decide +kernel) ?_
            refine lv_iadd hx hb dX3_move_48 ?_
            refine lv_topi (fun x_48 ex_48 => ?_)
            obtain rfl : x_48 = nI (tpv + 1) := ex_48.trans (nI_1 tpv)
            refine va_put (D := D) (ci := 4) (v := .int (nI (tpv + 1))) (ty := .int) (C := RX3) (T := TX3) (N := 16) hx hb hts hinX3 tyX3 tyX3_ok nmX3 hown hK.1 hP hD hS 0 rfl rfl 13 (by decide) (hts (.fieldLink RX3 42 "PrinterRowsModel" "trialPages" "I") (by decide +kernel)) (fun _ h9 => h9) rfl (by decide +kernel) rfl rfl (Nat.le_of_ble_eq_true rfl) dX3_move_49 (fun H locs hP hD hS => ?_)
            have hP : va_P D vwCl (wM cI m0 mS mC mT mR mA th (nI L) (nI C) (nI rl) (nI bg) (nI st) mk (zb on) (nI (tpv + 1)) (nI (tlv + 1)) (zb false) sg ch tr rc ta) H := hP
            have hD : va_D A (wM cI m0 mS mC mT mR mA th (nI L) (nI C) (nI rl) (nI bg) (nI st) mk (zb on) (nI (tpv + 1)) (nI (tlv + 1)) (zb false) sg ch tr rc ta) := hD
            refine lv_aload_n hx hb dX3_move_52 rfl (lv_at hl 0 rfl) ?_
            refine lv_iconst (v := 0) hx hb dX3_move_53 (by decide +kernel) ?_
            refine va_put (D := D) (ci := 4) (v := .int 0) (ty := .boolean) (C := RX3) (T := TX3) (N := 16) hx hb hts hinX3 tyX3 tyX3_ok nmX3 hown hK.1 hP hD hS 0 rfl rfl 15 (by decide) (hts (.fieldLink RX3 55 "PrinterRowsModel" "trialBegun" "Z") (by decide +kernel)) (fun _ h9 => h9) rfl (by decide +kernel) (by decide +kernel) (by decide +kernel) (Nat.le_of_ble_eq_true rfl) dX3_move_54 (fun H locs hP hD hS => ?_)
            have hP : va_P D vwCl (wM cI m0 mS mC mT mR mA th (nI L) (nI C) (nI rl) (nI bg) (nI st) mk (zb on) (nI (tpv + 1)) (nI (tlv + 1)) 0 sg ch tr rc ta) H := hP
            have hD : va_D A (wM cI m0 mS mC mT mR mA th (nI L) (nI C) (nI rl) (nI bg) (nI st) mk (zb on) (nI (tpv + 1)) (nI (tlv + 1)) 0 sg ch tr rc ta) := hD
            refine lv_aload_n hx hb dX3_move_57 rfl (lv_at hl 0 rfl) ?_
            refine lv_iconst (v := 0) hx hb dX3_move_58 (by decide +kernel) ?_
            refine va_put (D := D) (ci := 4) (v := .int 0) (ty := .int) (C := RX3) (T := TX3) (N := 16) hx hb hts hinX3 tyX3 tyX3_ok nmX3 hown hK.1 hP hD hS 0 rfl rfl 14 (by decide) (hts (.fieldLink RX3 48 "PrinterRowsModel" "trialLine" "I") (by decide +kernel)) (fun _ h9 => h9) rfl (by decide +kernel) rfl rfl (Nat.le_of_ble_eq_true rfl) dX3_move_59 (fun H locs hP hD hS => ?_)
            have hP : va_P D vwCl (wM cI m0 mS mC mT mR mA th (nI L) (nI C) (nI rl) (nI bg) (nI st) mk (zb on) (nI (tpv + 1)) 0 0 sg ch tr rc ta) H := hP
            have hD : va_D A (wM cI m0 mS mC mT mR mA th (nI L) (nI C) (nI rl) (nI bg) (nI st) mk (zb on) (nI (tpv + 1)) 0 0 sg ch tr rc ta) := hD
            refine lv_iinc (v := (nI (i + 1))) (lv' := [(2, .int (nI (i + 1))), (0, .ref m0), (1, .int (nI w))]) hx hb dX3_move_62 hl (k := 2) rfl (nI_1 i) (by decide) rfl (fun ls hl => ?_)
            refine lv_goto (tgt := 2) hx hb dX3_move_65 (by decide) ?_
            exact ih (i + 1) (tpv + 1) 0 false _ _ _ (by omega) (by omega) (by show _ = mv1 L (mvn L i (tp, tl, tb)); rw [← hmv, mv1, if_neg hs1]; rfl) hP hD hS (lv_sub hl [1, 2, 0] rfl)
          ·
            obtain rfl : tbv = true := zb1.mp c_40
            refine lv_iconst (v := 0) hx hb dX3_move_43 (by decide +kernel) ?_
            refine lv_goto (tgt := 48) hx hb dX3_move_44 (by decide) ?_
            refine lv_iadd hx hb dX3_move_48 ?_
            refine lv_topi (fun x_48 ex_48 => ?_)
            obtain rfl : x_48 = nI tpv := ex_48.trans (Int32.add_zero _)
            refine va_put (D := D) (ci := 4) (v := .int (nI tpv)) (ty := .int) (C := RX3) (T := TX3) (N := 16) hx hb hts hinX3 tyX3 tyX3_ok nmX3 hown hK.1 hP hD hS 0 rfl rfl 13 (by decide) (hts (.fieldLink RX3 42 "PrinterRowsModel" "trialPages" "I") (by decide +kernel)) (fun _ h9 => h9) rfl (by decide +kernel) rfl rfl (Nat.le_of_ble_eq_true rfl) dX3_move_49 (fun H locs hP hD hS => ?_)
            have hP : va_P D vwCl (wM cI m0 mS mC mT mR mA th (nI L) (nI C) (nI rl) (nI bg) (nI st) mk (zb on) (nI tpv) (nI (tlv + 1)) (zb true) sg ch tr rc ta) H := hP
            have hD : va_D A (wM cI m0 mS mC mT mR mA th (nI L) (nI C) (nI rl) (nI bg) (nI st) mk (zb on) (nI tpv) (nI (tlv + 1)) (zb true) sg ch tr rc ta) := hD
            refine lv_aload_n hx hb dX3_move_52 rfl (lv_at hl 0 rfl) ?_
            refine lv_iconst (v := 0) hx hb dX3_move_53 (by decide +kernel) ?_
            refine va_put (D := D) (ci := 4) (v := .int 0) (ty := .boolean) (C := RX3) (T := TX3) (N := 16) hx hb hts hinX3 tyX3 tyX3_ok nmX3 hown hK.1 hP hD hS 0 rfl rfl 15 (by decide) (hts (.fieldLink RX3 55 "PrinterRowsModel" "trialBegun" "Z") (by decide +kernel)) (fun _ h9 => h9) rfl (by decide +kernel) (by decide +kernel) (by decide +kernel) (Nat.le_of_ble_eq_true rfl) dX3_move_54 (fun H locs hP hD hS => ?_)
            have hP : va_P D vwCl (wM cI m0 mS mC mT mR mA th (nI L) (nI C) (nI rl) (nI bg) (nI st) mk (zb on) (nI tpv) (nI (tlv + 1)) 0 sg ch tr rc ta) H := hP
            have hD : va_D A (wM cI m0 mS mC mT mR mA th (nI L) (nI C) (nI rl) (nI bg) (nI st) mk (zb on) (nI tpv) (nI (tlv + 1)) 0 sg ch tr rc ta) := hD
            refine lv_aload_n hx hb dX3_move_57 rfl (lv_at hl 0 rfl) ?_
            refine lv_iconst (v := 0) hx hb dX3_move_58 (by decide +kernel) ?_
            refine va_put (D := D) (ci := 4) (v := .int 0) (ty := .int) (C := RX3) (T := TX3) (N := 16) hx hb hts hinX3 tyX3 tyX3_ok nmX3 hown hK.1 hP hD hS 0 rfl rfl 14 (by decide) (hts (.fieldLink RX3 48 "PrinterRowsModel" "trialLine" "I") (by decide +kernel)) (fun _ h9 => h9) rfl (by decide +kernel) rfl rfl (Nat.le_of_ble_eq_true rfl) dX3_move_59 (fun H locs hP hD hS => ?_)
            have hP : va_P D vwCl (wM cI m0 mS mC mT mR mA th (nI L) (nI C) (nI rl) (nI bg) (nI st) mk (zb on) (nI tpv) 0 0 sg ch tr rc ta) H := hP
            have hD : va_D A (wM cI m0 mS mC mT mR mA th (nI L) (nI C) (nI rl) (nI bg) (nI st) mk (zb on) (nI tpv) 0 0 sg ch tr rc ta) := hD
            refine lv_iinc (v := (nI (i + 1))) (lv' := [(2, .int (nI (i + 1))), (0, .ref m0), (1, .int (nI w))]) hx hb dX3_move_62 hl (k := 2) rfl (nI_1 i) (by decide) rfl (fun ls hl => ?_)
            refine lv_goto (tgt := 2) hx hb dX3_move_65 (by decide) ?_
            exact ih (i + 1) tpv 0 false _ _ _ (by omega) (by omega) (by show _ = mv1 L (mvn L i (tp, tl, tb)); rw [← hmv, mv1, if_neg hs1]; rfl) hP hD hS (lv_sub hl [1, 2, 0] rfl)
        ·
          have hs1 : tlv + 1 < L := Nat.lt_of_not_le (fun h9 => c_25 (nI_le h9 (by omega)))
          refine lv_goto (tgt := 62) hx hb dX3_move_28 (by decide) ?_
          refine lv_iinc (v := (nI (i + 1))) (lv' := [(2, .int (nI (i + 1))), (0, .ref m0), (1, .int (nI w))]) hx hb dX3_move_62 hl (k := 2) rfl (nI_1 i) (by decide) rfl (fun ls hl => ?_)
          refine lv_goto (tgt := 2) hx hb dX3_move_65 (by decide) ?_
          exact ih (i + 1) tpv (tlv + 1) tbv _ _ _ (by omega) (by omega) (by show _ = mv1 L (mvn L i (tp, tl, tb)); rw [← hmv, mv1, if_pos hs1]) hP hD hS (lv_sub hl [1, 2, 0] rfl)
  exact loop (w + 1) 0 tp tl tb _ _ _ (Nat.zero_le _) (by omega) (rfl) hP hD hS (lv_sub hl [1, 2, 0] rfl)

set_option maxHeartbeats 1000000 in
set_option maxRecDepth 100000 in
theorem c_X3_settle (l : Launch) {D : va_G} {cI cP cR cJ : ClassId} {m0 mS mC mT mR mA L C rl bg st tp tl : Nat} {on tb : Bool} {th mk : Int32} {sg ch tr rc ta : Nat → Int32} {sz : Nat} (hbt : bg ≤ tp) (htp : tp ≤ 40) : Met l yX3_settle wsX3_settle ({ frames := 0, cells := 0, slots := 0, locals := 0 }) (mu [.ref m0] D cI cP cR cJ (wM cI m0 mS mC mT mR mA th (nI L) (nI C) (nI rl) (nI bg) (nI st) mk (zb on) (nI tp) (nI tl) (zb tb) sg ch tr rc ta) sz) (qv D (fun (u : Nat → Int32) => u = stG bg tp sg) (fun u : Nat → Int32 => wM cI m0 mS mC mT mR mA th (nI L) (nI C) (nI rl) (nI tp) (nI tl) mk (zb tb) (nI tp) (nI tl) (zb tb) u ch tr rc ta) (va_A (wM cI m0 mS mC mT mR mA th (nI L) (nI C) (nI rl) (nI bg) (nI st) mk (zb on) (nI tp) (nI tl) (zb tb) sg ch tr rc ta) sz)) 0 0 (va_A (wM cI m0 mS mC mT mR mA th (nI L) (nI C) (nI rl) (nI bg) (nI st) mk (zb on) (nI tp) (nI tl) (zb tb) sg ch tr rc ta) sz) := by
  refine Met.ofW (cc := cX3_settle) (maxL := 2) (ret := none) (by decide) rfl ?_
  intro p e s m args below meth c s₁ B hml hv
  obtain ⟨rfl, hsz, hP, hK, hD0⟩ := hv
  have hx := B.exec
  have hb := B.bytes
  have hr := B.returns
  have hts := atoms_spec (ws := wsX3_settle) B.pre
  have hown : s.vm.findClass RX3 = some m.cls := findClass_of_methodNamed B.named
  have hlocks := B.notSynchronized
  have hinX3 : ∀ w ∈ wsX30, w ∈ wsX3_settle := by decide +kernel
  subst hsz
  have hD := hD0.self (sz := s.heap.size)
  generalize hAe : va_A (wM cI m0 mS mC mT mR mA th (nI L) (nI C) (nI rl) (nI bg) (nI st) mk (zb on) (nI tp) (nI tl) (zb tb) sg ch tr rc ta) s.heap.size = A at hD ⊢
  have hA : ∀ q : Nat, s.heap.size ≤ q → A q := fun q h => by rw [← hAe]; exact Or.inr h
  have hS : va_S A s.heap s.heap [] := va_S.rf
  have hP : va_P D vwCl (wM cI m0 mS mC mT mR mA th (nI L) (nI C) (nI rl) (nI bg) (nI st) mk (zb on) (nI tp) (nI tl) (zb tb) sg ch tr rc ta) s.heap := hP
  have hl := lv_entry ([.ref m0]) (n := 2) (Nat.le_of_ble_eq_true rfl)
  rw [lg_entry_eq]
  generalize (lg_sl ([.ref m0]) ++ List.replicate (2 - (lg_sl ([.ref m0])).length) Slot.unset).toArray = ls at hl ⊢
  have hl : lv_has ls 2 [(0, .ref m0)] := hl
  refine lv_sipush (v := 8712) hx hb dX3_settle_0 (by decide +kernel) ?_
  refine lv_aload_n hx hb dX3_settle_3 rfl (lv_at hl 0 rfl) ?_
  refine va_get (D := D) (ci := 4) (v := .int (nI bg)) (C := RX3) (T := TX3) (N := 16) hx hb hts hinX3 hown hK.1 hP 0 rfl rfl 9 (by decide) (hts (.fieldLink RX3 39 "PrinterRowsModel" "pages" "I") (by decide +kernel)) (fun _ h9 => h9) rfl dX3_settle_4 ?_
  refine lv_imul hx hb dX3_settle_7 ?_
  refine lv_topi (fun x_7 ex_7 => ?_)
  obtain rfl : x_7 = nI (8712 * bg) := ex_7.trans (pk_mul 8712 bg)
  refine lv_istore_n (lv' := [(1, .int (nI (8712 * bg))), (0, .ref m0)]) hx hb dX3_settle_8 rfl hl (by decide) rfl (fun ls hl => ?_)
  have loop : ∀ (n : Nat) (i : Nat) (H : Heap) (locs : List Loc) (ls : Array Slot), (8712 * bg ≤ i) → (i ≤ 8712 * tp) → (8712 * tp - i < n) → va_P D vwCl (wM cI m0 mS mC mT mR mA th (nI L) (nI C) (nI rl) (nI bg) (nI st) mk (zb on) (nI tp) (nI tl) (zb tb) (stH bg i sg) ch tr rc ta) H → va_D A (wM cI m0 mS mC mT mR mA th (nI L) (nI C) (nI rl) (nI bg) (nI st) mk (zb on) (nI tp) (nI tl) (zb tb) (stH bg i sg) ch tr rc ta) → va_S A s.heap H locs → lv_has ls 2 [(0, .ref m0), (1, .int (nI i))] → W p l e (headSpec wsX3_settle ({ frames := 0, cells := 0, slots := 0, locals := 0 })).room s m (([.ref m0] : List Value).toArray) below meth c H locs 0 0 (MQ below (qv D (fun (u : Nat → Int32) => u = stG bg tp sg) (fun u : Nat → Int32 => wM cI m0 mS mC mT mR mA th (nI L) (nI C) (nI rl) (nI tp) (nI tl) mk (zb tb) (nI tp) (nI tl) (zb tb) u ch tr rc ta) (A)) (([.ref m0] : List Value).toArray) s 0 0 A) (F0 m 9 ls []) := by
    intro n
    induction n with
    | zero => intro i H locs ls hi0 hi hn hP hD hS hl; exact absurd hn (Nat.not_lt_zero _)
    | succ n ih =>
      intro i H locs ls hi0 hi hn hP hD hS hl
      refine lv_iload_n hx hb dX3_settle_9 rfl (lv_at hl 1 rfl) ?_
      refine lv_sipush (v := 8712) hx hb dX3_settle_10 (by decide +kernel) ?_
      refine lv_aload_n hx hb dX3_settle_13 rfl (lv_at hl 0 rfl) ?_
      refine va_get (D := D) (ci := 4) (v := .int (nI tp)) (C := RX3) (T := TX3) (N := 16) hx hb hts hinX3 hown hK.1 hP 0 rfl rfl 13 (by decide) (hts (.fieldLink RX3 42 "PrinterRowsModel" "trialPages" "I") (by decide +kernel)) (fun _ h9 => h9) rfl dX3_settle_14 ?_
      refine lv_imul hx hb dX3_settle_17 ?_
      refine lv_topi (fun x_17 ex_17 => ?_)
      obtain rfl : x_17 = nI (8712 * tp) := ex_17.trans (pk_mul 8712 tp)
      refine lv_icmp_ge (tgt := 35) hx hb dX3_settle_18 (by decide) (fun c_18 => ?_) (fun c_18 => ?_)
      ·
        have hie : i = 8712 * tp := by have := (nI_leI (by omega) (by omega)).mp c_18; omega
        refine lv_aload_n hx hb dX3_settle_35 rfl (lv_at hl 0 rfl) ?_
        refine lv_aload_n hx hb dX3_settle_36 rfl (lv_at hl 0 rfl) ?_
        refine va_get (D := D) (ci := 4) (v := .int (nI tp)) (C := RX3) (T := TX3) (N := 16) hx hb hts hinX3 hown hK.1 hP 0 rfl rfl 13 (by decide) (hts (.fieldLink RX3 42 "PrinterRowsModel" "trialPages" "I") (by decide +kernel)) (fun _ h9 => h9) rfl dX3_settle_37 ?_
        refine va_put (D := D) (ci := 4) (v := .int (nI tp)) (ty := .int) (C := RX3) (T := TX3) (N := 16) hx hb hts hinX3 tyX3 tyX3_ok nmX3 hown hK.1 hP hD hS 0 rfl rfl 9 (by decide) (hts (.fieldLink RX3 39 "PrinterRowsModel" "pages" "I") (by decide +kernel)) (fun _ h9 => h9) rfl (by decide +kernel) rfl rfl (Nat.le_of_ble_eq_true rfl) dX3_settle_40 (fun H locs hP hD hS => ?_)
        have hP : va_P D vwCl (wM cI m0 mS mC mT mR mA th (nI L) (nI C) (nI rl) (nI tp) (nI st) mk (zb on) (nI tp) (nI tl) (zb tb) (stH bg i sg) ch tr rc ta) H := hP
        have hD : va_D A (wM cI m0 mS mC mT mR mA th (nI L) (nI C) (nI rl) (nI tp) (nI st) mk (zb on) (nI tp) (nI tl) (zb tb) (stH bg i sg) ch tr rc ta) := hD
        refine lv_aload_n hx hb dX3_settle_43 rfl (lv_at hl 0 rfl) ?_
        refine lv_aload_n hx hb dX3_settle_44 rfl (lv_at hl 0 rfl) ?_
        refine va_get (D := D) (ci := 4) (v := .int (nI tl)) (C := RX3) (T := TX3) (N := 16) hx hb hts hinX3 hown hK.1 hP 0 rfl rfl 14 (by decide) (hts (.fieldLink RX3 48 "PrinterRowsModel" "trialLine" "I") (by decide +kernel)) (fun _ h9 => h9) rfl dX3_settle_45 ?_
        refine va_put (D := D) (ci := 4) (v := .int (nI tl)) (ty := .int) (C := RX3) (T := TX3) (N := 16) hx hb hts hinX3 tyX3 tyX3_ok nmX3 hown hK.1 hP hD hS 0 rfl rfl 10 (by decide) (hts (.fieldLink RX3 45 "PrinterRowsModel" "at" "I") (by decide +kernel)) (fun _ h9 => h9) rfl (by decide +kernel) rfl rfl (Nat.le_of_ble_eq_true rfl) dX3_settle_48 (fun H locs hP hD hS => ?_)
        have hP : va_P D vwCl (wM cI m0 mS mC mT mR mA th (nI L) (nI C) (nI rl) (nI tp) (nI tl) mk (zb on) (nI tp) (nI tl) (zb tb) (stH bg i sg) ch tr rc ta) H := hP
        have hD : va_D A (wM cI m0 mS mC mT mR mA th (nI L) (nI C) (nI rl) (nI tp) (nI tl) mk (zb on) (nI tp) (nI tl) (zb tb) (stH bg i sg) ch tr rc ta) := hD
        refine lv_aload_n hx hb dX3_settle_51 rfl (lv_at hl 0 rfl) ?_
        refine lv_aload_n hx hb dX3_settle_52 rfl (lv_at hl 0 rfl) ?_
        refine va_get (D := D) (ci := 4) (v := .int (zb tb)) (C := RX3) (T := TX3) (N := 16) hx hb hts hinX3 hown hK.1 hP 0 rfl rfl 15 (by decide) (hts (.fieldLink RX3 55 "PrinterRowsModel" "trialBegun" "Z") (by decide +kernel)) (fun _ h9 => h9) rfl dX3_settle_53 ?_
        refine va_put (D := D) (ci := 4) (v := .int (zb tb)) (ty := .boolean) (C := RX3) (T := TX3) (N := 16) hx hb hts hinX3 tyX3 tyX3_ok nmX3 hown hK.1 hP hD hS 0 rfl rfl 12 (by decide) (hts (.fieldLink RX3 51 "PrinterRowsModel" "begun" "Z") (by decide +kernel)) (fun _ h9 => h9) rfl (by decide +kernel) (zb_nar _) (zb_fit _) (Nat.le_of_ble_eq_true rfl) dX3_settle_56 (fun H locs hP hD hS => ?_)
        have hP : va_P D vwCl (wM cI m0 mS mC mT mR mA th (nI L) (nI C) (nI rl) (nI tp) (nI tl) mk (zb tb) (nI tp) (nI tl) (zb tb) (stH bg i sg) ch tr rc ta) H := hP
        have hD : va_D A (wM cI m0 mS mC mT mR mA th (nI L) (nI C) (nI rl) (nI tp) (nI tl) mk (zb tb) (nI tp) (nI tl) (zb tb) (stH bg i sg) ch tr rc ta) := hD
        exact W.vret hx hb hr (fun t ht hW => ⟨⟨(stH bg i sg), rfl, by rw [hie]; rfl, by rw [ht]; exact hP, hD⟩, hS.F ht⟩) hS.2.2 dX3_settle_59
      ·
        have hlt : i < 8712 * tp := Nat.lt_of_not_le (fun h9 => c_18 (nI_le h9 (by omega)))
        refine lv_aload_n hx hb dX3_settle_21 rfl (lv_at hl 0 rfl) ?_
        refine va_get (D := D) (ci := 4) (v := .ref mS) (C := RX3) (T := TX3) (N := 16) hx hb hts hinX3 hown hK.1 hP 0 rfl rfl 3 (by decide) (hts (.fieldLink RX3 8 "PrinterRowsModel" "signs" "[I") (by decide +kernel)) (fun _ h9 => h9) rfl dX3_settle_22 ?_
        refine lv_iload_n hx hb dX3_settle_25 rfl (lv_at hl 1 rfl) ?_
        refine lv_bipush (v := 32) hx hb dX3_settle_26 (by decide +kernel) ?_
        refine va_iast hx hb hK.1 hP hD hS 1 0 rfl rfl (vp_in_nI (by omega) (by decide)) dX3_settle_28 (fun H locs hP hD hS => ?_)
        rw [show (upd (stH bg i sg) ((nI i)).toNatClampNeg 32) = (stH bg (i + 1) sg) from by rw [nI_clamp (by omega)]; exact stH_step hi0] at hP hD
        have hP : va_P D vwCl (wM cI m0 mS mC mT mR mA th (nI L) (nI C) (nI rl) (nI bg) (nI st) mk (zb on) (nI tp) (nI tl) (zb tb) (stH bg (i + 1) sg) ch tr rc ta) H := hP
        have hD : va_D A (wM cI m0 mS mC mT mR mA th (nI L) (nI C) (nI rl) (nI bg) (nI st) mk (zb on) (nI tp) (nI tl) (zb tb) (stH bg (i + 1) sg) ch tr rc ta) := hD
        refine lv_iinc (v := (nI (i + 1))) (lv' := [(1, .int (nI (i + 1))), (0, .ref m0)]) hx hb dX3_settle_29 hl (k := 1) rfl (nI_1 i) (by decide) rfl (fun ls hl => ?_)
        refine lv_goto (tgt := 9) hx hb dX3_settle_32 (by decide) ?_
        exact ih (i + 1) _ _ _ (by omega) (by omega) (by omega) hP hD hS (lv_sub hl [1, 0] rfl)
  rw [← stH_0 (b := bg) (sg := sg)] at hP hD
  exact loop (8712 * tp + 1) (8712 * bg) _ _ _ (Nat.le_refl _) (Nat.mul_le_mul_left _ hbt) (by omega) hP hD hS (lv_sub hl [1, 0] rfl)
