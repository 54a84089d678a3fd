/-! the reference: its cells; what is pure in it -/
def mF (th L C : Int32) (mS mC mT mR mA : Nat) (rl bg st mk on tp tl tb : Int32) : List Value := [.int th, .int L, .int C, .ref mS, .ref mC, .ref mT, .ref mR, .ref mA, .int rl, .int bg, .int st, .int mk, .int on, .int tp, .int tl, .int tb]
def wM (cI : ClassId) (m0 mS mC mT mR mA : Nat) (th L C rl bg st mk on tp tl tb : Int32) (sg ch tr rc ta : Nat → Int32) : va_W :=
  [(m0, .inr (4, mF th L C mS mC mT mR mA rl bg st mk on tp tl tb)), (mS, .inl (cI, 348480, .inl sg)), (mC, .inl (cI, 13, .inl ch)), (mT, .inl (cI, 256, .inl tr)), (mR, .inl (cI, 200, .inl rc)), (mA, .inl (cI, 8, .inl ta))]
theorem i32_nlt {x y : Int32} (h : ¬ x < y) : ¬ x.toInt < y.toInt := fun z => h (i32_lt.mpr z)
theorem i32_nle {x y : Int32} (h : ¬ x ≤ y) : ¬ x.toInt ≤ y.toInt := fun z => h (i32_le.mpr z)
theorem mx_le {a b : Int32} (h : a ≤ b) : mx a b = b := by
  unfold mx
  by_cases q : a < b
  · rw [if_pos q]
  · rw [if_neg q]
    rw [i32_lt] at q; rw [i32_le] at h
    exact i32_ext (by omega)
theorem mx_nle {a b : Int32} (h : ¬ a ≤ b) : mx a b = a := by
  unfold mx
  rw [if_neg (fun q => h (by rw [i32_lt] at q; rw [i32_le]; omega))]
theorem sub55 (c : Int32) : c - 65 + 10 = c - 55 := by
  rw [Int32.sub_eq_add_neg, Int32.sub_eq_add_neg, Int32.add_assoc]
  rfl
/-- the channel of a code, by cases -/
theorem chOf_cases (c : Int32) : ((49 ≤ c.toInt ∧ c.toInt ≤ 57) ∧ chOf c = c - 48 ∧ (chOf c).toInt = c.toInt - 48) ∨ ((65 ≤ c.toInt ∧ c.toInt ≤ 67) ∧ chOf c = c - 55 ∧ (chOf c).toInt = c.toInt - 55) ∨ ((273 ≤ c.toInt ∧ c.toInt ≤ 284) ∧ chOf c = c - 272 ∧ (chOf c).toInt = c.toInt - 272) ∨ ((¬ (49 ≤ c.toInt ∧ c.toInt ≤ 57) ∧ ¬ (65 ≤ c.toInt ∧ c.toInt ≤ 67) ∧ ¬ (273 ≤ c.toInt ∧ c.toInt ≤ 284)) ∧ chOf c = -1) := by
  have e49 : (49 : Int32).toInt = 49 := rfl
  have e57 : (57 : Int32).toInt = 57 := rfl
  have e65 : (65 : Int32).toInt = 65 := rfl
  have e67 : (67 : Int32).toInt = 67 := rfl
  have e48 : (48 : Int32).toInt = 48 := rfl
  have e55 : (55 : Int32).toInt = 55 := rfl
  have e272 : (272 : Int32).toInt = 272 := rfl
  have hc := i32 c
  have s48 : 49 ≤ c.toInt → (c - 48).toInt = c.toInt - 48 := fun h => by have := i32 (c - 48); rcases i32_sub c 48 with e | e | e <;> rw [e48] at e <;> omega
  have s55 : 49 ≤ c.toInt → (c - 55).toInt = c.toInt - 55 := fun h => by have := i32 (c - 55); rcases i32_sub c 55 with e | e | e <;> rw [e55] at e <;> omega
  have last : (if zb (isCh (c - 272)) = 0 then (-1 : Int32) else c - 272) = if 273 ≤ c.toInt ∧ c.toInt ≤ 284 then c - 272 else -1 := by
    have h9 := i32 (c - 272)
    by_cases q : zb (isCh (c - 272)) = 0
    · rw [if_pos q]
      have q2 := zb0.mp q
      rw [if_neg (fun z => by
        have h1 : isCh (c - 272) = true := isCh_iff.mpr (by rcases i32_sub c 272 with e | e | e <;> rw [e272] at e <;> omega)
        rw [h1] at q2; cases q2)]
    · rw [if_neg q]
      have q2 := isCh_iff.mp (zb1.mp q)
      rw [if_pos (by rcases i32_sub c 272 with e | e | e <;> rw [e272] at e <;> omega)]
  have s272 : 273 ≤ c.toInt → (c - 272).toInt = c.toInt - 272 := fun h => by have := i32 (c - 272); rcases i32_sub c 272 with e | e | e <;> rw [e272] at e <;> omega
  have fin : ¬ (49 ≤ c.toInt ∧ c.toInt ≤ 57) → ¬ (65 ≤ c.toInt ∧ c.toInt ≤ 67) → chOf c = (if zb (isCh (c - 272)) = 0 then (-1 : Int32) else c - 272) → ((273 ≤ c.toInt ∧ c.toInt ≤ 284) ∧ chOf c = c - 272 ∧ (chOf c).toInt = c.toInt - 272) ∨ ((¬ (49 ≤ c.toInt ∧ c.toInt ≤ 57) ∧ ¬ (65 ≤ c.toInt ∧ c.toInt ≤ 67) ∧ ¬ (273 ≤ c.toInt ∧ c.toInt ≤ 284)) ∧ chOf c = -1) := fun h1 h2 h3 => by
    rw [last] at h3
    by_cases q : 273 ≤ c.toInt ∧ c.toInt ≤ 284
    · rw [if_pos q] at h3
      exact Or.inl ⟨q, h3, by rw [h3]; exact s272 q.1⟩
    · rw [if_neg q] at h3
      exact Or.inr ⟨⟨h1, h2, q⟩, h3⟩
  by_cases h1 : c < 49
  · have h1' := i32_lt.mp h1
    have h2 : c < 65 := i32_lt.mpr (by omega)
    exact Or.inr (Or.inr (fin (by omega) (by omega) (by unfold chOf; rw [if_pos h1, if_pos h2])))
  · have h1' := i32_nlt h1
    by_cases h2 : 57 < c
    · have h2' := i32_lt.mp h2
      by_cases h3 : c < 65
      · have h3' := i32_lt.mp h3
        exact Or.inr (Or.inr (fin (by omega) (by omega) (by unfold chOf; rw [if_neg h1, if_pos h2, if_pos h3])))
      · have h3' := i32_nlt h3
        by_cases h4 : 67 < c
        · have h4' := i32_lt.mp h4
          exact Or.inr (Or.inr (fin (by omega) (by omega) (by unfold chOf; rw [if_neg h1, if_pos h2, if_neg h3, if_pos h4])))
        · have h4' := i32_nlt h4
          have e : chOf c = c - 55 := by unfold chOf; rw [if_neg h1, if_pos h2, if_neg h3, if_neg h4, sub55]
          exact Or.inr (Or.inl ⟨by omega, e, by rw [e]; exact s55 (by omega)⟩)
    · have h2' := i32_nlt h2
      have e : chOf c = c - 48 := by unfold chOf; rw [if_neg h1, if_neg h2]
      exact Or.inl ⟨by omega, e, by rw [e]; exact s48 (by omega)⟩
def coN (c : Int32) : Int32 := if zb (isCh (chOf c)) = 0 then 0 else chOf c
theorem coN_of {c v : Int32} (h : isCh (chOf c) = true) (e : chOf c = v) : v = coN c := by
  unfold coN; rw [if_neg (zb1.mpr h), e]
theorem coN_no {c : Int32} (h : chOf c = -1) : 0 = coN c := by
  unfold coN; rw [h]; decide +kernel

set_option maxHeartbeats 1000000 in
set_option maxRecDepth 100000 in
theorem c_X3_darker (l : Launch) (a0 b0 : Int32) : Met l yX3_darker wsX3_darker ({ frames := 0, cells := 0, slots := 0, locals := 0 }) (pu [.int a0, .int b0]) (vp_Si (fun r => r = mx a0 b0)) 0 0 (fun _ => False) := by
  refine Met.ofW (cc := cX3_darker) (maxL := 2) (ret := (some .int)) (by decide) rfl ?_
  intro p e s m args below meth c s₁ B hml hv
  obtain ⟨rfl, -⟩ := hv
  have hx := B.exec
  have hb := B.bytes
  have hr := B.returns
  have hts := atoms_spec (ws := wsX3_darker) B.pre
  have hown : s.vm.findClass RX3 = some m.cls := findClass_of_methodNamed B.named
  have hlocks := B.notSynchronized
  have hl := lv_entry ([.int a0, .int b0]) (n := 2) (Nat.le_of_ble_eq_true rfl)
  rw [lg_entry_eq]
  generalize (lg_sl ([.int a0, .int b0]) ++ List.replicate (2 - (lg_sl ([.int a0, .int b0])).length) Slot.unset).toArray = ls at hl ⊢
  have hl : lv_has ls 2 [(0, .int a0), (1, .int b0)] := hl
  refine lv_iload_n hx hb dX3_darker_0 rfl (lv_at hl 0 rfl) ?_
  refine lv_iload_n hx hb dX3_darker_1 rfl (lv_at hl 1 rfl) ?_
  refine lv_icmp_le (tgt := 9) hx hb dX3_darker_2 (by decide) (fun c_2 => ?_) (fun c_2 => ?_)
  ·
    refine lv_iload_n hx hb dX3_darker_9 rfl (lv_at hl 1 rfl) ?_
    exact W.iret (v := b0) hx hb hr (fun t ht hW => ⟨_, rfl, (mx_le c_2).symm, ht⟩) (fun q h => by cases h) dX3_darker_10
  ·
    refine lv_iload_n hx hb dX3_darker_5 rfl (lv_at hl 0 rfl) ?_
    refine lv_goto (tgt := 10) hx hb dX3_darker_6 (by decide) ?_
    exact W.iret (v := a0) hx hb hr (fun t ht hW => ⟨_, rfl, (mx_nle c_2).symm, ht⟩) (fun q h => by cases h) dX3_darker_10

theorem sg_no {c : Int32} (h : c.toInt ≤ 31 ∨ 256 ≤ c.toInt) : 0 = zb (isSg c) := by
  cases h9 : isSg c with
  | false => rfl
  | true =>
    have h8 := isSg_iff.mp h9
    omega
theorem sg_yes {c : Int32} (h : 31 < c.toInt ∧ c.toInt < 256) : 1 = zb (isSg c) := by
  rw [isSg_iff.mpr (by omega)]; rfl

set_option maxHeartbeats 1000000 in
set_option maxRecDepth 100000 in
theorem c_X3_isSign (l : Launch) (c0 : Int32) : Met l yX3_isSign wsX3_isSign ({ frames := 0, cells := 0, slots := 0, locals := 0 }) (pu [.int c0]) (vp_Si (fun r => r = zb (isSg c0))) 0 0 (fun _ => False) := by
  refine Met.ofW (cc := cX3_isSign) (maxL := 1) (ret := (some .boolean)) (by decide) rfl ?_
  intro p e s m args below meth c s₁ B hml hv
  obtain ⟨rfl, -⟩ := hv
  have hx := B.exec
  have hb := B.bytes
  have hr := B.returns
  have hts := atoms_spec (ws := wsX3_isSign) B.pre
  have hown : s.vm.findClass RX3 = some m.cls := findClass_of_methodNamed B.named
  have hlocks := B.notSynchronized
  have hl := lv_entry ([.int c0]) (n := 1) (Nat.le_of_ble_eq_true rfl)
  rw [lg_entry_eq]
  generalize (lg_sl ([.int c0]) ++ List.replicate (1 - (lg_sl ([.int c0])).length) Slot.unset).toArray = ls at hl ⊢
  have hl : lv_has ls 1 [(0, .int c0)] := hl
  refine lv_iload_n hx hb dX3_isSign_0 rfl (lv_at hl 0 rfl) ?_
  refine lv_bipush (v := 31) hx hb dX3_isSign_1 (by decide +kernel) ?_
  refine lv_icmp_le (tgt := 17) hx hb dX3_isSign_3 (by decide) (fun c_3 => ?_) (fun c_3 => ?_)
  ·
    refine lv_iconst (v := 0) hx hb dX3_isSign_17 (by decide +kernel) ?_
    exact W.zret (v := 0) hx hb hr (by decide +kernel) (fun t ht hW => ⟨_, rfl, sg_no (Or.inl (i32_le.mp c_3)), ht⟩) (fun q h => by cases h) dX3_isSign_18
  ·
    refine lv_iload_n hx hb dX3_isSign_6 rfl (lv_at hl 0 rfl) ?_
    refine lv_sipush (v := 256) hx hb dX3_isSign_7 (by decide +kernel) ?_
    refine lv_icmp_ge (tgt := 17) hx hb dX3_isSign_10 (by decide) (fun c_10 => ?_) (fun c_10 => ?_)
    ·
      refine lv_iconst (v := 0) hx hb dX3_isSign_17 (by decide +kernel) ?_
      exact W.zret (v := 0) hx hb hr (by decide +kernel) (fun t ht hW => ⟨_, rfl, sg_no (Or.inr (i32_le.mp c_10)), ht⟩) (fun q h => by cases h) dX3_isSign_18
    ·
      refine lv_iconst (v := 1) hx hb dX3_isSign_13 (by decide +kernel) ?_
      refine lv_goto (tgt := 18) hx hb dX3_isSign_14 (by decide) ?_
      exact W.zret (v := 1) hx hb hr (by decide +kernel) (fun t ht hW => ⟨_, rfl, sg_yes ⟨Int.lt_of_not_ge (fun h9 => c_3 (i32_le.mpr h9)), Int.lt_of_not_ge (fun h9 => c_10 (i32_le.mpr h9))⟩, ht⟩) (fun q h => by cases h) dX3_isSign_18

set_option maxHeartbeats 1000000 in
set_option maxRecDepth 100000 in
theorem c_X3_channelOf (l : Launch) (c0 : Int32) : Met l yX3_channelOf wsX3_channelOf ({ frames := 0, cells := 0, slots := 0, locals := 0 }) (pu [.int c0]) (vp_Si (fun r => r = coN c0)) 0 0 (fun _ => False) := by
  refine Met.ofW (cc := cX3_channelOf) (maxL := 1) (ret := (some .int)) (by decide) rfl ?_
  intro p e s m args below meth c s₁ B hml hv
  obtain ⟨rfl, -⟩ := hv
  have hx := B.exec
  have hb := B.bytes
  have hr := B.returns
  have hts := atoms_spec (ws := wsX3_channelOf) B.pre
  have hown : s.vm.findClass RX3 = some m.cls := findClass_of_methodNamed B.named
  have hlocks := B.notSynchronized
  have hl := lv_entry ([.int c0]) (n := 1) (Nat.le_of_ble_eq_true rfl)
  rw [lg_entry_eq]
  generalize (lg_sl ([.int c0]) ++ List.replicate (1 - (lg_sl ([.int c0])).length) Slot.unset).toArray = ls at hl ⊢
  have hl : lv_has ls 1 [(0, .int c0)] := hl
  refine lv_iload_n hx hb dX3_channelOf_0 rfl (lv_at hl 0 rfl) ?_
  refine lv_bipush (v := 49) hx hb dX3_channelOf_1 (by decide +kernel) ?_
  refine lv_icmp_lt (tgt := 19) hx hb dX3_channelOf_3 (by decide) (fun c_3 => ?_) (fun c_3 => ?_)
  ·
    refine lv_iload_n hx hb dX3_channelOf_19 rfl (lv_at hl 0 rfl) ?_
    refine lv_bipush (v := 65) hx hb dX3_channelOf_20 (by decide +kernel) ?_
    refine lv_icmp_lt (tgt := 38) hx hb dX3_channelOf_22 (by decide) (fun c_22 => ?_) (fun c_22 => ?_)
    ·
      refine lv_iload_n hx hb dX3_channelOf_38 rfl (lv_at hl 0 rfl) ?_
      refine lv_sipush (v := 273) hx hb dX3_channelOf_39 (by decide +kernel) ?_
      refine lv_icmp_lt (tgt := 60) hx hb dX3_channelOf_42 (by decide) (fun c_42 => ?_) (fun c_42 => ?_)
      ·
        refine lv_iconst (v := 0) hx hb dX3_channelOf_60 (by decide +kernel) ?_
        have f_3 := i32_lt.mp c_3
        have f_22 := i32_lt.mp c_22
        have f_42 := i32_lt.mp c_42
        have e49 : (49 : Int32).toInt = 49 := rfl
        have e57 : (57 : Int32).toInt = 57 := rfl
        have e65 : (65 : Int32).toInt = 65 := rfl
        have e67 : (67 : Int32).toInt = 67 := rfl
        have e273 : (273 : Int32).toInt = 273 := rfl
        have e284 : (284 : Int32).toInt = 284 := rfl
        have hq : 0 = coN c0 := by
          rcases chOf_cases c0 with ⟨h1, h2, h3⟩ | ⟨h1, h2, h3⟩ | ⟨h1, h2, h3⟩ | ⟨h1, h2⟩
          · first | exact coN_of (isCh_iff.mpr (by omega)) h2 | (exfalso; omega)
          · first | exact coN_of (isCh_iff.mpr (by omega)) h2 | (exfalso; omega)
          · first | exact coN_of (isCh_iff.mpr (by omega)) h2 | (exfalso; omega)
          · first | exact coN_no h2 | (exfalso; omega)
        exact W.iret (v := 0) hx hb hr (fun t ht hW => ⟨_, rfl, hq, ht⟩) (fun q h => by cases h) dX3_channelOf_61
      ·
        refine lv_iload_n hx hb dX3_channelOf_45 rfl (lv_at hl 0 rfl) ?_
        refine lv_sipush (v := 284) hx hb dX3_channelOf_46 (by decide +kernel) ?_
        refine lv_icmp_gt (tgt := 60) hx hb dX3_channelOf_49 (by decide) (fun c_49 => ?_) (fun c_49 => ?_)
        ·
          refine lv_iconst (v := 0) hx hb dX3_channelOf_60 (by decide +kernel) ?_
          have f_3 := i32_lt.mp c_3
          have f_22 := i32_lt.mp c_22
          have f_42 := i32_nlt c_42
          have f_49 := i32_lt.mp c_49
          have e49 : (49 : Int32).toInt = 49 := rfl
          have e57 : (57 : Int32).toInt = 57 := rfl
          have e65 : (65 : Int32).toInt = 65 := rfl
          have e67 : (67 : Int32).toInt = 67 := rfl
          have e273 : (273 : Int32).toInt = 273 := rfl
          have e284 : (284 : Int32).toInt = 284 := rfl
          have hq : 0 = coN c0 := by
            rcases chOf_cases c0 with ⟨h1, h2, h3⟩ | ⟨h1, h2, h3⟩ | ⟨h1, h2, h3⟩ | ⟨h1, h2⟩
            · first | exact coN_of (isCh_iff.mpr (by omega)) h2 | (exfalso; omega)
            · first | exact coN_of (isCh_iff.mpr (by omega)) h2 | (exfalso; omega)
            · first | exact coN_of (isCh_iff.mpr (by omega)) h2 | (exfalso; omega)
            · first | exact coN_no h2 | (exfalso; omega)
          exact W.iret (v := 0) hx hb hr (fun t ht hW => ⟨_, rfl, hq, ht⟩) (fun q h => by cases h) dX3_channelOf_61
        ·
          refine lv_iload_n hx hb dX3_channelOf_52 rfl (lv_at hl 0 rfl) ?_
          refine lv_sipush (v := 272) hx hb dX3_channelOf_53 (by decide +kernel) ?_
          refine lv_isub hx hb dX3_channelOf_56 ?_
          refine lv_goto (tgt := 61) hx hb dX3_channelOf_57 (by decide) ?_
          have f_3 := i32_lt.mp c_3
          have f_22 := i32_lt.mp c_22
          have f_42 := i32_nlt c_42
          have f_49 := i32_nlt c_49
          have e49 : (49 : Int32).toInt = 49 := rfl
          have e57 : (57 : Int32).toInt = 57 := rfl
          have e65 : (65 : Int32).toInt = 65 := rfl
          have e67 : (67 : Int32).toInt = 67 := rfl
          have e273 : (273 : Int32).toInt = 273 := rfl
          have e284 : (284 : Int32).toInt = 284 := rfl
          have hq : (c0 - 272) = coN c0 := by
            rcases chOf_cases c0 with ⟨h1, h2, h3⟩ | ⟨h1, h2, h3⟩ | ⟨h1, h2, h3⟩ | ⟨h1, h2⟩
            · first | exact coN_of (isCh_iff.mpr (by omega)) h2 | (exfalso; omega)
            · first | exact coN_of (isCh_iff.mpr (by omega)) h2 | (exfalso; omega)
            · first | exact coN_of (isCh_iff.mpr (by omega)) h2 | (exfalso; omega)
            · first | exact coN_no h2 | (exfalso; omega)
          exact W.iret (v := (c0 - 272)) hx hb hr (fun t ht hW => ⟨_, rfl, hq, ht⟩) (fun q h => by cases h) dX3_channelOf_61
    ·
      refine lv_iload_n hx hb dX3_channelOf_25 rfl (lv_at hl 0 rfl) ?_
      refine lv_bipush (v := 67) hx hb dX3_channelOf_26 (by decide +kernel) ?_
      refine lv_icmp_gt (tgt := 38) hx hb dX3_channelOf_28 (by decide) (fun c_28 => ?_) (fun c_28 => ?_)
      ·
        refine lv_iload_n hx hb dX3_channelOf_38 rfl (lv_at hl 0 rfl) ?_
        refine lv_sipush (v := 273) hx hb dX3_channelOf_39 (by decide +kernel) ?_
        refine lv_icmp_lt (tgt := 60) hx hb dX3_channelOf_42 (by decide) (fun c_42 => ?_) (fun c_42 => ?_)
        ·
          refine lv_iconst (v := 0) hx hb dX3_channelOf_60 (by decide +kernel) ?_
          have f_3 := i32_lt.mp c_3
          have f_22 := i32_nlt c_22
          have f_28 := i32_lt.mp c_28
          have f_42 := i32_lt.mp c_42
          have e49 : (49 : Int32).toInt = 49 := rfl
          have e57 : (57 : Int32).toInt = 57 := rfl
          have e65 : (65 : Int32).toInt = 65 := rfl
          have e67 : (67 : Int32).toInt = 67 := rfl
          have e273 : (273 : Int32).toInt = 273 := rfl
          have e284 : (284 : Int32).toInt = 284 := rfl
          have hq : 0 = coN c0 := by
            rcases chOf_cases c0 with ⟨h1, h2, h3⟩ | ⟨h1, h2, h3⟩ | ⟨h1, h2, h3⟩ | ⟨h1, h2⟩
            · first | exact coN_of (isCh_iff.mpr (by omega)) h2 | (exfalso; omega)
            · first | exact coN_of (isCh_iff.mpr (by omega)) h2 | (exfalso; omega)
            · first | exact coN_of (isCh_iff.mpr (by omega)) h2 | (exfalso; omega)
            · first | exact coN_no h2 | (exfalso; omega)
          exact W.iret (v := 0) hx hb hr (fun t ht hW => ⟨_, rfl, hq, ht⟩) (fun q h => by cases h) dX3_channelOf_61
        ·
          refine lv_iload_n hx hb dX3_channelOf_45 rfl (lv_at hl 0 rfl) ?_
          refine lv_sipush (v := 284) hx hb dX3_channelOf_46 (by decide +kernel) ?_
          refine lv_icmp_gt (tgt := 60) hx hb dX3_channelOf_49 (by decide) (fun c_49 => ?_) (fun c_49 => ?_)
          ·
            refine lv_iconst (v := 0) hx hb dX3_channelOf_60 (by decide +kernel) ?_
            have f_3 := i32_lt.mp c_3
            have f_22 := i32_nlt c_22
            have f_28 := i32_lt.mp c_28
            have f_42 := i32_nlt c_42
            have f_49 := i32_lt.mp c_49
            have e49 : (49 : Int32).toInt = 49 := rfl
            have e57 : (57 : Int32).toInt = 57 := rfl
            have e65 : (65 : Int32).toInt = 65 := rfl
            have e67 : (67 : Int32).toInt = 67 := rfl
            have e273 : (273 : Int32).toInt = 273 := rfl
            have e284 : (284 : Int32).toInt = 284 := rfl
            have hq : 0 = coN c0 := by
              rcases chOf_cases c0 with ⟨h1, h2, h3⟩ | ⟨h1, h2, h3⟩ | ⟨h1, h2, h3⟩ | ⟨h1, h2⟩
              · first | exact coN_of (isCh_iff.mpr (by omega)) h2 | (exfalso; omega)
              · first | exact coN_of (isCh_iff.mpr (by omega)) h2 | (exfalso; omega)
              · first | exact coN_of (isCh_iff.mpr (by omega)) h2 | (exfalso; omega)
              · first | exact coN_no h2 | (exfalso; omega)
            exact W.iret (v := 0) hx hb hr (fun t ht hW => ⟨_, rfl, hq, ht⟩) (fun q h => by cases h) dX3_channelOf_61
          ·
            refine lv_iload_n hx hb dX3_channelOf_52 rfl (lv_at hl 0 rfl) ?_
            refine lv_sipush (v := 272) hx hb dX3_channelOf_53 (by decide +kernel) ?_
            refine lv_isub hx hb dX3_channelOf_56 ?_
            refine lv_goto (tgt := 61) hx hb dX3_channelOf_57 (by decide) ?_
            have f_3 := i32_lt.mp c_3
            have f_22 := i32_nlt c_22
            have f_28 := i32_lt.mp c_28
            have f_42 := i32_nlt c_42
            have f_49 := i32_nlt c_49
            have e49 : (49 : Int32).toInt = 49 := rfl
            have e57 : (57 : Int32).toInt = 57 := rfl
            have e65 : (65 : Int32).toInt = 65 := rfl
            have e67 : (67 : Int32).toInt = 67 := rfl
            have e273 : (273 : Int32).toInt = 273 := rfl
            have e284 : (284 : Int32).toInt = 284 := rfl
            have hq : (c0 - 272) = coN c0 := by
              rcases chOf_cases c0 with ⟨h1, h2, h3⟩ | ⟨h1, h2, h3⟩ | ⟨h1, h2, h3⟩ | ⟨h1, h2⟩
              · first | exact coN_of (isCh_iff.mpr (by omega)) h2 | (exfalso; omega)
              · first | exact coN_of (isCh_iff.mpr (by omega)) h2 | (exfalso; omega)
              · first | exact coN_of (isCh_iff.mpr (by omega)) h2 | (exfalso; omega)
              · first | exact coN_no h2 | (exfalso; omega)
            exact W.iret (v := (c0 - 272)) hx hb hr (fun t ht hW => ⟨_, rfl, hq, ht⟩) (fun q h => by cases h) dX3_channelOf_61
      ·
        refine lv_iload_n hx hb dX3_channelOf_31 rfl (lv_at hl 0 rfl) ?_
        refine lv_bipush (v := 55) hx hb dX3_channelOf_32 (by decide +kernel) ?_
        refine lv_isub hx hb dX3_channelOf_34 ?_
        refine lv_goto (tgt := 61) hx hb dX3_channelOf_35 (by decide) ?_
        have f_3 := i32_lt.mp c_3
        have f_22 := i32_nlt c_22
        have f_28 := i32_nlt c_28
        have e49 : (49 : Int32).toInt = 49 := rfl
        have e57 : (57 : Int32).toInt = 57 := rfl
        have e65 : (65 : Int32).toInt = 65 := rfl
        have e67 : (67 : Int32).toInt = 67 := rfl
        have e273 : (273 : Int32).toInt = 273 := rfl
        have e284 : (284 : Int32).toInt = 284 := rfl
        have hq : (c0 - 55) = coN c0 := by
          rcases chOf_cases c0 with ⟨h1, h2, h3⟩ | ⟨h1, h2, h3⟩ | ⟨h1, h2, h3⟩ | ⟨h1, h2⟩
          · first | exact coN_of (isCh_iff.mpr (by omega)) h2 | (exfalso; omega)
          · first | exact coN_of (isCh_iff.mpr (by omega)) h2 | (exfalso; omega)
          · first | exact coN_of (isCh_iff.mpr (by omega)) h2 | (exfalso; omega)
          · first | exact coN_no h2 | (exfalso; omega)
        exact W.iret (v := (c0 - 55)) hx hb hr (fun t ht hW => ⟨_, rfl, hq, ht⟩) (fun q h => by cases h) dX3_channelOf_61
  ·
    refine lv_iload_n hx hb dX3_channelOf_6 rfl (lv_at hl 0 rfl) ?_
    refine lv_bipush (v := 57) hx hb dX3_channelOf_7 (by decide +kernel) ?_
    refine lv_icmp_gt (tgt := 19) hx hb dX3_channelOf_9 (by decide) (fun c_9 => ?_) (fun c_9 => ?_)
    ·
      refine lv_iload_n hx hb dX3_channelOf_19 rfl (lv_at hl 0 rfl) ?_
      refine lv_bipush (v := 65) hx hb dX3_channelOf_20 (by decide +kernel) ?_
      refine lv_icmp_lt (tgt := 38) hx hb dX3_channelOf_22 (by decide) (fun c_22 => ?_) (fun c_22 => ?_)
      ·
        refine lv_iload_n hx hb dX3_channelOf_38 rfl (lv_at hl 0 rfl) ?_
        refine lv_sipush (v := 273) hx hb dX3_channelOf_39 (by decide +kernel) ?_
        refine lv_icmp_lt (tgt := 60) hx hb dX3_channelOf_42 (by decide) (fun c_42 => ?_) (fun c_42 => ?_)
        ·
          refine lv_iconst (v := 0) hx hb dX3_channelOf_60 (by decide +kernel) ?_
          have f_3 := i32_nlt c_3
          have f_9 := i32_lt.mp c_9
          have f_22 := i32_lt.mp c_22
          have f_42 := i32_lt.mp c_42
          have e49 : (49 : Int32).toInt = 49 := rfl
          have e57 : (57 : Int32).toInt = 57 := rfl
          have e65 : (65 : Int32).toInt = 65 := rfl
          have e67 : (67 : Int32).toInt = 67 := rfl
          have e273 : (273 : Int32).toInt = 273 := rfl
          have e284 : (284 : Int32).toInt = 284 := rfl
          have hq : 0 = coN c0 := by
            rcases chOf_cases c0 with ⟨h1, h2, h3⟩ | ⟨h1, h2, h3⟩ | ⟨h1, h2, h3⟩ | ⟨h1, h2⟩
            · first | exact coN_of (isCh_iff.mpr (by omega)) h2 | (exfalso; omega)
            · first | exact coN_of (isCh_iff.mpr (by omega)) h2 | (exfalso; omega)
            · first | exact coN_of (isCh_iff.mpr (by omega)) h2 | (exfalso; omega)
            · first | exact coN_no h2 | (exfalso; omega)
          exact W.iret (v := 0) hx hb hr (fun t ht hW => ⟨_, rfl, hq, ht⟩) (fun q h => by cases h) dX3_channelOf_61
        ·
          refine lv_iload_n hx hb dX3_channelOf_45 rfl (lv_at hl 0 rfl) ?_
          refine lv_sipush (v := 284) hx hb dX3_channelOf_46 (by decide +kernel) ?_
          refine lv_icmp_gt (tgt := 60) hx hb dX3_channelOf_49 (by decide) (fun c_49 => ?_) (fun c_49 => ?_)
          ·
            refine lv_iconst (v := 0) hx hb dX3_channelOf_60 (by decide +kernel) ?_
            have f_3 := i32_nlt c_3
            have f_9 := i32_lt.mp c_9
            have f_22 := i32_lt.mp c_22
            have f_42 := i32_nlt c_42
            have f_49 := i32_lt.mp c_49
            have e49 : (49 : Int32).toInt = 49 := rfl
            have e57 : (57 : Int32).toInt = 57 := rfl
            have e65 : (65 : Int32).toInt = 65 := rfl
            have e67 : (67 : Int32).toInt = 67 := rfl
            have e273 : (273 : Int32).toInt = 273 := rfl
            have e284 : (284 : Int32).toInt = 284 := rfl
            have hq : 0 = coN c0 := by
              rcases chOf_cases c0 with ⟨h1, h2, h3⟩ | ⟨h1, h2, h3⟩ | ⟨h1, h2, h3⟩ | ⟨h1, h2⟩
              · first | exact coN_of (isCh_iff.mpr (by omega)) h2 | (exfalso; omega)
              · first | exact coN_of (isCh_iff.mpr (by omega)) h2 | (exfalso; omega)
              · first | exact coN_of (isCh_iff.mpr (by omega)) h2 | (exfalso; omega)
              · first | exact coN_no h2 | (exfalso; omega)
            exact W.iret (v := 0) hx hb hr (fun t ht hW => ⟨_, rfl, hq, ht⟩) (fun q h => by cases h) dX3_channelOf_61
          ·
            refine lv_iload_n hx hb dX3_channelOf_52 rfl (lv_at hl 0 rfl) ?_
            refine lv_sipush (v := 272) hx hb dX3_channelOf_53 (by decide +kernel) ?_
            refine lv_isub hx hb dX3_channelOf_56 ?_
            refine lv_goto (tgt := 61) hx hb dX3_channelOf_57 (by decide) ?_
            have f_3 := i32_nlt c_3
            have f_9 := i32_lt.mp c_9
            have f_22 := i32_lt.mp c_22
            have f_42 := i32_nlt c_42
            have f_49 := i32_nlt c_49
            have e49 : (49 : Int32).toInt = 49 := rfl
            have e57 : (57 : Int32).toInt = 57 := rfl
            have e65 : (65 : Int32).toInt = 65 := rfl
            have e67 : (67 : Int32).toInt = 67 := rfl
            have e273 : (273 : Int32).toInt = 273 := rfl
            have e284 : (284 : Int32).toInt = 284 := rfl
            have hq : (c0 - 272) = coN c0 := by
              rcases chOf_cases c0 with ⟨h1, h2, h3⟩ | ⟨h1, h2, h3⟩ | ⟨h1, h2, h3⟩ | ⟨h1, h2⟩
              · first | exact coN_of (isCh_iff.mpr (by omega)) h2 | (exfalso; omega)
              · first | exact coN_of (isCh_iff.mpr (by omega)) h2 | (exfalso; omega)
              · first | exact coN_of (isCh_iff.mpr (by omega)) h2 | (exfalso; omega)
              · first | exact coN_no h2 | (exfalso; omega)
            exact W.iret (v := (c0 - 272)) hx hb hr (fun t ht hW => ⟨_, rfl, hq, ht⟩) (fun q h => by cases h) dX3_channelOf_61
      ·
        refine lv_iload_n hx hb dX3_channelOf_25 rfl (lv_at hl 0 rfl) ?_
        refine lv_bipush (v := 67) hx hb dX3_channelOf_26 (by decide +kernel) ?_
        refine lv_icmp_gt (tgt := 38) hx hb dX3_channelOf_28 (by decide) (fun c_28 => ?_) (fun c_28 => ?_)
        ·
          refine lv_iload_n hx hb dX3_channelOf_38 rfl (lv_at hl 0 rfl) ?_
          refine lv_sipush (v := 273) hx hb dX3_channelOf_39 (by decide +kernel) ?_
          refine lv_icmp_lt (tgt := 60) hx hb dX3_channelOf_42 (by decide) (fun c_42 => ?_) (fun c_42 => ?_)
          ·
            refine lv_iconst (v := 0) hx hb dX3_channelOf_60 (by decide +kernel) ?_
            have f_3 := i32_nlt c_3
            have f_9 := i32_lt.mp c_9
            have f_22 := i32_nlt c_22
            have f_28 := i32_lt.mp c_28
            have f_42 := i32_lt.mp c_42
            have e49 : (49 : Int32).toInt = 49 := rfl
            have e57 : (57 : Int32).toInt = 57 := rfl
            have e65 : (65 : Int32).toInt = 65 := rfl
            have e67 : (67 : Int32).toInt = 67 := rfl
            have e273 : (273 : Int32).toInt = 273 := rfl
            have e284 : (284 : Int32).toInt = 284 := rfl
            have hq : 0 = coN c0 := by
              rcases chOf_cases c0 with ⟨h1, h2, h3⟩ | ⟨h1, h2, h3⟩ | ⟨h1, h2, h3⟩ | ⟨h1, h2⟩
              · first | exact coN_of (isCh_iff.mpr (by omega)) h2 | (exfalso; omega)
              · first | exact coN_of (isCh_iff.mpr (by omega)) h2 | (exfalso; omega)
              · first | exact coN_of (isCh_iff.mpr (by omega)) h2 | (exfalso; omega)
              · first | exact coN_no h2 | (exfalso; omega)
            exact W.iret (v := 0) hx hb hr (fun t ht hW => ⟨_, rfl, hq, ht⟩) (fun q h => by cases h) dX3_channelOf_61
          ·
            refine lv_iload_n hx hb dX3_channelOf_45 rfl (lv_at hl 0 rfl) ?_
            refine lv_sipush (v := 284) hx hb dX3_channelOf_46 (by decide +kernel) ?_
            refine lv_icmp_gt (tgt := 60) hx hb dX3_channelOf_49 (by decide) (fun c_49 => ?_) (fun c_49 => ?_)
            ·
              refine lv_iconst (v := 0) hx hb dX3_channelOf_60 (by decide +kernel) ?_
              have f_3 := i32_nlt c_3
              have f_9 := i32_lt.mp c_9
              have f_22 := i32_nlt c_22
              have f_28 := i32_lt.mp c_28
              have f_42 := i32_nlt c_42
              have f_49 := i32_lt.mp c_49
              have e49 : (49 : Int32).toInt = 49 := rfl
              have e57 : (57 : Int32).toInt = 57 := rfl
              have e65 : (65 : Int32).toInt = 65 := rfl
              have e67 : (67 : Int32).toInt = 67 := rfl
              have e273 : (273 : Int32).toInt = 273 := rfl
              have e284 : (284 : Int32).toInt = 284 := rfl
              have hq : 0 = coN c0 := by
                rcases chOf_cases c0 with ⟨h1, h2, h3⟩ | ⟨h1, h2, h3⟩ | ⟨h1, h2, h3⟩ | ⟨h1, h2⟩
                · first | exact coN_of (isCh_iff.mpr (by omega)) h2 | (exfalso; omega)
                · first | exact coN_of (isCh_iff.mpr (by omega)) h2 | (exfalso; omega)
                · first | exact coN_of (isCh_iff.mpr (by omega)) h2 | (exfalso; omega)
                · first | exact coN_no h2 | (exfalso; omega)
              exact W.iret (v := 0) hx hb hr (fun t ht hW => ⟨_, rfl, hq, ht⟩) (fun q h => by cases h) dX3_channelOf_61
            ·
              refine lv_iload_n hx hb dX3_channelOf_52 rfl (lv_at hl 0 rfl) ?_
              refine lv_sipush (v := 272) hx hb dX3_channelOf_53 (by decide +kernel) ?_
              refine lv_isub hx hb dX3_channelOf_56 ?_
              refine lv_goto (tgt := 61) hx hb dX3_channelOf_57 (by decide) ?_
              have f_3 := i32_nlt c_3
              have f_9 := i32_lt.mp c_9
              have f_22 := i32_nlt c_22
              have f_28 := i32_lt.mp c_28
              have f_42 := i32_nlt c_42
              have f_49 := i32_nlt c_49
              have e49 : (49 : Int32).toInt = 49 := rfl
              have e57 : (57 : Int32).toInt = 57 := rfl
              have e65 : (65 : Int32).toInt = 65 := rfl
              have e67 : (67 : Int32).toInt = 67 := rfl
              have e273 : (273 : Int32).toInt = 273 := rfl
              have e284 : (284 : Int32).toInt = 284 := rfl
              have hq : (c0 - 272) = coN c0 := by
                rcases chOf_cases c0 with ⟨h1, h2, h3⟩ | ⟨h1, h2, h3⟩ | ⟨h1, h2, h3⟩ | ⟨h1, h2⟩
                · first | exact coN_of (isCh_iff.mpr (by omega)) h2 | (exfalso; omega)
                · first | exact coN_of (isCh_iff.mpr (by omega)) h2 | (exfalso; omega)
                · first | exact coN_of (isCh_iff.mpr (by omega)) h2 | (exfalso; omega)
                · first | exact coN_no h2 | (exfalso; omega)
              exact W.iret (v := (c0 - 272)) hx hb hr (fun t ht hW => ⟨_, rfl, hq, ht⟩) (fun q h => by cases h) dX3_channelOf_61
        ·
          refine lv_iload_n hx hb dX3_channelOf_31 rfl (lv_at hl 0 rfl) ?_
          refine lv_bipush (v := 55) hx hb dX3_channelOf_32 (by decide +kernel) ?_
          refine lv_isub hx hb dX3_channelOf_34 ?_
          refine lv_goto (tgt := 61) hx hb dX3_channelOf_35 (by decide) ?_
          have f_3 := i32_nlt c_3
          have f_9 := i32_lt.mp c_9
          have f_22 := i32_nlt c_22
          have f_28 := i32_nlt c_28
          have e49 : (49 : Int32).toInt = 49 := rfl
          have e57 : (57 : Int32).toInt = 57 := rfl
          have e65 : (65 : Int32).toInt = 65 := rfl
          have e67 : (67 : Int32).toInt = 67 := rfl
          have e273 : (273 : Int32).toInt = 273 := rfl
          have e284 : (284 : Int32).toInt = 284 := rfl
          have hq : (c0 - 55) = coN c0 := by
            rcases chOf_cases c0 with ⟨h1, h2, h3⟩ | ⟨h1, h2, h3⟩ | ⟨h1, h2, h3⟩ | ⟨h1, h2⟩
            · first | exact coN_of (isCh_iff.mpr (by omega)) h2 | (exfalso; omega)
            · first | exact coN_of (isCh_iff.mpr (by omega)) h2 | (exfalso; omega)
            · first | exact coN_of (isCh_iff.mpr (by omega)) h2 | (exfalso; omega)
            · first | exact coN_no h2 | (exfalso; omega)
          exact W.iret (v := (c0 - 55)) hx hb hr (fun t ht hW => ⟨_, rfl, hq, ht⟩) (fun q h => by cases h) dX3_channelOf_61
    ·
      refine lv_iload_n hx hb dX3_channelOf_12 rfl (lv_at hl 0 rfl) ?_
      refine lv_bipush (v := 48) hx hb dX3_channelOf_13 (by decide +kernel) ?_
      refine lv_isub hx hb dX3_channelOf_15 ?_
      refine lv_goto (tgt := 61) hx hb dX3_channelOf_16 (by decide) ?_
      have f_3 := i32_nlt c_3
      have f_9 := i32_nlt c_9
      have e49 : (49 : Int32).toInt = 49 := rfl
      have e57 : (57 : Int32).toInt = 57 := rfl
      have e65 : (65 : Int32).toInt = 65 := rfl
      have e67 : (67 : Int32).toInt = 67 := rfl
      have e273 : (273 : Int32).toInt = 273 := rfl
      have e284 : (284 : Int32).toInt = 284 := rfl
      have hq : (c0 - 48) = coN c0 := by
        rcases chOf_cases c0 with ⟨h1, h2, h3⟩ | ⟨h1, h2, h3⟩ | ⟨h1, h2, h3⟩ | ⟨h1, h2⟩
        · first | exact coN_of (isCh_iff.mpr (by omega)) h2 | (exfalso; omega)
        · first | exact coN_of (isCh_iff.mpr (by omega)) h2 | (exfalso; omega)
        · first | exact coN_of (isCh_iff.mpr (by omega)) h2 | (exfalso; omega)
        · first | exact coN_no h2 | (exfalso; omega)
      exact W.iret (v := (c0 - 48)) hx hb hr (fun t ht hW => ⟨_, rfl, hq, ht⟩) (fun q h => by cases h) dX3_channelOf_61
