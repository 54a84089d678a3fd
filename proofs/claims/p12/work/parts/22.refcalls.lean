/-! the reference's methods -/
def taP (ta : Nat → Int32) (x y : Int32) : Nat → Int32 := fun j => if j = 3 then x else if j = 4 then y else ta j
theorem taP_4 {ta : Nat → Int32} {x y z : Int32} : upd (taP ta x y) 4 z = taP ta x z := by
  funext j
  unfold upd taP
  by_cases e : j = 4
  · rw [if_pos e, if_neg (by omega), if_pos e]
  · rw [if_neg e, if_neg e]
    by_cases e3 : j = 3
    · rw [if_pos e3, if_pos e3]
    · rw [if_neg e3, if_neg e3, if_neg e]
theorem taP_3 {ta : Nat → Int32} {x y z : Int32} : upd (taP ta x y) 3 z = taP ta z y := by
  funext j
  unfold upd taP
  by_cases e : j = 3
  · rw [if_pos e, if_pos e]
  · rw [if_neg e, if_neg e, if_neg e]
theorem taP_0 {ta : Nat → Int32} : taP ta (ta 3 + 0) (ta 4 + 0) = ta := by
  funext j
  unfold taP
  rw [Int32.add_zero, Int32.add_zero]
  by_cases e : j = 3
  · rw [if_pos e, e]
  · rw [if_neg e]
    by_cases e4 : j = 4
    · rw [if_pos e4, e4]
    · rw [if_neg e4]
theorem cC_cut {C k : Nat} {z : Int32} (h : C ≤ k) : z + cC C k + 1 = z + cC C (k + 1) := by
  show _ = z + (cC C k + _)
  rw [if_pos h, Int32.add_assoc]
theorem cC_in {C k : Nat} (h : k < C) : cC C (k + 1) = cC C k := by
  show cC C k + _ = _
  rw [if_neg (by omega), Int32.add_zero]
theorem cS_cut {tr rc : Nat → Int32} {C k : Nat} (h : C ≤ k) : cS tr rc C (k + 1) = cS tr rc C k := by
  show cS tr rc C k + _ = _
  rw [if_pos h, Int32.add_zero]
theorem cS_no {tr rc : Nat → Int32} {C k : Nat} {z : Int32} (h : k < C) (hv : tr (rc k).toNatClampNeg = 32) : z + cS tr rc C k + 0 = z + cS tr rc C (k + 1) := by
  show _ = z + (cS tr rc C k + _)
  rw [if_neg (by omega), if_pos hv, Int32.add_zero, Int32.add_zero]
theorem cS_yes {tr rc : Nat → Int32} {C k : Nat} {z : Int32} (h : k < C) (hv : ¬ tr (rc k).toNatClampNeg = 32) : z + cS tr rc C k + 1 = z + cS tr rc C (k + 1) := by
  show _ = z + (cS tr rc C k + _)
  rw [if_neg (by omega), if_neg hv, Int32.add_assoc]
theorem and255 (c : Int32) : (c &&& 255).toInt = c.toInt % 256 := by
  have h1 := pk_and c (m := 255) 8 (by decide +kernel)
  rw [h1, nI_toInt (Nat.lt_of_lt_of_le (Nat.mod_lt _ (by decide)) (by decide))]
  have h2 : c.toInt = c.toBitVec.toInt := rfl
  rw [h2, BitVec.toInt_eq_toNat_cond]
  have h3 := c.toBitVec.isLt
  split <;> omega
theorem xor256 (c : Int32) : 0 ≤ c ^^^ 256 ↔ 0 ≤ c.toInt := by
  rw [i32_le]
  have h0 : (0 : Int32).toInt = 0 := rfl
  rw [h0]
  have h1 : (c ^^^ 256).toInt = (c.toBitVec ^^^ (256 : Int32).toBitVec).toInt := by rw [← Int32.toBitVec_xor]; rfl
  have h2 : c.toInt = c.toBitVec.toInt := rfl
  have h3 := BitVec.msb_eq_toInt (x := c.toBitVec ^^^ (256 : Int32).toBitVec)
  have h4 := BitVec.msb_eq_toInt (x := c.toBitVec)
  have h5 : (256 : Int32).toBitVec.msb = false := by decide +kernel
  rw [BitVec.msb_xor, h5, Bool.xor_false, h4] at h3
  rw [h1, h2]
  have h6 := decide_eq_decide.mp h3
  omega
theorem rem256 (c : Int32) (h : c.toInt < 0) : (c - c / 256 * 256).toInt = -((-c.toInt) % 256) := by
  have hc := i32 c
  have e256 : (256 : Int32).toInt = 256 := rfl
  have hd : (c / 256).toInt = -((-c.toInt) / 256) := by
    rw [Int32.toInt_div, e256]
    have h1 : c.toInt.tdiv 256 = -((-c.toInt) / 256) := by
      have h2 : c.toInt = -(-c.toInt) := by omega
      rw [h2, Int.neg_tdiv, Int.tdiv_eq_ediv_of_nonneg (by omega), Int.neg_neg]
    rw [h1]
    simp only [Int.bmod]
    omega
  have hm : (c / 256 * 256).toInt = -((-c.toInt) / 256) * 256 := by
    rw [Int32.toInt_mul, e256, hd]
    simp only [Int.bmod]
    omega
  have h9 := i32 (c - c / 256 * 256)
  rcases i32_sub c (c / 256 * 256) with e | e | e <;> rw [hm] at e <;> omega
theorem fMod_256 (c : Int32) : fMod c 256 = c &&& 255 := by
  apply i32_ext
  rw [and255]
  have hc := i32 c
  have e256 : (256 : Int32).toInt = 256 := rfl
  unfold fMod
  by_cases q : 0 ≤ c ^^^ 256
  · rw [if_pos q]
    have q2 := (xor256 c).mp q
    obtain ⟨a, ha, rfl⟩ := nI_of (x := c) (fun z => by have := i32_lt.mp z; have : (0 : Int32).toInt = 0 := rfl; omega)
    have h1 := pk_rem (a := a) (d := 256) ha (by decide) (by decide)
    rw [show (256 : Int32) = nI 256 from rfl, h1, nI_toInt (by omega), nI_toInt ha]
    omega
  · rw [if_neg q]
    have q2 : c.toInt < 0 := Int.lt_of_not_ge (fun z => q ((xor256 c).mpr z))
    have hr := rem256 c q2
    by_cases q3 : c - c / 256 * 256 = 0
    · rw [if_pos q3]
      have h0 : (0 : Int32).toInt = 0 := rfl
      rw [q3, h0] at hr
      rw [q3, h0]
      omega
    · rw [if_neg q3]
      have h3 : ¬ (c - c / 256 * 256).toInt = 0 := fun z => q3 (i32_ext z)
      have h9 := i32 (c - c / 256 * 256 + 256)
      rcases i32_add (c - c / 256 * 256) 256 with e | e | e <;> rw [hr, e256] at e <;> omega
theorem sgV_eq (c : Int32) : sgV c = if 32 ≤ c &&& 255 then c &&& 255 else 32 := by
  obtain ⟨j, hj, e⟩ := pk_andE c (m := 255) 8 (by decide +kernel)
  have hf := fMod_256 c
  unfold sgV mx
  rw [hf, e]
  by_cases q : 32 ≤ nI j
  · rw [if_pos q]
    by_cases q2 : (32 : Int32) < nI j
    · rw [if_pos q2]
    · rw [if_neg q2]
      exact i32_ext (by have h1 := i32_nlt q2; have h2 := i32_le.mp q; omega)
  · rw [if_neg q, if_neg (fun z => q (i32_le.mpr (by have := i32_lt.mp z; omega)))]

set_option maxHeartbeats 1000000 in
set_option maxRecDepth 100000 in
theorem c_X3_print (l : Launch) {D : va_G} {cI cP cR cJ : ClassId} {m0 mS mC mT mR mA L C rl bg st tp tl : Nat} {on tb : Bool} {th mk : Int32} {sg ch tr rc ta : Nat → Int32} {sz : Nat} (hC : C ≤ 132) (hrl : rl ≤ 200) (hrc : ∀ j, j < rl → isSg (rc j) = true) (q i : Nat) (hq : q < 40) (hi : i < 66) : Met l yX3_print wsX3_print ({ frames := 1, cells := 0, slots := 0, locals := 21 }) (mu [.ref m0, .int (nI q), .int (nI i)] D cI cP cR cJ (wM cI m0 mS mC mT mR mA th (nI L) (nI C) (nI rl) (nI bg) (nI st) mk (zb on) (nI tp) (nI tl) (zb tb) sg ch tr rc ta) sz) (qv D (fun (_ : Unit) => True) (fun _ : Unit => wM cI m0 mS mC mT mR mA th (nI L) (nI C) (nI 0) (nI bg) (nI st) mk (zb on) (nI tp) (nI tl) (zb tb) (prG (8712 * q + 132 * i) (min rl C) tr rc sg) ch tr rc (upd (taP ta (ta 3 + cS tr rc C rl) (ta 4 + cC C rl)) 2 (ta 2 + 1))) (va_A (wM cI m0 mS mC mT mR mA th (nI L) (nI C) (nI rl) (nI bg) (nI st) mk (zb on) (nI tp) (nI tl) (zb tb) sg ch tr rc ta) sz)) 0 0 (va_A (wM cI m0 mS mC mT mR mA th (nI L) (nI C) (nI rl) (nI bg) (nI st) mk (zb on) (nI tp) (nI tl) (zb tb) sg ch tr rc ta) sz) := by
  refine Met.ofW (cc := cX3_print) (maxL := 6) (ret := none) (by decide) rfl ?_
  intro p e s m args below meth c s₁ B hml hv
  obtain ⟨rfl, hsz, hP, hK, hD0⟩ := hv
  have hx := B.exec
  have hb := B.bytes
  have hr := B.returns
  have hts := atoms_spec (ws := wsX3_print) B.pre
  have hown : s.vm.findClass RX3 = some m.cls := findClass_of_methodNamed B.named
  have hlocks := B.notSynchronized
  have hinX3 : ∀ w ∈ wsX30, w ∈ wsX3_print := by decide +kernel
  subst hsz
  have hD := hD0.self (sz := s.heap.size)
  generalize hAe : va_A (wM cI m0 mS mC mT mR mA th (nI L) (nI C) (nI rl) (nI bg) (nI st) mk (zb on) (nI tp) (nI tl) (zb tb) sg ch tr rc ta) s.heap.size = A at hD ⊢
  have hA : ∀ q : Nat, s.heap.size ≤ q → A q := fun q h => by rw [← hAe]; exact Or.inr h
  have hS : va_S A s.heap s.heap [] := va_S.rf
  have hP : va_P D vwCl (wM cI m0 mS mC mT mR mA th (nI L) (nI C) (nI rl) (nI bg) (nI st) mk (zb on) (nI tp) (nI tl) (zb tb) sg ch tr rc ta) s.heap := hP
  have hl := lv_entry ([.ref m0, .int (nI q), .int (nI i)]) (n := 6) (Nat.le_of_ble_eq_true rfl)
  rw [lg_entry_eq]
  generalize (lg_sl ([.ref m0, .int (nI q), .int (nI i)]) ++ List.replicate (6 - (lg_sl ([.ref m0, .int (nI q), .int (nI i)])).length) Slot.unset).toArray = ls at hl ⊢
  have hl : lv_has ls 6 [(0, .ref m0), (1, .int (nI q)), (2, .int (nI i))] := hl
  refine lv_iconst (v := 0) hx hb dX3_print_0 (by decide +kernel) ?_
  refine lv_istore_n (lv' := [(3, .int 0), (0, .ref m0), (1, .int (nI q)), (2, .int (nI i))]) hx hb dX3_print_1 rfl hl (by decide) rfl (fun ls hl => ?_)
  have loop : ∀ (n : Nat) (k n1 : Nat) (H : Heap) (locs : List Loc) (ls : Array Slot), (k ≤ rl) → (rl - k < n) → (n1 = min k C) → va_P D vwCl (wM cI m0 mS mC mT mR mA th (nI L) (nI C) (nI rl) (nI bg) (nI st) mk (zb on) (nI tp) (nI tl) (zb tb) (prG (8712 * q + 132 * i) n1 tr rc sg) ch tr rc (taP ta (ta 3 + cS tr rc C k) (ta 4 + cC C k))) H → va_D A (wM cI m0 mS mC mT mR mA th (nI L) (nI C) (nI rl) (nI bg) (nI st) mk (zb on) (nI tp) (nI tl) (zb tb) (prG (8712 * q + 132 * i) n1 tr rc sg) ch tr rc (taP ta (ta 3 + cS tr rc C k) (ta 4 + cC C k))) → va_S A s.heap H locs → lv_has ls 6 [(0, .ref m0), (1, .int (nI q)), (2, .int (nI i)), (3, .int (nI k))] → W p l e (headSpec wsX3_print ({ frames := 1, cells := 0, slots := 0, locals := 21 })).room s m (([.ref m0, .int (nI q), .int (nI i)] : List Value).toArray) below meth c H locs 0 0 (MQ below (qv D (fun (_ : Unit) => True) (fun _ : Unit => wM cI m0 mS mC mT mR mA th (nI L) (nI C) (nI 0) (nI bg) (nI st) mk (zb on) (nI tp) (nI tl) (zb tb) (prG (8712 * q + 132 * i) (min rl C) tr rc sg) ch tr rc (upd (taP ta (ta 3 + cS tr rc C rl) (ta 4 + cC C rl)) 2 (ta 2 + 1))) (A)) (([.ref m0, .int (nI q), .int (nI i)] : List Value).toArray) s 0 0 A) (F0 m 2 ls []) := by
    intro n
    induction n with
    | zero => intro k n1 H locs ls hk hn hn1 hP hD hS hl; exact absurd hn (Nat.not_lt_zero _)
    | succ n ih =>
      intro k n1 H locs ls hk hn hn1 hP hD hS hl
      refine lv_iload_n hx hb dX3_print_2 rfl (lv_at hl 3 rfl) ?_
      refine lv_aload_n hx hb dX3_print_3 rfl (lv_at hl 0 rfl) ?_
      refine va_get (D := D) (ci := 4) (v := .int (nI rl)) (C := RX3) (T := TX3) (N := 16) hx hb hts hinX3 hown hK.1 hP 0 rfl rfl 8 (by decide) (hts (.fieldLink RX3 36 "PrinterRowsModel" "length" "I") (by decide +kernel)) (fun _ h9 => h9) rfl dX3_print_4 ?_
      refine lv_icmp_ge (tgt := 105) hx hb dX3_print_7 (by decide) (fun c_7 => ?_) (fun c_7 => ?_)
      ·
        have hie : k = rl := by have := (nI_leI (by omega) (by omega)).mp c_7; omega
        rw [hn1, hie] at hP hD
        have hP : va_P D vwCl (wM cI m0 mS mC mT mR mA th (nI L) (nI C) (nI rl) (nI bg) (nI st) mk (zb on) (nI tp) (nI tl) (zb tb) (prG (8712 * q + 132 * i) (min rl C) tr rc sg) ch tr rc (taP ta (ta 3 + cS tr rc C rl) (ta 4 + cC C rl))) H := hP
        have hD : va_D A (wM cI m0 mS mC mT mR mA th (nI L) (nI C) (nI rl) (nI bg) (nI st) mk (zb on) (nI tp) (nI tl) (zb tb) (prG (8712 * q + 132 * i) (min rl C) tr rc sg) ch tr rc (taP ta (ta 3 + cS tr rc C rl) (ta 4 + cC C rl))) := hD
        refine lv_aload_n hx hb dX3_print_105 rfl (lv_at hl 0 rfl) ?_
        refine lv_iconst (v := 0) hx hb dX3_print_106 (by decide +kernel) ?_
        refine va_put (D := D) (ci := 4) (v := .int 0) (ty := .int) (C := RX3) (T := TX3) (N := 16) hx hb hts hinX3 tyX3 tyX3_ok nmX3 hown hK.1 hP hD hS 0 rfl rfl 8 (by decide) (hts (.fieldLink RX3 36 "PrinterRowsModel" "length" "I") (by decide +kernel)) (fun _ h9 => h9) rfl (by decide +kernel) rfl rfl (Nat.le_of_ble_eq_true rfl) dX3_print_107 (fun H locs hP hD hS => ?_)
        have hP : va_P D vwCl (wM cI m0 mS mC mT mR mA th (nI L) (nI C) 0 (nI bg) (nI st) mk (zb on) (nI tp) (nI tl) (zb tb) (prG (8712 * q + 132 * i) (min rl C) tr rc sg) ch tr rc (taP ta (ta 3 + cS tr rc C rl) (ta 4 + cC C rl))) H := hP
        have hD : va_D A (wM cI m0 mS mC mT mR mA th (nI L) (nI C) 0 (nI bg) (nI st) mk (zb on) (nI tp) (nI tl) (zb tb) (prG (8712 * q + 132 * i) (min rl C) tr rc sg) ch tr rc (taP ta (ta 3 + cS tr rc C rl) (ta 4 + cC C rl))) := hD
        refine lv_aload_n hx hb dX3_print_110 rfl (lv_at hl 0 rfl) ?_
        refine va_get (D := D) (ci := 4) (v := .ref mA) (C := RX3) (T := TX3) (N := 16) hx hb hts hinX3 hown hK.1 hP 0 rfl rfl 7 (by decide) (hts (.fieldLink RX3 23 "PrinterRowsModel" "tallies" "[I") (by decide +kernel)) (fun _ h9 => h9) rfl dX3_print_111 ?_
        refine lv_iconst (v := 2) hx hb dX3_print_114 (by decide +kernel) ?_
        refine lv_dup2_11 hx hb dX3_print_115 rfl rfl ?_
        refine va_iald hx hb hK.1 hP 5 0 rfl rfl (vp_in_iff.mpr (by decide +kernel)) dX3_print_116 ?_
        refine lv_topi (fun x_116 ex_116 => ?_)
        obtain rfl : x_116 = (ta 2) := ex_116
        refine lv_iconst (v := 1) hx hb dX3_print_117 (by decide +kernel) ?_
        refine lv_iadd hx hb dX3_print_118 ?_
        refine va_iast hx hb hK.1 hP hD hS 5 0 rfl rfl (vp_in_iff.mpr (by decide +kernel)) dX3_print_119 (fun H locs hP hD hS => ?_)
        rw [show (upd (taP ta (ta 3 + cS tr rc C rl) (ta 4 + cC C rl)) (2 : Int32).toNatClampNeg ((ta 2) + 1)) = (upd (taP ta (ta 3 + cS tr rc C rl) (ta 4 + cC C rl)) 2 (ta 2 + 1)) from rfl] at hP hD
        have hP : va_P D vwCl (wM cI m0 mS mC mT mR mA th (nI L) (nI C) 0 (nI bg) (nI st) mk (zb on) (nI tp) (nI tl) (zb tb) (prG (8712 * q + 132 * i) (min rl C) tr rc sg) ch tr rc (upd (taP ta (ta 3 + cS tr rc C rl) (ta 4 + cC C rl)) 2 (ta 2 + 1))) H := hP
        have hD : va_D A (wM cI m0 mS mC mT mR mA th (nI L) (nI C) 0 (nI bg) (nI st) mk (zb on) (nI tp) (nI tl) (zb tb) (prG (8712 * q + 132 * i) (min rl C) tr rc sg) ch tr rc (upd (taP ta (ta 3 + cS tr rc C rl) (ta 4 + cC C rl)) 2 (ta 2 + 1))) := hD
        exact W.vret hx hb hr (fun t ht hW => ⟨⟨(), rfl, trivial, by rw [ht]; exact hP, hD⟩, hS.F ht⟩) hS.2.2 dX3_print_120
      ·
        have hlt : k < rl := Nat.lt_of_not_le (fun h9 => c_7 (nI_le h9 (by omega)))
        refine lv_aload_n hx hb dX3_print_10 rfl (lv_at hl 0 rfl) ?_
        refine va_get (D := D) (ci := 4) (v := .ref mT) (C := RX3) (T := TX3) (N := 16) hx hb hts hinX3 hown hK.1 hP 0 rfl rfl 5 (by decide) (hts (.fieldLink RX3 17 "PrinterRowsModel" "table" "[I") (by decide +kernel)) (fun _ h9 => h9) rfl dX3_print_11 ?_
        refine lv_aload_n hx hb dX3_print_14 rfl (lv_at hl 0 rfl) ?_
        refine va_get (D := D) (ci := 4) (v := .ref mR) (C := RX3) (T := TX3) (N := 16) hx hb hts hinX3 hown hK.1 hP 0 rfl rfl 6 (by decide) (hts (.fieldLink RX3 20 "PrinterRowsModel" "record" "[I") (by decide +kernel)) (fun _ h9 => h9) rfl dX3_print_15 ?_
        refine lv_iload_n hx hb dX3_print_18 rfl (lv_at hl 3 rfl) ?_
        refine va_iald hx hb hK.1 hP 4 0 rfl rfl (vp_in_nI (by omega) (by decide)) dX3_print_19 ?_
        refine lv_topi (fun x_19 ex_19 => ?_)
        obtain rfl : x_19 = rc k := ex_19.trans (by rw [nI_clamp (by omega)])
        refine va_iald hx hb hK.1 hP 3 0 rfl rfl (isSg_in (zb1.mpr (hrc k hlt))) dX3_print_20 ?_
        refine lv_istore (lv' := [(4, .int (tr ((rc k)).toNatClampNeg)), (0, .ref m0), (1, .int (nI q)), (2, .int (nI i)), (3, .int (nI k))]) hx hb dX3_print_21 hl (by decide) rfl (fun ls hl => ?_)
        refine lv_iload_n hx hb dX3_print_23 rfl (lv_at hl 4 rfl) ?_
        refine lv_aload_n hx hb dX3_print_24 rfl (lv_at hl 1 rfl) ?_
        refine va_get (D := D) (ci := 4) (v := .int (nI C)) (C := RX3) (T := TX3) (N := 16) hx hb hts hinX3 hown hK.1 hP 0 rfl rfl 2 (by decide) (hts (.fieldLink RX3 30 "PrinterRowsModel" "columns" "I") (by decide +kernel)) (fun _ h9 => h9) rfl dX3_print_25 ?_
        refine lv_icmp_lt (tgt := 44) hx hb dX3_print_28 (by decide) (fun c_28 => ?_) (fun c_28 => ?_)
        ·
          have hkC : k < C := (nI_ltI (by omega) (by omega)).mp c_28
          obtain rfl : k = n1 := by omega
          refine lv_sipush (v := 8712) hx hb dX3_print_44 (by decide +kernel) ?_
          refine lv_iload_n hx hb dX3_print_47 rfl (lv_at hl 2 rfl) ?_
          refine lv_imul hx hb dX3_print_48 ?_
          refine lv_topi (fun x_48 ex_48 => ?_)
          obtain rfl : x_48 = nI (8712 * q) := ex_48.trans (pk_mul 8712 q)
          refine lv_sipush (v := 132) hx hb dX3_print_49 (by decide +kernel) ?_
          refine lv_iload_n hx hb dX3_print_52 rfl (lv_at hl 3 rfl) ?_
          refine lv_imul hx hb dX3_print_53 ?_
          refine lv_topi (fun x_53 ex_53 => ?_)
          obtain rfl : x_53 = nI (132 * i) := ex_53.trans (pk_mul 132 i)
          refine lv_iadd hx hb dX3_print_54 ?_
          refine lv_topi (fun x_54 ex_54 => ?_)
          obtain rfl : x_54 = nI (8712 * q + 132 * i) := ex_54.trans (nI_add _ _)
          refine lv_iload_n hx hb dX3_print_55 rfl (lv_at hl 4 rfl) ?_
          refine lv_iadd hx hb dX3_print_56 ?_
          refine lv_topi (fun x_56 ex_56 => ?_)
          obtain rfl : x_56 = nI (8712 * q + 132 * i + k) := ex_56.trans (nI_add _ _)
          refine lv_istore (lv' := [(5, .int (nI (8712 * q + 132 * i + k))), (4, .int (tr ((rc k)).toNatClampNeg)), (0, .ref m0), (1, .int (nI q)), (2, .int (nI i)), (3, .int (nI k))]) hx hb dX3_print_57 hl (by decide) rfl (fun ls hl => ?_)
          refine lv_aload_n hx hb dX3_print_59 rfl (lv_at hl 2 rfl) ?_
          refine va_get (D := D) (ci := 4) (v := .ref mS) (C := RX3) (T := TX3) (N := 16) hx hb hts hinX3 hown hK.1 hP 0 rfl rfl 3 (by decide) (hts (.fieldLink RX3 8 "PrinterRowsModel" "signs" "[I") (by decide +kernel)) (fun _ h9 => h9) rfl dX3_print_60 ?_
          refine lv_iload hx hb dX3_print_63 (lv_at hl 0 rfl) ?_
          refine lv_aload_n hx hb dX3_print_65 rfl (lv_at hl 2 rfl) ?_
          refine va_get (D := D) (ci := 4) (v := .ref mS) (C := RX3) (T := TX3) (N := 16) hx hb hts hinX3 hown hK.1 hP 0 rfl rfl 3 (by decide) (hts (.fieldLink RX3 8 "PrinterRowsModel" "signs" "[I") (by decide +kernel)) (fun _ h9 => h9) rfl dX3_print_66 ?_
          refine lv_iload hx hb dX3_print_69 (lv_at hl 0 rfl) ?_
          refine va_iald hx hb hK.1 hP 1 0 rfl rfl (vp_in_nI (by omega) (by decide)) dX3_print_71 ?_
          refine lv_topi (fun x_71 ex_71 => ?_)
          obtain rfl : x_71 = (prG (8712 * q + 132 * i) k tr rc sg (8712 * q + 132 * i + k)) := ex_71.trans (by rw [nI_clamp (by omega)])
          refine lv_iload hx hb dX3_print_72 (lv_at hl 1 rfl) ?_
          refine vp_callSi (W.runS (As := [.int (prG (8712 * q + 132 * i) k tr rc sg (8712 * q + 132 * i + k)), .int (tr ((rc k)).toNatClampNeg)]) (rest := [.int (nI (8712 * q + 132 * i + k)), .ref mS]) ⟨hx, hb, hml, hown, hts⟩ (c_X3_darker l ((prG (8712 * q + 132 * i) k tr rc sg (8712 * q + 132 * i + k))) ((tr ((rc k)).toNatClampNeg))) (va_cwS 2 hts gX3_print_X3_darker rfl rfl rfl (by decide +kernel) ⟨(Nat.le_of_ble_eq_true rfl), (Nat.le_of_ble_eq_true rfl)⟩) pu_pre rfl rfl hl.1 rfl (lv_room (Nat.le_of_ble_eq_true rfl)) dX3_print_74 ⟨(Nat.le_of_ble_eq_true rfl), (Nat.le_of_ble_eq_true rfl)⟩) (fun r_74 w_74 => ?_)
          subst w_74
          refine va_iast hx hb hK.1 hP hD hS 1 0 rfl rfl (vp_in_nI (by omega) (by decide)) dX3_print_77 (fun H locs hP hD hS => ?_)
          rw [show (upd (prG (8712 * q + 132 * i) k tr rc sg) ((nI (8712 * q + 132 * i + k))).toNatClampNeg (mx (prG (8712 * q + 132 * i) k tr rc sg (8712 * q + 132 * i + k)) (tr (rc k).toNatClampNeg))) = (prG (8712 * q + 132 * i) (k + 1) tr rc sg) from by rw [nI_clamp (by omega)]; exact prG_step] at hP hD
          have hP : va_P D vwCl (wM cI m0 mS mC mT mR mA th (nI L) (nI C) (nI rl) (nI bg) (nI st) mk (zb on) (nI tp) (nI tl) (zb tb) (prG (8712 * q + 132 * i) (k + 1) tr rc sg) ch tr rc (taP ta (ta 3 + cS tr rc C k) (ta 4 + cC C k))) H := hP
          have hD : va_D A (wM cI m0 mS mC mT mR mA th (nI L) (nI C) (nI rl) (nI bg) (nI st) mk (zb on) (nI tp) (nI tl) (zb tb) (prG (8712 * q + 132 * i) (k + 1) tr rc sg) ch tr rc (taP ta (ta 3 + cS tr rc C k) (ta 4 + cC C k))) := hD
          refine lv_aload_n hx hb dX3_print_78 rfl (lv_at hl 2 rfl) ?_
          refine va_get (D := D) (ci := 4) (v := .ref mA) (C := RX3) (T := TX3) (N := 16) hx hb hts hinX3 hown hK.1 hP 0 rfl rfl 7 (by decide) (hts (.fieldLink RX3 23 "PrinterRowsModel" "tallies" "[I") (by decide +kernel)) (fun _ h9 => h9) rfl dX3_print_79 ?_
          refine lv_iconst (v := 3) hx hb dX3_print_82 (by decide +kernel) ?_
          refine lv_dup2_11 hx hb dX3_print_83 rfl rfl ?_
          refine va_iald hx hb hK.1 hP 5 0 rfl rfl (vp_in_iff.mpr (by decide +kernel)) dX3_print_84 ?_
          refine lv_topi (fun x_84 ex_84 => ?_)
          obtain rfl : x_84 = (ta 3 + cS tr rc C k) := ex_84
          refine lv_iload hx hb dX3_print_85 (lv_at hl 1 rfl) ?_
          refine lv_bipush (v := 32) hx hb dX3_print_87 (by decide +kernel) ?_
          refine lv_icmp_ne (tgt := 96) hx hb dX3_print_89 (by decide) (fun c_89 => ?_) (fun c_89 => ?_)
          ·
            refine lv_iconst (v := 1) hx hb dX3_print_96 (by decide +kernel) ?_
            refine lv_iadd hx hb dX3_print_97 ?_
            refine va_iast hx hb hK.1 hP hD hS 5 0 rfl rfl (vp_in_iff.mpr (by decide +kernel)) dX3_print_98 (fun H locs hP hD hS => ?_)
            rw [show (upd (taP ta (ta 3 + cS tr rc C k) (ta 4 + cC C k)) (3 : Int32).toNatClampNeg ((ta 3 + cS tr rc C k) + 1)) = (taP ta (ta 3 + cS tr rc C (k + 1)) (ta 4 + cC C k)) from by rw [show (3 : Int32).toNatClampNeg = 3 from rfl, taP_3, cS_yes hkC c_89]] at hP hD
            have hP : va_P D vwCl (wM cI m0 mS mC mT mR mA th (nI L) (nI C) (nI rl) (nI bg) (nI st) mk (zb on) (nI tp) (nI tl) (zb tb) (prG (8712 * q + 132 * i) (k + 1) tr rc sg) ch tr rc (taP ta (ta 3 + cS tr rc C (k + 1)) (ta 4 + cC C k))) H := hP
            have hD : va_D A (wM cI m0 mS mC mT mR mA th (nI L) (nI C) (nI rl) (nI bg) (nI st) mk (zb on) (nI tp) (nI tl) (zb tb) (prG (8712 * q + 132 * i) (k + 1) tr rc sg) ch tr rc (taP ta (ta 3 + cS tr rc C (k + 1)) (ta 4 + cC C k))) := hD
            rw [← cC_in hkC] at hP hD
            have hP : va_P D vwCl (wM cI m0 mS mC mT mR mA th (nI L) (nI C) (nI rl) (nI bg) (nI st) mk (zb on) (nI tp) (nI tl) (zb tb) (prG (8712 * q + 132 * i) (k + 1) tr rc sg) ch tr rc (taP ta (ta 3 + cS tr rc C (k + 1)) (ta 4 + cC C (k + 1)))) H := hP
            have hD : va_D A (wM cI m0 mS mC mT mR mA th (nI L) (nI C) (nI rl) (nI bg) (nI st) mk (zb on) (nI tp) (nI tl) (zb tb) (prG (8712 * q + 132 * i) (k + 1) tr rc sg) ch tr rc (taP ta (ta 3 + cS tr rc C (k + 1)) (ta 4 + cC C (k + 1)))) := hD
            refine lv_iinc (v := (nI (k + 1))) (lv' := [(3, .int (nI (k + 1))), (5, .int (nI (8712 * q + 132 * i + k))), (4, .int (tr ((rc k)).toNatClampNeg)), (0, .ref m0), (1, .int (nI q)), (2, .int (nI i))]) hx hb dX3_print_99 hl (k := 5) rfl (nI_1 k) (by decide) rfl (fun ls hl => ?_)
            refine lv_goto (tgt := 2) hx hb dX3_print_102 (by decide) ?_
            exact ih (k + 1) (k + 1) _ _ _ (by omega) (by omega) (by omega) hP hD hS (lv_sub hl [3, 4, 5, 0] rfl)
          ·
            refine lv_iconst (v := 0) hx hb dX3_print_92 (by decide +kernel) ?_
            refine lv_goto (tgt := 97) hx hb dX3_print_93 (by decide) ?_
            refine lv_iadd hx hb dX3_print_97 ?_
            refine va_iast hx hb hK.1 hP hD hS 5 0 rfl rfl (vp_in_iff.mpr (by decide +kernel)) dX3_print_98 (fun H locs hP hD hS => ?_)
            rw [show (upd (taP ta (ta 3 + cS tr rc C k) (ta 4 + cC C k)) (3 : Int32).toNatClampNeg ((ta 3 + cS tr rc C k) + 0)) = (taP ta (ta 3 + cS tr rc C (k + 1)) (ta 4 + cC C k)) from by rw [show (3 : Int32).toNatClampNeg = 3 from rfl, taP_3, cS_no hkC c_89]] at hP hD
            have hP : va_P D vwCl (wM cI m0 mS mC mT mR mA th (nI L) (nI C) (nI rl) (nI bg) (nI st) mk (zb on) (nI tp) (nI tl) (zb tb) (prG (8712 * q + 132 * i) (k + 1) tr rc sg) ch tr rc (taP ta (ta 3 + cS tr rc C (k + 1)) (ta 4 + cC C k))) H := hP
            have hD : va_D A (wM cI m0 mS mC mT mR mA th (nI L) (nI C) (nI rl) (nI bg) (nI st) mk (zb on) (nI tp) (nI tl) (zb tb) (prG (8712 * q + 132 * i) (k + 1) tr rc sg) ch tr rc (taP ta (ta 3 + cS tr rc C (k + 1)) (ta 4 + cC C k))) := hD
            rw [← cC_in hkC] at hP hD
            have hP : va_P D vwCl (wM cI m0 mS mC mT mR mA th (nI L) (nI C) (nI rl) (nI bg) (nI st) mk (zb on) (nI tp) (nI tl) (zb tb) (prG (8712 * q + 132 * i) (k + 1) tr rc sg) ch tr rc (taP ta (ta 3 + cS tr rc C (k + 1)) (ta 4 + cC C (k + 1)))) H := hP
            have hD : va_D A (wM cI m0 mS mC mT mR mA th (nI L) (nI C) (nI rl) (nI bg) (nI st) mk (zb on) (nI tp) (nI tl) (zb tb) (prG (8712 * q + 132 * i) (k + 1) tr rc sg) ch tr rc (taP ta (ta 3 + cS tr rc C (k + 1)) (ta 4 + cC C (k + 1)))) := hD
            refine lv_iinc (v := (nI (k + 1))) (lv' := [(3, .int (nI (k + 1))), (5, .int (nI (8712 * q + 132 * i + k))), (4, .int (tr ((rc k)).toNatClampNeg)), (0, .ref m0), (1, .int (nI q)), (2, .int (nI i))]) hx hb dX3_print_99 hl (k := 5) rfl (nI_1 k) (by decide) rfl (fun ls hl => ?_)
            refine lv_goto (tgt := 2) hx hb dX3_print_102 (by decide) ?_
            exact ih (k + 1) (k + 1) _ _ _ (by omega) (by omega) (by omega) hP hD hS (lv_sub hl [3, 4, 5, 0] rfl)
        ·
          have hCk : C ≤ k := Nat.le_of_not_lt (fun h9 => c_28 (nI_lt h9 (by omega)))
          refine lv_aload_n hx hb dX3_print_31 rfl (lv_at hl 1 rfl) ?_
          refine va_get (D := D) (ci := 4) (v := .ref mA) (C := RX3) (T := TX3) (N := 16) hx hb hts hinX3 hown hK.1 hP 0 rfl rfl 7 (by decide) (hts (.fieldLink RX3 23 "PrinterRowsModel" "tallies" "[I") (by decide +kernel)) (fun _ h9 => h9) rfl dX3_print_32 ?_
          refine lv_iconst (v := 4) hx hb dX3_print_35 (by decide +kernel) ?_
          refine lv_dup2_11 hx hb dX3_print_36 rfl rfl ?_
          refine va_iald hx hb hK.1 hP 5 0 rfl rfl (vp_in_iff.mpr (by decide +kernel)) dX3_print_37 ?_
          refine lv_topi (fun x_37 ex_37 => ?_)
          obtain rfl : x_37 = (ta 4 + cC C k) := ex_37
          refine lv_iconst (v := 1) hx hb dX3_print_38 (by decide +kernel) ?_
          refine lv_iadd hx hb dX3_print_39 ?_
          refine va_iast hx hb hK.1 hP hD hS 5 0 rfl rfl (vp_in_iff.mpr (by decide +kernel)) dX3_print_40 (fun H locs hP hD hS => ?_)
          rw [show (upd (taP ta (ta 3 + cS tr rc C k) (ta 4 + cC C k)) (4 : Int32).toNatClampNeg ((ta 4 + cC C k) + 1)) = (taP ta (ta 3 + cS tr rc C k) (ta 4 + cC C (k + 1))) from by rw [show (4 : Int32).toNatClampNeg = 4 from rfl, taP_4, cC_cut hCk]] at hP hD
          have hP : va_P D vwCl (wM cI m0 mS mC mT mR mA th (nI L) (nI C) (nI rl) (nI bg) (nI st) mk (zb on) (nI tp) (nI tl) (zb tb) (prG (8712 * q + 132 * i) n1 tr rc sg) ch tr rc (taP ta (ta 3 + cS tr rc C k) (ta 4 + cC C (k + 1)))) H := hP
          have hD : va_D A (wM cI m0 mS mC mT mR mA th (nI L) (nI C) (nI rl) (nI bg) (nI st) mk (zb on) (nI tp) (nI tl) (zb tb) (prG (8712 * q + 132 * i) n1 tr rc sg) ch tr rc (taP ta (ta 3 + cS tr rc C k) (ta 4 + cC C (k + 1)))) := hD
          rw [← cS_cut (tr := tr) (rc := rc) hCk] at hP hD
          have hP : va_P D vwCl (wM cI m0 mS mC mT mR mA th (nI L) (nI C) (nI rl) (nI bg) (nI st) mk (zb on) (nI tp) (nI tl) (zb tb) (prG (8712 * q + 132 * i) n1 tr rc sg) ch tr rc (taP ta (ta 3 + cS tr rc C (k + 1)) (ta 4 + cC C (k + 1)))) H := hP
          have hD : va_D A (wM cI m0 mS mC mT mR mA th (nI L) (nI C) (nI rl) (nI bg) (nI st) mk (zb on) (nI tp) (nI tl) (zb tb) (prG (8712 * q + 132 * i) n1 tr rc sg) ch tr rc (taP ta (ta 3 + cS tr rc C (k + 1)) (ta 4 + cC C (k + 1)))) := hD
          refine lv_goto (tgt := 99) hx hb dX3_print_41 (by decide) ?_
          refine lv_iinc (v := (nI (k + 1))) (lv' := [(3, .int (nI (k + 1))), (4, .int (tr ((rc k)).toNatClampNeg)), (0, .ref m0), (1, .int (nI q)), (2, .int (nI i))]) hx hb dX3_print_99 hl (k := 4) rfl (nI_1 k) (by decide) rfl (fun ls hl => ?_)
          refine lv_goto (tgt := 2) hx hb dX3_print_102 (by decide) ?_
          exact ih (k + 1) n1 _ _ _ (by omega) (by omega) (by omega) hP hD hS (lv_sub hl [2, 3, 4, 0] rfl)
  rw [← prG_0 (base := 8712 * q + 132 * i) (tr := tr) (rc := rc) (sg := sg), ← taP_0 (ta := ta)] at hP hD
  exact loop (rl + 1) 0 0 _ _ _ (Nat.zero_le _) (by omega) ((Nat.zero_min _).symm) hP hD hS (lv_sub hl [1, 2, 3, 0] rfl)

set_option maxHeartbeats 1000000 in
set_option maxRecDepth 100000 in
theorem c_X3_channel (l : Launch) {D : va_G} {cI cP cR cJ : ClassId} {m0 mS mC mT mR mA L C rl bg st tp tl : Nat} {on tb : Bool} {th mk : Int32} {sg ch tr rc ta : Nat → Int32} {sz : Nat} (c0 l0 : Int32) : Met l yX3_channel wsX3_channel ({ frames := 0, cells := 0, slots := 0, locals := 0 }) (mu [.ref m0, .int c0, .int l0] D cI cP cR cJ (wM cI m0 mS mC mT mR mA th (nI L) (nI C) (nI rl) (nI bg) (nI st) mk (zb on) (nI tp) (nI tl) (zb tb) sg ch tr rc ta) sz) (qi D (fun (r : Int32) (u : Nat → Int32) => r = chR L ch c0 l0 ∧ u = chN L ch c0 l0) (fun u : Nat → Int32 => wM cI m0 mS mC mT mR mA 0 (nI L) (nI C) (nI rl) (nI bg) (nI st) mk (zb on) (nI tp) (nI tl) (zb tb) sg u tr rc ta) (va_A (wM cI m0 mS mC mT mR mA th (nI L) (nI C) (nI rl) (nI bg) (nI st) mk (zb on) (nI tp) (nI tl) (zb tb) sg ch tr rc ta) sz)) 0 0 (va_A (wM cI m0 mS mC mT mR mA th (nI L) (nI C) (nI rl) (nI bg) (nI st) mk (zb on) (nI tp) (nI tl) (zb tb) sg ch tr rc ta) sz) := by
  refine Met.ofW (cc := cX3_channel) (maxL := 4) (ret := (some .int)) (by decide) rfl ?_
  intro p e s m args below meth c s₁ B hml hv
  obtain ⟨rfl, hsz, hP, hK, hD0⟩ := hv
  have hx := B.exec
  have hb := B.bytes
  have hr := B.returns
  have hts := atoms_spec (ws := wsX3_channel) B.pre
  have hown : s.vm.findClass RX3 = some m.cls := findClass_of_methodNamed B.named
  have hlocks := B.notSynchronized
  have hinX3 : ∀ w ∈ wsX30, w ∈ wsX3_channel := by decide +kernel
  subst hsz
  have hD := hD0.self (sz := s.heap.size)
  generalize hAe : va_A (wM cI m0 mS mC mT mR mA th (nI L) (nI C) (nI rl) (nI bg) (nI st) mk (zb on) (nI tp) (nI tl) (zb tb) sg ch tr rc ta) s.heap.size = A at hD ⊢
  have hA : ∀ q : Nat, s.heap.size ≤ q → A q := fun q h => by rw [← hAe]; exact Or.inr h
  have hS : va_S A s.heap s.heap [] := va_S.rf
  have hP : va_P D vwCl (wM cI m0 mS mC mT mR mA th (nI L) (nI C) (nI rl) (nI bg) (nI st) mk (zb on) (nI tp) (nI tl) (zb tb) sg ch tr rc ta) s.heap := hP
  have hl := lv_entry ([.ref m0, .int c0, .int l0]) (n := 4) (Nat.le_of_ble_eq_true rfl)
  rw [lg_entry_eq]
  generalize (lg_sl ([.ref m0, .int c0, .int l0]) ++ List.replicate (4 - (lg_sl ([.ref m0, .int c0, .int l0])).length) Slot.unset).toArray = ls at hl ⊢
  have hl : lv_has ls 4 [(0, .ref m0), (1, .int c0), (2, .int l0)] := hl
  refine lv_aload_n hx hb dX3_channel_0 rfl (lv_at hl 0 rfl) ?_
  refine lv_iconst (v := 0) hx hb dX3_channel_1 (by decide +kernel) ?_
  refine va_put (D := D) (ci := 4) (v := .int 0) (ty := .int) (C := RX3) (T := TX3) (N := 16) hx hb hts hinX3 tyX3 tyX3_ok nmX3 hown hK.1 hP hD hS 0 rfl rfl 0 (by decide) (hts (.fieldLink RX3 33 "PrinterRowsModel" "thrown" "I") (by decide +kernel)) (fun _ h9 => h9) rfl (by decide +kernel) rfl rfl (Nat.le_of_ble_eq_true rfl) dX3_channel_2 (fun H locs hP hD hS => ?_)
  have hP : va_P D vwCl (wM cI m0 mS mC mT mR mA 0 (nI L) (nI C) (nI rl) (nI bg) (nI st) mk (zb on) (nI tp) (nI tl) (zb tb) sg ch tr rc ta) H := hP
  have hD : va_D A (wM cI m0 mS mC mT mR mA 0 (nI L) (nI C) (nI rl) (nI bg) (nI st) mk (zb on) (nI tp) (nI tl) (zb tb) sg ch tr rc ta) := hD
  refine lv_iload_n hx hb dX3_channel_5 rfl (lv_at hl 1 rfl) ?_
  refine lv_iconst (v := 1) hx hb dX3_channel_6 (by decide +kernel) ?_
  refine lv_icmp_lt (tgt := 29) hx hb dX3_channel_7 (by decide) (fun c_7 => ?_) (fun c_7 => ?_)
  ·
    refine lv_bipush (v := (-2)) hx hb dX3_channel_29 (by decide +kernel) ?_
    exact W.iret (v := (-2)) hx hb hr (fun t ht hW => ⟨⟨_, ch, rfl, ⟨by simp [chR, okc, isCh, c_7, zb], by simp [chN, okc, isCh, c_7, zb]⟩, by rw [ht]; exact hP, hD⟩, hS.F ht⟩) hS.2.2 dX3_channel_31
  ·
    refine lv_iload_n hx hb dX3_channel_10 rfl (lv_at hl 1 rfl) ?_
    refine lv_bipush (v := 12) hx hb dX3_channel_11 (by decide +kernel) ?_
    refine lv_icmp_gt (tgt := 29) hx hb dX3_channel_13 (by decide) (fun c_13 => ?_) (fun c_13 => ?_)
    ·
      refine lv_bipush (v := (-2)) hx hb dX3_channel_29 (by decide +kernel) ?_
      exact W.iret (v := (-2)) hx hb hr (fun t ht hW => ⟨⟨_, ch, rfl, ⟨by simp [chR, okc, isCh, c_7, c_13, zb], by simp [chN, okc, isCh, c_7, c_13, zb]⟩, by rw [ht]; exact hP, hD⟩, hS.F ht⟩) hS.2.2 dX3_channel_31
    ·
      refine lv_iload_n hx hb dX3_channel_16 rfl (lv_at hl 2 rfl) ?_
      refine lv_iconst (v := (-1)) hx hb dX3_channel_17 (by decide +kernel) ?_
      refine lv_icmp_lt (tgt := 29) hx hb dX3_channel_18 (by decide) (fun c_18 => ?_) (fun c_18 => ?_)
      ·
        refine lv_bipush (v := (-2)) hx hb dX3_channel_29 (by decide +kernel) ?_
        exact W.iret (v := (-2)) hx hb hr (fun t ht hW => ⟨⟨_, ch, rfl, ⟨by simp [chR, okc, isCh, c_7, c_13, c_18, zb], by simp [chN, okc, isCh, c_7, c_13, c_18, zb]⟩, by rw [ht]; exact hP, hD⟩, hS.F ht⟩) hS.2.2 dX3_channel_31
      ·
        refine lv_iload_n hx hb dX3_channel_21 rfl (lv_at hl 2 rfl) ?_
        refine lv_aload_n hx hb dX3_channel_22 rfl (lv_at hl 0 rfl) ?_
        refine va_get (D := D) (ci := 4) (v := .int (nI L)) (C := RX3) (T := TX3) (N := 16) hx hb hts hinX3 hown hK.1 hP 0 rfl rfl 1 (by decide) (hts (.fieldLink RX3 26 "PrinterRowsModel" "lines" "I") (by decide +kernel)) (fun _ h9 => h9) rfl dX3_channel_23 ?_
        refine lv_icmp_lt (tgt := 32) hx hb dX3_channel_26 (by decide) (fun c_26 => ?_) (fun c_26 => ?_)
        ·
          have hch : ¬ zb (isCh c0) = 0 := by rw [isCh, if_neg c_7, if_neg c_13]; decide
          refine lv_aload_n hx hb dX3_channel_32 rfl (lv_at hl 0 rfl) ?_
          refine va_get (D := D) (ci := 4) (v := .ref mC) (C := RX3) (T := TX3) (N := 16) hx hb hts hinX3 hown hK.1 hP 0 rfl rfl 4 (by decide) (hts (.fieldLink RX3 14 "PrinterRowsModel" "channels" "[I") (by decide +kernel)) (fun _ h9 => h9) rfl dX3_channel_33 ?_
          refine lv_iload_n hx hb dX3_channel_36 rfl (lv_at hl 1 rfl) ?_
          refine va_iald hx hb hK.1 hP 2 0 rfl rfl (isCh_in hch) dX3_channel_37 ?_
          refine lv_istore_n (lv' := [(3, .int (ch (c0).toNatClampNeg)), (0, .ref m0), (1, .int c0), (2, .int l0)]) hx hb dX3_channel_38 rfl hl (by decide) rfl (fun ls hl => ?_)
          refine lv_aload_n hx hb dX3_channel_39 rfl (lv_at hl 1 rfl) ?_
          refine va_get (D := D) (ci := 4) (v := .ref mC) (C := RX3) (T := TX3) (N := 16) hx hb hts hinX3 hown hK.1 hP 0 rfl rfl 4 (by decide) (hts (.fieldLink RX3 14 "PrinterRowsModel" "channels" "[I") (by decide +kernel)) (fun _ h9 => h9) rfl dX3_channel_40 ?_
          refine lv_iload_n hx hb dX3_channel_43 rfl (lv_at hl 2 rfl) ?_
          refine lv_iload_n hx hb dX3_channel_44 rfl (lv_at hl 3 rfl) ?_
          refine va_iast hx hb hK.1 hP hD hS 2 0 rfl rfl (isCh_in hch) dX3_channel_45 (fun H locs hP hD hS => ?_)
          have hP : va_P D vwCl (wM cI m0 mS mC mT mR mA 0 (nI L) (nI C) (nI rl) (nI bg) (nI st) mk (zb on) (nI tp) (nI tl) (zb tb) sg (upd ch (c0).toNatClampNeg l0) tr rc ta) H := hP
          have hD : va_D A (wM cI m0 mS mC mT mR mA 0 (nI L) (nI C) (nI rl) (nI bg) (nI st) mk (zb on) (nI tp) (nI tl) (zb tb) sg (upd ch (c0).toNatClampNeg l0) tr rc ta) := hD
          refine lv_iload_n hx hb dX3_channel_46 rfl (lv_at hl 0 rfl) ?_
          exact W.iret (v := (ch (c0).toNatClampNeg)) hx hb hr (fun t ht hW => ⟨⟨_, _, rfl, ⟨by simp [chR, okc, isCh, c_7, c_13, c_18, c_26, zb], by simp [chN, okc, isCh, c_7, c_13, c_18, c_26, zb]⟩, by rw [ht]; exact hP, hD⟩, hS.F ht⟩) hS.2.2 dX3_channel_47
        ·
          refine lv_bipush (v := (-2)) hx hb dX3_channel_29 (by decide +kernel) ?_
          exact W.iret (v := (-2)) hx hb hr (fun t ht hW => ⟨⟨_, ch, rfl, ⟨by simp [chR, okc, isCh, c_7, c_13, c_18, c_26, zb], by simp [chN, okc, isCh, c_7, c_13, c_18, c_26, zb]⟩, by rw [ht]; exact hP, hD⟩, hS.F ht⟩) hS.2.2 dX3_channel_31

set_option maxHeartbeats 1000000 in
set_option maxRecDepth 100000 in
theorem c_X3_sign (l : Launch) {D : va_G} {cI cP cR cJ : ClassId} {m0 mS mC mT mR mA L C rl bg st tp tl : Nat} {on tb : Bool} {th mk : Int32} {sg ch tr rc ta : Nat → Int32} {sz : Nat} (hrl : rl ≤ 200) (c0 : Int32) : Met l yX3_sign wsX3_sign ({ frames := 0, cells := 0, slots := 0, locals := 0 }) (mu [.ref m0, .int c0] D cI cP cR cJ (wM cI m0 mS mC mT mR mA th (nI L) (nI C) (nI rl) (nI bg) (nI st) mk (zb on) (nI tp) (nI tl) (zb tb) sg ch tr rc ta) sz) (qv D (fun (u : (Nat → Int32) × Nat) => u = (sgC rl rc c0, sgL rl)) (fun u : (Nat → Int32) × Nat => wM cI m0 mS mC mT mR mA 0 (nI L) (nI C) (nI u.2) (nI bg) (nI st) mk (zb on) (nI tp) (nI tl) (zb tb) sg ch tr u.1 ta) (va_A (wM cI m0 mS mC mT mR mA th (nI L) (nI C) (nI rl) (nI bg) (nI st) mk (zb on) (nI tp) (nI tl) (zb tb) sg ch tr rc ta) sz)) 0 0 (va_A (wM cI m0 mS mC mT mR mA th (nI L) (nI C) (nI rl) (nI bg) (nI st) mk (zb on) (nI tp) (nI tl) (zb tb) sg ch tr rc ta) sz) := by
  refine Met.ofW (cc := cX3_sign) (maxL := 2) (ret := none) (by decide) rfl ?_
  intro p e s m args below meth c s₁ B hml hv
  obtain ⟨rfl, hsz, hP, hK, hD0⟩ := hv
  have hx := B.exec
  have hb := B.bytes
  have hr := B.returns
  have hts := atoms_spec (ws := wsX3_sign) B.pre
  have hown : s.vm.findClass RX3 = some m.cls := findClass_of_methodNamed B.named
  have hlocks := B.notSynchronized
  have hinX3 : ∀ w ∈ wsX30, w ∈ wsX3_sign := by decide +kernel
  subst hsz
  have hD := hD0.self (sz := s.heap.size)
  generalize hAe : va_A (wM cI m0 mS mC mT mR mA th (nI L) (nI C) (nI rl) (nI bg) (nI st) mk (zb on) (nI tp) (nI tl) (zb tb) sg ch tr rc ta) s.heap.size = A at hD ⊢
  have hA : ∀ q : Nat, s.heap.size ≤ q → A q := fun q h => by rw [← hAe]; exact Or.inr h
  have hS : va_S A s.heap s.heap [] := va_S.rf
  have hP : va_P D vwCl (wM cI m0 mS mC mT mR mA th (nI L) (nI C) (nI rl) (nI bg) (nI st) mk (zb on) (nI tp) (nI tl) (zb tb) sg ch tr rc ta) s.heap := hP
  have hl := lv_entry ([.ref m0, .int c0]) (n := 2) (Nat.le_of_ble_eq_true rfl)
  rw [lg_entry_eq]
  generalize (lg_sl ([.ref m0, .int c0]) ++ List.replicate (2 - (lg_sl ([.ref m0, .int c0])).length) Slot.unset).toArray = ls at hl ⊢
  have hl : lv_has ls 2 [(0, .ref m0), (1, .int c0)] := hl
  refine lv_aload_n hx hb dX3_sign_0 rfl (lv_at hl 0 rfl) ?_
  refine lv_iconst (v := 0) hx hb dX3_sign_1 (by decide +kernel) ?_
  refine va_put (D := D) (ci := 4) (v := .int 0) (ty := .int) (C := RX3) (T := TX3) (N := 16) hx hb hts hinX3 tyX3 tyX3_ok nmX3 hown hK.1 hP hD hS 0 rfl rfl 0 (by decide) (hts (.fieldLink RX3 33 "PrinterRowsModel" "thrown" "I") (by decide +kernel)) (fun _ h9 => h9) rfl (by decide +kernel) rfl rfl (Nat.le_of_ble_eq_true rfl) dX3_sign_2 (fun H locs hP hD hS => ?_)
  have hP : va_P D vwCl (wM cI m0 mS mC mT mR mA 0 (nI L) (nI C) (nI rl) (nI bg) (nI st) mk (zb on) (nI tp) (nI tl) (zb tb) sg ch tr rc ta) H := hP
  have hD : va_D A (wM cI m0 mS mC mT mR mA 0 (nI L) (nI C) (nI rl) (nI bg) (nI st) mk (zb on) (nI tp) (nI tl) (zb tb) sg ch tr rc ta) := hD
  refine lv_aload_n hx hb dX3_sign_5 rfl (lv_at hl 0 rfl) ?_
  refine va_get (D := D) (ci := 4) (v := .int (nI rl)) (C := RX3) (T := TX3) (N := 16) hx hb hts hinX3 hown hK.1 hP 0 rfl rfl 8 (by decide) (hts (.fieldLink RX3 36 "PrinterRowsModel" "length" "I") (by decide +kernel)) (fun _ h9 => h9) rfl dX3_sign_6 ?_
  refine lv_sipush (v := 200) hx hb dX3_sign_9 (by decide +kernel) ?_
  refine lv_icmp_ne (tgt := 16) hx hb dX3_sign_12 (by decide) (fun c_12 => ?_) (fun c_12 => ?_)
  ·
    have hlt : rl < 200 := by
      by_cases e : rl = 200
      · exact absurd (by rw [e]; rfl) c_12
      · omega
    refine lv_aload_n hx hb dX3_sign_16 rfl (lv_at hl 0 rfl) ?_
    refine va_get (D := D) (ci := 4) (v := .ref mR) (C := RX3) (T := TX3) (N := 16) hx hb hts hinX3 hown hK.1 hP 0 rfl rfl 6 (by decide) (hts (.fieldLink RX3 20 "PrinterRowsModel" "record" "[I") (by decide +kernel)) (fun _ h9 => h9) rfl dX3_sign_17 ?_
    refine lv_aload_n hx hb dX3_sign_20 rfl (lv_at hl 0 rfl) ?_
    refine va_get (D := D) (ci := 4) (v := .int (nI rl)) (C := RX3) (T := TX3) (N := 16) hx hb hts hinX3 hown hK.1 hP 0 rfl rfl 8 (by decide) (hts (.fieldLink RX3 36 "PrinterRowsModel" "length" "I") (by decide +kernel)) (fun _ h9 => h9) rfl dX3_sign_21 ?_
    refine lv_iload_n hx hb dX3_sign_24 rfl (lv_at hl 1 rfl) ?_
    refine lv_sipush (v := 255) hx hb dX3_sign_25 (by decide +kernel) ?_
    refine lv_iand hx hb dX3_sign_28 ?_
    refine lv_bipush (v := 32) hx hb dX3_sign_29 (by decide +kernel) ?_
    refine lv_icmp_ge (tgt := 39) hx hb dX3_sign_31 (by decide) (fun c_31 => ?_) (fun c_31 => ?_)
    ·
      refine lv_iload_n hx hb dX3_sign_39 rfl (lv_at hl 1 rfl) ?_
      refine lv_sipush (v := 255) hx hb dX3_sign_40 (by decide +kernel) ?_
      refine lv_iand hx hb dX3_sign_43 ?_
      refine va_iast hx hb hK.1 hP hD hS 4 0 rfl rfl (vp_in_nI hlt (by decide)) dX3_sign_44 (fun H locs hP hD hS => ?_)
      rw [show (upd rc ((nI rl)).toNatClampNeg (c0 &&& 255)) = (upd rc rl (sgV c0)) from by rw [nI_clamp (by omega), sgV_eq, if_pos c_31]] at hP hD
      have hP : va_P D vwCl (wM cI m0 mS mC mT mR mA 0 (nI L) (nI C) (nI rl) (nI bg) (nI st) mk (zb on) (nI tp) (nI tl) (zb tb) sg ch tr (upd rc rl (sgV c0)) ta) H := hP
      have hD : va_D A (wM cI m0 mS mC mT mR mA 0 (nI L) (nI C) (nI rl) (nI bg) (nI st) mk (zb on) (nI tp) (nI tl) (zb tb) sg ch tr (upd rc rl (sgV c0)) ta) := hD
      refine lv_aload_n hx hb dX3_sign_45 rfl (lv_at hl 0 rfl) ?_
      refine lv_dup hx hb dX3_sign_46 rfl ?_
      refine va_get (D := D) (ci := 4) (v := .int (nI rl)) (C := RX3) (T := TX3) (N := 16) hx hb hts hinX3 hown hK.1 hP 0 rfl rfl 8 (by decide) (hts (.fieldLink RX3 36 "PrinterRowsModel" "length" "I") (by decide +kernel)) (fun _ h9 => h9) rfl dX3_sign_47 ?_
      refine lv_iconst (v := 1) hx hb dX3_sign_50 (by decide +kernel) ?_
      refine lv_iadd hx hb dX3_sign_51 ?_
      refine lv_topi (fun x_51 ex_51 => ?_)
      obtain rfl : x_51 = nI (rl + 1) := ex_51.trans (nI_1 rl)
      refine va_put (D := D) (ci := 4) (v := .int (nI (rl + 1))) (ty := .int) (C := RX3) (T := TX3) (N := 16) hx hb hts hinX3 tyX3 tyX3_ok nmX3 hown hK.1 hP hD hS 0 rfl rfl 8 (by decide) (hts (.fieldLink RX3 36 "PrinterRowsModel" "length" "I") (by decide +kernel)) (fun _ h9 => h9) rfl (by decide +kernel) rfl rfl (Nat.le_of_ble_eq_true rfl) dX3_sign_52 (fun H locs hP hD hS => ?_)
      have hP : va_P D vwCl (wM cI m0 mS mC mT mR mA 0 (nI L) (nI C) (nI (rl + 1)) (nI bg) (nI st) mk (zb on) (nI tp) (nI tl) (zb tb) sg ch tr (upd rc rl (sgV c0)) ta) H := hP
      have hD : va_D A (wM cI m0 mS mC mT mR mA 0 (nI L) (nI C) (nI (rl + 1)) (nI bg) (nI st) mk (zb on) (nI tp) (nI tl) (zb tb) sg ch tr (upd rc rl (sgV c0)) ta) := hD
      exact W.vret hx hb hr (fun t ht hW => ⟨⟨(upd rc rl (sgV c0), rl + 1), rfl, by rw [sgC, sgL, if_pos hlt, if_pos hlt], by rw [ht]; exact hP, hD⟩, hS.F ht⟩) hS.2.2 dX3_sign_55
    ·
      refine lv_bipush (v := 32) hx hb dX3_sign_34 (by decide +kernel) ?_
      refine lv_goto (tgt := 44) hx hb dX3_sign_36 (by decide) ?_
      refine va_iast hx hb hK.1 hP hD hS 4 0 rfl rfl (vp_in_nI hlt (by decide)) dX3_sign_44 (fun H locs hP hD hS => ?_)
      rw [show (upd rc ((nI rl)).toNatClampNeg 32) = (upd rc rl (sgV c0)) from by rw [nI_clamp (by omega), sgV_eq, if_neg c_31]] at hP hD
      have hP : va_P D vwCl (wM cI m0 mS mC mT mR mA 0 (nI L) (nI C) (nI rl) (nI bg) (nI st) mk (zb on) (nI tp) (nI tl) (zb tb) sg ch tr (upd rc rl (sgV c0)) ta) H := hP
      have hD : va_D A (wM cI m0 mS mC mT mR mA 0 (nI L) (nI C) (nI rl) (nI bg) (nI st) mk (zb on) (nI tp) (nI tl) (zb tb) sg ch tr (upd rc rl (sgV c0)) ta) := hD
      refine lv_aload_n hx hb dX3_sign_45 rfl (lv_at hl 0 rfl) ?_
      refine lv_dup hx hb dX3_sign_46 rfl ?_
      refine va_get (D := D) (ci := 4) (v := .int (nI rl)) (C := RX3) (T := TX3) (N := 16) hx hb hts hinX3 hown hK.1 hP 0 rfl rfl 8 (by decide) (hts (.fieldLink RX3 36 "PrinterRowsModel" "length" "I") (by decide +kernel)) (fun _ h9 => h9) rfl dX3_sign_47 ?_
      refine lv_iconst (v := 1) hx hb dX3_sign_50 (by decide +kernel) ?_
      refine lv_iadd hx hb dX3_sign_51 ?_
      refine lv_topi (fun x_51 ex_51 => ?_)
      obtain rfl : x_51 = nI (rl + 1) := ex_51.trans (nI_1 rl)
      refine va_put (D := D) (ci := 4) (v := .int (nI (rl + 1))) (ty := .int) (C := RX3) (T := TX3) (N := 16) hx hb hts hinX3 tyX3 tyX3_ok nmX3 hown hK.1 hP hD hS 0 rfl rfl 8 (by decide) (hts (.fieldLink RX3 36 "PrinterRowsModel" "length" "I") (by decide +kernel)) (fun _ h9 => h9) rfl (by decide +kernel) rfl rfl (Nat.le_of_ble_eq_true rfl) dX3_sign_52 (fun H locs hP hD hS => ?_)
      have hP : va_P D vwCl (wM cI m0 mS mC mT mR mA 0 (nI L) (nI C) (nI (rl + 1)) (nI bg) (nI st) mk (zb on) (nI tp) (nI tl) (zb tb) sg ch tr (upd rc rl (sgV c0)) ta) H := hP
      have hD : va_D A (wM cI m0 mS mC mT mR mA 0 (nI L) (nI C) (nI (rl + 1)) (nI bg) (nI st) mk (zb on) (nI tp) (nI tl) (zb tb) sg ch tr (upd rc rl (sgV c0)) ta) := hD
      exact W.vret hx hb hr (fun t ht hW => ⟨⟨(upd rc rl (sgV c0), rl + 1), rfl, by rw [sgC, sgL, if_pos hlt, if_pos hlt], by rw [ht]; exact hP, hD⟩, hS.F ht⟩) hS.2.2 dX3_sign_55
  ·
    have hge : ¬ rl < 200 := fun h9 => by have := (nI_eq (a := rl) (b := 200) (by omega) (by decide)).mp c_12; omega
    exact W.vret hx hb hr (fun t ht hW => ⟨⟨(rc, rl), rfl, by rw [sgC, sgL, if_neg hge, if_neg hge], by rw [ht]; exact hP, hD⟩, hS.F ht⟩) hS.2.2 dX3_sign_15

set_option maxHeartbeats 1000000 in
set_option maxRecDepth 100000 in
theorem c_X3_over (l : Launch) {D : va_G} {cI cP cR cJ : ClassId} {m0 mS mC mT mR mA L C rl bg st tp tl : Nat} {on tb : Bool} {th mk : Int32} {sg ch tr rc ta : Nat → Int32} {sz : Nat} (a0 b0 : Int32) : Met l yX3_over wsX3_over ({ frames := 1, cells := 0, slots := 0, locals := 21 }) (mu [.ref m0, .int a0, .int b0] D cI cP cR cJ (wM cI m0 mS mC mT mR mA th (nI L) (nI C) (nI rl) (nI bg) (nI st) mk (zb on) (nI tp) (nI tl) (zb tb) sg ch tr rc ta) sz) (qi D (fun (r : Int32) (_ : Unit) => r = ovR a0 b0) (fun _ : Unit => wM cI m0 mS mC mT mR mA 0 (nI L) (nI C) (nI rl) (nI bg) (nI st) mk (zb on) (nI tp) (nI tl) (zb tb) sg ch tr rc ta) (va_A (wM cI m0 mS mC mT mR mA th (nI L) (nI C) (nI rl) (nI bg) (nI st) mk (zb on) (nI tp) (nI tl) (zb tb) sg ch tr rc ta) sz)) 0 0 (va_A (wM cI m0 mS mC mT mR mA th (nI L) (nI C) (nI rl) (nI bg) (nI st) mk (zb on) (nI tp) (nI tl) (zb tb) sg ch tr rc ta) sz) := by
  refine Met.ofW (cc := cX3_over) (maxL := 3) (ret := (some .int)) (by decide) rfl ?_
  intro p e s m args below meth c s₁ B hml hv
  obtain ⟨rfl, hsz, hP, hK, hD0⟩ := hv
  have hx := B.exec
  have hb := B.bytes
  have hr := B.returns
  have hts := atoms_spec (ws := wsX3_over) B.pre
  have hown : s.vm.findClass RX3 = some m.cls := findClass_of_methodNamed B.named
  have hlocks := B.notSynchronized
  have hinX3 : ∀ w ∈ wsX30, w ∈ wsX3_over := by decide +kernel
  subst hsz
  have hD := hD0.self (sz := s.heap.size)
  generalize hAe : va_A (wM cI m0 mS mC mT mR mA th (nI L) (nI C) (nI rl) (nI bg) (nI st) mk (zb on) (nI tp) (nI tl) (zb tb) sg ch tr rc ta) s.heap.size = A at hD ⊢
  have hA : ∀ q : Nat, s.heap.size ≤ q → A q := fun q h => by rw [← hAe]; exact Or.inr h
  have hS : va_S A s.heap s.heap [] := va_S.rf
  have hP : va_P D vwCl (wM cI m0 mS mC mT mR mA th (nI L) (nI C) (nI rl) (nI bg) (nI st) mk (zb on) (nI tp) (nI tl) (zb tb) sg ch tr rc ta) s.heap := hP
  have hl := lv_entry ([.ref m0, .int a0, .int b0]) (n := 3) (Nat.le_of_ble_eq_true rfl)
  rw [lg_entry_eq]
  generalize (lg_sl ([.ref m0, .int a0, .int b0]) ++ List.replicate (3 - (lg_sl ([.ref m0, .int a0, .int b0])).length) Slot.unset).toArray = ls at hl ⊢
  have hl : lv_has ls 3 [(0, .ref m0), (1, .int a0), (2, .int b0)] := hl
  refine lv_aload_n hx hb dX3_over_0 rfl (lv_at hl 0 rfl) ?_
  refine lv_iconst (v := 0) hx hb dX3_over_1 (by decide +kernel) ?_
  refine va_put (D := D) (ci := 4) (v := .int 0) (ty := .int) (C := RX3) (T := TX3) (N := 16) hx hb hts hinX3 tyX3 tyX3_ok nmX3 hown hK.1 hP hD hS 0 rfl rfl 0 (by decide) (hts (.fieldLink RX3 33 "PrinterRowsModel" "thrown" "I") (by decide +kernel)) (fun _ h9 => h9) rfl (by decide +kernel) rfl rfl (Nat.le_of_ble_eq_true rfl) dX3_over_2 (fun H locs hP hD hS => ?_)
  have hP : va_P D vwCl (wM cI m0 mS mC mT mR mA 0 (nI L) (nI C) (nI rl) (nI bg) (nI st) mk (zb on) (nI tp) (nI tl) (zb tb) sg ch tr rc ta) H := hP
  have hD : va_D A (wM cI m0 mS mC mT mR mA 0 (nI L) (nI C) (nI rl) (nI bg) (nI st) mk (zb on) (nI tp) (nI tl) (zb tb) sg ch tr rc ta) := hD
  refine lv_iload_n hx hb dX3_over_5 rfl (lv_at hl 1 rfl) ?_
  refine vp_callSi (W.runS (As := [.int a0]) (rest := []) ⟨hx, hb, hml, hown, hts⟩ (c_X3_isSign l (a0)) (va_cwS 1 hts gX3_over_X3_isSign rfl rfl rfl (by decide +kernel) ⟨(Nat.le_of_ble_eq_true rfl), (Nat.le_of_ble_eq_true rfl)⟩) pu_pre rfl rfl hl.1 rfl (lv_room (Nat.le_of_ble_eq_true rfl)) dX3_over_6 ⟨(Nat.le_of_ble_eq_true rfl), (Nat.le_of_ble_eq_true rfl)⟩) (fun r_6 w_6 => ?_)
  subst w_6
  refine lv_if_eq (tgt := 27) hx hb dX3_over_9 (by decide) (fun c_9 => ?_) (fun c_9 => ?_)
  ·
    refine lv_iconst (v := (-1)) hx hb dX3_over_27 (by decide +kernel) ?_
    exact W.iret (v := (-1)) hx hb hr (fun t ht hW => ⟨⟨_, (), rfl, by rw [ovR, if_pos c_9], by rw [ht]; exact hP, hD⟩, hS.F ht⟩) hS.2.2 dX3_over_28
  ·
    refine lv_iload_n hx hb dX3_over_12 rfl (lv_at hl 2 rfl) ?_
    refine vp_callSi (W.runS (As := [.int b0]) (rest := []) ⟨hx, hb, hml, hown, hts⟩ (c_X3_isSign l (b0)) (va_cwS 1 hts gX3_over_X3_isSign rfl rfl rfl (by decide +kernel) ⟨(Nat.le_of_ble_eq_true rfl), (Nat.le_of_ble_eq_true rfl)⟩) pu_pre rfl rfl hl.1 rfl (lv_room (Nat.le_of_ble_eq_true rfl)) dX3_over_13 ⟨(Nat.le_of_ble_eq_true rfl), (Nat.le_of_ble_eq_true rfl)⟩) (fun r_13 w_13 => ?_)
    subst w_13
    refine lv_if_eq (tgt := 27) hx hb dX3_over_16 (by decide) (fun c_16 => ?_) (fun c_16 => ?_)
    ·
      refine lv_iconst (v := (-1)) hx hb dX3_over_27 (by decide +kernel) ?_
      exact W.iret (v := (-1)) hx hb hr (fun t ht hW => ⟨⟨_, (), rfl, by rw [ovR, if_neg c_9, if_neg (fun h9 => h9 c_16)], by rw [ht]; exact hP, hD⟩, hS.F ht⟩) hS.2.2 dX3_over_28
    ·
      refine lv_iload_n hx hb dX3_over_19 rfl (lv_at hl 1 rfl) ?_
      refine lv_iload_n hx hb dX3_over_20 rfl (lv_at hl 2 rfl) ?_
      refine vp_callSi (W.runS (As := [.int a0, .int b0]) (rest := []) ⟨hx, hb, hml, hown, hts⟩ (c_X3_darker l (a0) (b0)) (va_cwS 2 hts gX3_over_X3_darker rfl rfl rfl (by decide +kernel) ⟨(Nat.le_of_ble_eq_true rfl), (Nat.le_of_ble_eq_true rfl)⟩) pu_pre rfl rfl hl.1 rfl (lv_room (Nat.le_of_ble_eq_true rfl)) dX3_over_21 ⟨(Nat.le_of_ble_eq_true rfl), (Nat.le_of_ble_eq_true rfl)⟩) (fun r_21 w_21 => ?_)
      subst w_21
      refine lv_goto (tgt := 28) hx hb dX3_over_24 (by decide) ?_
      exact W.iret (v := (mx a0 b0)) hx hb hr (fun t ht hW => ⟨⟨_, (), rfl, by rw [ovR, if_neg c_9, if_pos c_16], by rw [ht]; exact hP, hD⟩, hS.F ht⟩) hS.2.2 dX3_over_28

set_option maxHeartbeats 1000000 in
set_option maxRecDepth 100000 in
theorem c_X3_translate (l : Launch) {D : va_G} {cI cP cR cJ : ClassId} {m0 mS mC mT mR mA L C rl bg st tp tl : Nat} {on tb : Bool} {th mk : Int32} {sg ch tr rc ta : Nat → Int32} {sz : Nat} (c0 t0 : Int32) : Met l yX3_translate wsX3_translate ({ frames := 1, cells := 0, slots := 0, locals := 20 }) (mu [.ref m0, .int c0, .int t0] D cI cP cR cJ (wM cI m0 mS mC mT mR mA th (nI L) (nI C) (nI rl) (nI bg) (nI st) mk (zb on) (nI tp) (nI tl) (zb tb) sg ch tr rc ta) sz) (qi D (fun (r : Int32) (u : Nat → Int32) => r = trR tr c0 t0 ∧ u = trN tr c0 t0) (fun u : Nat → Int32 => wM cI m0 mS mC mT mR mA 0 (nI L) (nI C) (nI rl) (nI bg) (nI st) mk (zb on) (nI tp) (nI tl) (zb tb) sg ch u rc ta) (va_A (wM cI m0 mS mC mT mR mA th (nI L) (nI C) (nI rl) (nI bg) (nI st) mk (zb on) (nI tp) (nI tl) (zb tb) sg ch tr rc ta) sz)) 0 0 (va_A (wM cI m0 mS mC mT mR mA th (nI L) (nI C) (nI rl) (nI bg) (nI st) mk (zb on) (nI tp) (nI tl) (zb tb) sg ch tr rc ta) sz) := by
  refine Met.ofW (cc := cX3_translate) (maxL := 4) (ret := (some .int)) (by decide) rfl ?_
  intro p e s m args below meth c s₁ B hml hv
  obtain ⟨rfl, hsz, hP, hK, hD0⟩ := hv
  have hx := B.exec
  have hb := B.bytes
  have hr := B.returns
  have hts := atoms_spec (ws := wsX3_translate) B.pre
  have hown : s.vm.findClass RX3 = some m.cls := findClass_of_methodNamed B.named
  have hlocks := B.notSynchronized
  have hinX3 : ∀ w ∈ wsX30, w ∈ wsX3_translate := by decide +kernel
  subst hsz
  have hD := hD0.self (sz := s.heap.size)
  generalize hAe : va_A (wM cI m0 mS mC mT mR mA th (nI L) (nI C) (nI rl) (nI bg) (nI st) mk (zb on) (nI tp) (nI tl) (zb tb) sg ch tr rc ta) s.heap.size = A at hD ⊢
  have hA : ∀ q : Nat, s.heap.size ≤ q → A q := fun q h => by rw [← hAe]; exact Or.inr h
  have hS : va_S A s.heap s.heap [] := va_S.rf
  have hP : va_P D vwCl (wM cI m0 mS mC mT mR mA th (nI L) (nI C) (nI rl) (nI bg) (nI st) mk (zb on) (nI tp) (nI tl) (zb tb) sg ch tr rc ta) s.heap := hP
  have hl := lv_entry ([.ref m0, .int c0, .int t0]) (n := 4) (Nat.le_of_ble_eq_true rfl)
  rw [lg_entry_eq]
  generalize (lg_sl ([.ref m0, .int c0, .int t0]) ++ List.replicate (4 - (lg_sl ([.ref m0, .int c0, .int t0])).length) Slot.unset).toArray = ls at hl ⊢
  have hl : lv_has ls 4 [(0, .ref m0), (1, .int c0), (2, .int t0)] := hl
  refine lv_aload_n hx hb dX3_translate_0 rfl (lv_at hl 0 rfl) ?_
  refine lv_iconst (v := 0) hx hb dX3_translate_1 (by decide +kernel) ?_
  refine va_put (D := D) (ci := 4) (v := .int 0) (ty := .int) (C := RX3) (T := TX3) (N := 16) hx hb hts hinX3 tyX3 tyX3_ok nmX3 hown hK.1 hP hD hS 0 rfl rfl 0 (by decide) (hts (.fieldLink RX3 33 "PrinterRowsModel" "thrown" "I") (by decide +kernel)) (fun _ h9 => h9) rfl (by decide +kernel) rfl rfl (Nat.le_of_ble_eq_true rfl) dX3_translate_2 (fun H locs hP hD hS => ?_)
  have hP : va_P D vwCl (wM cI m0 mS mC mT mR mA 0 (nI L) (nI C) (nI rl) (nI bg) (nI st) mk (zb on) (nI tp) (nI tl) (zb tb) sg ch tr rc ta) H := hP
  have hD : va_D A (wM cI m0 mS mC mT mR mA 0 (nI L) (nI C) (nI rl) (nI bg) (nI st) mk (zb on) (nI tp) (nI tl) (zb tb) sg ch tr rc ta) := hD
  refine lv_iload_n hx hb dX3_translate_5 rfl (lv_at hl 1 rfl) ?_
  refine vp_callSi (W.runS (As := [.int c0]) (rest := []) ⟨hx, hb, hml, hown, hts⟩ (c_X3_isSign l (c0)) (va_cwS 1 hts gX3_translate_X3_isSign rfl rfl rfl (by decide +kernel) ⟨(Nat.le_of_ble_eq_true rfl), (Nat.le_of_ble_eq_true rfl)⟩) pu_pre rfl rfl hl.1 rfl (lv_room (Nat.le_of_ble_eq_true rfl)) dX3_translate_6 ⟨(Nat.le_of_ble_eq_true rfl), (Nat.le_of_ble_eq_true rfl)⟩) (fun r_6 w_6 => ?_)
  subst w_6
  refine lv_if_eq (tgt := 19) hx hb dX3_translate_9 (by decide) (fun c_9 => ?_) (fun c_9 => ?_)
  ·
    refine lv_iconst (v := (-1)) hx hb dX3_translate_19 (by decide +kernel) ?_
    exact W.iret (v := (-1)) hx hb hr (fun t ht hW => ⟨⟨_, tr, rfl, ⟨by simp [trR, okt, c_9], by simp [trN, okt, c_9]⟩, by rw [ht]; exact hP, hD⟩, hS.F ht⟩) hS.2.2 dX3_translate_20
  ·
    refine lv_iload_n hx hb dX3_translate_12 rfl (lv_at hl 2 rfl) ?_
    refine vp_callSi (W.runS (As := [.int t0]) (rest := []) ⟨hx, hb, hml, hown, hts⟩ (c_X3_isSign l (t0)) (va_cwS 1 hts gX3_translate_X3_isSign rfl rfl rfl (by decide +kernel) ⟨(Nat.le_of_ble_eq_true rfl), (Nat.le_of_ble_eq_true rfl)⟩) pu_pre rfl rfl hl.1 rfl (lv_room (Nat.le_of_ble_eq_true rfl)) dX3_translate_13 ⟨(Nat.le_of_ble_eq_true rfl), (Nat.le_of_ble_eq_true rfl)⟩) (fun r_13 w_13 => ?_)
    subst w_13
    refine lv_if_ne (tgt := 21) hx hb dX3_translate_16 (by decide) (fun c_16 => ?_) (fun c_16 => ?_)
    ·
      refine lv_aload_n hx hb dX3_translate_21 rfl (lv_at hl 0 rfl) ?_
      refine va_get (D := D) (ci := 4) (v := .ref mT) (C := RX3) (T := TX3) (N := 16) hx hb hts hinX3 hown hK.1 hP 0 rfl rfl 5 (by decide) (hts (.fieldLink RX3 17 "PrinterRowsModel" "table" "[I") (by decide +kernel)) (fun _ h9 => h9) rfl dX3_translate_22 ?_
      refine lv_iload_n hx hb dX3_translate_25 rfl (lv_at hl 1 rfl) ?_
      refine va_iald hx hb hK.1 hP 3 0 rfl rfl (isSg_in c_9) dX3_translate_26 ?_
      refine lv_istore_n (lv' := [(3, .int (tr (c0).toNatClampNeg)), (0, .ref m0), (1, .int c0), (2, .int t0)]) hx hb dX3_translate_27 rfl hl (by decide) rfl (fun ls hl => ?_)
      refine lv_aload_n hx hb dX3_translate_28 rfl (lv_at hl 1 rfl) ?_
      refine va_get (D := D) (ci := 4) (v := .ref mT) (C := RX3) (T := TX3) (N := 16) hx hb hts hinX3 hown hK.1 hP 0 rfl rfl 5 (by decide) (hts (.fieldLink RX3 17 "PrinterRowsModel" "table" "[I") (by decide +kernel)) (fun _ h9 => h9) rfl dX3_translate_29 ?_
      refine lv_iload_n hx hb dX3_translate_32 rfl (lv_at hl 2 rfl) ?_
      refine lv_iload_n hx hb dX3_translate_33 rfl (lv_at hl 3 rfl) ?_
      refine va_iast hx hb hK.1 hP hD hS 3 0 rfl rfl (isSg_in c_9) dX3_translate_34 (fun H locs hP hD hS => ?_)
      have hP : va_P D vwCl (wM cI m0 mS mC mT mR mA 0 (nI L) (nI C) (nI rl) (nI bg) (nI st) mk (zb on) (nI tp) (nI tl) (zb tb) sg ch (upd tr (c0).toNatClampNeg t0) rc ta) H := hP
      have hD : va_D A (wM cI m0 mS mC mT mR mA 0 (nI L) (nI C) (nI rl) (nI bg) (nI st) mk (zb on) (nI tp) (nI tl) (zb tb) sg ch (upd tr (c0).toNatClampNeg t0) rc ta) := hD
      refine lv_iload_n hx hb dX3_translate_35 rfl (lv_at hl 0 rfl) ?_
      exact W.iret (v := (tr (c0).toNatClampNeg)) hx hb hr (fun t ht hW => ⟨⟨_, _, rfl, ⟨by simp [trR, okt, c_9, c_16], by simp [trN, okt, c_9, c_16]⟩, by rw [ht]; exact hP, hD⟩, hS.F ht⟩) hS.2.2 dX3_translate_36
    ·
      refine lv_iconst (v := (-1)) hx hb dX3_translate_19 (by decide +kernel) ?_
      exact W.iret (v := (-1)) hx hb hr (fun t ht hW => ⟨⟨_, tr, rfl, ⟨by simp [trR, okt, c_9, c_16], by simp [trN, okt, c_9, c_16]⟩, by rw [ht]; exact hP, hD⟩, hS.F ht⟩) hS.2.2 dX3_translate_20

set_option maxHeartbeats 1000000 in
set_option maxRecDepth 100000 in
theorem c_X3_end (l : Launch) {D : va_G} {cI cP cR cJ : ClassId} {m0 mS mC mT mR mA L C rl bg st tp tl : Nat} {on tb : Bool} {th mk : Int32} {sg ch tr rc ta : Nat → Int32} {sz : Nat} : Met l yX3_end wsX3_end ({ frames := 1, cells := 0, slots := 0, locals := 20 }) (mu [.ref m0] D cI cP cR cJ (wM cI m0 mS mC mT mR mA th (nI L) (nI C) (nI rl) (nI bg) (nI st) mk (zb on) (nI tp) (nI tl) (zb tb) sg ch tr rc ta) sz) (qi D (fun (r : Int32) (_ : Unit) => r = nI bg) (fun _ : Unit => wM cI m0 mS mC mT mR mA 0 (nI L) (nI C) (nI rl) (nI bg) (nI 0) mk (zb false) (nI tp) (nI tl) (zb tb) sg ch tr rc ta) (va_A (wM cI m0 mS mC mT mR mA th (nI L) (nI C) (nI rl) (nI bg) (nI st) mk (zb on) (nI tp) (nI tl) (zb tb) sg ch tr rc ta) sz)) 0 0 (va_A (wM cI m0 mS mC mT mR mA th (nI L) (nI C) (nI rl) (nI bg) (nI st) mk (zb on) (nI tp) (nI tl) (zb tb) sg ch tr rc ta) sz) := by
  refine Met.ofW (cc := cX3_end) (maxL := 1) (ret := (some .int)) (by decide) rfl ?_
  intro p e s m args below meth c s₁ B hml hv
  obtain ⟨rfl, hsz, hP, hK, hD0⟩ := hv
  have hx := B.exec
  have hb := B.bytes
  have hr := B.returns
  have hts := atoms_spec (ws := wsX3_end) B.pre
  have hown : s.vm.findClass RX3 = some m.cls := findClass_of_methodNamed B.named
  have hlocks := B.notSynchronized
  have hinX3 : ∀ w ∈ wsX30, w ∈ wsX3_end := by decide +kernel
  subst hsz
  have hD := hD0.self (sz := s.heap.size)
  generalize hAe : va_A (wM cI m0 mS mC mT mR mA th (nI L) (nI C) (nI rl) (nI bg) (nI st) mk (zb on) (nI tp) (nI tl) (zb tb) sg ch tr rc ta) s.heap.size = A at hD ⊢
  have hA : ∀ q : Nat, s.heap.size ≤ q → A q := fun q h => by rw [← hAe]; exact Or.inr h
  have hS : va_S A s.heap s.heap [] := va_S.rf
  have hP : va_P D vwCl (wM cI m0 mS mC mT mR mA th (nI L) (nI C) (nI rl) (nI bg) (nI st) mk (zb on) (nI tp) (nI tl) (zb tb) sg ch tr rc ta) s.heap := hP
  have hl := lv_entry ([.ref m0]) (n := 1) (Nat.le_of_ble_eq_true rfl)
  rw [lg_entry_eq]
  generalize (lg_sl ([.ref m0]) ++ List.replicate (1 - (lg_sl ([.ref m0])).length) Slot.unset).toArray = ls at hl ⊢
  have hl : lv_has ls 1 [(0, .ref m0)] := hl
  refine lv_aload_n hx hb dX3_end_0 rfl (lv_at hl 0 rfl) ?_
  refine lv_iconst (v := 0) hx hb dX3_end_1 (by decide +kernel) ?_
  refine va_put (D := D) (ci := 4) (v := .int 0) (ty := .int) (C := RX3) (T := TX3) (N := 16) hx hb hts hinX3 tyX3 tyX3_ok nmX3 hown hK.1 hP hD hS 0 rfl rfl 0 (by decide) (hts (.fieldLink RX3 33 "PrinterRowsModel" "thrown" "I") (by decide +kernel)) (fun _ h9 => h9) rfl (by decide +kernel) rfl rfl (Nat.le_of_ble_eq_true rfl) dX3_end_2 (fun H locs hP hD hS => ?_)
  have hP : va_P D vwCl (wM cI m0 mS mC mT mR mA 0 (nI L) (nI C) (nI rl) (nI bg) (nI st) mk (zb on) (nI tp) (nI tl) (zb tb) sg ch tr rc ta) H := hP
  have hD : va_D A (wM cI m0 mS mC mT mR mA 0 (nI L) (nI C) (nI rl) (nI bg) (nI st) mk (zb on) (nI tp) (nI tl) (zb tb) sg ch tr rc ta) := hD
  refine lv_aload_n hx hb dX3_end_5 rfl (lv_at hl 0 rfl) ?_
  refine callQv (va_runV (As := []) (rest := []) ⟨hx, hb, hml, hown, hts⟩ (c_X3_pass l) (cwV 0 hts gX3_end_X3_pass rfl rfl rfl (by decide +kernel) ⟨(Nat.le_of_ble_eq_true rfl), (Nat.le_of_ble_eq_true rfl)⟩) (mu_pre hK hP hD rfl 0 rfl) rfl rfl hl.1 rfl (lv_room (Nat.le_of_ble_eq_true rfl)) dX3_end_6 ⟨(Nat.le_of_ble_eq_true rfl), (Nat.le_of_ble_eq_true rfl)⟩) hD hS hA (fun u_6 H locs w_6 hP hD hS => ?_)
  have hP : va_P D vwCl (wM cI m0 mS mC mT mR mA 0 (nI L) (nI C) (nI rl) (nI bg) (nI 0) mk (zb false) (nI tp) (nI tl) (zb tb) sg ch tr rc ta) H := hP
  have hD : va_D A (wM cI m0 mS mC mT mR mA 0 (nI L) (nI C) (nI rl) (nI bg) (nI 0) mk (zb false) (nI tp) (nI tl) (zb tb) sg ch tr rc ta) := hD
  refine lv_aload_n hx hb dX3_end_9 rfl (lv_at hl 0 rfl) ?_
  refine va_get (D := D) (ci := 4) (v := .int (nI bg)) (C := RX3) (T := TX3) (N := 16) hx hb hts hinX3 hown hK.1 hP 0 rfl rfl 9 (by decide) (hts (.fieldLink RX3 39 "PrinterRowsModel" "pages" "I") (by decide +kernel)) (fun _ h9 => h9) rfl dX3_end_10 ?_
  exact W.iret (v := (nI bg)) hx hb hr (fun t ht hW => ⟨⟨_, (), rfl, rfl, by rw [ht]; exact hP, hD⟩, hS.F ht⟩) hS.2.2 dX3_end_13

set_option maxHeartbeats 1000000 in
set_option maxRecDepth 100000 in
theorem c_X3_back (l : Launch) {D : va_G} {cI cP cR cJ : ClassId} {m0 mS mC mT mR mA L C rl bg st tp tl : Nat} {on tb : Bool} {th mk : Int32} {sg ch tr rc ta : Nat → Int32} {sz : Nat} (hbg : bg ≤ 40) (n0 : Int32) : Met l yX3_back wsX3_back ({ frames := 1, cells := 0, slots := 0, locals := 20 }) (mu [.ref m0, .int n0] D cI cP cR cJ (wM cI m0 mS mC mT mR mA th (nI L) (nI C) (nI rl) (nI bg) (nI st) mk (zb on) (nI tp) (nI tl) (zb tb) sg ch tr rc ta) sz) (qi D (fun (r : Int32) (u : Nat × Bool × Nat) => r = bkR bg n0 ∧ u.1 = bkB bg n0 ∧ (u.2.1, u.2.2) = (if bkO bg n0 then (false, 0) else (on, st))) (fun u : Nat × Bool × Nat => wM cI m0 mS mC mT mR mA 0 (nI L) (nI C) (nI rl) (nI u.1) (nI u.2.2) mk (zb u.2.1) (nI tp) (nI tl) (zb tb) sg ch tr rc ta) (va_A (wM cI m0 mS mC mT mR mA th (nI L) (nI C) (nI rl) (nI bg) (nI st) mk (zb on) (nI tp) (nI tl) (zb tb) sg ch tr rc ta) sz)) 0 0 (va_A (wM cI m0 mS mC mT mR mA th (nI L) (nI C) (nI rl) (nI bg) (nI st) mk (zb on) (nI tp) (nI tl) (zb tb) sg ch tr rc ta) sz) := by
  refine Met.ofW (cc := cX3_back) (maxL := 2) (ret := (some .int)) (by decide) rfl ?_
  intro p e s m args below meth c s₁ B hml hv
  obtain ⟨rfl, hsz, hP, hK, hD0⟩ := hv
  have hx := B.exec
  have hb := B.bytes
  have hr := B.returns
  have hts := atoms_spec (ws := wsX3_back) B.pre
  have hown : s.vm.findClass RX3 = some m.cls := findClass_of_methodNamed B.named
  have hlocks := B.notSynchronized
  have hinX3 : ∀ w ∈ wsX30, w ∈ wsX3_back := by decide +kernel
  subst hsz
  have hD := hD0.self (sz := s.heap.size)
  generalize hAe : va_A (wM cI m0 mS mC mT mR mA th (nI L) (nI C) (nI rl) (nI bg) (nI st) mk (zb on) (nI tp) (nI tl) (zb tb) sg ch tr rc ta) s.heap.size = A at hD ⊢
  have hA : ∀ q : Nat, s.heap.size ≤ q → A q := fun q h => by rw [← hAe]; exact Or.inr h
  have hS : va_S A s.heap s.heap [] := va_S.rf
  have hP : va_P D vwCl (wM cI m0 mS mC mT mR mA th (nI L) (nI C) (nI rl) (nI bg) (nI st) mk (zb on) (nI tp) (nI tl) (zb tb) sg ch tr rc ta) s.heap := hP
  have hl := lv_entry ([.ref m0, .int n0]) (n := 2) (Nat.le_of_ble_eq_true rfl)
  rw [lg_entry_eq]
  generalize (lg_sl ([.ref m0, .int n0]) ++ List.replicate (2 - (lg_sl ([.ref m0, .int n0])).length) Slot.unset).toArray = ls at hl ⊢
  have hl : lv_has ls 2 [(0, .ref m0), (1, .int n0)] := hl
  refine lv_aload_n hx hb dX3_back_0 rfl (lv_at hl 0 rfl) ?_
  refine lv_iconst (v := 0) hx hb dX3_back_1 (by decide +kernel) ?_
  refine va_put (D := D) (ci := 4) (v := .int 0) (ty := .int) (C := RX3) (T := TX3) (N := 16) hx hb hts hinX3 tyX3 tyX3_ok nmX3 hown hK.1 hP hD hS 0 rfl rfl 0 (by decide) (hts (.fieldLink RX3 33 "PrinterRowsModel" "thrown" "I") (by decide +kernel)) (fun _ h9 => h9) rfl (by decide +kernel) rfl rfl (Nat.le_of_ble_eq_true rfl) dX3_back_2 (fun H locs hP hD hS => ?_)
  have hP : va_P D vwCl (wM cI m0 mS mC mT mR mA 0 (nI L) (nI C) (nI rl) (nI bg) (nI st) mk (zb on) (nI tp) (nI tl) (zb tb) sg ch tr rc ta) H := hP
  have hD : va_D A (wM cI m0 mS mC mT mR mA 0 (nI L) (nI C) (nI rl) (nI bg) (nI st) mk (zb on) (nI tp) (nI tl) (zb tb) sg ch tr rc ta) := hD
  refine lv_iload_n hx hb dX3_back_5 rfl (lv_at hl 1 rfl) ?_
  refine lv_if_lt (tgt := 17) hx hb dX3_back_6 (by decide) (fun c_6 => ?_) (fun c_6 => ?_)
  ·
    refine lv_bipush (v := (-2)) hx hb dX3_back_17 (by decide +kernel) ?_
    exact W.iret (v := (-2)) hx hb hr (fun t ht hW => ⟨⟨_, (bg, on, st), rfl, ⟨by rw [bkR, bkO, if_pos c_6]; rfl, by rw [bkB, bkO, if_pos c_6]; rfl, by rw [bkO, if_pos c_6]; rfl⟩, by rw [ht]; exact hP, hD⟩, hS.F ht⟩) hS.2.2 dX3_back_19
  ·
    refine lv_iload_n hx hb dX3_back_9 rfl (lv_at hl 1 rfl) ?_
    refine lv_aload_n hx hb dX3_back_10 rfl (lv_at hl 0 rfl) ?_
    refine va_get (D := D) (ci := 4) (v := .int (nI bg)) (C := RX3) (T := TX3) (N := 16) hx hb hts hinX3 hown hK.1 hP 0 rfl rfl 9 (by decide) (hts (.fieldLink RX3 39 "PrinterRowsModel" "pages" "I") (by decide +kernel)) (fun _ h9 => h9) rfl dX3_back_11 ?_
    refine lv_icmp_le (tgt := 20) hx hb dX3_back_14 (by decide) (fun c_14 => ?_) (fun c_14 => ?_)
    ·
      obtain ⟨nn, hnn, hn0⟩ := nI_of (x := n0) c_6
      have hnb : nn ≤ bg := by rw [hn0] at c_14; exact (nI_leI (by omega) (by omega)).mp c_14
      have hok : bkO bg n0 = true := by rw [bkO, if_neg c_6, if_pos c_14]
      have hcl : n0.toNatClampNeg = nn := by rw [hn0, nI_clamp (by omega)]
      refine lv_aload_n hx hb dX3_back_20 rfl (lv_at hl 0 rfl) ?_
      refine lv_dup hx hb dX3_back_21 rfl ?_
      refine va_get (D := D) (ci := 4) (v := .int (nI bg)) (C := RX3) (T := TX3) (N := 16) hx hb hts hinX3 hown hK.1 hP 0 rfl rfl 9 (by decide) (hts (.fieldLink RX3 39 "PrinterRowsModel" "pages" "I") (by decide +kernel)) (fun _ h9 => h9) rfl dX3_back_22 ?_
      refine lv_iload_n hx hb dX3_back_25 rfl (lv_at hl 1 rfl) ?_
      refine lv_isub hx hb dX3_back_26 ?_
      refine lv_topi (fun x_26 ex_26 => ?_)
      obtain rfl : x_26 = nI (bg - nn) := ex_26.trans (by rw [hn0]; exact pk_sub hnb)
      refine va_put (D := D) (ci := 4) (v := .int (nI (bg - nn))) (ty := .int) (C := RX3) (T := TX3) (N := 16) hx hb hts hinX3 tyX3 tyX3_ok nmX3 hown hK.1 hP hD hS 0 rfl rfl 9 (by decide) (hts (.fieldLink RX3 39 "PrinterRowsModel" "pages" "I") (by decide +kernel)) (fun _ h9 => h9) rfl (by decide +kernel) rfl rfl (Nat.le_of_ble_eq_true rfl) dX3_back_27 (fun H locs hP hD hS => ?_)
      have hP : va_P D vwCl (wM cI m0 mS mC mT mR mA 0 (nI L) (nI C) (nI rl) (nI (bg - nn)) (nI st) mk (zb on) (nI tp) (nI tl) (zb tb) sg ch tr rc ta) H := hP
      have hD : va_D A (wM cI m0 mS mC mT mR mA 0 (nI L) (nI C) (nI rl) (nI (bg - nn)) (nI st) mk (zb on) (nI tp) (nI tl) (zb tb) sg ch tr rc ta) := hD
      refine lv_aload_n hx hb dX3_back_30 rfl (lv_at hl 0 rfl) ?_
      refine callQv (va_runV (As := []) (rest := []) ⟨hx, hb, hml, hown, hts⟩ (c_X3_pass l) (cwV 0 hts gX3_back_X3_pass rfl rfl rfl (by decide +kernel) ⟨(Nat.le_of_ble_eq_true rfl), (Nat.le_of_ble_eq_true rfl)⟩) (mu_pre hK hP hD rfl 0 rfl) rfl rfl hl.1 rfl (lv_room (Nat.le_of_ble_eq_true rfl)) dX3_back_31 ⟨(Nat.le_of_ble_eq_true rfl), (Nat.le_of_ble_eq_true rfl)⟩) hD hS hA (fun u_31 H locs w_31 hP hD hS => ?_)
      have hP : va_P D vwCl (wM cI m0 mS mC mT mR mA 0 (nI L) (nI C) (nI rl) (nI (bg - nn)) (nI 0) mk (zb false) (nI tp) (nI tl) (zb tb) sg ch tr rc ta) H := hP
      have hD : va_D A (wM cI m0 mS mC mT mR mA 0 (nI L) (nI C) (nI rl) (nI (bg - nn)) (nI 0) mk (zb false) (nI tp) (nI tl) (zb tb) sg ch tr rc ta) := hD
      refine lv_aload_n hx hb dX3_back_34 rfl (lv_at hl 0 rfl) ?_
      refine va_get (D := D) (ci := 4) (v := .int (nI (bg - nn))) (C := RX3) (T := TX3) (N := 16) hx hb hts hinX3 hown hK.1 hP 0 rfl rfl 9 (by decide) (hts (.fieldLink RX3 39 "PrinterRowsModel" "pages" "I") (by decide +kernel)) (fun _ h9 => h9) rfl dX3_back_35 ?_
      exact W.iret (v := (nI (bg - nn))) hx hb hr (fun t ht hW => ⟨⟨_, (bg - nn, false, 0), rfl, ⟨by rw [bkR, hok, hcl]; rfl, by rw [bkB, hok, hcl]; rfl, by rw [hok]; rfl⟩, by rw [ht]; exact hP, hD⟩, hS.F ht⟩) hS.2.2 dX3_back_38
    ·
      refine lv_bipush (v := (-2)) hx hb dX3_back_17 (by decide +kernel) ?_
      exact W.iret (v := (-2)) hx hb hr (fun t ht hW => ⟨⟨_, (bg, on, st), rfl, ⟨by rw [bkR, bkO, if_neg c_6, if_neg c_14]; rfl, by rw [bkB, bkO, if_neg c_6, if_neg c_14]; rfl, by rw [bkO, if_neg c_6, if_neg c_14]; rfl⟩, by rw [ht]; exact hP, hD⟩, hS.F ht⟩) hS.2.2 dX3_back_19

set_option maxHeartbeats 1000000 in
set_option maxRecDepth 100000 in
theorem c_X3_forms (l : Launch) {D : va_G} {cI cP cR cJ : ClassId} {m0 mS mC mT mR mA L C rl bg st tp tl : Nat} {on tb : Bool} {th mk : Int32} {sg ch tr rc ta : Nat → Int32} {sz : Nat} (k0 : Int32) : Met l yX3_forms wsX3_forms ({ frames := 1, cells := 0, slots := 0, locals := 20 }) (mu [.ref m0, .int k0] D cI cP cR cJ (wM cI m0 mS mC mT mR mA th (nI L) (nI C) (nI rl) (nI bg) (nI st) mk (zb on) (nI tp) (nI tl) (zb tb) sg ch tr rc ta) sz) (qi D (fun (r : Int32) (u : Int32 × (Nat → Int32) × Bool × Nat) => r = fmR mk k0 ∧ u = if fmD mk k0 then (k0, upd ta 6 (ta 6 + 1), false, 0) else (mk, ta, on, st)) (fun u : Int32 × (Nat → Int32) × Bool × Nat => wM cI m0 mS mC mT mR mA 0 (nI L) (nI C) (nI rl) (nI bg) (nI u.2.2.2) u.1 (zb u.2.2.1) (nI tp) (nI tl) (zb tb) sg ch tr rc u.2.1) (va_A (wM cI m0 mS mC mT mR mA th (nI L) (nI C) (nI rl) (nI bg) (nI st) mk (zb on) (nI tp) (nI tl) (zb tb) sg ch tr rc ta) sz)) 0 0 (va_A (wM cI m0 mS mC mT mR mA th (nI L) (nI C) (nI rl) (nI bg) (nI st) mk (zb on) (nI tp) (nI tl) (zb tb) sg ch tr rc ta) sz) := by
  refine Met.ofW (cc := cX3_forms) (maxL := 2) (ret := (some .int)) (by decide) rfl ?_
  intro p e s m args below meth c s₁ B hml hv
  obtain ⟨rfl, hsz, hP, hK, hD0⟩ := hv
  have hx := B.exec
  have hb := B.bytes
  have hr := B.returns
  have hts := atoms_spec (ws := wsX3_forms) B.pre
  have hown : s.vm.findClass RX3 = some m.cls := findClass_of_methodNamed B.named
  have hlocks := B.notSynchronized
  have hinX3 : ∀ w ∈ wsX30, w ∈ wsX3_forms := by decide +kernel
  subst hsz
  have hD := hD0.self (sz := s.heap.size)
  generalize hAe : va_A (wM cI m0 mS mC mT mR mA th (nI L) (nI C) (nI rl) (nI bg) (nI st) mk (zb on) (nI tp) (nI tl) (zb tb) sg ch tr rc ta) s.heap.size = A at hD ⊢
  have hA : ∀ q : Nat, s.heap.size ≤ q → A q := fun q h => by rw [← hAe]; exact Or.inr h
  have hS : va_S A s.heap s.heap [] := va_S.rf
  have hP : va_P D vwCl (wM cI m0 mS mC mT mR mA th (nI L) (nI C) (nI rl) (nI bg) (nI st) mk (zb on) (nI tp) (nI tl) (zb tb) sg ch tr rc ta) s.heap := hP
  have hl := lv_entry ([.ref m0, .int k0]) (n := 2) (Nat.le_of_ble_eq_true rfl)
  rw [lg_entry_eq]
  generalize (lg_sl ([.ref m0, .int k0]) ++ List.replicate (2 - (lg_sl ([.ref m0, .int k0])).length) Slot.unset).toArray = ls at hl ⊢
  have hl : lv_has ls 2 [(0, .ref m0), (1, .int k0)] := hl
  refine lv_aload_n hx hb dX3_forms_0 rfl (lv_at hl 0 rfl) ?_
  refine lv_iconst (v := 0) hx hb dX3_forms_1 (by decide +kernel) ?_
  refine va_put (D := D) (ci := 4) (v := .int 0) (ty := .int) (C := RX3) (T := TX3) (N := 16) hx hb hts hinX3 tyX3 tyX3_ok nmX3 hown hK.1 hP hD hS 0 rfl rfl 0 (by decide) (hts (.fieldLink RX3 33 "PrinterRowsModel" "thrown" "I") (by decide +kernel)) (fun _ h9 => h9) rfl (by decide +kernel) rfl rfl (Nat.le_of_ble_eq_true rfl) dX3_forms_2 (fun H locs hP hD hS => ?_)
  have hP : va_P D vwCl (wM cI m0 mS mC mT mR mA 0 (nI L) (nI C) (nI rl) (nI bg) (nI st) mk (zb on) (nI tp) (nI tl) (zb tb) sg ch tr rc ta) H := hP
  have hD : va_D A (wM cI m0 mS mC mT mR mA 0 (nI L) (nI C) (nI rl) (nI bg) (nI st) mk (zb on) (nI tp) (nI tl) (zb tb) sg ch tr rc ta) := hD
  refine lv_iload_n hx hb dX3_forms_5 rfl (lv_at hl 1 rfl) ?_
  refine lv_if_ge (tgt := 12) hx hb dX3_forms_6 (by decide) (fun c_6 => ?_) (fun c_6 => ?_)
  ·
    refine lv_iload_n hx hb dX3_forms_12 rfl (lv_at hl 1 rfl) ?_
    refine lv_aload_n hx hb dX3_forms_13 rfl (lv_at hl 0 rfl) ?_
    refine va_get (D := D) (ci := 4) (v := .int mk) (C := RX3) (T := TX3) (N := 16) hx hb hts hinX3 hown hK.1 hP 0 rfl rfl 11 (by decide) (hts (.fieldLink RX3 96 "PrinterRowsModel" "mounted" "I") (by decide +kernel)) (fun _ h9 => h9) rfl dX3_forms_14 ?_
    refine lv_icmp_ne (tgt := 22) hx hb dX3_forms_17 (by decide) (fun c_17 => ?_) (fun c_17 => ?_)
    ·
      refine lv_aload_n hx hb dX3_forms_22 rfl (lv_at hl 0 rfl) ?_
      refine lv_iload_n hx hb dX3_forms_23 rfl (lv_at hl 1 rfl) ?_
      refine va_put (D := D) (ci := 4) (v := .int k0) (ty := .int) (C := RX3) (T := TX3) (N := 16) hx hb hts hinX3 tyX3 tyX3_ok nmX3 hown hK.1 hP hD hS 0 rfl rfl 11 (by decide) (hts (.fieldLink RX3 96 "PrinterRowsModel" "mounted" "I") (by decide +kernel)) (fun _ h9 => h9) rfl (by decide +kernel) rfl rfl (Nat.le_of_ble_eq_true rfl) dX3_forms_24 (fun H locs hP hD hS => ?_)
      have hP : va_P D vwCl (wM cI m0 mS mC mT mR mA 0 (nI L) (nI C) (nI rl) (nI bg) (nI st) k0 (zb on) (nI tp) (nI tl) (zb tb) sg ch tr rc ta) H := hP
      have hD : va_D A (wM cI m0 mS mC mT mR mA 0 (nI L) (nI C) (nI rl) (nI bg) (nI st) k0 (zb on) (nI tp) (nI tl) (zb tb) sg ch tr rc ta) := hD
      refine lv_aload_n hx hb dX3_forms_27 rfl (lv_at hl 0 rfl) ?_
      refine va_get (D := D) (ci := 4) (v := .ref mA) (C := RX3) (T := TX3) (N := 16) hx hb hts hinX3 hown hK.1 hP 0 rfl rfl 7 (by decide) (hts (.fieldLink RX3 23 "PrinterRowsModel" "tallies" "[I") (by decide +kernel)) (fun _ h9 => h9) rfl dX3_forms_28 ?_
      refine lv_bipush (v := 6) hx hb dX3_forms_31 (by decide +kernel) ?_
      refine lv_dup2_11 hx hb dX3_forms_33 rfl rfl ?_
      refine va_iald hx hb hK.1 hP 5 0 rfl rfl (vp_in_iff.mpr (by decide +kernel)) dX3_forms_34 ?_
      refine lv_topi (fun x_34 ex_34 => ?_)
      obtain rfl : x_34 = (ta 6) := ex_34
      refine lv_iconst (v := 1) hx hb dX3_forms_35 (by decide +kernel) ?_
      refine lv_iadd hx hb dX3_forms_36 ?_
      refine va_iast hx hb hK.1 hP hD hS 5 0 rfl rfl (vp_in_iff.mpr (by decide +kernel)) dX3_forms_37 (fun H locs hP hD hS => ?_)
      rw [show (upd ta (6 : Int32).toNatClampNeg ((ta 6) + 1)) = (upd ta 6 (ta 6 + 1)) from rfl] at hP hD
      have hP : va_P D vwCl (wM cI m0 mS mC mT mR mA 0 (nI L) (nI C) (nI rl) (nI bg) (nI st) k0 (zb on) (nI tp) (nI tl) (zb tb) sg ch tr rc (upd ta 6 (ta 6 + 1))) H := hP
      have hD : va_D A (wM cI m0 mS mC mT mR mA 0 (nI L) (nI C) (nI rl) (nI bg) (nI st) k0 (zb on) (nI tp) (nI tl) (zb tb) sg ch tr rc (upd ta 6 (ta 6 + 1))) := hD
      refine lv_aload_n hx hb dX3_forms_38 rfl (lv_at hl 0 rfl) ?_
      refine callQv (va_runV (As := []) (rest := []) ⟨hx, hb, hml, hown, hts⟩ (c_X3_pass l) (cwV 0 hts gX3_forms_X3_pass rfl rfl rfl (by decide +kernel) ⟨(Nat.le_of_ble_eq_true rfl), (Nat.le_of_ble_eq_true rfl)⟩) (mu_pre hK hP hD rfl 0 rfl) rfl rfl hl.1 rfl (lv_room (Nat.le_of_ble_eq_true rfl)) dX3_forms_39 ⟨(Nat.le_of_ble_eq_true rfl), (Nat.le_of_ble_eq_true rfl)⟩) hD hS hA (fun u_39 H locs w_39 hP hD hS => ?_)
      have hP : va_P D vwCl (wM cI m0 mS mC mT mR mA 0 (nI L) (nI C) (nI rl) (nI bg) (nI 0) k0 (zb false) (nI tp) (nI tl) (zb tb) sg ch tr rc (upd ta 6 (ta 6 + 1))) H := hP
      have hD : va_D A (wM cI m0 mS mC mT mR mA 0 (nI L) (nI C) (nI rl) (nI bg) (nI 0) k0 (zb false) (nI tp) (nI tl) (zb tb) sg ch tr rc (upd ta 6 (ta 6 + 1))) := hD
      refine lv_iconst (v := 2) hx hb dX3_forms_42 (by decide +kernel) ?_
      exact W.iret (v := 2) hx hb hr (fun t ht hW => ⟨⟨_, (k0, upd ta 6 (ta 6 + 1), false, 0), rfl, ⟨by rw [fmR, if_pos c_6, if_neg c_17], by rw [fmD, if_pos c_6, if_neg c_17]; rfl⟩, by rw [ht]; exact hP, hD⟩, hS.F ht⟩) hS.2.2 dX3_forms_43
    ·
      refine lv_iconst (v := 1) hx hb dX3_forms_20 (by decide +kernel) ?_
      exact W.iret (v := 1) hx hb hr (fun t ht hW => ⟨⟨_, (mk, ta, on, st), rfl, ⟨by rw [fmR, if_pos c_6, if_pos c_17], by rw [fmD, if_pos c_6, if_pos c_17]; rfl⟩, by rw [ht]; exact hP, hD⟩, hS.F ht⟩) hS.2.2 dX3_forms_21
  ·
    refine lv_bipush (v := (-2)) hx hb dX3_forms_9 (by decide +kernel) ?_
    exact W.iret (v := (-2)) hx hb hr (fun t ht hW => ⟨⟨_, (mk, ta, on, st), rfl, ⟨by rw [fmR, if_neg c_6], by rw [fmD, if_neg c_6]; rfl⟩, by rw [ht]; exact hP, hD⟩, hS.F ht⟩) hS.2.2 dX3_forms_11

set_option maxHeartbeats 1000000 in
set_option maxRecDepth 100000 in
theorem c_X3_tally (l : Launch) {D : va_G} {cI cP cR cJ : ClassId} {m0 mS mC mT mR mA L C rl bg st tp tl : Nat} {on tb : Bool} {th mk : Int32} {sg ch tr rc ta : Nat → Int32} {sz : Nat} (w0 : Int32) : Met l yX3_tally wsX3_tally ({ frames := 0, cells := 0, slots := 0, locals := 0 }) (mu [.ref m0, .int w0] D cI cP cR cJ (wM cI m0 mS mC mT mR mA th (nI L) (nI C) (nI rl) (nI bg) (nI st) mk (zb on) (nI tp) (nI tl) (zb tb) sg ch tr rc ta) sz) (qi D (fun (r : Int32) (_ : Unit) => r = tlR bg st (ta 2) (ta 3) (ta 4) (ta 5) (ta 6) rl w0) (fun _ : Unit => wM cI m0 mS mC mT mR mA 0 (nI L) (nI C) (nI rl) (nI bg) (nI st) mk (zb on) (nI tp) (nI tl) (zb tb) sg ch tr rc ta) (va_A (wM cI m0 mS mC mT mR mA th (nI L) (nI C) (nI rl) (nI bg) (nI st) mk (zb on) (nI tp) (nI tl) (zb tb) sg ch tr rc ta) sz)) 0 0 (va_A (wM cI m0 mS mC mT mR mA th (nI L) (nI C) (nI rl) (nI bg) (nI st) mk (zb on) (nI tp) (nI tl) (zb tb) sg ch tr rc ta) sz) := by
  refine Met.ofW (cc := cX3_tally) (maxL := 2) (ret := (some .int)) (by decide) rfl ?_
  intro p e s m args below meth c s₁ B hml hv
  obtain ⟨rfl, hsz, hP, hK, hD0⟩ := hv
  have hx := B.exec
  have hb := B.bytes
  have hr := B.returns
  have hts := atoms_spec (ws := wsX3_tally) B.pre
  have hown : s.vm.findClass RX3 = some m.cls := findClass_of_methodNamed B.named
  have hlocks := B.notSynchronized
  have hinX3 : ∀ w ∈ wsX30, w ∈ wsX3_tally := by decide +kernel
  subst hsz
  have hD := hD0.self (sz := s.heap.size)
  generalize hAe : va_A (wM cI m0 mS mC mT mR mA th (nI L) (nI C) (nI rl) (nI bg) (nI st) mk (zb on) (nI tp) (nI tl) (zb tb) sg ch tr rc ta) s.heap.size = A at hD ⊢
  have hA : ∀ q : Nat, s.heap.size ≤ q → A q := fun q h => by rw [← hAe]; exact Or.inr h
  have hS : va_S A s.heap s.heap [] := va_S.rf
  have hP : va_P D vwCl (wM cI m0 mS mC mT mR mA th (nI L) (nI C) (nI rl) (nI bg) (nI st) mk (zb on) (nI tp) (nI tl) (zb tb) sg ch tr rc ta) s.heap := hP
  have hl := lv_entry ([.ref m0, .int w0]) (n := 2) (Nat.le_of_ble_eq_true rfl)
  rw [lg_entry_eq]
  generalize (lg_sl ([.ref m0, .int w0]) ++ List.replicate (2 - (lg_sl ([.ref m0, .int w0])).length) Slot.unset).toArray = ls at hl ⊢
  have hl : lv_has ls 2 [(0, .ref m0), (1, .int w0)] := hl
  refine lv_aload_n hx hb dX3_tally_0 rfl (lv_at hl 0 rfl) ?_
  refine lv_iconst (v := 0) hx hb dX3_tally_1 (by decide +kernel) ?_
  refine va_put (D := D) (ci := 4) (v := .int 0) (ty := .int) (C := RX3) (T := TX3) (N := 16) hx hb hts hinX3 tyX3 tyX3_ok nmX3 hown hK.1 hP hD hS 0 rfl rfl 0 (by decide) (hts (.fieldLink RX3 33 "PrinterRowsModel" "thrown" "I") (by decide +kernel)) (fun _ h9 => h9) rfl (by decide +kernel) rfl rfl (Nat.le_of_ble_eq_true rfl) dX3_tally_2 (fun H locs hP hD hS => ?_)
  have hP : va_P D vwCl (wM cI m0 mS mC mT mR mA 0 (nI L) (nI C) (nI rl) (nI bg) (nI st) mk (zb on) (nI tp) (nI tl) (zb tb) sg ch tr rc ta) H := hP
  have hD : va_D A (wM cI m0 mS mC mT mR mA 0 (nI L) (nI C) (nI rl) (nI bg) (nI st) mk (zb on) (nI tp) (nI tl) (zb tb) sg ch tr rc ta) := hD
  refine lv_iload_n hx hb dX3_tally_5 rfl (lv_at hl 1 rfl) ?_
  by_cases k_0 : w0 = 0
  ·
    refine lv_tableIn (off := 46) (tgt := 52) hx hb dX3_tally_6 (by rw [k_0]; decide +kernel) (by rw [k_0]; decide +kernel) (by rw [k_0]; decide +kernel) (by decide) ?_
    refine lv_aload_n hx hb dX3_tally_52 rfl (lv_at hl 0 rfl) ?_
    refine va_get (D := D) (ci := 4) (v := .int (nI bg)) (C := RX3) (T := TX3) (N := 16) hx hb hts hinX3 hown hK.1 hP 0 rfl rfl 9 (by decide) (hts (.fieldLink RX3 39 "PrinterRowsModel" "pages" "I") (by decide +kernel)) (fun _ h9 => h9) rfl dX3_tally_53 ?_
    exact W.iret (v := (nI bg)) hx hb hr (fun t ht hW => ⟨⟨_, (), rfl, by rw [tlR, if_pos k_0], by rw [ht]; exact hP, hD⟩, hS.F ht⟩) hS.2.2 dX3_tally_56
  by_cases k_1 : w0 = 1
  ·
    refine lv_tableIn (off := 51) (tgt := 57) hx hb dX3_tally_6 (by rw [k_1]; decide +kernel) (by rw [k_1]; decide +kernel) (by rw [k_1]; decide +kernel) (by decide) ?_
    refine lv_aload_n hx hb dX3_tally_57 rfl (lv_at hl 0 rfl) ?_
    refine va_get (D := D) (ci := 4) (v := .int (nI st)) (C := RX3) (T := TX3) (N := 16) hx hb hts hinX3 hown hK.1 hP 0 rfl rfl 10 (by decide) (hts (.fieldLink RX3 45 "PrinterRowsModel" "at" "I") (by decide +kernel)) (fun _ h9 => h9) rfl dX3_tally_58 ?_
    exact W.iret (v := (nI st)) hx hb hr (fun t ht hW => ⟨⟨_, (), rfl, by rw [tlR, if_neg k_0, if_pos k_1], by rw [ht]; exact hP, hD⟩, hS.F ht⟩) hS.2.2 dX3_tally_61
  by_cases k_2 : w0 = 2
  ·
    refine lv_tableIn (off := 56) (tgt := 62) hx hb dX3_tally_6 (by rw [k_2]; decide +kernel) (by rw [k_2]; decide +kernel) (by rw [k_2]; decide +kernel) (by decide) ?_
    refine lv_aload_n hx hb dX3_tally_62 rfl (lv_at hl 0 rfl) ?_
    refine va_get (D := D) (ci := 4) (v := .ref mA) (C := RX3) (T := TX3) (N := 16) hx hb hts hinX3 hown hK.1 hP 0 rfl rfl 7 (by decide) (hts (.fieldLink RX3 23 "PrinterRowsModel" "tallies" "[I") (by decide +kernel)) (fun _ h9 => h9) rfl dX3_tally_63 ?_
    refine lv_iload_n hx hb dX3_tally_66 rfl (lv_at hl 1 rfl) ?_
    refine va_iald hx hb hK.1 hP 5 0 rfl rfl (by rw [k_2, vp_in_iff]; decide +kernel) dX3_tally_67 ?_
    refine lv_topi (fun x_67 ex_67 => ?_)
    obtain rfl : x_67 = ta 2 := ex_67.trans (by rw [k_2]; rfl)
    exact W.iret (v := (ta 2)) hx hb hr (fun t ht hW => ⟨⟨_, (), rfl, by rw [tlR, if_neg k_0, if_neg k_1, if_pos k_2], by rw [ht]; exact hP, hD⟩, hS.F ht⟩) hS.2.2 dX3_tally_68
  by_cases k_3 : w0 = 3
  ·
    refine lv_tableIn (off := 56) (tgt := 62) hx hb dX3_tally_6 (by rw [k_3]; decide +kernel) (by rw [k_3]; decide +kernel) (by rw [k_3]; decide +kernel) (by decide) ?_
    refine lv_aload_n hx hb dX3_tally_62 rfl (lv_at hl 0 rfl) ?_
    refine va_get (D := D) (ci := 4) (v := .ref mA) (C := RX3) (T := TX3) (N := 16) hx hb hts hinX3 hown hK.1 hP 0 rfl rfl 7 (by decide) (hts (.fieldLink RX3 23 "PrinterRowsModel" "tallies" "[I") (by decide +kernel)) (fun _ h9 => h9) rfl dX3_tally_63 ?_
    refine lv_iload_n hx hb dX3_tally_66 rfl (lv_at hl 1 rfl) ?_
    refine va_iald hx hb hK.1 hP 5 0 rfl rfl (by rw [k_3, vp_in_iff]; decide +kernel) dX3_tally_67 ?_
    refine lv_topi (fun x_67 ex_67 => ?_)
    obtain rfl : x_67 = ta 3 := ex_67.trans (by rw [k_3]; rfl)
    exact W.iret (v := (ta 3)) hx hb hr (fun t ht hW => ⟨⟨_, (), rfl, by rw [tlR, if_neg k_0, if_neg k_1, if_neg k_2, if_pos k_3], by rw [ht]; exact hP, hD⟩, hS.F ht⟩) hS.2.2 dX3_tally_68
  by_cases k_4 : w0 = 4
  ·
    refine lv_tableIn (off := 56) (tgt := 62) hx hb dX3_tally_6 (by rw [k_4]; decide +kernel) (by rw [k_4]; decide +kernel) (by rw [k_4]; decide +kernel) (by decide) ?_
    refine lv_aload_n hx hb dX3_tally_62 rfl (lv_at hl 0 rfl) ?_
    refine va_get (D := D) (ci := 4) (v := .ref mA) (C := RX3) (T := TX3) (N := 16) hx hb hts hinX3 hown hK.1 hP 0 rfl rfl 7 (by decide) (hts (.fieldLink RX3 23 "PrinterRowsModel" "tallies" "[I") (by decide +kernel)) (fun _ h9 => h9) rfl dX3_tally_63 ?_
    refine lv_iload_n hx hb dX3_tally_66 rfl (lv_at hl 1 rfl) ?_
    refine va_iald hx hb hK.1 hP 5 0 rfl rfl (by rw [k_4, vp_in_iff]; decide +kernel) dX3_tally_67 ?_
    refine lv_topi (fun x_67 ex_67 => ?_)
    obtain rfl : x_67 = ta 4 := ex_67.trans (by rw [k_4]; rfl)
    exact W.iret (v := (ta 4)) hx hb hr (fun t ht hW => ⟨⟨_, (), rfl, by rw [tlR, if_neg k_0, if_neg k_1, if_neg k_2, if_neg k_3, if_pos k_4], by rw [ht]; exact hP, hD⟩, hS.F ht⟩) hS.2.2 dX3_tally_68
  by_cases k_5 : w0 = 5
  ·
    refine lv_tableIn (off := 56) (tgt := 62) hx hb dX3_tally_6 (by rw [k_5]; decide +kernel) (by rw [k_5]; decide +kernel) (by rw [k_5]; decide +kernel) (by decide) ?_
    refine lv_aload_n hx hb dX3_tally_62 rfl (lv_at hl 0 rfl) ?_
    refine va_get (D := D) (ci := 4) (v := .ref mA) (C := RX3) (T := TX3) (N := 16) hx hb hts hinX3 hown hK.1 hP 0 rfl rfl 7 (by decide) (hts (.fieldLink RX3 23 "PrinterRowsModel" "tallies" "[I") (by decide +kernel)) (fun _ h9 => h9) rfl dX3_tally_63 ?_
    refine lv_iload_n hx hb dX3_tally_66 rfl (lv_at hl 1 rfl) ?_
    refine va_iald hx hb hK.1 hP 5 0 rfl rfl (by rw [k_5, vp_in_iff]; decide +kernel) dX3_tally_67 ?_
    refine lv_topi (fun x_67 ex_67 => ?_)
    obtain rfl : x_67 = ta 5 := ex_67.trans (by rw [k_5]; rfl)
    exact W.iret (v := (ta 5)) hx hb hr (fun t ht hW => ⟨⟨_, (), rfl, by rw [tlR, if_neg k_0, if_neg k_1, if_neg k_2, if_neg k_3, if_neg k_4, if_pos k_5], by rw [ht]; exact hP, hD⟩, hS.F ht⟩) hS.2.2 dX3_tally_68
  by_cases k_6 : w0 = 6
  ·
    refine lv_tableIn (off := 56) (tgt := 62) hx hb dX3_tally_6 (by rw [k_6]; decide +kernel) (by rw [k_6]; decide +kernel) (by rw [k_6]; decide +kernel) (by decide) ?_
    refine lv_aload_n hx hb dX3_tally_62 rfl (lv_at hl 0 rfl) ?_
    refine va_get (D := D) (ci := 4) (v := .ref mA) (C := RX3) (T := TX3) (N := 16) hx hb hts hinX3 hown hK.1 hP 0 rfl rfl 7 (by decide) (hts (.fieldLink RX3 23 "PrinterRowsModel" "tallies" "[I") (by decide +kernel)) (fun _ h9 => h9) rfl dX3_tally_63 ?_
    refine lv_iload_n hx hb dX3_tally_66 rfl (lv_at hl 1 rfl) ?_
    refine va_iald hx hb hK.1 hP 5 0 rfl rfl (by rw [k_6, vp_in_iff]; decide +kernel) dX3_tally_67 ?_
    refine lv_topi (fun x_67 ex_67 => ?_)
    obtain rfl : x_67 = ta 6 := ex_67.trans (by rw [k_6]; rfl)
    exact W.iret (v := (ta 6)) hx hb hr (fun t ht hW => ⟨⟨_, (), rfl, by rw [tlR, if_neg k_0, if_neg k_1, if_neg k_2, if_neg k_3, if_neg k_4, if_neg k_5, if_pos k_6], by rw [ht]; exact hP, hD⟩, hS.F ht⟩) hS.2.2 dX3_tally_68
  by_cases k_7 : w0 = 7
  ·
    refine lv_tableIn (off := 63) (tgt := 69) hx hb dX3_tally_6 (by rw [k_7]; decide +kernel) (by rw [k_7]; decide +kernel) (by rw [k_7]; decide +kernel) (by decide) ?_
    refine lv_aload_n hx hb dX3_tally_69 rfl (lv_at hl 0 rfl) ?_
    refine va_get (D := D) (ci := 4) (v := .int (nI rl)) (C := RX3) (T := TX3) (N := 16) hx hb hts hinX3 hown hK.1 hP 0 rfl rfl 8 (by decide) (hts (.fieldLink RX3 36 "PrinterRowsModel" "length" "I") (by decide +kernel)) (fun _ h9 => h9) rfl dX3_tally_70 ?_
    exact W.iret (v := (nI rl)) hx hb hr (fun t ht hW => ⟨⟨_, (), rfl, by rw [tlR, if_neg k_0, if_neg k_1, if_neg k_2, if_neg k_3, if_neg k_4, if_neg k_5, if_neg k_6, if_pos k_7], by rw [ht]; exact hP, hD⟩, hS.F ht⟩) hS.2.2 dX3_tally_73
  refine lv_tableOut (tgt := 74) hx hb dX3_tally_6 (by have q_k_0 := lv_neT (a := 0) k_0 (by decide +kernel); have q_k_1 := lv_neT (a := 1) k_1 (by decide +kernel); have q_k_2 := lv_neT (a := 2) k_2 (by decide +kernel); have q_k_3 := lv_neT (a := 3) k_3 (by decide +kernel); have q_k_4 := lv_neT (a := 4) k_4 (by decide +kernel); have q_k_5 := lv_neT (a := 5) k_5 (by decide +kernel); have q_k_6 := lv_neT (a := 6) k_6 (by decide +kernel); have q_k_7 := lv_neT (a := 7) k_7 (by decide +kernel); omega) (by decide) ?_
  refine lv_iconst (v := (-1)) hx hb dX3_tally_74 (by decide +kernel) ?_
  exact W.iret (v := (-1)) hx hb hr (fun t ht hW => ⟨⟨_, (), rfl, by rw [tlR, if_neg k_0, if_neg k_1, if_neg k_2, if_neg k_3, if_neg k_4, if_neg k_5, if_neg k_6, if_neg k_7], by rw [ht]; exact hP, hD⟩, hS.F ht⟩) hS.2.2 dX3_tally_75
