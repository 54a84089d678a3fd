/-! the reference: copies, at, its constructor -/
def cpG (base f z k : Nat) (sg : Nat → Int32) : Nat → Int32 := fun j => if base ≤ j ∧ j < base + k then sg (f + (j - base) % z) else sg j
theorem cpG_0 {base f z : Nat} {sg : Nat → Int32} : cpG base f z 0 sg = sg := by
  funext j
  exact if_neg (fun q => by omega)
theorem cpG_src {base f z k : Nat} {sg : Nat → Int32} (hz : 0 < z) (h : f + z ≤ base) : cpG base f z k sg (f + k % z) = sg (f + k % z) := if_neg (fun q => by have := Nat.mod_lt k hz; omega)
theorem cpG_step {base f z k : Nat} {sg : Nat → Int32} : upd (cpG base f z k sg) (base + k) (sg (f + k % z)) = cpG base f z (k + 1) sg := by
  funext j
  unfold upd cpG
  by_cases e : j = base + k
  · subst e
    rw [if_pos rfl, if_pos (by omega), Nat.add_sub_cancel_left]
  · rw [if_neg e]
    by_cases q : base ≤ j ∧ j < base + k
    · rw [if_pos q, if_pos (by omega)]
    · rw [if_neg q, if_neg (by omega)]
def atO (L C bg : Nat) (p l c : Int32) : Bool := if p < 0 then false else if nI bg ≤ p then false else if l < 0 then false else if nI L ≤ l then false else if c < 0 then false else if nI C ≤ c then false else true
def atP (p l c : Int32) : Nat := 8712 * p.toNatClampNeg + 132 * l.toNatClampNeg + c.toNatClampNeg

set_option maxHeartbeats 1000000 in
set_option maxRecDepth 100000 in
theorem c_X3_copies (l : Launch) {D : va_G} {cI cP cR cJ : ClassId} {m0 mS mC mT mR mA L C rl bg st tp tl : Nat} {on tb : Bool} {th mk : Int32} {sg ch tr rc ta : Nat → Int32} {sz : Nat} (hbg : bg ≤ 40) (n0 f0 t0 : Int32) : Met l yX3_copies wsX3_copies ({ frames := 1, cells := 0, slots := 0, locals := 20 }) (mu [.ref m0, .int n0, .int f0, .int t0] D cI cP cR cJ (wM cI m0 mS mC mT mR mA th (nI L) (nI C) (nI rl) (nI bg) (nI st) mk (zb on) (nI tp) (nI tl) (zb tb) sg ch tr rc ta) sz) (qi D (fun (r : Int32) (u : (Nat → Int32) × (Nat × Nat × Bool)) => r = cpR bg n0 f0 t0 ∧ u.2 = (if cpO bg n0 f0 t0 then (bg + cpS n0 f0 t0, 0, false) else (bg, st, on)) ∧ u.1 = (if cpO bg n0 f0 t0 then cpG (8712 * bg) (8712 * f0.toNatClampNeg) ((t0.toNatClampNeg - f0.toNatClampNeg + 1) * 8712) (cpS n0 f0 t0 * 8712) sg else sg)) (fun u : (Nat → Int32) × (Nat × Nat × Bool) => wM cI m0 mS mC mT mR mA 0 (nI L) (nI C) (nI rl) (nI u.2.1) (nI u.2.2.1) mk (zb u.2.2.2) (nI tp) (nI tl) (zb tb) u.1 ch tr rc ta) (va_A (wM cI m0 mS mC mT mR mA th (nI L) (nI C) (nI rl) (nI bg) (nI st) mk (zb on) (nI tp) (nI tl) (zb tb) sg ch tr rc ta) sz)) 0 0 (va_A (wM cI m0 mS mC mT mR mA th (nI L) (nI C) (nI rl) (nI bg) (nI st) mk (zb on) (nI tp) (nI tl) (zb tb) sg ch tr rc ta) sz) := by
  refine Met.ofW (cc := cX3_copies) (maxL := 6) (ret := (some .int)) (by decide) rfl ?_
  intro p e s m args below meth c s₁ B hml hv
  obtain ⟨rfl, hsz, hP, hK, hD0⟩ := hv
  have hx := B.exec
  have hb := B.bytes
  have hr := B.returns
  have hts := atoms_spec (ws := wsX3_copies) B.pre
  have hown : s.vm.findClass RX3 = some m.cls := findClass_of_methodNamed B.named
  have hlocks := B.notSynchronized
  have hinX3 : ∀ w ∈ wsX30, w ∈ wsX3_copies := by decide +kernel
  subst hsz
  have hD := hD0.self (sz := s.heap.size)
  generalize hAe : va_A (wM cI m0 mS mC mT mR mA th (nI L) (nI C) (nI rl) (nI bg) (nI st) mk (zb on) (nI tp) (nI tl) (zb tb) sg ch tr rc ta) s.heap.size = A at hD ⊢
  have hA : ∀ q : Nat, s.heap.size ≤ q → A q := fun q h => by rw [← hAe]; exact Or.inr h
  have hS : va_S A s.heap s.heap [] := va_S.rf
  have hP : va_P D vwCl (wM cI m0 mS mC mT mR mA th (nI L) (nI C) (nI rl) (nI bg) (nI st) mk (zb on) (nI tp) (nI tl) (zb tb) sg ch tr rc ta) s.heap := hP
  have hl := lv_entry ([.ref m0, .int n0, .int f0, .int t0]) (n := 6) (Nat.le_of_ble_eq_true rfl)
  rw [lg_entry_eq]
  generalize (lg_sl ([.ref m0, .int n0, .int f0, .int t0]) ++ List.replicate (6 - (lg_sl ([.ref m0, .int n0, .int f0, .int t0])).length) Slot.unset).toArray = ls at hl ⊢
  have hl : lv_has ls 6 [(0, .ref m0), (1, .int n0), (2, .int f0), (3, .int t0)] := hl
  refine lv_aload_n hx hb dX3_copies_0 rfl (lv_at hl 0 rfl) ?_
  refine lv_iconst (v := 0) hx hb dX3_copies_1 (by decide +kernel) ?_
  refine va_put (D := D) (ci := 4) (v := .int 0) (ty := .int) (C := RX3) (T := TX3) (N := 16) hx hb hts hinX3 tyX3 tyX3_ok nmX3 hown hK.1 hP hD hS 0 rfl rfl 0 (by decide) (hts (.fieldLink RX3 33 "PrinterRowsModel" "thrown" "I") (by decide +kernel)) (fun _ h9 => h9) rfl (by decide +kernel) rfl rfl (Nat.le_of_ble_eq_true rfl) dX3_copies_2 (fun H locs hP hD hS => ?_)
  have hP : va_P D vwCl (wM cI m0 mS mC mT mR mA 0 (nI L) (nI C) (nI rl) (nI bg) (nI st) mk (zb on) (nI tp) (nI tl) (zb tb) sg ch tr rc ta) H := hP
  have hD : va_D A (wM cI m0 mS mC mT mR mA 0 (nI L) (nI C) (nI rl) (nI bg) (nI st) mk (zb on) (nI tp) (nI tl) (zb tb) sg ch tr rc ta) := hD
  refine lv_iload_n hx hb dX3_copies_5 rfl (lv_at hl 1 rfl) ?_
  refine lv_iconst (v := 1) hx hb dX3_copies_6 (by decide +kernel) ?_
  refine lv_icmp_lt (tgt := 33) hx hb dX3_copies_7 (by decide) (fun c_7 => ?_) (fun c_7 => ?_)
  ·
    refine lv_bipush (v := (-2)) hx hb dX3_copies_33 (by decide +kernel) ?_
    exact W.iret (v := (-2)) hx hb hr (fun t ht hW => ⟨⟨_, (sg, (bg, st, on)), rfl, ⟨by rw [cpR, cpV, if_pos c_7]; rfl, by rw [cpO, cpV, if_pos c_7]; rfl, by rw [cpO, cpV, if_pos c_7]; rfl⟩, by rw [ht]; exact hP, hD⟩, hS.F ht⟩) hS.2.2 dX3_copies_35
  ·
    refine lv_iload_n hx hb dX3_copies_10 rfl (lv_at hl 1 rfl) ?_
    refine lv_bipush (v := 9) hx hb dX3_copies_11 (by decide +kernel) ?_
    refine lv_icmp_gt (tgt := 33) hx hb dX3_copies_13 (by decide) (fun c_13 => ?_) (fun c_13 => ?_)
    ·
      refine lv_bipush (v := (-2)) hx hb dX3_copies_33 (by decide +kernel) ?_
      exact W.iret (v := (-2)) hx hb hr (fun t ht hW => ⟨⟨_, (sg, (bg, st, on)), rfl, ⟨by rw [cpR, cpV, if_neg c_7, if_pos c_13]; rfl, by rw [cpO, cpV, if_neg c_7, if_pos c_13]; rfl, by rw [cpO, cpV, if_neg c_7, if_pos c_13]; rfl⟩, by rw [ht]; exact hP, hD⟩, hS.F ht⟩) hS.2.2 dX3_copies_35
    ·
      refine lv_iload_n hx hb dX3_copies_16 rfl (lv_at hl 2 rfl) ?_
      refine lv_if_lt (tgt := 33) hx hb dX3_copies_17 (by decide) (fun c_17 => ?_) (fun c_17 => ?_)
      ·
        refine lv_bipush (v := (-2)) hx hb dX3_copies_33 (by decide +kernel) ?_
        exact W.iret (v := (-2)) hx hb hr (fun t ht hW => ⟨⟨_, (sg, (bg, st, on)), rfl, ⟨by rw [cpR, cpV, if_neg c_7, if_neg c_13, if_pos c_17]; rfl, by rw [cpO, cpV, if_neg c_7, if_neg c_13, if_pos c_17]; rfl, by rw [cpO, cpV, if_neg c_7, if_neg c_13, if_pos c_17]; rfl⟩, by rw [ht]; exact hP, hD⟩, hS.F ht⟩) hS.2.2 dX3_copies_35
      ·
        refine lv_iload_n hx hb dX3_copies_20 rfl (lv_at hl 2 rfl) ?_
        refine lv_iload_n hx hb dX3_copies_21 rfl (lv_at hl 3 rfl) ?_
        refine lv_icmp_gt (tgt := 33) hx hb dX3_copies_22 (by decide) (fun c_22 => ?_) (fun c_22 => ?_)
        ·
          refine lv_bipush (v := (-2)) hx hb dX3_copies_33 (by decide +kernel) ?_
          exact W.iret (v := (-2)) hx hb hr (fun t ht hW => ⟨⟨_, (sg, (bg, st, on)), rfl, ⟨by rw [cpR, cpV, if_neg c_7, if_neg c_13, if_neg c_17, if_pos c_22]; rfl, by rw [cpO, cpV, if_neg c_7, if_neg c_13, if_neg c_17, if_pos c_22]; rfl, by rw [cpO, cpV, if_neg c_7, if_neg c_13, if_neg c_17, if_pos c_22]; rfl⟩, by rw [ht]; exact hP, hD⟩, hS.F ht⟩) hS.2.2 dX3_copies_35
        ·
          refine lv_iload_n hx hb dX3_copies_25 rfl (lv_at hl 3 rfl) ?_
          refine lv_aload_n hx hb dX3_copies_26 rfl (lv_at hl 0 rfl) ?_
          refine va_get (D := D) (ci := 4) (v := .int (nI bg)) (C := RX3) (T := TX3) (N := 16) hx hb hts hinX3 hown hK.1 hP 0 rfl rfl 9 (by decide) (hts (.fieldLink RX3 39 "PrinterRowsModel" "pages" "I") (by decide +kernel)) (fun _ h9 => h9) rfl dX3_copies_27 ?_
          refine lv_icmp_lt (tgt := 36) hx hb dX3_copies_30 (by decide) (fun c_30 => ?_) (fun c_30 => ?_)
          ·
            have hnr : 1 ≤ n0.toInt ∧ n0.toInt ≤ 9 := by rw [i32_lt] at c_7 c_13; have : (1 : Int32).toInt = 1 := rfl; have : (9 : Int32).toInt = 9 := rfl; omega
            obtain ⟨nn, hn1, hn9, rfl⟩ : ∃ nn : Nat, 1 ≤ nn ∧ nn ≤ 9 ∧ n0 = nI nn := ⟨n0.toInt.toNat, by omega, by omega, i32_ext (by rw [nI_toInt (by omega)]; omega)⟩
            obtain ⟨ff, hff0, rfl⟩ := nI_of (x := f0) c_17
            obtain ⟨tt, htt0, rfl⟩ := nI_of (x := t0) (fun h9 => c_22 (by rw [i32_lt] at h9 ⊢; rw [nI_toInt hff0]; have : (0 : Int32).toInt = 0 := rfl; omega))
            have hft : ff ≤ tt := Nat.le_of_not_lt (fun h9 => c_22 (nI_lt h9 hff0))
            have htb : tt < bg := (nI_ltI htt0 (by omega)).mp c_30
            have hcn : (nI nn).toNatClampNeg = nn := nI_clamp (by omega)
            have hcf : (nI ff).toNatClampNeg = ff := nI_clamp hff0
            have hct : (nI tt).toNatClampNeg = tt := nI_clamp htt0
            have hV : cpV bg (nI nn) (nI ff) (nI tt) = true := by rw [cpV, if_neg c_7, if_neg c_13, if_neg c_17, if_neg c_22, if_pos c_30]
            obtain ⟨many, hmy⟩ : ∃ many, many = tt - ff + 1 := ⟨_, rfl⟩
            have hm40 : many ≤ 40 := by omega
            have hpr := cp_prod hn9 hm40
            have hSz : cpS (nI nn) (nI ff) (nI tt) = nn * many := by rw [cpS, hcn, hcf, hct, hmy]
            refine lv_iload_n hx hb dX3_copies_36 rfl (lv_at hl 3 rfl) ?_
            refine lv_iload_n hx hb dX3_copies_37 rfl (lv_at hl 2 rfl) ?_
            refine lv_isub hx hb dX3_copies_38 ?_
            refine lv_iconst (v := 1) hx hb dX3_copies_39 (by decide +kernel) ?_
            refine lv_iadd hx hb dX3_copies_40 ?_
            refine lv_topi (fun x_40 ex_40 => ?_)
            obtain rfl : x_40 = nI many := ex_40.trans (by rw [pk_sub hft, nI_1, hmy])
            refine lv_istore (lv' := [(4, .int (nI many)), (0, .ref m0), (1, .int (nI nn)), (2, .int (nI ff)), (3, .int (nI tt))]) hx hb dX3_copies_41 hl (by decide) rfl (fun ls hl => ?_)
            refine lv_aload_n hx hb dX3_copies_43 rfl (lv_at hl 1 rfl) ?_
            refine va_get (D := D) (ci := 4) (v := .int (nI bg)) (C := RX3) (T := TX3) (N := 16) hx hb hts hinX3 hown hK.1 hP 0 rfl rfl 9 (by decide) (hts (.fieldLink RX3 39 "PrinterRowsModel" "pages" "I") (by decide +kernel)) (fun _ h9 => h9) rfl dX3_copies_44 ?_
            refine lv_iload_n hx hb dX3_copies_47 rfl (lv_at hl 2 rfl) ?_
            refine lv_iload hx hb dX3_copies_48 (lv_at hl 0 rfl) ?_
            refine lv_imul hx hb dX3_copies_50 ?_
            refine lv_topi (fun x_50 ex_50 => ?_)
            obtain rfl : x_50 = nI (nn * many) := ex_50.trans (pk_mul _ _)
            refine lv_iadd hx hb dX3_copies_51 ?_
            refine lv_topi (fun x_51 ex_51 => ?_)
            obtain rfl : x_51 = nI (bg + nn * many) := ex_51.trans (nI_add _ _)
            refine lv_bipush (v := 40) hx hb dX3_copies_52 (by decide +kernel) ?_
            refine lv_icmp_le (tgt := 60) hx hb dX3_copies_54 (by decide) (fun c_54 => ?_) (fun c_54 => ?_)
            ·
              have hfit : bg + nn * many ≤ 40 := (nI_leI (b := 40) (by omega) (by decide)).mp c_54
              have hO : cpO bg (nI nn) (nI ff) (nI tt) = true := by rw [cpO, hV, hSz]; exact decide_eq_true hfit
              have hbnd : 8712 * bg + nn * many * 8712 ≤ 348480 := by omega
              refine lv_iconst (v := 0) hx hb dX3_copies_60 (by decide +kernel) ?_
              refine lv_istore (lv' := [(5, .int 0), (4, .int (nI many)), (0, .ref m0), (1, .int (nI nn)), (2, .int (nI ff)), (3, .int (nI tt))]) hx hb dX3_copies_61 hl (by decide) rfl (fun ls hl => ?_)
              have loop : ∀ (n : Nat) (k : Nat) (H : Heap) (locs : List Loc) (ls : Array Slot), (k ≤ nn * many * 8712) → (nn * many * 8712 - k < n) → va_P D vwCl (wM cI m0 mS mC mT mR mA 0 (nI L) (nI C) (nI rl) (nI bg) (nI st) mk (zb on) (nI tp) (nI tl) (zb tb) (cpG (8712 * bg) (8712 * ff) (many * 8712) k sg) ch tr rc ta) H → va_D A (wM cI m0 mS mC mT mR mA 0 (nI L) (nI C) (nI rl) (nI bg) (nI st) mk (zb on) (nI tp) (nI tl) (zb tb) (cpG (8712 * bg) (8712 * ff) (many * 8712) k sg) ch tr rc ta) → va_S A s.heap H locs → lv_has ls 6 [(0, .ref m0), (1, .int (nI nn)), (2, .int (nI ff)), (3, .int (nI tt)), (4, .int (nI many)), (5, .int (nI k))] → W p l e (headSpec wsX3_copies ({ frames := 1, cells := 0, slots := 0, locals := 20 })).room s m (([.ref m0, .int (nI nn), .int (nI ff), .int (nI tt)] : List Value).toArray) below meth c H locs 0 0 (MQ below (qi D (fun (r : Int32) (u : (Nat → Int32) × (Nat × Nat × Bool)) => r = cpR bg (nI nn) (nI ff) (nI tt) ∧ u.2 = (if cpO bg (nI nn) (nI ff) (nI tt) then (bg + cpS (nI nn) (nI ff) (nI tt), 0, false) else (bg, st, on)) ∧ u.1 = (if cpO bg (nI nn) (nI ff) (nI tt) then cpG (8712 * bg) (8712 * (nI ff).toNatClampNeg) (((nI tt).toNatClampNeg - (nI ff).toNatClampNeg + 1) * 8712) (cpS (nI nn) (nI ff) (nI tt) * 8712) sg else sg)) (fun u : (Nat → Int32) × (Nat × Nat × Bool) => wM cI m0 mS mC mT mR mA 0 (nI L) (nI C) (nI rl) (nI u.2.1) (nI u.2.2.1) mk (zb u.2.2.2) (nI tp) (nI tl) (zb tb) u.1 ch tr rc ta) (A)) (([.ref m0, .int (nI nn), .int (nI ff), .int (nI tt)] : List Value).toArray) s 0 0 A) (F0 m 63 ls []) := by
                intro n
                induction n with
                | zero => intro k H locs ls hk hn hP hD hS hl; exact absurd hn (Nat.not_lt_zero _)
                | succ n ih =>
                  intro k H locs ls hk hn hP hD hS hl
                  refine lv_iload hx hb dX3_copies_63 (lv_at hl 5 rfl) ?_
                  refine lv_iload_n hx hb dX3_copies_65 rfl (lv_at hl 1 rfl) ?_
                  refine lv_iload hx hb dX3_copies_66 (lv_at hl 4 rfl) ?_
                  refine lv_imul hx hb dX3_copies_68 ?_
                  refine lv_topi (fun x_68 ex_68 => ?_)
                  obtain rfl : x_68 = nI (nn * many) := ex_68.trans (pk_mul _ _)
                  refine lv_sipush (v := 8712) hx hb dX3_copies_69 (by decide +kernel) ?_
                  refine lv_imul hx hb dX3_copies_72 ?_
                  refine lv_topi (fun x_72 ex_72 => ?_)
                  obtain rfl : x_72 = nI (nn * many * 8712) := ex_72.trans (pk_mul _ 8712)
                  refine lv_icmp_ge (tgt := 118) hx hb dX3_copies_73 (by decide) (fun c_73 => ?_) (fun c_73 => ?_)
                  ·
                    have hie : k = nn * many * 8712 := by have := (nI_leI (by omega) (by omega)).mp c_73; omega
                    refine lv_aload_n hx hb dX3_copies_118 rfl (lv_at hl 0 rfl) ?_
                    refine lv_dup hx hb dX3_copies_119 rfl ?_
                    refine va_get (D := D) (ci := 4) (v := .int (nI bg)) (C := RX3) (T := TX3) (N := 16) hx hb hts hinX3 hown hK.1 hP 0 rfl rfl 9 (by decide) (hts (.fieldLink RX3 39 "PrinterRowsModel" "pages" "I") (by decide +kernel)) (fun _ h9 => h9) rfl dX3_copies_120 ?_
                    refine lv_iload_n hx hb dX3_copies_123 rfl (lv_at hl 1 rfl) ?_
                    refine lv_iload hx hb dX3_copies_124 (lv_at hl 4 rfl) ?_
                    refine lv_imul hx hb dX3_copies_126 ?_
                    refine lv_topi (fun x_126 ex_126 => ?_)
                    obtain rfl : x_126 = nI (nn * many) := ex_126.trans (pk_mul _ _)
                    refine lv_iadd hx hb dX3_copies_127 ?_
                    refine lv_topi (fun x_127 ex_127 => ?_)
                    obtain rfl : x_127 = nI (bg + nn * many) := ex_127.trans (nI_add _ _)
                    refine va_put (D := D) (ci := 4) (v := .int (nI (bg + nn * many))) (ty := .int) (C := RX3) (T := TX3) (N := 16) hx hb hts hinX3 tyX3 tyX3_ok nmX3 hown hK.1 hP hD hS 0 rfl rfl 9 (by decide) (hts (.fieldLink RX3 39 "PrinterRowsModel" "pages" "I") (by decide +kernel)) (fun _ h9 => h9) rfl (by decide +kernel) rfl rfl (Nat.le_of_ble_eq_true rfl) dX3_copies_128 (fun H locs hP hD hS => ?_)
                    have hP : va_P D vwCl (wM cI m0 mS mC mT mR mA 0 (nI L) (nI C) (nI rl) (nI (bg + nn * many)) (nI st) mk (zb on) (nI tp) (nI tl) (zb tb) (cpG (8712 * bg) (8712 * ff) (many * 8712) k sg) ch tr rc ta) H := hP
                    have hD : va_D A (wM cI m0 mS mC mT mR mA 0 (nI L) (nI C) (nI rl) (nI (bg + nn * many)) (nI st) mk (zb on) (nI tp) (nI tl) (zb tb) (cpG (8712 * bg) (8712 * ff) (many * 8712) k sg) ch tr rc ta) := hD
                    refine lv_aload_n hx hb dX3_copies_131 rfl (lv_at hl 0 rfl) ?_
                    refine callQv (va_runV (As := []) (rest := []) ⟨hx, hb, hml, hown, hts⟩ (c_X3_pass l) (cwV 0 hts gX3_copies_X3_pass rfl rfl rfl (by decide +kernel) ⟨(Nat.le_of_ble_eq_true rfl), (Nat.le_of_ble_eq_true rfl)⟩) (mu_pre hK hP hD rfl 0 rfl) rfl rfl hl.1 rfl (lv_room (Nat.le_of_ble_eq_true rfl)) dX3_copies_132 ⟨(Nat.le_of_ble_eq_true rfl), (Nat.le_of_ble_eq_true rfl)⟩) hD hS hA (fun u_132 H locs w_132 hP hD hS => ?_)
                    have hP : va_P D vwCl (wM cI m0 mS mC mT mR mA 0 (nI L) (nI C) (nI rl) (nI (bg + nn * many)) (nI 0) mk (zb false) (nI tp) (nI tl) (zb tb) (cpG (8712 * bg) (8712 * ff) (many * 8712) k sg) ch tr rc ta) H := hP
                    have hD : va_D A (wM cI m0 mS mC mT mR mA 0 (nI L) (nI C) (nI rl) (nI (bg + nn * many)) (nI 0) mk (zb false) (nI tp) (nI tl) (zb tb) (cpG (8712 * bg) (8712 * ff) (many * 8712) k sg) ch tr rc ta) := hD
                    refine lv_aload_n hx hb dX3_copies_135 rfl (lv_at hl 0 rfl) ?_
                    refine va_get (D := D) (ci := 4) (v := .int (nI (bg + nn * many))) (C := RX3) (T := TX3) (N := 16) hx hb hts hinX3 hown hK.1 hP 0 rfl rfl 9 (by decide) (hts (.fieldLink RX3 39 "PrinterRowsModel" "pages" "I") (by decide +kernel)) (fun _ h9 => h9) rfl dX3_copies_136 ?_
                    exact W.iret (v := (nI (bg + nn * many))) hx hb hr (fun t ht hW => ⟨⟨_, ((cpG (8712 * bg) (8712 * ff) (many * 8712) k sg), (bg + nn * many, 0, false)), rfl, ⟨by rw [cpR, hV, hSz, if_pos rfl, if_pos hfit], by rw [hO, hSz]; rfl, by rw [hO, hcf, hct, hSz, ← hmy, hie]; rfl⟩, by rw [ht]; exact hP, hD⟩, hS.F ht⟩) hS.2.2 dX3_copies_139
                  ·
                    have hlt : k < nn * many * 8712 := Nat.lt_of_not_le (fun h9 => c_73 (nI_le h9 (by omega)))
                    have hmd : k % (many * 8712) < many * 8712 := Nat.mod_lt _ (by omega)
                    refine lv_aload_n hx hb dX3_copies_76 rfl (lv_at hl 0 rfl) ?_
                    refine va_get (D := D) (ci := 4) (v := .ref mS) (C := RX3) (T := TX3) (N := 16) hx hb hts hinX3 hown hK.1 hP 0 rfl rfl 3 (by decide) (hts (.fieldLink RX3 8 "PrinterRowsModel" "signs" "[I") (by decide +kernel)) (fun _ h9 => h9) rfl dX3_copies_77 ?_
                    refine lv_sipush (v := 8712) hx hb dX3_copies_80 (by decide +kernel) ?_
                    refine lv_aload_n hx hb dX3_copies_83 rfl (lv_at hl 0 rfl) ?_
                    refine va_get (D := D) (ci := 4) (v := .int (nI bg)) (C := RX3) (T := TX3) (N := 16) hx hb hts hinX3 hown hK.1 hP 0 rfl rfl 9 (by decide) (hts (.fieldLink RX3 39 "PrinterRowsModel" "pages" "I") (by decide +kernel)) (fun _ h9 => h9) rfl dX3_copies_84 ?_
                    refine lv_imul hx hb dX3_copies_87 ?_
                    refine lv_topi (fun x_87 ex_87 => ?_)
                    obtain rfl : x_87 = nI (8712 * bg) := ex_87.trans (pk_mul 8712 bg)
                    refine lv_iload hx hb dX3_copies_88 (lv_at hl 5 rfl) ?_
                    refine lv_iadd hx hb dX3_copies_90 ?_
                    refine lv_topi (fun x_90 ex_90 => ?_)
                    obtain rfl : x_90 = nI (8712 * bg + k) := ex_90.trans (nI_add _ _)
                    refine lv_aload_n hx hb dX3_copies_91 rfl (lv_at hl 0 rfl) ?_
                    refine va_get (D := D) (ci := 4) (v := .ref mS) (C := RX3) (T := TX3) (N := 16) hx hb hts hinX3 hown hK.1 hP 0 rfl rfl 3 (by decide) (hts (.fieldLink RX3 8 "PrinterRowsModel" "signs" "[I") (by decide +kernel)) (fun _ h9 => h9) rfl dX3_copies_92 ?_
                    refine lv_sipush (v := 8712) hx hb dX3_copies_95 (by decide +kernel) ?_
                    refine lv_iload_n hx hb dX3_copies_98 rfl (lv_at hl 2 rfl) ?_
                    refine lv_imul hx hb dX3_copies_99 ?_
                    refine lv_topi (fun x_99 ex_99 => ?_)
                    obtain rfl : x_99 = nI (8712 * ff) := ex_99.trans (pk_mul 8712 ff)
                    refine lv_iload hx hb dX3_copies_100 (lv_at hl 5 rfl) ?_
                    refine lv_iload hx hb dX3_copies_102 (lv_at hl 4 rfl) ?_
                    refine lv_sipush (v := 8712) hx hb dX3_copies_104 (by decide +kernel) ?_
                    refine lv_imul hx hb dX3_copies_107 ?_
                    refine lv_topi (fun x_107 ex_107 => ?_)
                    obtain rfl : x_107 = nI (many * 8712) := ex_107.trans (pk_mul _ 8712)
                    refine lv_irem hx hb dX3_copies_108 (nI_ne0 (by omega) (by omega)) ?_
                    refine lv_topi (fun x_108 ex_108 => ?_)
                    obtain rfl : x_108 = nI (k % (many * 8712)) := ex_108.trans (pk_rem (by omega) (by omega) (by omega))
                    refine lv_iadd hx hb dX3_copies_109 ?_
                    refine lv_topi (fun x_109 ex_109 => ?_)
                    obtain rfl : x_109 = nI (8712 * ff + k % (many * 8712)) := ex_109.trans (nI_add _ _)
                    refine va_iald hx hb hK.1 hP 1 0 rfl rfl (vp_in_nI (by omega) (by decide)) dX3_copies_110 ?_
                    refine lv_topi (fun x_110 ex_110 => ?_)
                    obtain rfl : x_110 = (sg (8712 * ff + k % (many * 8712))) := ex_110.trans (by rw [nI_clamp (by omega)]; exact cpG_src (by omega) (by omega))
                    refine va_iast hx hb hK.1 hP hD hS 1 0 rfl rfl (vp_in_nI (by omega) (by decide)) dX3_copies_111 (fun H locs hP hD hS => ?_)
                    rw [show (upd (cpG (8712 * bg) (8712 * ff) (many * 8712) k sg) ((nI (8712 * bg + k))).toNatClampNeg (sg (8712 * ff + k % (many * 8712)))) = (cpG (8712 * bg) (8712 * ff) (many * 8712) (k + 1) sg) from by rw [nI_clamp (by omega)]; exact cpG_step] at hP hD
                    have hP : va_P D vwCl (wM cI m0 mS mC mT mR mA 0 (nI L) (nI C) (nI rl) (nI bg) (nI st) mk (zb on) (nI tp) (nI tl) (zb tb) (cpG (8712 * bg) (8712 * ff) (many * 8712) (k + 1) sg) ch tr rc ta) H := hP
                    have hD : va_D A (wM cI m0 mS mC mT mR mA 0 (nI L) (nI C) (nI rl) (nI bg) (nI st) mk (zb on) (nI tp) (nI tl) (zb tb) (cpG (8712 * bg) (8712 * ff) (many * 8712) (k + 1) sg) ch tr rc ta) := hD
                    refine lv_iinc (v := (nI (k + 1))) (lv' := [(5, .int (nI (k + 1))), (0, .ref m0), (1, .int (nI nn)), (2, .int (nI ff)), (3, .int (nI tt)), (4, .int (nI many))]) hx hb dX3_copies_112 hl (k := 5) rfl (nI_1 k) (by decide) rfl (fun ls hl => ?_)
                    refine lv_goto (tgt := 63) hx hb dX3_copies_115 (by decide) ?_
                    exact ih (k + 1) _ _ _ (by omega) (by omega) hP hD hS (lv_sub hl [1, 2, 3, 4, 5, 0] rfl)
              rw [← cpG_0 (base := 8712 * bg) (f := 8712 * ff) (z := many * 8712) (sg := sg)] at hP hD
              exact loop (nn * many * 8712 + 1) 0 _ _ _ (Nat.zero_le _) (by omega) hP hD hS (lv_sub hl [2, 3, 4, 5, 1, 0] rfl)
            ·
              have hfit : ¬ bg + nn * many ≤ 40 := fun h9 => c_54 (nI_le (b := 40) h9 (by decide))
              have hO : cpO bg (nI nn) (nI ff) (nI tt) = false := by rw [cpO, hV, hSz]; exact decide_eq_false hfit
              refine lv_bipush (v := (-6)) hx hb dX3_copies_57 (by decide +kernel) ?_
              exact W.iret (v := (-6)) hx hb hr (fun t ht hW => ⟨⟨_, (sg, (bg, st, on)), rfl, ⟨by rw [cpR, hV, hSz, if_pos rfl, if_neg hfit], by rw [hO]; rfl, by rw [hO]; rfl⟩, by rw [ht]; exact hP, hD⟩, hS.F ht⟩) hS.2.2 dX3_copies_59
          ·
            refine lv_bipush (v := (-2)) hx hb dX3_copies_33 (by decide +kernel) ?_
            exact W.iret (v := (-2)) hx hb hr (fun t ht hW => ⟨⟨_, (sg, (bg, st, on)), rfl, ⟨by rw [cpR, cpV, if_neg c_7, if_neg c_13, if_neg c_17, if_neg c_22, if_neg c_30]; rfl, by rw [cpO, cpV, if_neg c_7, if_neg c_13, if_neg c_17, if_neg c_22, if_neg c_30]; rfl, by rw [cpO, cpV, if_neg c_7, if_neg c_13, if_neg c_17, if_neg c_22, if_neg c_30]; rfl⟩, by rw [ht]; exact hP, hD⟩, hS.F ht⟩) hS.2.2 dX3_copies_35

set_option maxHeartbeats 1000000 in
set_option maxRecDepth 100000 in
theorem c_X3_at (l : Launch) {D : va_G} {cI cP cR cJ : ClassId} {m0 mS mC mT mR mA L C rl bg st tp tl : Nat} {on tb : Bool} {th mk : Int32} {sg ch tr rc ta : Nat → Int32} {sz : Nat} (hL : L ≤ 66) (hC : C ≤ 132) (hbg : bg ≤ 40) (p0 l0 k0 : Int32) : Met l yX3_at wsX3_at ({ frames := 0, cells := 0, slots := 0, locals := 0 }) (mu [.ref m0, .int p0, .int l0, .int k0] D cI cP cR cJ (wM cI m0 mS mC mT mR mA th (nI L) (nI C) (nI rl) (nI bg) (nI st) mk (zb on) (nI tp) (nI tl) (zb tb) sg ch tr rc ta) sz) (qi D (fun (r : Int32) (u : Int32) => (atO L C bg p0 l0 k0 = true ∧ u = 0 ∧ r = sg (atP p0 l0 k0)) ∨ (atO L C bg p0 l0 k0 = false ∧ u = 1)) (fun u : Int32 => wM cI m0 mS mC mT mR mA u (nI L) (nI C) (nI rl) (nI bg) (nI st) mk (zb on) (nI tp) (nI tl) (zb tb) sg ch tr rc ta) (va_A (wM cI m0 mS mC mT mR mA th (nI L) (nI C) (nI rl) (nI bg) (nI st) mk (zb on) (nI tp) (nI tl) (zb tb) sg ch tr rc ta) sz)) 0 0 (va_A (wM cI m0 mS mC mT mR mA th (nI L) (nI C) (nI rl) (nI bg) (nI st) mk (zb on) (nI tp) (nI tl) (zb tb) sg ch tr rc ta) sz) := by
  refine Met.ofW (cc := cX3_at) (maxL := 5) (ret := (some .int)) (by decide) rfl ?_
  intro p e s m args below meth c s₁ B hml hv
  obtain ⟨rfl, hsz, hP, hK, hD0⟩ := hv
  have hx := B.exec
  have hb := B.bytes
  have hr := B.returns
  have hts := atoms_spec (ws := wsX3_at) B.pre
  have hown : s.vm.findClass RX3 = some m.cls := findClass_of_methodNamed B.named
  have hlocks := B.notSynchronized
  have hinX3 : ∀ w ∈ wsX30, w ∈ wsX3_at := by decide +kernel
  subst hsz
  have hD := hD0.self (sz := s.heap.size)
  generalize hAe : va_A (wM cI m0 mS mC mT mR mA th (nI L) (nI C) (nI rl) (nI bg) (nI st) mk (zb on) (nI tp) (nI tl) (zb tb) sg ch tr rc ta) s.heap.size = A at hD ⊢
  have hA : ∀ q : Nat, s.heap.size ≤ q → A q := fun q h => by rw [← hAe]; exact Or.inr h
  have hS : va_S A s.heap s.heap [] := va_S.rf
  have hP : va_P D vwCl (wM cI m0 mS mC mT mR mA th (nI L) (nI C) (nI rl) (nI bg) (nI st) mk (zb on) (nI tp) (nI tl) (zb tb) sg ch tr rc ta) s.heap := hP
  have hl := lv_entry ([.ref m0, .int p0, .int l0, .int k0]) (n := 5) (Nat.le_of_ble_eq_true rfl)
  rw [lg_entry_eq]
  generalize (lg_sl ([.ref m0, .int p0, .int l0, .int k0]) ++ List.replicate (5 - (lg_sl ([.ref m0, .int p0, .int l0, .int k0])).length) Slot.unset).toArray = ls at hl ⊢
  have hl : lv_has ls 5 [(0, .ref m0), (1, .int p0), (2, .int l0), (3, .int k0)] := hl
  refine lv_iload_n hx hb dX3_at_0 rfl (lv_at hl 1 rfl) ?_
  refine lv_if_lt (tgt := 40) hx hb dX3_at_1 (by decide) (fun c_1 => ?_) (fun c_1 => ?_)
  ·
    refine lv_iconst (v := 0) hx hb dX3_at_40 (by decide +kernel) ?_
    refine lv_istore (lv' := [(4, .int 0), (0, .ref m0), (1, .int p0), (2, .int l0), (3, .int k0)]) hx hb dX3_at_41 hl (by decide) rfl (fun ls hl => ?_)
    refine lv_aload_n hx hb dX3_at_43 rfl (lv_at hl 1 rfl) ?_
    refine lv_iload hx hb dX3_at_44 (lv_at hl 0 rfl) ?_
    refine lv_if_eq (tgt := 53) hx hb dX3_at_46 (by decide) (fun c_46 => ?_) (fun c_46 => absurd (rfl) c_46)
    refine lv_iconst (v := 1) hx hb dX3_at_53 (by decide +kernel) ?_
    refine va_put (D := D) (ci := 4) (v := .int 1) (ty := .int) (C := RX3) (T := TX3) (N := 16) hx hb hts hinX3 tyX3 tyX3_ok nmX3 hown hK.1 hP hD hS 0 rfl rfl 0 (by decide) (hts (.fieldLink RX3 33 "PrinterRowsModel" "thrown" "I") (by decide +kernel)) (fun _ h9 => h9) rfl (by decide +kernel) rfl rfl (Nat.le_of_ble_eq_true rfl) dX3_at_54 (fun H locs hP hD hS => ?_)
    have hP : va_P D vwCl (wM cI m0 mS mC mT mR mA 1 (nI L) (nI C) (nI rl) (nI bg) (nI st) mk (zb on) (nI tp) (nI tl) (zb tb) sg ch tr rc ta) H := hP
    have hD : va_D A (wM cI m0 mS mC mT mR mA 1 (nI L) (nI C) (nI rl) (nI bg) (nI st) mk (zb on) (nI tp) (nI tl) (zb tb) sg ch tr rc ta) := hD
    refine lv_iload hx hb dX3_at_57 (lv_at hl 0 rfl) ?_
    refine lv_if_eq (tgt := 83) hx hb dX3_at_59 (by decide) (fun c_59 => ?_) (fun c_59 => absurd (rfl) c_59)
    refine lv_iconst (v := 0) hx hb dX3_at_83 (by decide +kernel) ?_
    exact W.iret (v := 0) hx hb hr (fun t ht hW => ⟨⟨_, 1, rfl, Or.inr ⟨by rw [atO, if_pos c_1], rfl⟩, by rw [ht]; exact hP, hD⟩, hS.F ht⟩) hS.2.2 dX3_at_84
  ·
    refine lv_iload_n hx hb dX3_at_4 rfl (lv_at hl 1 rfl) ?_
    refine lv_aload_n hx hb dX3_at_5 rfl (lv_at hl 0 rfl) ?_
    refine va_get (D := D) (ci := 4) (v := .int (nI bg)) (C := RX3) (T := TX3) (N := 16) hx hb hts hinX3 hown hK.1 hP 0 rfl rfl 9 (by decide) (hts (.fieldLink RX3 39 "PrinterRowsModel" "pages" "I") (by decide +kernel)) (fun _ h9 => h9) rfl dX3_at_6 ?_
    refine lv_icmp_ge (tgt := 40) hx hb dX3_at_9 (by decide) (fun c_9 => ?_) (fun c_9 => ?_)
    ·
      refine lv_iconst (v := 0) hx hb dX3_at_40 (by decide +kernel) ?_
      refine lv_istore (lv' := [(4, .int 0), (0, .ref m0), (1, .int p0), (2, .int l0), (3, .int k0)]) hx hb dX3_at_41 hl (by decide) rfl (fun ls hl => ?_)
      refine lv_aload_n hx hb dX3_at_43 rfl (lv_at hl 1 rfl) ?_
      refine lv_iload hx hb dX3_at_44 (lv_at hl 0 rfl) ?_
      refine lv_if_eq (tgt := 53) hx hb dX3_at_46 (by decide) (fun c_46 => ?_) (fun c_46 => absurd (rfl) c_46)
      refine lv_iconst (v := 1) hx hb dX3_at_53 (by decide +kernel) ?_
      refine va_put (D := D) (ci := 4) (v := .int 1) (ty := .int) (C := RX3) (T := TX3) (N := 16) hx hb hts hinX3 tyX3 tyX3_ok nmX3 hown hK.1 hP hD hS 0 rfl rfl 0 (by decide) (hts (.fieldLink RX3 33 "PrinterRowsModel" "thrown" "I") (by decide +kernel)) (fun _ h9 => h9) rfl (by decide +kernel) rfl rfl (Nat.le_of_ble_eq_true rfl) dX3_at_54 (fun H locs hP hD hS => ?_)
      have hP : va_P D vwCl (wM cI m0 mS mC mT mR mA 1 (nI L) (nI C) (nI rl) (nI bg) (nI st) mk (zb on) (nI tp) (nI tl) (zb tb) sg ch tr rc ta) H := hP
      have hD : va_D A (wM cI m0 mS mC mT mR mA 1 (nI L) (nI C) (nI rl) (nI bg) (nI st) mk (zb on) (nI tp) (nI tl) (zb tb) sg ch tr rc ta) := hD
      refine lv_iload hx hb dX3_at_57 (lv_at hl 0 rfl) ?_
      refine lv_if_eq (tgt := 83) hx hb dX3_at_59 (by decide) (fun c_59 => ?_) (fun c_59 => absurd (rfl) c_59)
      refine lv_iconst (v := 0) hx hb dX3_at_83 (by decide +kernel) ?_
      exact W.iret (v := 0) hx hb hr (fun t ht hW => ⟨⟨_, 1, rfl, Or.inr ⟨by rw [atO, if_neg c_1, if_pos c_9], rfl⟩, by rw [ht]; exact hP, hD⟩, hS.F ht⟩) hS.2.2 dX3_at_84
    ·
      refine lv_iload_n hx hb dX3_at_12 rfl (lv_at hl 2 rfl) ?_
      refine lv_if_lt (tgt := 40) hx hb dX3_at_13 (by decide) (fun c_13 => ?_) (fun c_13 => ?_)
      ·
        refine lv_iconst (v := 0) hx hb dX3_at_40 (by decide +kernel) ?_
        refine lv_istore (lv' := [(4, .int 0), (0, .ref m0), (1, .int p0), (2, .int l0), (3, .int k0)]) hx hb dX3_at_41 hl (by decide) rfl (fun ls hl => ?_)
        refine lv_aload_n hx hb dX3_at_43 rfl (lv_at hl 1 rfl) ?_
        refine lv_iload hx hb dX3_at_44 (lv_at hl 0 rfl) ?_
        refine lv_if_eq (tgt := 53) hx hb dX3_at_46 (by decide) (fun c_46 => ?_) (fun c_46 => absurd (rfl) c_46)
        refine lv_iconst (v := 1) hx hb dX3_at_53 (by decide +kernel) ?_
        refine va_put (D := D) (ci := 4) (v := .int 1) (ty := .int) (C := RX3) (T := TX3) (N := 16) hx hb hts hinX3 tyX3 tyX3_ok nmX3 hown hK.1 hP hD hS 0 rfl rfl 0 (by decide) (hts (.fieldLink RX3 33 "PrinterRowsModel" "thrown" "I") (by decide +kernel)) (fun _ h9 => h9) rfl (by decide +kernel) rfl rfl (Nat.le_of_ble_eq_true rfl) dX3_at_54 (fun H locs hP hD hS => ?_)
        have hP : va_P D vwCl (wM cI m0 mS mC mT mR mA 1 (nI L) (nI C) (nI rl) (nI bg) (nI st) mk (zb on) (nI tp) (nI tl) (zb tb) sg ch tr rc ta) H := hP
        have hD : va_D A (wM cI m0 mS mC mT mR mA 1 (nI L) (nI C) (nI rl) (nI bg) (nI st) mk (zb on) (nI tp) (nI tl) (zb tb) sg ch tr rc ta) := hD
        refine lv_iload hx hb dX3_at_57 (lv_at hl 0 rfl) ?_
        refine lv_if_eq (tgt := 83) hx hb dX3_at_59 (by decide) (fun c_59 => ?_) (fun c_59 => absurd (rfl) c_59)
        refine lv_iconst (v := 0) hx hb dX3_at_83 (by decide +kernel) ?_
        exact W.iret (v := 0) hx hb hr (fun t ht hW => ⟨⟨_, 1, rfl, Or.inr ⟨by rw [atO, if_neg c_1, if_neg c_9, if_pos c_13], rfl⟩, by rw [ht]; exact hP, hD⟩, hS.F ht⟩) hS.2.2 dX3_at_84
      ·
        refine lv_iload_n hx hb dX3_at_16 rfl (lv_at hl 2 rfl) ?_
        refine lv_aload_n hx hb dX3_at_17 rfl (lv_at hl 0 rfl) ?_
        refine va_get (D := D) (ci := 4) (v := .int (nI L)) (C := RX3) (T := TX3) (N := 16) hx hb hts hinX3 hown hK.1 hP 0 rfl rfl 1 (by decide) (hts (.fieldLink RX3 26 "PrinterRowsModel" "lines" "I") (by decide +kernel)) (fun _ h9 => h9) rfl dX3_at_18 ?_
        refine lv_icmp_ge (tgt := 40) hx hb dX3_at_21 (by decide) (fun c_21 => ?_) (fun c_21 => ?_)
        ·
          refine lv_iconst (v := 0) hx hb dX3_at_40 (by decide +kernel) ?_
          refine lv_istore (lv' := [(4, .int 0), (0, .ref m0), (1, .int p0), (2, .int l0), (3, .int k0)]) hx hb dX3_at_41 hl (by decide) rfl (fun ls hl => ?_)
          refine lv_aload_n hx hb dX3_at_43 rfl (lv_at hl 1 rfl) ?_
          refine lv_iload hx hb dX3_at_44 (lv_at hl 0 rfl) ?_
          refine lv_if_eq (tgt := 53) hx hb dX3_at_46 (by decide) (fun c_46 => ?_) (fun c_46 => absurd (rfl) c_46)
          refine lv_iconst (v := 1) hx hb dX3_at_53 (by decide +kernel) ?_
          refine va_put (D := D) (ci := 4) (v := .int 1) (ty := .int) (C := RX3) (T := TX3) (N := 16) hx hb hts hinX3 tyX3 tyX3_ok nmX3 hown hK.1 hP hD hS 0 rfl rfl 0 (by decide) (hts (.fieldLink RX3 33 "PrinterRowsModel" "thrown" "I") (by decide +kernel)) (fun _ h9 => h9) rfl (by decide +kernel) rfl rfl (Nat.le_of_ble_eq_true rfl) dX3_at_54 (fun H locs hP hD hS => ?_)
          have hP : va_P D vwCl (wM cI m0 mS mC mT mR mA 1 (nI L) (nI C) (nI rl) (nI bg) (nI st) mk (zb on) (nI tp) (nI tl) (zb tb) sg ch tr rc ta) H := hP
          have hD : va_D A (wM cI m0 mS mC mT mR mA 1 (nI L) (nI C) (nI rl) (nI bg) (nI st) mk (zb on) (nI tp) (nI tl) (zb tb) sg ch tr rc ta) := hD
          refine lv_iload hx hb dX3_at_57 (lv_at hl 0 rfl) ?_
          refine lv_if_eq (tgt := 83) hx hb dX3_at_59 (by decide) (fun c_59 => ?_) (fun c_59 => absurd (rfl) c_59)
          refine lv_iconst (v := 0) hx hb dX3_at_83 (by decide +kernel) ?_
          exact W.iret (v := 0) hx hb hr (fun t ht hW => ⟨⟨_, 1, rfl, Or.inr ⟨by rw [atO, if_neg c_1, if_neg c_9, if_neg c_13, if_pos c_21], rfl⟩, by rw [ht]; exact hP, hD⟩, hS.F ht⟩) hS.2.2 dX3_at_84
        ·
          refine lv_iload_n hx hb dX3_at_24 rfl (lv_at hl 3 rfl) ?_
          refine lv_if_lt (tgt := 40) hx hb dX3_at_25 (by decide) (fun c_25 => ?_) (fun c_25 => ?_)
          ·
            refine lv_iconst (v := 0) hx hb dX3_at_40 (by decide +kernel) ?_
            refine lv_istore (lv' := [(4, .int 0), (0, .ref m0), (1, .int p0), (2, .int l0), (3, .int k0)]) hx hb dX3_at_41 hl (by decide) rfl (fun ls hl => ?_)
            refine lv_aload_n hx hb dX3_at_43 rfl (lv_at hl 1 rfl) ?_
            refine lv_iload hx hb dX3_at_44 (lv_at hl 0 rfl) ?_
            refine lv_if_eq (tgt := 53) hx hb dX3_at_46 (by decide) (fun c_46 => ?_) (fun c_46 => absurd (rfl) c_46)
            refine lv_iconst (v := 1) hx hb dX3_at_53 (by decide +kernel) ?_
            refine va_put (D := D) (ci := 4) (v := .int 1) (ty := .int) (C := RX3) (T := TX3) (N := 16) hx hb hts hinX3 tyX3 tyX3_ok nmX3 hown hK.1 hP hD hS 0 rfl rfl 0 (by decide) (hts (.fieldLink RX3 33 "PrinterRowsModel" "thrown" "I") (by decide +kernel)) (fun _ h9 => h9) rfl (by decide +kernel) rfl rfl (Nat.le_of_ble_eq_true rfl) dX3_at_54 (fun H locs hP hD hS => ?_)
            have hP : va_P D vwCl (wM cI m0 mS mC mT mR mA 1 (nI L) (nI C) (nI rl) (nI bg) (nI st) mk (zb on) (nI tp) (nI tl) (zb tb) sg ch tr rc ta) H := hP
            have hD : va_D A (wM cI m0 mS mC mT mR mA 1 (nI L) (nI C) (nI rl) (nI bg) (nI st) mk (zb on) (nI tp) (nI tl) (zb tb) sg ch tr rc ta) := hD
            refine lv_iload hx hb dX3_at_57 (lv_at hl 0 rfl) ?_
            refine lv_if_eq (tgt := 83) hx hb dX3_at_59 (by decide) (fun c_59 => ?_) (fun c_59 => absurd (rfl) c_59)
            refine lv_iconst (v := 0) hx hb dX3_at_83 (by decide +kernel) ?_
            exact W.iret (v := 0) hx hb hr (fun t ht hW => ⟨⟨_, 1, rfl, Or.inr ⟨by rw [atO, if_neg c_1, if_neg c_9, if_neg c_13, if_neg c_21, if_pos c_25], rfl⟩, by rw [ht]; exact hP, hD⟩, hS.F ht⟩) hS.2.2 dX3_at_84
          ·
            refine lv_iload_n hx hb dX3_at_28 rfl (lv_at hl 3 rfl) ?_
            refine lv_aload_n hx hb dX3_at_29 rfl (lv_at hl 0 rfl) ?_
            refine va_get (D := D) (ci := 4) (v := .int (nI C)) (C := RX3) (T := TX3) (N := 16) hx hb hts hinX3 hown hK.1 hP 0 rfl rfl 2 (by decide) (hts (.fieldLink RX3 30 "PrinterRowsModel" "columns" "I") (by decide +kernel)) (fun _ h9 => h9) rfl dX3_at_30 ?_
            refine lv_icmp_ge (tgt := 40) hx hb dX3_at_33 (by decide) (fun c_33 => ?_) (fun c_33 => ?_)
            ·
              refine lv_iconst (v := 0) hx hb dX3_at_40 (by decide +kernel) ?_
              refine lv_istore (lv' := [(4, .int 0), (0, .ref m0), (1, .int p0), (2, .int l0), (3, .int k0)]) hx hb dX3_at_41 hl (by decide) rfl (fun ls hl => ?_)
              refine lv_aload_n hx hb dX3_at_43 rfl (lv_at hl 1 rfl) ?_
              refine lv_iload hx hb dX3_at_44 (lv_at hl 0 rfl) ?_
              refine lv_if_eq (tgt := 53) hx hb dX3_at_46 (by decide) (fun c_46 => ?_) (fun c_46 => absurd (rfl) c_46)
              refine lv_iconst (v := 1) hx hb dX3_at_53 (by decide +kernel) ?_
              refine va_put (D := D) (ci := 4) (v := .int 1) (ty := .int) (C := RX3) (T := TX3) (N := 16) hx hb hts hinX3 tyX3 tyX3_ok nmX3 hown hK.1 hP hD hS 0 rfl rfl 0 (by decide) (hts (.fieldLink RX3 33 "PrinterRowsModel" "thrown" "I") (by decide +kernel)) (fun _ h9 => h9) rfl (by decide +kernel) rfl rfl (Nat.le_of_ble_eq_true rfl) dX3_at_54 (fun H locs hP hD hS => ?_)
              have hP : va_P D vwCl (wM cI m0 mS mC mT mR mA 1 (nI L) (nI C) (nI rl) (nI bg) (nI st) mk (zb on) (nI tp) (nI tl) (zb tb) sg ch tr rc ta) H := hP
              have hD : va_D A (wM cI m0 mS mC mT mR mA 1 (nI L) (nI C) (nI rl) (nI bg) (nI st) mk (zb on) (nI tp) (nI tl) (zb tb) sg ch tr rc ta) := hD
              refine lv_iload hx hb dX3_at_57 (lv_at hl 0 rfl) ?_
              refine lv_if_eq (tgt := 83) hx hb dX3_at_59 (by decide) (fun c_59 => ?_) (fun c_59 => absurd (rfl) c_59)
              refine lv_iconst (v := 0) hx hb dX3_at_83 (by decide +kernel) ?_
              exact W.iret (v := 0) hx hb hr (fun t ht hW => ⟨⟨_, 1, rfl, Or.inr ⟨by rw [atO, if_neg c_1, if_neg c_9, if_neg c_13, if_neg c_21, if_neg c_25, if_pos c_33], rfl⟩, by rw [ht]; exact hP, hD⟩, hS.F ht⟩) hS.2.2 dX3_at_84
            ·
              refine lv_iconst (v := 1) hx hb dX3_at_36 (by decide +kernel) ?_
              refine lv_goto (tgt := 41) hx hb dX3_at_37 (by decide) ?_
              refine lv_istore (lv' := [(4, .int 1), (0, .ref m0), (1, .int p0), (2, .int l0), (3, .int k0)]) hx hb dX3_at_41 hl (by decide) rfl (fun ls hl => ?_)
              refine lv_aload_n hx hb dX3_at_43 rfl (lv_at hl 1 rfl) ?_
              refine lv_iload hx hb dX3_at_44 (lv_at hl 0 rfl) ?_
              refine lv_if_eq (tgt := 53) hx hb dX3_at_46 (by decide) (fun c_46 => absurd c_46 (by decide)) (fun c_46 => ?_)
              refine lv_iconst (v := 0) hx hb dX3_at_49 (by decide +kernel) ?_
              refine lv_goto (tgt := 54) hx hb dX3_at_50 (by decide) ?_
              refine va_put (D := D) (ci := 4) (v := .int 0) (ty := .int) (C := RX3) (T := TX3) (N := 16) hx hb hts hinX3 tyX3 tyX3_ok nmX3 hown hK.1 hP hD hS 0 rfl rfl 0 (by decide) (hts (.fieldLink RX3 33 "PrinterRowsModel" "thrown" "I") (by decide +kernel)) (fun _ h9 => h9) rfl (by decide +kernel) rfl rfl (Nat.le_of_ble_eq_true rfl) dX3_at_54 (fun H locs hP hD hS => ?_)
              have hP : va_P D vwCl (wM cI m0 mS mC mT mR mA 0 (nI L) (nI C) (nI rl) (nI bg) (nI st) mk (zb on) (nI tp) (nI tl) (zb tb) sg ch tr rc ta) H := hP
              have hD : va_D A (wM cI m0 mS mC mT mR mA 0 (nI L) (nI C) (nI rl) (nI bg) (nI st) mk (zb on) (nI tp) (nI tl) (zb tb) sg ch tr rc ta) := hD
              refine lv_iload hx hb dX3_at_57 (lv_at hl 0 rfl) ?_
              refine lv_if_eq (tgt := 83) hx hb dX3_at_59 (by decide) (fun c_59 => absurd c_59 (by decide)) (fun c_59 => ?_)
              obtain ⟨p1, hp1, rfl⟩ := nI_of (x := p0) c_1
              obtain ⟨l1, hl1, rfl⟩ := nI_of (x := l0) c_13
              obtain ⟨k1, hk1, rfl⟩ := nI_of (x := k0) c_25
              have hpb : p1 < bg := Nat.lt_of_not_le (fun h9 => c_9 (nI_le h9 hp1))
              have hlb : l1 < L := Nat.lt_of_not_le (fun h9 => c_21 (nI_le h9 hl1))
              have hkb : k1 < C := Nat.lt_of_not_le (fun h9 => c_33 (nI_le h9 hk1))
              have hpl : atP (nI p1) (nI l1) (nI k1) = 8712 * p1 + 132 * l1 + k1 := by rw [atP, nI_clamp hp1, nI_clamp hl1, nI_clamp hk1]
              refine lv_aload_n hx hb dX3_at_62 rfl (lv_at hl 1 rfl) ?_
              refine va_get (D := D) (ci := 4) (v := .ref mS) (C := RX3) (T := TX3) (N := 16) hx hb hts hinX3 hown hK.1 hP 0 rfl rfl 3 (by decide) (hts (.fieldLink RX3 8 "PrinterRowsModel" "signs" "[I") (by decide +kernel)) (fun _ h9 => h9) rfl dX3_at_63 ?_
              refine lv_sipush (v := 8712) hx hb dX3_at_66 (by decide +kernel) ?_
              refine lv_iload_n hx hb dX3_at_69 rfl (lv_at hl 2 rfl) ?_
              refine lv_imul hx hb dX3_at_70 ?_
              refine lv_topi (fun x_70 ex_70 => ?_)
              obtain rfl : x_70 = nI (8712 * p1) := ex_70.trans (pk_mul 8712 p1)
              refine lv_sipush (v := 132) hx hb dX3_at_71 (by decide +kernel) ?_
              refine lv_iload_n hx hb dX3_at_74 rfl (lv_at hl 3 rfl) ?_
              refine lv_imul hx hb dX3_at_75 ?_
              refine lv_topi (fun x_75 ex_75 => ?_)
              obtain rfl : x_75 = nI (132 * l1) := ex_75.trans (pk_mul 132 l1)
              refine lv_iadd hx hb dX3_at_76 ?_
              refine lv_topi (fun x_76 ex_76 => ?_)
              obtain rfl : x_76 = nI (8712 * p1 + 132 * l1) := ex_76.trans (nI_add _ _)
              refine lv_iload_n hx hb dX3_at_77 rfl (lv_at hl 4 rfl) ?_
              refine lv_iadd hx hb dX3_at_78 ?_
              refine lv_topi (fun x_78 ex_78 => ?_)
              obtain rfl : x_78 = nI (8712 * p1 + 132 * l1 + k1) := ex_78.trans (nI_add _ _)
              refine va_iald hx hb hK.1 hP 1 0 rfl rfl (vp_in_nI (by omega) (by decide)) dX3_at_79 ?_
              refine lv_topi (fun x_79 ex_79 => ?_)
              obtain rfl : x_79 = (sg (atP (nI p1) (nI l1) (nI k1))) := ex_79.trans (by rw [hpl, nI_clamp (by omega)])
              refine lv_goto (tgt := 84) hx hb dX3_at_80 (by decide) ?_
              exact W.iret (v := (sg (atP (nI p1) (nI l1) (nI k1)))) hx hb hr (fun t ht hW => ⟨⟨_, 0, rfl, Or.inl ⟨by rw [atO, if_neg c_1, if_neg c_9, if_neg c_13, if_neg c_21, if_neg c_25, if_neg c_33], rfl, rfl⟩, by rw [ht]; exact hP, hD⟩, hS.F ht⟩) hS.2.2 dX3_at_84

theorem hd_lo {a : Int32} {n : Nat} (h1 : 1 ≤ n) (h2 : n < 2 ^ 31) (h : ¬ 1 ≤ a) : hdTo a (nI n) = 1 := by
  have f := i32_nle h
  have e1 : (1 : Int32).toInt = 1 := rfl
  have en := nI_toInt h2
  have hin : (if nI n < a then nI n else a) = a := if_neg (fun z => by have := i32_lt.mp z; omega)
  have hq : ¬ (1 : Int32) < a := fun z => by have := i32_lt.mp z; omega
  unfold hdTo mx
  rw [hin, if_neg hq]
theorem hd_hi {a : Int32} {n : Nat} (h1 : 1 ≤ n) (h2 : n < 2 ^ 31) (h : ¬ a ≤ nI n) : hdTo a (nI n) = nI n := by
  have f := i32_nle h
  have e1 : (1 : Int32).toInt = 1 := rfl
  have en := nI_toInt h2
  have hin : (if nI n < a then nI n else a) = nI n := if_pos (i32_lt.mpr (by omega))
  unfold hdTo mx
  rw [hin]
  by_cases q : (1 : Int32) < nI n
  · rw [if_pos q]
  · rw [if_neg q]
    exact i32_ext (by have := i32_nlt q; omega)
theorem hd_mid {a : Int32} {n : Nat} (h : 1 ≤ a) (h2 : a ≤ nI n) : hdTo a (nI n) = a := by
  have f := i32_le.mp h
  have f2 := i32_le.mp h2
  have hin : (if nI n < a then nI n else a) = a := if_neg (fun z => by have := i32_lt.mp z; omega)
  unfold hdTo mx
  rw [hin]
  by_cases q : (1 : Int32) < a
  · rw [if_pos q]
  · rw [if_neg q]
    exact i32_ext (by have := i32_nlt q; omega)

set_option maxHeartbeats 1000000 in
set_option maxRecDepth 100000 in
theorem c_X3_init (l : Launch) {D : va_G} {cI cP cR cJ : ClassId} {m0 L C : Nat} {sz : Nat} (l0 c0 : Int32) (hL : hdTo l0 66 = nI L) (hC : hdTo c0 132 = nI C) : Met l yX3_init wsX3_init ({ frames := 1, cells := 5, slots := 348957, locals := 14 }) (mu [.ref m0, .int l0, .int c0] D cI cP cR cJ ([(m0, .inr (4, [.int 0, .int 0, .int 0, .null, .null, .null, .null, .null, .int 0, .int 0, .int 0, .int 0, .int 0, .int 0, .int 0, .int 0]))]) sz) (qv D (fun (u : (Nat × Nat × Nat × Nat × Nat) × (Nat → Int32) × (Nat → Int32)) => (∀ k, k < 13 → u.2.1 k = -1) ∧ ∀ k, k < 256 → u.2.2 k = nI k) (fun u : (Nat × Nat × Nat × Nat × Nat) × (Nat → Int32) × (Nat → Int32) => wM cI m0 u.1.1 u.1.2.1 u.1.2.2.1 u.1.2.2.2.1 u.1.2.2.2.2 0 (nI L) (nI C) (nI 0) (nI 0) (nI 0) 0 (zb false) (nI 0) (nI 0) (zb false) (fun _ => 0) u.2.1 u.2.2 (fun _ => 0) (fun _ => 0)) (va_A ([(m0, .inr (4, [.int 0, .int 0, .int 0, .null, .null, .null, .null, .null, .int 0, .int 0, .int 0, .int 0, .int 0, .int 0, .int 0, .int 0]))]) sz)) 5 348957 (va_A ([(m0, .inr (4, [.int 0, .int 0, .int 0, .null, .null, .null, .null, .null, .int 0, .int 0, .int 0, .int 0, .int 0, .int 0, .int 0, .int 0]))]) sz) := by
  refine Met.ofW (cc := cX3_init) (maxL := 4) (ret := none) (by decide) rfl ?_
  intro p e s m args below meth c s₁ B hml hv
  obtain ⟨rfl, hsz, hP, hK, hD0⟩ := hv
  have hx := B.exec
  have hb := B.bytes
  have hr := B.returns
  have hts := atoms_spec (ws := wsX3_init) B.pre
  have hown : s.vm.findClass RX3 = some m.cls := findClass_of_methodNamed B.named
  have hlocks := B.notSynchronized
  have hin : meth.name = "<init>" := (name_of_methodNamed B.named B.method).1
  have hinX3 : ∀ w ∈ wsX30, w ∈ wsX3_init := by decide +kernel
  subst hsz
  have hD := hD0.self (sz := s.heap.size)
  generalize hAe : va_A ([(m0, .inr (4, [.int 0, .int 0, .int 0, .null, .null, .null, .null, .null, .int 0, .int 0, .int 0, .int 0, .int 0, .int 0, .int 0, .int 0]))]) s.heap.size = A at hD ⊢
  have hA : ∀ q : Nat, s.heap.size ≤ q → A q := fun q h => by rw [← hAe]; exact Or.inr h
  have hS : va_S A s.heap s.heap [] := va_S.rf
  have hP : va_P D vwCl ([(m0, .inr (4, [.int 0, .int 0, .int 0, .null, .null, .null, .null, .null, .int 0, .int 0, .int 0, .int 0, .int 0, .int 0, .int 0, .int 0]))]) s.heap := hP
  have hl := lv_entry ([.ref m0, .int l0, .int c0]) (n := 4) (Nat.le_of_ble_eq_true rfl)
  rw [lg_entry_eq]
  generalize (lg_sl ([.ref m0, .int l0, .int c0]) ++ List.replicate (4 - (lg_sl ([.ref m0, .int l0, .int c0])).length) Slot.unset).toArray = ls at hl ⊢
  have hl : lv_has ls 4 [(0, .ref m0), (1, .int l0), (2, .int c0)] := hl
  refine lv_aload_n hx hb dX3_init_0 rfl (lv_at hl 0 rfl) ?_
  refine W.objInit hx hb hown (hts (.methodLink RX3 1 objectInit) (by decide +kernel)) (hts (.instanceMethod objectInit) (by decide +kernel)) (hts (.code objectInit ⟨#[0xb1]⟩ 1 none) (by decide +kernel)) rfl (by rw [hml]; exact hl.1) rfl dX3_init_1 (Nat.le_of_ble_eq_true rfl) (Nat.le_of_ble_eq_true rfl) ?_
  refine W.eq (g2 := F0 m 4 ls []) rfl ?_
  refine lv_aload_n hx hb dX3_init_4 rfl (lv_at hl 0 rfl) ?_
  refine lv_ldc (v := 348480) hx hb hown (hts (.constant RX3 7 348480) (by decide +kernel)) dX3_init_5 ?_
  refine va_newa (atype := .int) (ty := .int) hx hb (hts (.arrayClass .int) (by decide +kernel)) rfl hK.1 hP hD hS hA (n := 348480) (N' := 348480) (a0 := (348480, .inl (fun _ => 0))) (fun _ => rfl) (by decide +kernel) (by decide +kernel) (by decide +kernel) (by show 0 + 1 ≤ 5; omega) (by show 0 + 348480 ≤ 348957; omega) dX3_init_7 (fun mS cA H hK2 hP hD hS => ?_)
  rw [show cA = cI from kI hK2] at hP hD
  have hP : va_P D vwCl ([(m0, .inr (4, [.int 0, .int 0, .int 0, .null, .null, .null, .null, .null, .int 0, .int 0, .int 0, .int 0, .int 0, .int 0, .int 0, .int 0])), (mS, .inl (cI, 348480, .inl (fun _ => 0)))]) H := hP
  have hD : va_D A ([(m0, .inr (4, [.int 0, .int 0, .int 0, .null, .null, .null, .null, .null, .int 0, .int 0, .int 0, .int 0, .int 0, .int 0, .int 0, .int 0])), (mS, .inl (cI, 348480, .inl (fun _ => 0)))]) := hD
  refine W.widen (k := 1) (n := 348480) (by omega) (by omega) ?_
  refine va_putF (D := D) (ci := 4) (v := .ref mS) (ty := .array .int) (C := RX3) (T := TX3) (N := 16) hx hb hts hinX3 tyX3 tyX3_ok nmX3 hown hK.1 hP hD hS 0 rfl rfl 3 (by decide) (hts (.fieldLink RX3 8 "PrinterRowsModel" "signs" "[I") (by decide +kernel)) (fun _ h9 => h9) rfl hin rfl (by decide +kernel) rfl rfl (Nat.le_of_ble_eq_true rfl) dX3_init_9 (fun H locs hP hD hS => ?_)
  have hP : va_P D vwCl ([(m0, .inr (4, [.int 0, .int 0, .int 0, .ref mS, .null, .null, .null, .null, .int 0, .int 0, .int 0, .int 0, .int 0, .int 0, .int 0, .int 0])), (mS, .inl (cI, 348480, .inl (fun _ => 0)))]) H := hP
  have hD : va_D A ([(m0, .inr (4, [.int 0, .int 0, .int 0, .ref mS, .null, .null, .null, .null, .int 0, .int 0, .int 0, .int 0, .int 0, .int 0, .int 0, .int 0])), (mS, .inl (cI, 348480, .inl (fun _ => 0)))]) := hD
  refine lv_aload_n hx hb dX3_init_12 rfl (lv_at hl 0 rfl) ?_
  refine lv_bipush (v := 13) hx hb dX3_init_13 (by decide +kernel) ?_
  refine va_newa (atype := .int) (ty := .int) hx hb (hts (.arrayClass .int) (by decide +kernel)) rfl hK.1 hP hD hS hA (n := 13) (N' := 13) (a0 := (13, .inl (fun _ => 0))) (fun _ => rfl) (by decide) (by decide) (by decide) (by show 1 + 1 ≤ 5; omega) (by show 348480 + 13 ≤ 348957; omega) dX3_init_15 (fun mC cA H hK2 hP hD hS => ?_)
  rw [show cA = cI from kI hK2] at hP hD
  have hP : va_P D vwCl ([(m0, .inr (4, [.int 0, .int 0, .int 0, .ref mS, .null, .null, .null, .null, .int 0, .int 0, .int 0, .int 0, .int 0, .int 0, .int 0, .int 0])), (mS, .inl (cI, 348480, .inl (fun _ => 0))), (mC, .inl (cI, 13, .inl (fun _ => 0)))]) H := hP
  have hD : va_D A ([(m0, .inr (4, [.int 0, .int 0, .int 0, .ref mS, .null, .null, .null, .null, .int 0, .int 0, .int 0, .int 0, .int 0, .int 0, .int 0, .int 0])), (mS, .inl (cI, 348480, .inl (fun _ => 0))), (mC, .inl (cI, 13, .inl (fun _ => 0)))]) := hD
  refine W.widen (k := 2) (n := 348493) (by omega) (by omega) ?_
  refine va_putF (D := D) (ci := 4) (v := .ref mC) (ty := .array .int) (C := RX3) (T := TX3) (N := 16) hx hb hts hinX3 tyX3 tyX3_ok nmX3 hown hK.1 hP hD hS 0 rfl rfl 4 (by decide) (hts (.fieldLink RX3 14 "PrinterRowsModel" "channels" "[I") (by decide +kernel)) (fun _ h9 => h9) rfl hin rfl (by decide +kernel) rfl rfl (Nat.le_of_ble_eq_true rfl) dX3_init_17 (fun H locs hP hD hS => ?_)
  have hP : va_P D vwCl ([(m0, .inr (4, [.int 0, .int 0, .int 0, .ref mS, .ref mC, .null, .null, .null, .int 0, .int 0, .int 0, .int 0, .int 0, .int 0, .int 0, .int 0])), (mS, .inl (cI, 348480, .inl (fun _ => 0))), (mC, .inl (cI, 13, .inl (fun _ => 0)))]) H := hP
  have hD : va_D A ([(m0, .inr (4, [.int 0, .int 0, .int 0, .ref mS, .ref mC, .null, .null, .null, .int 0, .int 0, .int 0, .int 0, .int 0, .int 0, .int 0, .int 0])), (mS, .inl (cI, 348480, .inl (fun _ => 0))), (mC, .inl (cI, 13, .inl (fun _ => 0)))]) := hD
  refine lv_aload_n hx hb dX3_init_20 rfl (lv_at hl 0 rfl) ?_
  refine lv_sipush (v := 256) hx hb dX3_init_21 (by decide +kernel) ?_
  refine va_newa (atype := .int) (ty := .int) hx hb (hts (.arrayClass .int) (by decide +kernel)) rfl hK.1 hP hD hS hA (n := 256) (N' := 256) (a0 := (256, .inl (fun _ => 0))) (fun _ => rfl) (by decide) (by decide) (by decide) (by show 2 + 1 ≤ 5; omega) (by show 348493 + 256 ≤ 348957; omega) dX3_init_24 (fun mT cA H hK2 hP hD hS => ?_)
  rw [show cA = cI from kI hK2] at hP hD
  have hP : va_P D vwCl ([(m0, .inr (4, [.int 0, .int 0, .int 0, .ref mS, .ref mC, .null, .null, .null, .int 0, .int 0, .int 0, .int 0, .int 0, .int 0, .int 0, .int 0])), (mS, .inl (cI, 348480, .inl (fun _ => 0))), (mC, .inl (cI, 13, .inl (fun _ => 0))), (mT, .inl (cI, 256, .inl (fun _ => 0)))]) H := hP
  have hD : va_D A ([(m0, .inr (4, [.int 0, .int 0, .int 0, .ref mS, .ref mC, .null, .null, .null, .int 0, .int 0, .int 0, .int 0, .int 0, .int 0, .int 0, .int 0])), (mS, .inl (cI, 348480, .inl (fun _ => 0))), (mC, .inl (cI, 13, .inl (fun _ => 0))), (mT, .inl (cI, 256, .inl (fun _ => 0)))]) := hD
  refine W.widen (k := 3) (n := 348749) (by omega) (by omega) ?_
  refine va_putF (D := D) (ci := 4) (v := .ref mT) (ty := .array .int) (C := RX3) (T := TX3) (N := 16) hx hb hts hinX3 tyX3 tyX3_ok nmX3 hown hK.1 hP hD hS 0 rfl rfl 5 (by decide) (hts (.fieldLink RX3 17 "PrinterRowsModel" "table" "[I") (by decide +kernel)) (fun _ h9 => h9) rfl hin rfl (by decide +kernel) rfl rfl (Nat.le_of_ble_eq_true rfl) dX3_init_26 (fun H locs hP hD hS => ?_)
  have hP : va_P D vwCl ([(m0, .inr (4, [.int 0, .int 0, .int 0, .ref mS, .ref mC, .ref mT, .null, .null, .int 0, .int 0, .int 0, .int 0, .int 0, .int 0, .int 0, .int 0])), (mS, .inl (cI, 348480, .inl (fun _ => 0))), (mC, .inl (cI, 13, .inl (fun _ => 0))), (mT, .inl (cI, 256, .inl (fun _ => 0)))]) H := hP
  have hD : va_D A ([(m0, .inr (4, [.int 0, .int 0, .int 0, .ref mS, .ref mC, .ref mT, .null, .null, .int 0, .int 0, .int 0, .int 0, .int 0, .int 0, .int 0, .int 0])), (mS, .inl (cI, 348480, .inl (fun _ => 0))), (mC, .inl (cI, 13, .inl (fun _ => 0))), (mT, .inl (cI, 256, .inl (fun _ => 0)))]) := hD
  refine lv_aload_n hx hb dX3_init_29 rfl (lv_at hl 0 rfl) ?_
  refine lv_sipush (v := 200) hx hb dX3_init_30 (by decide +kernel) ?_
  refine va_newa (atype := .int) (ty := .int) hx hb (hts (.arrayClass .int) (by decide +kernel)) rfl hK.1 hP hD hS hA (n := 200) (N' := 200) (a0 := (200, .inl (fun _ => 0))) (fun _ => rfl) (by decide) (by decide) (by decide) (by show 3 + 1 ≤ 5; omega) (by show 348749 + 200 ≤ 348957; omega) dX3_init_33 (fun mR cA H hK2 hP hD hS => ?_)
  rw [show cA = cI from kI hK2] at hP hD
  have hP : va_P D vwCl ([(m0, .inr (4, [.int 0, .int 0, .int 0, .ref mS, .ref mC, .ref mT, .null, .null, .int 0, .int 0, .int 0, .int 0, .int 0, .int 0, .int 0, .int 0])), (mS, .inl (cI, 348480, .inl (fun _ => 0))), (mC, .inl (cI, 13, .inl (fun _ => 0))), (mT, .inl (cI, 256, .inl (fun _ => 0))), (mR, .inl (cI, 200, .inl (fun _ => 0)))]) H := hP
  have hD : va_D A ([(m0, .inr (4, [.int 0, .int 0, .int 0, .ref mS, .ref mC, .ref mT, .null, .null, .int 0, .int 0, .int 0, .int 0, .int 0, .int 0, .int 0, .int 0])), (mS, .inl (cI, 348480, .inl (fun _ => 0))), (mC, .inl (cI, 13, .inl (fun _ => 0))), (mT, .inl (cI, 256, .inl (fun _ => 0))), (mR, .inl (cI, 200, .inl (fun _ => 0)))]) := hD
  refine W.widen (k := 4) (n := 348949) (by omega) (by omega) ?_
  refine va_putF (D := D) (ci := 4) (v := .ref mR) (ty := .array .int) (C := RX3) (T := TX3) (N := 16) hx hb hts hinX3 tyX3 tyX3_ok nmX3 hown hK.1 hP hD hS 0 rfl rfl 6 (by decide) (hts (.fieldLink RX3 20 "PrinterRowsModel" "record" "[I") (by decide +kernel)) (fun _ h9 => h9) rfl hin rfl (by decide +kernel) rfl rfl (Nat.le_of_ble_eq_true rfl) dX3_init_35 (fun H locs hP hD hS => ?_)
  have hP : va_P D vwCl ([(m0, .inr (4, [.int 0, .int 0, .int 0, .ref mS, .ref mC, .ref mT, .ref mR, .null, .int 0, .int 0, .int 0, .int 0, .int 0, .int 0, .int 0, .int 0])), (mS, .inl (cI, 348480, .inl (fun _ => 0))), (mC, .inl (cI, 13, .inl (fun _ => 0))), (mT, .inl (cI, 256, .inl (fun _ => 0))), (mR, .inl (cI, 200, .inl (fun _ => 0)))]) H := hP
  have hD : va_D A ([(m0, .inr (4, [.int 0, .int 0, .int 0, .ref mS, .ref mC, .ref mT, .ref mR, .null, .int 0, .int 0, .int 0, .int 0, .int 0, .int 0, .int 0, .int 0])), (mS, .inl (cI, 348480, .inl (fun _ => 0))), (mC, .inl (cI, 13, .inl (fun _ => 0))), (mT, .inl (cI, 256, .inl (fun _ => 0))), (mR, .inl (cI, 200, .inl (fun _ => 0)))]) := hD
  refine lv_aload_n hx hb dX3_init_38 rfl (lv_at hl 0 rfl) ?_
  refine lv_bipush (v := 8) hx hb dX3_init_39 (by decide +kernel) ?_
  refine va_newa (atype := .int) (ty := .int) hx hb (hts (.arrayClass .int) (by decide +kernel)) rfl hK.1 hP hD hS hA (n := 8) (N' := 8) (a0 := (8, .inl (fun _ => 0))) (fun _ => rfl) (by decide) (by decide) (by decide) (by show 4 + 1 ≤ 5; omega) (by show 348949 + 8 ≤ 348957; omega) dX3_init_41 (fun mA cA H hK2 hP hD hS => ?_)
  rw [show cA = cI from kI hK2] at hP hD
  have hP : va_P D vwCl ([(m0, .inr (4, [.int 0, .int 0, .int 0, .ref mS, .ref mC, .ref mT, .ref mR, .null, .int 0, .int 0, .int 0, .int 0, .int 0, .int 0, .int 0, .int 0])), (mS, .inl (cI, 348480, .inl (fun _ => 0))), (mC, .inl (cI, 13, .inl (fun _ => 0))), (mT, .inl (cI, 256, .inl (fun _ => 0))), (mR, .inl (cI, 200, .inl (fun _ => 0))), (mA, .inl (cI, 8, .inl (fun _ => 0)))]) H := hP
  have hD : va_D A ([(m0, .inr (4, [.int 0, .int 0, .int 0, .ref mS, .ref mC, .ref mT, .ref mR, .null, .int 0, .int 0, .int 0, .int 0, .int 0, .int 0, .int 0, .int 0])), (mS, .inl (cI, 348480, .inl (fun _ => 0))), (mC, .inl (cI, 13, .inl (fun _ => 0))), (mT, .inl (cI, 256, .inl (fun _ => 0))), (mR, .inl (cI, 200, .inl (fun _ => 0))), (mA, .inl (cI, 8, .inl (fun _ => 0)))]) := hD
  refine W.widen (k := 5) (n := 348957) (by omega) (by omega) ?_
  refine va_putF (D := D) (ci := 4) (v := .ref mA) (ty := .array .int) (C := RX3) (T := TX3) (N := 16) hx hb hts hinX3 tyX3 tyX3_ok nmX3 hown hK.1 hP hD hS 0 rfl rfl 7 (by decide) (hts (.fieldLink RX3 23 "PrinterRowsModel" "tallies" "[I") (by decide +kernel)) (fun _ h9 => h9) rfl hin rfl (by decide +kernel) rfl rfl (Nat.le_of_ble_eq_true rfl) dX3_init_43 (fun H locs hP hD hS => ?_)
  have hP : va_P D vwCl ([(m0, .inr (4, [.int 0, .int 0, .int 0, .ref mS, .ref mC, .ref mT, .ref mR, .ref mA, .int 0, .int 0, .int 0, .int 0, .int 0, .int 0, .int 0, .int 0])), (mS, .inl (cI, 348480, .inl (fun _ => 0))), (mC, .inl (cI, 13, .inl (fun _ => 0))), (mT, .inl (cI, 256, .inl (fun _ => 0))), (mR, .inl (cI, 200, .inl (fun _ => 0))), (mA, .inl (cI, 8, .inl (fun _ => 0)))]) H := hP
  have hD : va_D A ([(m0, .inr (4, [.int 0, .int 0, .int 0, .ref mS, .ref mC, .ref mT, .ref mR, .ref mA, .int 0, .int 0, .int 0, .int 0, .int 0, .int 0, .int 0, .int 0])), (mS, .inl (cI, 348480, .inl (fun _ => 0))), (mC, .inl (cI, 13, .inl (fun _ => 0))), (mT, .inl (cI, 256, .inl (fun _ => 0))), (mR, .inl (cI, 200, .inl (fun _ => 0))), (mA, .inl (cI, 8, .inl (fun _ => 0)))]) := hD
  have kc : ∀ (H : Heap) (locs : List Loc) (ls : Array Slot), va_P D vwCl ([(m0, .inr (4, [.int 0, .int (nI L), .int (nI C), .ref mS, .ref mC, .ref mT, .ref mR, .ref mA, .int 0, .int 0, .int 0, .int 0, .int 0, .int 0, .int 0, .int 0])), (mS, .inl (cI, 348480, .inl (fun _ => 0))), (mC, .inl (cI, 13, .inl (fun _ => 0))), (mT, .inl (cI, 256, .inl (fun _ => 0))), (mR, .inl (cI, 200, .inl (fun _ => 0))), (mA, .inl (cI, 8, .inl (fun _ => 0)))]) H → va_D A ([(m0, .inr (4, [.int 0, .int (nI L), .int (nI C), .ref mS, .ref mC, .ref mT, .ref mR, .ref mA, .int 0, .int 0, .int 0, .int 0, .int 0, .int 0, .int 0, .int 0])), (mS, .inl (cI, 348480, .inl (fun _ => 0))), (mC, .inl (cI, 13, .inl (fun _ => 0))), (mT, .inl (cI, 256, .inl (fun _ => 0))), (mR, .inl (cI, 200, .inl (fun _ => 0))), (mA, .inl (cI, 8, .inl (fun _ => 0)))]) → va_S A s.heap H locs → lv_has ls 4 [(0, .ref m0), (1, .int l0), (2, .int c0)] → W p l e (headSpec wsX3_init ({ frames := 1, cells := 5, slots := 348957, locals := 14 })).room s m (([.ref m0, .int l0, .int c0] : List Value).toArray) below meth c H locs 5 348957 (MQ below (qv D (fun (u : (Nat × Nat × Nat × Nat × Nat) × (Nat → Int32) × (Nat → Int32)) => (∀ k, k < 13 → u.2.1 k = -1) ∧ ∀ k, k < 256 → u.2.2 k = nI k) (fun u : (Nat × Nat × Nat × Nat × Nat) × (Nat → Int32) × (Nat → Int32) => wM cI m0 u.1.1 u.1.2.1 u.1.2.2.1 u.1.2.2.2.1 u.1.2.2.2.2 0 (nI L) (nI C) (nI 0) (nI 0) (nI 0) 0 (zb false) (nI 0) (nI 0) (zb false) (fun _ => 0) u.2.1 u.2.2 (fun _ => 0) (fun _ => 0)) (A)) (([.ref m0, .int l0, .int c0] : List Value).toArray) s 5 348957 A) (F0 m 98 ls []) := by
    intro H locs ls  hP hD hS hl
    refine lv_iconst (v := 0) hx hb dX3_init_98 (by decide +kernel) ?_
    refine lv_istore_n (lv' := [(3, .int 0), (0, .ref m0), (1, .int l0), (2, .int c0)]) hx hb dX3_init_99 rfl hl (by decide) rfl (fun ls hl => ?_)
    have loop : ∀ (n : Nat) (i : Nat) (g : Nat → Int32) (H : Heap) (locs : List Loc) (ls : Array Slot), (i ≤ 13) → (13 - i < n) → (∀ j, j < i → g j = -1) → va_P D vwCl ([(m0, .inr (4, [.int 0, .int (nI L), .int (nI C), .ref mS, .ref mC, .ref mT, .ref mR, .ref mA, .int 0, .int 0, .int 0, .int 0, .int 0, .int 0, .int 0, .int 0])), (mS, .inl (cI, 348480, .inl (fun _ => 0))), (mC, .inl (cI, 13, .inl g)), (mT, .inl (cI, 256, .inl (fun _ => 0))), (mR, .inl (cI, 200, .inl (fun _ => 0))), (mA, .inl (cI, 8, .inl (fun _ => 0)))]) H → va_D A ([(m0, .inr (4, [.int 0, .int (nI L), .int (nI C), .ref mS, .ref mC, .ref mT, .ref mR, .ref mA, .int 0, .int 0, .int 0, .int 0, .int 0, .int 0, .int 0, .int 0])), (mS, .inl (cI, 348480, .inl (fun _ => 0))), (mC, .inl (cI, 13, .inl g)), (mT, .inl (cI, 256, .inl (fun _ => 0))), (mR, .inl (cI, 200, .inl (fun _ => 0))), (mA, .inl (cI, 8, .inl (fun _ => 0)))]) → va_S A s.heap H locs → lv_has ls 4 [(0, .ref m0), (1, .int l0), (2, .int c0), (3, .int (nI i))] → W p l e (headSpec wsX3_init ({ frames := 1, cells := 5, slots := 348957, locals := 14 })).room s m (([.ref m0, .int l0, .int c0] : List Value).toArray) below meth c H locs 5 348957 (MQ below (qv D (fun (u : (Nat × Nat × Nat × Nat × Nat) × (Nat → Int32) × (Nat → Int32)) => (∀ k, k < 13 → u.2.1 k = -1) ∧ ∀ k, k < 256 → u.2.2 k = nI k) (fun u : (Nat × Nat × Nat × Nat × Nat) × (Nat → Int32) × (Nat → Int32) => wM cI m0 u.1.1 u.1.2.1 u.1.2.2.1 u.1.2.2.2.1 u.1.2.2.2.2 0 (nI L) (nI C) (nI 0) (nI 0) (nI 0) 0 (zb false) (nI 0) (nI 0) (zb false) (fun _ => 0) u.2.1 u.2.2 (fun _ => 0) (fun _ => 0)) (A)) (([.ref m0, .int l0, .int c0] : List Value).toArray) s 5 348957 A) (F0 m 100 ls []) := by
      intro n
      induction n with
      | zero => intro i g H locs ls hi hn hg hP hD hS hl; exact absurd hn (Nat.not_lt_zero _)
      | succ n ih =>
        intro i g H locs ls hi hn hg hP hD hS hl
        refine lv_iload_n hx hb dX3_init_100 rfl (lv_at hl 3 rfl) ?_
        refine lv_aload_n hx hb dX3_init_101 rfl (lv_at hl 0 rfl) ?_
        refine va_get (D := D) (ci := 4) (v := .ref mC) (C := RX3) (T := TX3) (N := 16) hx hb hts hinX3 hown hK.1 hP 0 rfl rfl 4 (by decide) (hts (.fieldLink RX3 14 "PrinterRowsModel" "channels" "[I") (by decide +kernel)) (fun _ h9 => h9) rfl dX3_init_102 ?_
        refine va_alen (v := 13) hx hb hK.1 hP 2 0 rfl rfl rfl dX3_init_105 ?_
        refine lv_icmp_ge (tgt := 122) hx hb dX3_init_106 (by decide) (fun c_106 => ?_) (fun c_106 => ?_)
        ·
          have hie : 13 = i := by have := (nI_leI (a := 13) (by decide) (by omega)).mp c_106; omega
          subst hie
          obtain ⟨g0, hg0⟩ : ∃ g0 : Nat → Int32, g0 = g := ⟨_, rfl⟩
          rw [← hg0] at hP hD hg
          have hgc := hg
          refine lv_iconst (v := 0) hx hb dX3_init_122 (by decide +kernel) ?_
          refine lv_istore_n (lv' := [(3, .int 0), (0, .ref m0), (1, .int l0), (2, .int c0)]) hx hb dX3_init_123 rfl hl (by decide) rfl (fun ls hl => ?_)
          have loop2 : ∀ (n2 : Nat) (i : Nat) (g : Nat → Int32) (H : Heap) (locs : List Loc) (ls : Array Slot), (i ≤ 256) → (256 - i < n2) → (∀ j, j < i → g j = nI j) → va_P D vwCl ([(m0, .inr (4, [.int 0, .int (nI L), .int (nI C), .ref mS, .ref mC, .ref mT, .ref mR, .ref mA, .int 0, .int 0, .int 0, .int 0, .int 0, .int 0, .int 0, .int 0])), (mS, .inl (cI, 348480, .inl (fun _ => 0))), (mC, .inl (cI, 13, .inl g0)), (mT, .inl (cI, 256, .inl g)), (mR, .inl (cI, 200, .inl (fun _ => 0))), (mA, .inl (cI, 8, .inl (fun _ => 0)))]) H → va_D A ([(m0, .inr (4, [.int 0, .int (nI L), .int (nI C), .ref mS, .ref mC, .ref mT, .ref mR, .ref mA, .int 0, .int 0, .int 0, .int 0, .int 0, .int 0, .int 0, .int 0])), (mS, .inl (cI, 348480, .inl (fun _ => 0))), (mC, .inl (cI, 13, .inl g0)), (mT, .inl (cI, 256, .inl g)), (mR, .inl (cI, 200, .inl (fun _ => 0))), (mA, .inl (cI, 8, .inl (fun _ => 0)))]) → va_S A s.heap H locs → lv_has ls 4 [(0, .ref m0), (1, .int l0), (2, .int c0), (3, .int (nI i))] → W p l e (headSpec wsX3_init ({ frames := 1, cells := 5, slots := 348957, locals := 14 })).room s m (([.ref m0, .int l0, .int c0] : List Value).toArray) below meth c H locs 5 348957 (MQ below (qv D (fun (u : (Nat × Nat × Nat × Nat × Nat) × (Nat → Int32) × (Nat → Int32)) => (∀ k, k < 13 → u.2.1 k = -1) ∧ ∀ k, k < 256 → u.2.2 k = nI k) (fun u : (Nat × Nat × Nat × Nat × Nat) × (Nat → Int32) × (Nat → Int32) => wM cI m0 u.1.1 u.1.2.1 u.1.2.2.1 u.1.2.2.2.1 u.1.2.2.2.2 0 (nI L) (nI C) (nI 0) (nI 0) (nI 0) 0 (zb false) (nI 0) (nI 0) (zb false) (fun _ => 0) u.2.1 u.2.2 (fun _ => 0) (fun _ => 0)) (A)) (([.ref m0, .int l0, .int c0] : List Value).toArray) s 5 348957 A) (F0 m 124 ls []) := by
            intro n2
            induction n2 with
            | zero => intro i g H locs ls hi hn2 hg hP hD hS hl; exact absurd hn2 (Nat.not_lt_zero _)
            | succ n2 ih2 =>
              intro i g H locs ls hi hn2 hg hP hD hS hl
              refine lv_iload_n hx hb dX3_init_124 rfl (lv_at hl 3 rfl) ?_
              refine lv_aload_n hx hb dX3_init_125 rfl (lv_at hl 0 rfl) ?_
              refine va_get (D := D) (ci := 4) (v := .ref mT) (C := RX3) (T := TX3) (N := 16) hx hb hts hinX3 hown hK.1 hP 0 rfl rfl 5 (by decide) (hts (.fieldLink RX3 17 "PrinterRowsModel" "table" "[I") (by decide +kernel)) (fun _ h9 => h9) rfl dX3_init_126 ?_
              refine va_alen (v := 256) hx hb hK.1 hP 3 0 rfl rfl rfl dX3_init_129 ?_
              refine lv_icmp_ge (tgt := 146) hx hb dX3_init_130 (by decide) (fun c_130 => ?_) (fun c_130 => ?_)
              ·
                have hie : 256 = i := by have := (nI_leI (a := 256) (by decide) (by omega)).mp c_130; omega
                subst hie
                exact W.vret hx hb hr (fun t ht hW => ⟨⟨((mS, mC, mT, mR, mA), g0, g), rfl, ⟨hgc, hg⟩, by rw [ht]; exact hP, hD⟩, hS.F ht⟩) hS.2.2 dX3_init_146
              ·
                have hlt : i < 256 := Nat.lt_of_not_le (fun h9 => c_130 (nI_le (a := 256) h9 (by omega)))
                refine lv_aload_n hx hb dX3_init_133 rfl (lv_at hl 0 rfl) ?_
                refine va_get (D := D) (ci := 4) (v := .ref mT) (C := RX3) (T := TX3) (N := 16) hx hb hts hinX3 hown hK.1 hP 0 rfl rfl 5 (by decide) (hts (.fieldLink RX3 17 "PrinterRowsModel" "table" "[I") (by decide +kernel)) (fun _ h9 => h9) rfl dX3_init_134 ?_
                refine lv_iload_n hx hb dX3_init_137 rfl (lv_at hl 3 rfl) ?_
                refine lv_iload_n hx hb dX3_init_138 rfl (lv_at hl 3 rfl) ?_
                refine va_iast hx hb hK.1 hP hD hS 3 0 rfl rfl (vp_in_nI hlt (by decide)) dX3_init_139 (fun H locs hP hD hS => ?_)
                rw [show (upd g ((nI i)).toNatClampNeg (nI i)) = (upd g i (nI i)) from by rw [nI_clamp (by omega)]] at hP hD
                have hP : va_P D vwCl ([(m0, .inr (4, [.int 0, .int (nI L), .int (nI C), .ref mS, .ref mC, .ref mT, .ref mR, .ref mA, .int 0, .int 0, .int 0, .int 0, .int 0, .int 0, .int 0, .int 0])), (mS, .inl (cI, 348480, .inl (fun _ => 0))), (mC, .inl (cI, 13, .inl g0)), (mT, .inl (cI, 256, .inl (upd g i (nI i)))), (mR, .inl (cI, 200, .inl (fun _ => 0))), (mA, .inl (cI, 8, .inl (fun _ => 0)))]) H := hP
                have hD : va_D A ([(m0, .inr (4, [.int 0, .int (nI L), .int (nI C), .ref mS, .ref mC, .ref mT, .ref mR, .ref mA, .int 0, .int 0, .int 0, .int 0, .int 0, .int 0, .int 0, .int 0])), (mS, .inl (cI, 348480, .inl (fun _ => 0))), (mC, .inl (cI, 13, .inl g0)), (mT, .inl (cI, 256, .inl (upd g i (nI i)))), (mR, .inl (cI, 200, .inl (fun _ => 0))), (mA, .inl (cI, 8, .inl (fun _ => 0)))]) := hD
                refine lv_iinc (v := (nI (i + 1))) (lv' := [(3, .int (nI (i + 1))), (0, .ref m0), (1, .int l0), (2, .int c0)]) hx hb dX3_init_140 hl (k := 3) rfl (nI_1 i) (by decide) rfl (fun ls hl => ?_)
                refine lv_goto (tgt := 124) hx hb dX3_init_143 (by decide) ?_
                exact ih2 (i + 1) _ _ _ _ (by omega) (by omega) (id_step hg) hP hD hS (lv_sub hl [1, 2, 3, 0] rfl)
          exact loop2 257 0 (fun _ => 0) _ _ _ (Nat.zero_le _) (by omega) (fun j hj => absurd hj (Nat.not_lt_zero j)) hP hD hS (lv_sub hl [1, 2, 3, 0] rfl)
        ·
          have hlt : i < 13 := Nat.lt_of_not_le (fun h9 => c_106 (nI_le (a := 13) h9 (by omega)))
          refine lv_aload_n hx hb dX3_init_109 rfl (lv_at hl 0 rfl) ?_
          refine va_get (D := D) (ci := 4) (v := .ref mC) (C := RX3) (T := TX3) (N := 16) hx hb hts hinX3 hown hK.1 hP 0 rfl rfl 4 (by decide) (hts (.fieldLink RX3 14 "PrinterRowsModel" "channels" "[I") (by decide +kernel)) (fun _ h9 => h9) rfl dX3_init_110 ?_
          refine lv_iload_n hx hb dX3_init_113 rfl (lv_at hl 3 rfl) ?_
          refine lv_iconst (v := (-1)) hx hb dX3_init_114 (by decide +kernel) ?_
          refine va_iast hx hb hK.1 hP hD hS 2 0 rfl rfl (vp_in_nI hlt (by decide)) dX3_init_115 (fun H locs hP hD hS => ?_)
          rw [show (upd g ((nI i)).toNatClampNeg (-1)) = (upd g i (-1)) from by rw [nI_clamp (by omega)]] at hP hD
          have hP : va_P D vwCl ([(m0, .inr (4, [.int 0, .int (nI L), .int (nI C), .ref mS, .ref mC, .ref mT, .ref mR, .ref mA, .int 0, .int 0, .int 0, .int 0, .int 0, .int 0, .int 0, .int 0])), (mS, .inl (cI, 348480, .inl (fun _ => 0))), (mC, .inl (cI, 13, .inl (upd g i (-1)))), (mT, .inl (cI, 256, .inl (fun _ => 0))), (mR, .inl (cI, 200, .inl (fun _ => 0))), (mA, .inl (cI, 8, .inl (fun _ => 0)))]) H := hP
          have hD : va_D A ([(m0, .inr (4, [.int 0, .int (nI L), .int (nI C), .ref mS, .ref mC, .ref mT, .ref mR, .ref mA, .int 0, .int 0, .int 0, .int 0, .int 0, .int 0, .int 0, .int 0])), (mS, .inl (cI, 348480, .inl (fun _ => 0))), (mC, .inl (cI, 13, .inl (upd g i (-1)))), (mT, .inl (cI, 256, .inl (fun _ => 0))), (mR, .inl (cI, 200, .inl (fun _ => 0))), (mA, .inl (cI, 8, .inl (fun _ => 0)))]) := hD
          refine lv_iinc (v := (nI (i + 1))) (lv' := [(3, .int (nI (i + 1))), (0, .ref m0), (1, .int l0), (2, .int c0)]) hx hb dX3_init_116 hl (k := 3) rfl (nI_1 i) (by decide) rfl (fun ls hl => ?_)
          refine lv_goto (tgt := 100) hx hb dX3_init_119 (by decide) ?_
          exact ih (i + 1) _ _ _ _ (by omega) (by omega) (fill_step hg) hP hD hS (lv_sub hl [1, 2, 3, 0] rfl)
    exact loop 14 0 (fun _ => 0) _ _ _ (Nat.zero_le _) (by omega) (fun j hj => absurd hj (Nat.not_lt_zero j)) hP hD hS (lv_sub hl [1, 2, 3, 0] rfl)
  refine lv_aload_n hx hb dX3_init_46 rfl (lv_at hl 0 rfl) ?_
  refine lv_iload_n hx hb dX3_init_47 rfl (lv_at hl 1 rfl) ?_
  refine lv_iconst (v := 1) hx hb dX3_init_48 (by decide +kernel) ?_
  refine lv_icmp_ge (tgt := 56) hx hb dX3_init_49 (by decide) (fun c_49 => ?_) (fun c_49 => ?_)
  ·
    refine lv_iload_n hx hb dX3_init_56 rfl (lv_at hl 1 rfl) ?_
    refine lv_bipush (v := 66) hx hb dX3_init_57 (by decide +kernel) ?_
    refine lv_icmp_le (tgt := 67) hx hb dX3_init_59 (by decide) (fun c_59 => ?_) (fun c_59 => ?_)
    ·
      refine lv_iload_n hx hb dX3_init_67 rfl (lv_at hl 1 rfl) ?_
      refine lv_topi (fun x_68 ex_68 => ?_)
      obtain rfl : x_68 = nI L := ex_68.trans ((hd_mid (n := 66) c_49 c_59).symm.trans hL)
      refine va_putF (D := D) (ci := 4) (v := .int (nI L)) (ty := .int) (C := RX3) (T := TX3) (N := 16) hx hb hts hinX3 tyX3 tyX3_ok nmX3 hown hK.1 hP hD hS 0 rfl rfl 1 (by decide) (hts (.fieldLink RX3 26 "PrinterRowsModel" "lines" "I") (by decide +kernel)) (fun _ h9 => h9) rfl hin rfl (by decide +kernel) rfl rfl (Nat.le_of_ble_eq_true rfl) dX3_init_68 (fun H locs hP hD hS => ?_)
      have hP : va_P D vwCl ([(m0, .inr (4, [.int 0, .int (nI L), .int 0, .ref mS, .ref mC, .ref mT, .ref mR, .ref mA, .int 0, .int 0, .int 0, .int 0, .int 0, .int 0, .int 0, .int 0])), (mS, .inl (cI, 348480, .inl (fun _ => 0))), (mC, .inl (cI, 13, .inl (fun _ => 0))), (mT, .inl (cI, 256, .inl (fun _ => 0))), (mR, .inl (cI, 200, .inl (fun _ => 0))), (mA, .inl (cI, 8, .inl (fun _ => 0)))]) H := hP
      have hD : va_D A ([(m0, .inr (4, [.int 0, .int (nI L), .int 0, .ref mS, .ref mC, .ref mT, .ref mR, .ref mA, .int 0, .int 0, .int 0, .int 0, .int 0, .int 0, .int 0, .int 0])), (mS, .inl (cI, 348480, .inl (fun _ => 0))), (mC, .inl (cI, 13, .inl (fun _ => 0))), (mT, .inl (cI, 256, .inl (fun _ => 0))), (mR, .inl (cI, 200, .inl (fun _ => 0))), (mA, .inl (cI, 8, .inl (fun _ => 0)))]) := hD
      refine lv_aload_n hx hb dX3_init_71 rfl (lv_at hl 0 rfl) ?_
      refine lv_iload_n hx hb dX3_init_72 rfl (lv_at hl 2 rfl) ?_
      refine lv_iconst (v := 1) hx hb dX3_init_73 (by decide +kernel) ?_
      refine lv_icmp_ge (tgt := 81) hx hb dX3_init_74 (by decide) (fun c_74 => ?_) (fun c_74 => ?_)
      ·
        refine lv_iload_n hx hb dX3_init_81 rfl (lv_at hl 2 rfl) ?_
        refine lv_sipush (v := 132) hx hb dX3_init_82 (by decide +kernel) ?_
        refine lv_icmp_le (tgt := 94) hx hb dX3_init_85 (by decide) (fun c_85 => ?_) (fun c_85 => ?_)
        ·
          refine lv_iload_n hx hb dX3_init_94 rfl (lv_at hl 2 rfl) ?_
          refine lv_topi (fun x_95 ex_95 => ?_)
          obtain rfl : x_95 = nI C := ex_95.trans ((hd_mid (n := 132) c_74 c_85).symm.trans hC)
          refine va_putF (D := D) (ci := 4) (v := .int (nI C)) (ty := .int) (C := RX3) (T := TX3) (N := 16) hx hb hts hinX3 tyX3 tyX3_ok nmX3 hown hK.1 hP hD hS 0 rfl rfl 2 (by decide) (hts (.fieldLink RX3 30 "PrinterRowsModel" "columns" "I") (by decide +kernel)) (fun _ h9 => h9) rfl hin rfl (by decide +kernel) rfl rfl (Nat.le_of_ble_eq_true rfl) dX3_init_95 (fun H locs hP hD hS => ?_)
          have hP : va_P D vwCl ([(m0, .inr (4, [.int 0, .int (nI L), .int (nI C), .ref mS, .ref mC, .ref mT, .ref mR, .ref mA, .int 0, .int 0, .int 0, .int 0, .int 0, .int 0, .int 0, .int 0])), (mS, .inl (cI, 348480, .inl (fun _ => 0))), (mC, .inl (cI, 13, .inl (fun _ => 0))), (mT, .inl (cI, 256, .inl (fun _ => 0))), (mR, .inl (cI, 200, .inl (fun _ => 0))), (mA, .inl (cI, 8, .inl (fun _ => 0)))]) H := hP
          have hD : va_D A ([(m0, .inr (4, [.int 0, .int (nI L), .int (nI C), .ref mS, .ref mC, .ref mT, .ref mR, .ref mA, .int 0, .int 0, .int 0, .int 0, .int 0, .int 0, .int 0, .int 0])), (mS, .inl (cI, 348480, .inl (fun _ => 0))), (mC, .inl (cI, 13, .inl (fun _ => 0))), (mT, .inl (cI, 256, .inl (fun _ => 0))), (mR, .inl (cI, 200, .inl (fun _ => 0))), (mA, .inl (cI, 8, .inl (fun _ => 0)))]) := hD
          exact kc _ _ _  hP hD hS (lv_sub hl [0, 1, 2] rfl)
        ·
          refine lv_sipush (v := 132) hx hb dX3_init_88 (by decide +kernel) ?_
          refine lv_goto (tgt := 95) hx hb dX3_init_91 (by decide) ?_
          refine lv_topi (fun x_95 ex_95 => ?_)
          obtain rfl : x_95 = nI C := ex_95.trans ((hd_hi (n := 132) (by decide) (by decide) c_85).symm.trans hC)
          refine va_putF (D := D) (ci := 4) (v := .int (nI C)) (ty := .int) (C := RX3) (T := TX3) (N := 16) hx hb hts hinX3 tyX3 tyX3_ok nmX3 hown hK.1 hP hD hS 0 rfl rfl 2 (by decide) (hts (.fieldLink RX3 30 "PrinterRowsModel" "columns" "I") (by decide +kernel)) (fun _ h9 => h9) rfl hin rfl (by decide +kernel) rfl rfl (Nat.le_of_ble_eq_true rfl) dX3_init_95 (fun H locs hP hD hS => ?_)
          have hP : va_P D vwCl ([(m0, .inr (4, [.int 0, .int (nI L), .int (nI C), .ref mS, .ref mC, .ref mT, .ref mR, .ref mA, .int 0, .int 0, .int 0, .int 0, .int 0, .int 0, .int 0, .int 0])), (mS, .inl (cI, 348480, .inl (fun _ => 0))), (mC, .inl (cI, 13, .inl (fun _ => 0))), (mT, .inl (cI, 256, .inl (fun _ => 0))), (mR, .inl (cI, 200, .inl (fun _ => 0))), (mA, .inl (cI, 8, .inl (fun _ => 0)))]) H := hP
          have hD : va_D A ([(m0, .inr (4, [.int 0, .int (nI L), .int (nI C), .ref mS, .ref mC, .ref mT, .ref mR, .ref mA, .int 0, .int 0, .int 0, .int 0, .int 0, .int 0, .int 0, .int 0])), (mS, .inl (cI, 348480, .inl (fun _ => 0))), (mC, .inl (cI, 13, .inl (fun _ => 0))), (mT, .inl (cI, 256, .inl (fun _ => 0))), (mR, .inl (cI, 200, .inl (fun _ => 0))), (mA, .inl (cI, 8, .inl (fun _ => 0)))]) := hD
          exact kc _ _ _  hP hD hS (lv_sub hl [0, 1, 2] rfl)
      ·
        refine lv_iconst (v := 1) hx hb dX3_init_77 (by decide +kernel) ?_
        refine lv_goto (tgt := 95) hx hb dX3_init_78 (by decide) ?_
        refine lv_topi (fun x_95 ex_95 => ?_)
        obtain rfl : x_95 = nI C := ex_95.trans ((hd_lo (n := 132) (by decide) (by decide) c_74).symm.trans hC)
        refine va_putF (D := D) (ci := 4) (v := .int (nI C)) (ty := .int) (C := RX3) (T := TX3) (N := 16) hx hb hts hinX3 tyX3 tyX3_ok nmX3 hown hK.1 hP hD hS 0 rfl rfl 2 (by decide) (hts (.fieldLink RX3 30 "PrinterRowsModel" "columns" "I") (by decide +kernel)) (fun _ h9 => h9) rfl hin rfl (by decide +kernel) rfl rfl (Nat.le_of_ble_eq_true rfl) dX3_init_95 (fun H locs hP hD hS => ?_)
        have hP : va_P D vwCl ([(m0, .inr (4, [.int 0, .int (nI L), .int (nI C), .ref mS, .ref mC, .ref mT, .ref mR, .ref mA, .int 0, .int 0, .int 0, .int 0, .int 0, .int 0, .int 0, .int 0])), (mS, .inl (cI, 348480, .inl (fun _ => 0))), (mC, .inl (cI, 13, .inl (fun _ => 0))), (mT, .inl (cI, 256, .inl (fun _ => 0))), (mR, .inl (cI, 200, .inl (fun _ => 0))), (mA, .inl (cI, 8, .inl (fun _ => 0)))]) H := hP
        have hD : va_D A ([(m0, .inr (4, [.int 0, .int (nI L), .int (nI C), .ref mS, .ref mC, .ref mT, .ref mR, .ref mA, .int 0, .int 0, .int 0, .int 0, .int 0, .int 0, .int 0, .int 0])), (mS, .inl (cI, 348480, .inl (fun _ => 0))), (mC, .inl (cI, 13, .inl (fun _ => 0))), (mT, .inl (cI, 256, .inl (fun _ => 0))), (mR, .inl (cI, 200, .inl (fun _ => 0))), (mA, .inl (cI, 8, .inl (fun _ => 0)))]) := hD
        exact kc _ _ _  hP hD hS (lv_sub hl [0, 1, 2] rfl)
    ·
      refine lv_bipush (v := 66) hx hb dX3_init_62 (by decide +kernel) ?_
      refine lv_goto (tgt := 68) hx hb dX3_init_64 (by decide) ?_
      refine lv_topi (fun x_68 ex_68 => ?_)
      obtain rfl : x_68 = nI L := ex_68.trans ((hd_hi (n := 66) (by decide) (by decide) c_59).symm.trans hL)
      refine va_putF (D := D) (ci := 4) (v := .int (nI L)) (ty := .int) (C := RX3) (T := TX3) (N := 16) hx hb hts hinX3 tyX3 tyX3_ok nmX3 hown hK.1 hP hD hS 0 rfl rfl 1 (by decide) (hts (.fieldLink RX3 26 "PrinterRowsModel" "lines" "I") (by decide +kernel)) (fun _ h9 => h9) rfl hin rfl (by decide +kernel) rfl rfl (Nat.le_of_ble_eq_true rfl) dX3_init_68 (fun H locs hP hD hS => ?_)
      have hP : va_P D vwCl ([(m0, .inr (4, [.int 0, .int (nI L), .int 0, .ref mS, .ref mC, .ref mT, .ref mR, .ref mA, .int 0, .int 0, .int 0, .int 0, .int 0, .int 0, .int 0, .int 0])), (mS, .inl (cI, 348480, .inl (fun _ => 0))), (mC, .inl (cI, 13, .inl (fun _ => 0))), (mT, .inl (cI, 256, .inl (fun _ => 0))), (mR, .inl (cI, 200, .inl (fun _ => 0))), (mA, .inl (cI, 8, .inl (fun _ => 0)))]) H := hP
      have hD : va_D A ([(m0, .inr (4, [.int 0, .int (nI L), .int 0, .ref mS, .ref mC, .ref mT, .ref mR, .ref mA, .int 0, .int 0, .int 0, .int 0, .int 0, .int 0, .int 0, .int 0])), (mS, .inl (cI, 348480, .inl (fun _ => 0))), (mC, .inl (cI, 13, .inl (fun _ => 0))), (mT, .inl (cI, 256, .inl (fun _ => 0))), (mR, .inl (cI, 200, .inl (fun _ => 0))), (mA, .inl (cI, 8, .inl (fun _ => 0)))]) := hD
      refine lv_aload_n hx hb dX3_init_71 rfl (lv_at hl 0 rfl) ?_
      refine lv_iload_n hx hb dX3_init_72 rfl (lv_at hl 2 rfl) ?_
      refine lv_iconst (v := 1) hx hb dX3_init_73 (by decide +kernel) ?_
      refine lv_icmp_ge (tgt := 81) hx hb dX3_init_74 (by decide) (fun c_74 => ?_) (fun c_74 => ?_)
      ·
        refine lv_iload_n hx hb dX3_init_81 rfl (lv_at hl 2 rfl) ?_
        refine lv_sipush (v := 132) hx hb dX3_init_82 (by decide +kernel) ?_
        refine lv_icmp_le (tgt := 94) hx hb dX3_init_85 (by decide) (fun c_85 => ?_) (fun c_85 => ?_)
        ·
          refine lv_iload_n hx hb dX3_init_94 rfl (lv_at hl 2 rfl) ?_
          refine lv_topi (fun x_95 ex_95 => ?_)
          obtain rfl : x_95 = nI C := ex_95.trans ((hd_mid (n := 132) c_74 c_85).symm.trans hC)
          refine va_putF (D := D) (ci := 4) (v := .int (nI C)) (ty := .int) (C := RX3) (T := TX3) (N := 16) hx hb hts hinX3 tyX3 tyX3_ok nmX3 hown hK.1 hP hD hS 0 rfl rfl 2 (by decide) (hts (.fieldLink RX3 30 "PrinterRowsModel" "columns" "I") (by decide +kernel)) (fun _ h9 => h9) rfl hin rfl (by decide +kernel) rfl rfl (Nat.le_of_ble_eq_true rfl) dX3_init_95 (fun H locs hP hD hS => ?_)
          have hP : va_P D vwCl ([(m0, .inr (4, [.int 0, .int (nI L), .int (nI C), .ref mS, .ref mC, .ref mT, .ref mR, .ref mA, .int 0, .int 0, .int 0, .int 0, .int 0, .int 0, .int 0, .int 0])), (mS, .inl (cI, 348480, .inl (fun _ => 0))), (mC, .inl (cI, 13, .inl (fun _ => 0))), (mT, .inl (cI, 256, .inl (fun _ => 0))), (mR, .inl (cI, 200, .inl (fun _ => 0))), (mA, .inl (cI, 8, .inl (fun _ => 0)))]) H := hP
          have hD : va_D A ([(m0, .inr (4, [.int 0, .int (nI L), .int (nI C), .ref mS, .ref mC, .ref mT, .ref mR, .ref mA, .int 0, .int 0, .int 0, .int 0, .int 0, .int 0, .int 0, .int 0])), (mS, .inl (cI, 348480, .inl (fun _ => 0))), (mC, .inl (cI, 13, .inl (fun _ => 0))), (mT, .inl (cI, 256, .inl (fun _ => 0))), (mR, .inl (cI, 200, .inl (fun _ => 0))), (mA, .inl (cI, 8, .inl (fun _ => 0)))]) := hD
          exact kc _ _ _  hP hD hS (lv_sub hl [0, 1, 2] rfl)
        ·
          refine lv_sipush (v := 132) hx hb dX3_init_88 (by decide +kernel) ?_
          refine lv_goto (tgt := 95) hx hb dX3_init_91 (by decide) ?_
          refine lv_topi (fun x_95 ex_95 => ?_)
          obtain rfl : x_95 = nI C := ex_95.trans ((hd_hi (n := 132) (by decide) (by decide) c_85).symm.trans hC)
          refine va_putF (D := D) (ci := 4) (v := .int (nI C)) (ty := .int) (C := RX3) (T := TX3) (N := 16) hx hb hts hinX3 tyX3 tyX3_ok nmX3 hown hK.1 hP hD hS 0 rfl rfl 2 (by decide) (hts (.fieldLink RX3 30 "PrinterRowsModel" "columns" "I") (by decide +kernel)) (fun _ h9 => h9) rfl hin rfl (by decide +kernel) rfl rfl (Nat.le_of_ble_eq_true rfl) dX3_init_95 (fun H locs hP hD hS => ?_)
          have hP : va_P D vwCl ([(m0, .inr (4, [.int 0, .int (nI L), .int (nI C), .ref mS, .ref mC, .ref mT, .ref mR, .ref mA, .int 0, .int 0, .int 0, .int 0, .int 0, .int 0, .int 0, .int 0])), (mS, .inl (cI, 348480, .inl (fun _ => 0))), (mC, .inl (cI, 13, .inl (fun _ => 0))), (mT, .inl (cI, 256, .inl (fun _ => 0))), (mR, .inl (cI, 200, .inl (fun _ => 0))), (mA, .inl (cI, 8, .inl (fun _ => 0)))]) H := hP
          have hD : va_D A ([(m0, .inr (4, [.int 0, .int (nI L), .int (nI C), .ref mS, .ref mC, .ref mT, .ref mR, .ref mA, .int 0, .int 0, .int 0, .int 0, .int 0, .int 0, .int 0, .int 0])), (mS, .inl (cI, 348480, .inl (fun _ => 0))), (mC, .inl (cI, 13, .inl (fun _ => 0))), (mT, .inl (cI, 256, .inl (fun _ => 0))), (mR, .inl (cI, 200, .inl (fun _ => 0))), (mA, .inl (cI, 8, .inl (fun _ => 0)))]) := hD
          exact kc _ _ _  hP hD hS (lv_sub hl [0, 1, 2] rfl)
      ·
        refine lv_iconst (v := 1) hx hb dX3_init_77 (by decide +kernel) ?_
        refine lv_goto (tgt := 95) hx hb dX3_init_78 (by decide) ?_
        refine lv_topi (fun x_95 ex_95 => ?_)
        obtain rfl : x_95 = nI C := ex_95.trans ((hd_lo (n := 132) (by decide) (by decide) c_74).symm.trans hC)
        refine va_putF (D := D) (ci := 4) (v := .int (nI C)) (ty := .int) (C := RX3) (T := TX3) (N := 16) hx hb hts hinX3 tyX3 tyX3_ok nmX3 hown hK.1 hP hD hS 0 rfl rfl 2 (by decide) (hts (.fieldLink RX3 30 "PrinterRowsModel" "columns" "I") (by decide +kernel)) (fun _ h9 => h9) rfl hin rfl (by decide +kernel) rfl rfl (Nat.le_of_ble_eq_true rfl) dX3_init_95 (fun H locs hP hD hS => ?_)
        have hP : va_P D vwCl ([(m0, .inr (4, [.int 0, .int (nI L), .int (nI C), .ref mS, .ref mC, .ref mT, .ref mR, .ref mA, .int 0, .int 0, .int 0, .int 0, .int 0, .int 0, .int 0, .int 0])), (mS, .inl (cI, 348480, .inl (fun _ => 0))), (mC, .inl (cI, 13, .inl (fun _ => 0))), (mT, .inl (cI, 256, .inl (fun _ => 0))), (mR, .inl (cI, 200, .inl (fun _ => 0))), (mA, .inl (cI, 8, .inl (fun _ => 0)))]) H := hP
        have hD : va_D A ([(m0, .inr (4, [.int 0, .int (nI L), .int (nI C), .ref mS, .ref mC, .ref mT, .ref mR, .ref mA, .int 0, .int 0, .int 0, .int 0, .int 0, .int 0, .int 0, .int 0])), (mS, .inl (cI, 348480, .inl (fun _ => 0))), (mC, .inl (cI, 13, .inl (fun _ => 0))), (mT, .inl (cI, 256, .inl (fun _ => 0))), (mR, .inl (cI, 200, .inl (fun _ => 0))), (mA, .inl (cI, 8, .inl (fun _ => 0)))]) := hD
        exact kc _ _ _  hP hD hS (lv_sub hl [0, 1, 2] rfl)
  ·
    refine lv_iconst (v := 1) hx hb dX3_init_52 (by decide +kernel) ?_
    refine lv_goto (tgt := 68) hx hb dX3_init_53 (by decide) ?_
    refine lv_topi (fun x_68 ex_68 => ?_)
    obtain rfl : x_68 = nI L := ex_68.trans ((hd_lo (n := 66) (by decide) (by decide) c_49).symm.trans hL)
    refine va_putF (D := D) (ci := 4) (v := .int (nI L)) (ty := .int) (C := RX3) (T := TX3) (N := 16) hx hb hts hinX3 tyX3 tyX3_ok nmX3 hown hK.1 hP hD hS 0 rfl rfl 1 (by decide) (hts (.fieldLink RX3 26 "PrinterRowsModel" "lines" "I") (by decide +kernel)) (fun _ h9 => h9) rfl hin rfl (by decide +kernel) rfl rfl (Nat.le_of_ble_eq_true rfl) dX3_init_68 (fun H locs hP hD hS => ?_)
    have hP : va_P D vwCl ([(m0, .inr (4, [.int 0, .int (nI L), .int 0, .ref mS, .ref mC, .ref mT, .ref mR, .ref mA, .int 0, .int 0, .int 0, .int 0, .int 0, .int 0, .int 0, .int 0])), (mS, .inl (cI, 348480, .inl (fun _ => 0))), (mC, .inl (cI, 13, .inl (fun _ => 0))), (mT, .inl (cI, 256, .inl (fun _ => 0))), (mR, .inl (cI, 200, .inl (fun _ => 0))), (mA, .inl (cI, 8, .inl (fun _ => 0)))]) H := hP
    have hD : va_D A ([(m0, .inr (4, [.int 0, .int (nI L), .int 0, .ref mS, .ref mC, .ref mT, .ref mR, .ref mA, .int 0, .int 0, .int 0, .int 0, .int 0, .int 0, .int 0, .int 0])), (mS, .inl (cI, 348480, .inl (fun _ => 0))), (mC, .inl (cI, 13, .inl (fun _ => 0))), (mT, .inl (cI, 256, .inl (fun _ => 0))), (mR, .inl (cI, 200, .inl (fun _ => 0))), (mA, .inl (cI, 8, .inl (fun _ => 0)))]) := hD
    refine lv_aload_n hx hb dX3_init_71 rfl (lv_at hl 0 rfl) ?_
    refine lv_iload_n hx hb dX3_init_72 rfl (lv_at hl 2 rfl) ?_
    refine lv_iconst (v := 1) hx hb dX3_init_73 (by decide +kernel) ?_
    refine lv_icmp_ge (tgt := 81) hx hb dX3_init_74 (by decide) (fun c_74 => ?_) (fun c_74 => ?_)
    ·
      refine lv_iload_n hx hb dX3_init_81 rfl (lv_at hl 2 rfl) ?_
      refine lv_sipush (v := 132) hx hb dX3_init_82 (by decide +kernel) ?_
      refine lv_icmp_le (tgt := 94) hx hb dX3_init_85 (by decide) (fun c_85 => ?_) (fun c_85 => ?_)
      ·
        refine lv_iload_n hx hb dX3_init_94 rfl (lv_at hl 2 rfl) ?_
        refine lv_topi (fun x_95 ex_95 => ?_)
        obtain rfl : x_95 = nI C := ex_95.trans ((hd_mid (n := 132) c_74 c_85).symm.trans hC)
        refine va_putF (D := D) (ci := 4) (v := .int (nI C)) (ty := .int) (C := RX3) (T := TX3) (N := 16) hx hb hts hinX3 tyX3 tyX3_ok nmX3 hown hK.1 hP hD hS 0 rfl rfl 2 (by decide) (hts (.fieldLink RX3 30 "PrinterRowsModel" "columns" "I") (by decide +kernel)) (fun _ h9 => h9) rfl hin rfl (by decide +kernel) rfl rfl (Nat.le_of_ble_eq_true rfl) dX3_init_95 (fun H locs hP hD hS => ?_)
        have hP : va_P D vwCl ([(m0, .inr (4, [.int 0, .int (nI L), .int (nI C), .ref mS, .ref mC, .ref mT, .ref mR, .ref mA, .int 0, .int 0, .int 0, .int 0, .int 0, .int 0, .int 0, .int 0])), (mS, .inl (cI, 348480, .inl (fun _ => 0))), (mC, .inl (cI, 13, .inl (fun _ => 0))), (mT, .inl (cI, 256, .inl (fun _ => 0))), (mR, .inl (cI, 200, .inl (fun _ => 0))), (mA, .inl (cI, 8, .inl (fun _ => 0)))]) H := hP
        have hD : va_D A ([(m0, .inr (4, [.int 0, .int (nI L), .int (nI C), .ref mS, .ref mC, .ref mT, .ref mR, .ref mA, .int 0, .int 0, .int 0, .int 0, .int 0, .int 0, .int 0, .int 0])), (mS, .inl (cI, 348480, .inl (fun _ => 0))), (mC, .inl (cI, 13, .inl (fun _ => 0))), (mT, .inl (cI, 256, .inl (fun _ => 0))), (mR, .inl (cI, 200, .inl (fun _ => 0))), (mA, .inl (cI, 8, .inl (fun _ => 0)))]) := hD
        exact kc _ _ _  hP hD hS (lv_sub hl [0, 1, 2] rfl)
      ·
        refine lv_sipush (v := 132) hx hb dX3_init_88 (by decide +kernel) ?_
        refine lv_goto (tgt := 95) hx hb dX3_init_91 (by decide) ?_
        refine lv_topi (fun x_95 ex_95 => ?_)
        obtain rfl : x_95 = nI C := ex_95.trans ((hd_hi (n := 132) (by decide) (by decide) c_85).symm.trans hC)
        refine va_putF (D := D) (ci := 4) (v := .int (nI C)) (ty := .int) (C := RX3) (T := TX3) (N := 16) hx hb hts hinX3 tyX3 tyX3_ok nmX3 hown hK.1 hP hD hS 0 rfl rfl 2 (by decide) (hts (.fieldLink RX3 30 "PrinterRowsModel" "columns" "I") (by decide +kernel)) (fun _ h9 => h9) rfl hin rfl (by decide +kernel) rfl rfl (Nat.le_of_ble_eq_true rfl) dX3_init_95 (fun H locs hP hD hS => ?_)
        have hP : va_P D vwCl ([(m0, .inr (4, [.int 0, .int (nI L), .int (nI C), .ref mS, .ref mC, .ref mT, .ref mR, .ref mA, .int 0, .int 0, .int 0, .int 0, .int 0, .int 0, .int 0, .int 0])), (mS, .inl (cI, 348480, .inl (fun _ => 0))), (mC, .inl (cI, 13, .inl (fun _ => 0))), (mT, .inl (cI, 256, .inl (fun _ => 0))), (mR, .inl (cI, 200, .inl (fun _ => 0))), (mA, .inl (cI, 8, .inl (fun _ => 0)))]) H := hP
        have hD : va_D A ([(m0, .inr (4, [.int 0, .int (nI L), .int (nI C), .ref mS, .ref mC, .ref mT, .ref mR, .ref mA, .int 0, .int 0, .int 0, .int 0, .int 0, .int 0, .int 0, .int 0])), (mS, .inl (cI, 348480, .inl (fun _ => 0))), (mC, .inl (cI, 13, .inl (fun _ => 0))), (mT, .inl (cI, 256, .inl (fun _ => 0))), (mR, .inl (cI, 200, .inl (fun _ => 0))), (mA, .inl (cI, 8, .inl (fun _ => 0)))]) := hD
        exact kc _ _ _  hP hD hS (lv_sub hl [0, 1, 2] rfl)
    ·
      refine lv_iconst (v := 1) hx hb dX3_init_77 (by decide +kernel) ?_
      refine lv_goto (tgt := 95) hx hb dX3_init_78 (by decide) ?_
      refine lv_topi (fun x_95 ex_95 => ?_)
      obtain rfl : x_95 = nI C := ex_95.trans ((hd_lo (n := 132) (by decide) (by decide) c_74).symm.trans hC)
      refine va_putF (D := D) (ci := 4) (v := .int (nI C)) (ty := .int) (C := RX3) (T := TX3) (N := 16) hx hb hts hinX3 tyX3 tyX3_ok nmX3 hown hK.1 hP hD hS 0 rfl rfl 2 (by decide) (hts (.fieldLink RX3 30 "PrinterRowsModel" "columns" "I") (by decide +kernel)) (fun _ h9 => h9) rfl hin rfl (by decide +kernel) rfl rfl (Nat.le_of_ble_eq_true rfl) dX3_init_95 (fun H locs hP hD hS => ?_)
      have hP : va_P D vwCl ([(m0, .inr (4, [.int 0, .int (nI L), .int (nI C), .ref mS, .ref mC, .ref mT, .ref mR, .ref mA, .int 0, .int 0, .int 0, .int 0, .int 0, .int 0, .int 0, .int 0])), (mS, .inl (cI, 348480, .inl (fun _ => 0))), (mC, .inl (cI, 13, .inl (fun _ => 0))), (mT, .inl (cI, 256, .inl (fun _ => 0))), (mR, .inl (cI, 200, .inl (fun _ => 0))), (mA, .inl (cI, 8, .inl (fun _ => 0)))]) H := hP
      have hD : va_D A ([(m0, .inr (4, [.int 0, .int (nI L), .int (nI C), .ref mS, .ref mC, .ref mT, .ref mR, .ref mA, .int 0, .int 0, .int 0, .int 0, .int 0, .int 0, .int 0, .int 0])), (mS, .inl (cI, 348480, .inl (fun _ => 0))), (mC, .inl (cI, 13, .inl (fun _ => 0))), (mT, .inl (cI, 256, .inl (fun _ => 0))), (mR, .inl (cI, 200, .inl (fun _ => 0))), (mA, .inl (cI, 8, .inl (fun _ => 0)))]) := hD
      exact kc _ _ _  hP hD hS (lv_sub hl [0, 1, 2] rfl)
