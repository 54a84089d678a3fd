/-! copies -/
def cpV (bg : Nat) (n f t : Int32) : Bool := if n < 1 then false else if 9 < n then false else if f < 0 then false else if t < f then false else if t < nI bg then true else false
def cpS (n f t : Int32) : Nat := n.toNatClampNeg * (t.toNatClampNeg - f.toNatClampNeg + 1)
def cpO (bg : Nat) (n f t : Int32) : Bool := if cpV bg n f t then decide (bg + cpS n f t ≤ 40) else false
def cpR (bg : Nat) (n f t : Int32) : Int32 := if cpV bg n f t then (if bg + cpS n f t ≤ 40 then nI (bg + cpS n f t) else -6) else -2
def CPM (bg f many : Nat) (M : Nat → Nat → Nat → Int32) : Nat → Nat → Nat → Int32 := fun q i c => if q < bg then M q i c else M (f + (q - bg) % many) i c
theorem CPM_step {cI cR : ClassId} {pl : va_W} {own : Nat → Nat × Nat} {L C bg f many i j a : Nat} {pg : Nat → Option Nat} {M : Nat → Nat → Nat → Int32} (h : PI cI cR pl own L C (bg + i * many + j) pg (CPM bg f many M)) (hj : j < many) (hf : f + j < bg) (hpa : pg (f + j) = some a) : PI cI cR pl own L C (bg + i * many + j + 1) (va_up pg (bg + i * many + j) (some a)) (CPM bg f many M) := by
  have h1 := PI.copy h (q0 := f + j) (by omega)
  rw [hpa] at h1
  refine PI.congr (Nat.le_refl _) (fun _ _ => rfl) (fun q l c hq _ _ => ?_) h1
  by_cases e : q = bg + i * many + j
  · subst e
    rw [va_up_self]
    unfold CPM
    have e2 : (bg + i * many + j - bg) % many = j := by
      rw [show bg + i * many + j - bg = j + many * i by rw [Nat.mul_comm i many]; omega, Nat.add_mul_mod_self_left, Nat.mod_eq_of_lt hj]
    rw [if_neg (by omega), if_pos hf, e2]
  · rw [va_up_ne _ _ e]
theorem cp_prod {nn many : Nat} (h : nn ≤ 9) (hm : many ≤ 40) : nn * many ≤ 360 := Nat.le_trans (Nat.mul_le_mul h hm) (by decide)

set_option maxHeartbeats 1000000 in
set_option maxRecDepth 100000 in
theorem c_X2_copies (l : Launch) {D : va_G} {cI cP cR cJ : ClassId} {x aC aT aR aP L C rl bg st : Nat} {on : Bool} {mk rp sp sc sk fa : Int32} {ch tr rc : Nat → Int32} {pg : Nat → Option Nat} {pl : va_W} {own : Nat → Nat × Nat} {M : Nat → Nat → Nat → Int32} {sz : Nat} (hbg : bg ≤ 40) (hPI : PI cI cR pl own L C bg pg M) (hCS : CS on bg pg) (n0 f0 t0 : Int32) : Met l yX2_copies wsX2_copies ({ frames := 1, cells := 0, slots := 0, locals := 21 }) (mu [.ref x, .int n0, .int f0, .int t0] D cI cP cR cJ (wX cI cP x aC aT aR aP (nI L) (nI C) (nI rl) (nI bg) (zb on) (nI st) mk rp sp sc sk fa ch tr rc pg pl) sz) (qi D (fun (r : Int32) (u : (Nat → Option Nat) × Nat × Nat × Bool) => r = cpR bg n0 f0 t0 ∧ u.2 = (if cpO bg n0 f0 t0 then (bg + cpS n0 f0 t0, 0, false) else (bg, st, on)) ∧ PI cI cR pl own L C u.2.1 u.1 (CPM bg f0.toNatClampNeg (t0.toNatClampNeg - f0.toNatClampNeg + 1) M) ∧ CS u.2.2.2 u.2.1 u.1) (fun u : (Nat → Option Nat) × Nat × Nat × Bool => wX cI cP x aC aT aR aP (nI L) (nI C) (nI rl) (nI u.2.1) (zb u.2.2.2) (nI u.2.2.1) mk rp sp sc sk fa ch tr rc u.1 pl) (va_A (wX cI cP x aC aT aR aP (nI L) (nI C) (nI rl) (nI bg) (zb on) (nI st) mk rp sp sc sk fa ch tr rc pg pl) sz)) 0 0 (va_A (wX cI cP x aC aT aR aP (nI L) (nI C) (nI rl) (nI bg) (zb on) (nI st) mk rp sp sc sk fa ch tr rc pg pl) sz) := by
  refine Met.ofW (cc := cX2_copies) (maxL := 6) (ret := (some .int)) (by decide) rfl ?_
  intro p e s m args below meth c s₁ B hml hv
  obtain ⟨rfl, hsz, hP, hK, hD0⟩ := hv
  have hx := B.exec
  have hb := B.bytes
  have hr := B.returns
  have hts := atoms_spec (ws := wsX2_copies) B.pre
  have hown : s.vm.findClass RX2 = some m.cls := findClass_of_methodNamed B.named
  have hlocks := B.notSynchronized
  have hinX2 : ∀ w ∈ wsX20, w ∈ wsX2_copies := by decide +kernel
  subst hsz
  have hD := hD0.self (sz := s.heap.size)
  generalize hAe : va_A (wX cI cP x aC aT aR aP (nI L) (nI C) (nI rl) (nI bg) (zb on) (nI st) mk rp sp sc sk fa ch tr rc pg pl) s.heap.size = A at hD ⊢
  have hA : ∀ q : Nat, s.heap.size ≤ q → A q := fun q h => by rw [← hAe]; exact Or.inr h
  have hS : va_S A s.heap s.heap [] := va_S.rf
  have hP : va_P D vwCl (wX cI cP x aC aT aR aP (nI L) (nI C) (nI rl) (nI bg) (zb on) (nI st) mk rp sp sc sk fa ch tr rc pg pl) s.heap := hP
  have hl := lv_entry ([.ref x, .int n0, .int f0, .int t0]) (n := 6) (Nat.le_of_ble_eq_true rfl)
  rw [lg_entry_eq]
  generalize (lg_sl ([.ref x, .int n0, .int f0, .int t0]) ++ List.replicate (6 - (lg_sl ([.ref x, .int n0, .int f0, .int t0])).length) Slot.unset).toArray = ls at hl ⊢
  have hl : lv_has ls 6 [(0, .ref x), (1, .int n0), (2, .int f0), (3, .int t0)] := hl
  refine lv_iload_n hx hb dX2_copies_0 rfl (lv_at hl 1 rfl) ?_
  refine lv_iconst (v := 1) hx hb dX2_copies_1 (by decide +kernel) ?_
  refine lv_icmp_lt (tgt := 28) hx hb dX2_copies_2 (by decide) (fun c_2 => ?_) (fun c_2 => ?_)
  ·
    refine lv_bipush (v := (-2)) hx hb dX2_copies_28 (by decide +kernel) ?_
    exact W.iret (v := (-2)) hx hb hr (fun t ht hW => ⟨⟨_, (pg, bg, st, on), rfl, ⟨by rw [cpR, cpV, if_pos c_2]; rfl, by rw [cpO, cpV, if_pos c_2]; rfl, PI.congr (Nat.le_refl _) (fun _ _ => rfl) (fun q i c hq _ _ => by unfold CPM; rw [if_pos hq]) hPI, hCS⟩, by rw [ht]; exact hP, hD⟩, hS.F ht⟩) hS.2.2 dX2_copies_30
  ·
    refine lv_iload_n hx hb dX2_copies_5 rfl (lv_at hl 1 rfl) ?_
    refine lv_bipush (v := 9) hx hb dX2_copies_6 (by decide +kernel) ?_
    refine lv_icmp_gt (tgt := 28) hx hb dX2_copies_8 (by decide) (fun c_8 => ?_) (fun c_8 => ?_)
    ·
      refine lv_bipush (v := (-2)) hx hb dX2_copies_28 (by decide +kernel) ?_
      exact W.iret (v := (-2)) hx hb hr (fun t ht hW => ⟨⟨_, (pg, bg, st, on), rfl, ⟨by rw [cpR, cpV, if_neg c_2, if_pos c_8]; rfl, by rw [cpO, cpV, if_neg c_2, if_pos c_8]; rfl, PI.congr (Nat.le_refl _) (fun _ _ => rfl) (fun q i c hq _ _ => by unfold CPM; rw [if_pos hq]) hPI, hCS⟩, by rw [ht]; exact hP, hD⟩, hS.F ht⟩) hS.2.2 dX2_copies_30
    ·
      refine lv_iload_n hx hb dX2_copies_11 rfl (lv_at hl 2 rfl) ?_
      refine lv_if_lt (tgt := 28) hx hb dX2_copies_12 (by decide) (fun c_12 => ?_) (fun c_12 => ?_)
      ·
        refine lv_bipush (v := (-2)) hx hb dX2_copies_28 (by decide +kernel) ?_
        exact W.iret (v := (-2)) hx hb hr (fun t ht hW => ⟨⟨_, (pg, bg, st, on), rfl, ⟨by rw [cpR, cpV, if_neg c_2, if_neg c_8, if_pos c_12]; rfl, by rw [cpO, cpV, if_neg c_2, if_neg c_8, if_pos c_12]; rfl, PI.congr (Nat.le_refl _) (fun _ _ => rfl) (fun q i c hq _ _ => by unfold CPM; rw [if_pos hq]) hPI, hCS⟩, by rw [ht]; exact hP, hD⟩, hS.F ht⟩) hS.2.2 dX2_copies_30
      ·
        refine lv_iload_n hx hb dX2_copies_15 rfl (lv_at hl 2 rfl) ?_
        refine lv_iload_n hx hb dX2_copies_16 rfl (lv_at hl 3 rfl) ?_
        refine lv_icmp_gt (tgt := 28) hx hb dX2_copies_17 (by decide) (fun c_17 => ?_) (fun c_17 => ?_)
        ·
          refine lv_bipush (v := (-2)) hx hb dX2_copies_28 (by decide +kernel) ?_
          exact W.iret (v := (-2)) hx hb hr (fun t ht hW => ⟨⟨_, (pg, bg, st, on), rfl, ⟨by rw [cpR, cpV, if_neg c_2, if_neg c_8, if_neg c_12, if_pos c_17]; rfl, by rw [cpO, cpV, if_neg c_2, if_neg c_8, if_neg c_12, if_pos c_17]; rfl, PI.congr (Nat.le_refl _) (fun _ _ => rfl) (fun q i c hq _ _ => by unfold CPM; rw [if_pos hq]) hPI, hCS⟩, by rw [ht]; exact hP, hD⟩, hS.F ht⟩) hS.2.2 dX2_copies_30
        ·
          refine lv_iload_n hx hb dX2_copies_20 rfl (lv_at hl 3 rfl) ?_
          refine lv_aload_n hx hb dX2_copies_21 rfl (lv_at hl 0 rfl) ?_
          refine va_get (D := D) (ci := 3) (v := .int (nI bg)) (C := RX2) (T := TX2) (N := 16) hx hb hts hinX2 hown hK.1 hP 0 rfl rfl 7 (by decide) (hts (.fieldLink RX2 86 "PrinterRows" "begun" "I") (by decide +kernel)) (fun _ h9 => h9) rfl dX2_copies_22 ?_
          refine lv_icmp_lt (tgt := 31) hx hb dX2_copies_25 (by decide) (fun c_25 => ?_) (fun c_25 => ?_)
          ·
            have hnr : 1 ≤ n0.toInt ∧ n0.toInt ≤ 9 := by rw [i32_lt] at c_2 c_8; have : (1 : Int32).toInt = 1 := rfl; have : (9 : Int32).toInt = 9 := rfl; omega
            obtain ⟨nn, hn1, hn9, rfl⟩ : ∃ nn : Nat, 1 ≤ nn ∧ nn ≤ 9 ∧ n0 = nI nn := ⟨n0.toInt.toNat, by omega, by omega, i32_ext (by rw [nI_toInt (by omega)]; omega)⟩
            obtain ⟨ff, hff0, rfl⟩ := nI_of (x := f0) c_12
            obtain ⟨tt, htt0, rfl⟩ := nI_of (x := t0) (fun h9 => c_17 (by rw [i32_lt] at h9 ⊢; rw [nI_toInt hff0]; have : (0 : Int32).toInt = 0 := rfl; omega))
            have hft : ff ≤ tt := Nat.le_of_not_lt (fun h9 => c_17 (nI_lt h9 hff0))
            have htb : tt < bg := (nI_ltI htt0 (by omega)).mp c_25
            have hcn : (nI nn).toNatClampNeg = nn := nI_clamp (by omega)
            have hcf : (nI ff).toNatClampNeg = ff := nI_clamp hff0
            have hct : (nI tt).toNatClampNeg = tt := nI_clamp htt0
            have hV : cpV bg (nI nn) (nI ff) (nI tt) = true := by rw [cpV, if_neg c_2, if_neg c_8, if_neg c_12, if_neg c_17, if_pos c_25]
            obtain ⟨many, hmy⟩ : ∃ many, many = tt - ff + 1 := ⟨_, rfl⟩
            have hm40 : many ≤ 40 := by omega
            have hpr := cp_prod hn9 hm40
            have hSz : cpS (nI nn) (nI ff) (nI tt) = nn * many := by rw [cpS, hcn, hcf, hct, hmy]
            refine lv_aload_n hx hb dX2_copies_31 rfl (lv_at hl 0 rfl) ?_
            refine va_get (D := D) (ci := 3) (v := .int (nI bg)) (C := RX2) (T := TX2) (N := 16) hx hb hts hinX2 hown hK.1 hP 0 rfl rfl 7 (by decide) (hts (.fieldLink RX2 86 "PrinterRows" "begun" "I") (by decide +kernel)) (fun _ h9 => h9) rfl dX2_copies_32 ?_
            refine lv_iload_n hx hb dX2_copies_35 rfl (lv_at hl 1 rfl) ?_
            refine lv_iload_n hx hb dX2_copies_36 rfl (lv_at hl 3 rfl) ?_
            refine lv_iload_n hx hb dX2_copies_37 rfl (lv_at hl 2 rfl) ?_
            refine lv_isub hx hb dX2_copies_38 ?_
            refine lv_iconst (v := 1) hx hb dX2_copies_39 (by decide +kernel) ?_
            refine lv_iadd hx hb dX2_copies_40 ?_
            refine lv_imul hx hb dX2_copies_41 ?_
            refine lv_iadd hx hb dX2_copies_42 ?_
            refine lv_topi (fun x_42 ex_42 => ?_)
            obtain rfl : x_42 = nI (bg + nn * many) := ex_42.trans (by rw [pk_sub hft, nI_1, pk_mul, nI_add, hmy])
            refine lv_bipush (v := 40) hx hb dX2_copies_43 (by decide +kernel) ?_
            refine lv_icmp_le (tgt := 51) hx hb dX2_copies_45 (by decide) (fun c_45 => ?_) (fun c_45 => ?_)
            ·
              have hfit : bg + nn * many ≤ 40 := (nI_leI (b := 40) (by omega) (by decide)).mp c_45
              have hO : cpO bg (nI nn) (nI ff) (nI tt) = true := by rw [cpO, hV, hSz]; exact decide_eq_true hfit
              refine lv_iconst (v := 0) hx hb dX2_copies_51 (by decide +kernel) ?_
              refine lv_istore (lv' := [(4, .int 0), (0, .ref x), (1, .int (nI nn)), (2, .int (nI ff)), (3, .int (nI tt))]) hx hb dX2_copies_52 hl (by decide) rfl (fun ls hl => ?_)
              have loop : ∀ (n : Nat) (i : Nat) (pgv : Nat → Option Nat) (H : Heap) (locs : List Loc) (ls : Array Slot), (i ≤ nn) → (nn - i < n) → (PI cI cR pl own L C (bg + i * many) pgv (CPM bg ff many M)) → va_P D vwCl (wX cI cP x aC aT aR aP (nI L) (nI C) (nI rl) (nI (bg + i * many)) (zb on) (nI st) mk rp sp sc sk fa ch tr rc pgv pl) H → va_D A (wX cI cP x aC aT aR aP (nI L) (nI C) (nI rl) (nI (bg + i * many)) (zb on) (nI st) mk rp sp sc sk fa ch tr rc pgv pl) → va_S A s.heap H locs → lv_has ls 6 [(0, .ref x), (1, .int (nI nn)), (2, .int (nI ff)), (3, .int (nI tt)), (4, .int (nI i))] → W p l e (headSpec wsX2_copies ({ frames := 1, cells := 0, slots := 0, locals := 21 })).room s m (([.ref x, .int (nI nn), .int (nI ff), .int (nI tt)] : List Value).toArray) below meth c H locs 0 0 (MQ below (qi D (fun (r : Int32) (u : (Nat → Option Nat) × Nat × Nat × Bool) => r = cpR bg (nI nn) (nI ff) (nI tt) ∧ u.2 = (if cpO bg (nI nn) (nI ff) (nI tt) then (bg + cpS (nI nn) (nI ff) (nI tt), 0, false) else (bg, st, on)) ∧ PI cI cR pl own L C u.2.1 u.1 (CPM bg (nI ff).toNatClampNeg ((nI tt).toNatClampNeg - (nI ff).toNatClampNeg + 1) M) ∧ CS u.2.2.2 u.2.1 u.1) (fun u : (Nat → Option Nat) × Nat × Nat × Bool => wX cI cP x aC aT aR aP (nI L) (nI C) (nI rl) (nI u.2.1) (zb u.2.2.2) (nI u.2.2.1) mk rp sp sc sk fa ch tr rc u.1 pl) (A)) (([.ref x, .int (nI nn), .int (nI ff), .int (nI tt)] : List Value).toArray) s 0 0 A) (F0 m 54 ls []) := by
                intro n
                induction n with
                | zero => intro i pgv H locs ls hi hn hPIv hP hD hS hl; exact absurd hn (Nat.not_lt_zero _)
                | succ n ih =>
                  intro i pgv H locs ls hi hn hPIv hP hD hS hl
                  refine lv_iload hx hb dX2_copies_54 (lv_at hl 4 rfl) ?_
                  refine lv_iload_n hx hb dX2_copies_56 rfl (lv_at hl 1 rfl) ?_
                  refine lv_icmp_ge (tgt := 91) hx hb dX2_copies_57 (by decide) (fun c_57 => ?_) (fun c_57 => ?_)
                  ·
                    have hie : nn = i := by have := (nI_leI (by omega) (by omega)).mp c_57; omega
                    refine lv_aload_n hx hb dX2_copies_91 rfl (lv_at hl 0 rfl) ?_
                    refine callQv (va_runV (As := []) (rest := []) ⟨hx, hb, hml, hown, hts⟩ (c_X2_standOnNewPage l) (cwV 0 hts gX2_copies_X2_standOnNewPage rfl rfl rfl (by decide +kernel) ⟨(Nat.le_of_ble_eq_true rfl), (Nat.le_of_ble_eq_true rfl)⟩) (mu_pre hK hP hD rfl 0 rfl) rfl rfl hl.1 rfl (lv_room (Nat.le_of_ble_eq_true rfl)) dX2_copies_92 ⟨(Nat.le_of_ble_eq_true rfl), (Nat.le_of_ble_eq_true rfl)⟩) hD hS hA (fun u_92 H locs w_92 hP hD hS => ?_)
                    have hP : va_P D vwCl (wX cI cP x aC aT aR aP (nI L) (nI C) (nI rl) (nI (bg + i * many)) (zb false) (nI 0) mk rp sp sc sk fa ch tr rc pgv pl) H := hP
                    have hD : va_D A (wX cI cP x aC aT aR aP (nI L) (nI C) (nI rl) (nI (bg + i * many)) (zb false) (nI 0) mk rp sp sc sk fa ch tr rc pgv pl) := hD
                    refine lv_aload_n hx hb dX2_copies_95 rfl (lv_at hl 0 rfl) ?_
                    refine va_get (D := D) (ci := 3) (v := .int (nI (bg + i * many))) (C := RX2) (T := TX2) (N := 16) hx hb hts hinX2 hown hK.1 hP 0 rfl rfl 7 (by decide) (hts (.fieldLink RX2 86 "PrinterRows" "begun" "I") (by decide +kernel)) (fun _ h9 => h9) rfl dX2_copies_96 ?_
                    exact W.iret (v := (nI (bg + i * many))) hx hb hr (fun t ht hW => ⟨⟨_, (pgv, bg + i * many, 0, false), rfl, ⟨by rw [cpR, hV, hSz, hie, if_pos rfl, if_pos (by rw [← hie]; exact hfit)], by rw [hO, hSz, hie]; rfl, by rw [hcf, hct, ← hmy]; exact hPIv, fun h9 => by cases h9⟩, by rw [ht]; exact hP, hD⟩, hS.F ht⟩) hS.2.2 dX2_copies_99
                  ·
                    have hlt : i < nn := Nat.lt_of_not_le (fun h9 => c_57 (nI_le h9 (by omega)))
                    have hmm : i * many + many ≤ nn * many := by rw [← Nat.succ_mul]; exact Nat.mul_le_mul_right _ hlt
                    refine lv_iload_n hx hb dX2_copies_60 rfl (lv_at hl 2 rfl) ?_
                    refine lv_istore (lv' := [(5, .int (nI ff)), (0, .ref x), (1, .int (nI nn)), (2, .int (nI ff)), (3, .int (nI tt)), (4, .int (nI i))]) hx hb dX2_copies_61 hl (by decide) rfl (fun ls hl => ?_)
                    have loop2 : ∀ (n2 : Nat) (j : Nat) (pgw : Nat → Option Nat) (H : Heap) (locs : List Loc) (ls : Array Slot), (j ≤ many) → (many - j < n2) → (PI cI cR pl own L C (bg + i * many + j) pgw (CPM bg ff many M)) → va_P D vwCl (wX cI cP x aC aT aR aP (nI L) (nI C) (nI rl) (nI (bg + i * many + j)) (zb on) (nI st) mk rp sp sc sk fa ch tr rc pgw pl) H → va_D A (wX cI cP x aC aT aR aP (nI L) (nI C) (nI rl) (nI (bg + i * many + j)) (zb on) (nI st) mk rp sp sc sk fa ch tr rc pgw pl) → va_S A s.heap H locs → lv_has ls 6 [(0, .ref x), (1, .int (nI nn)), (2, .int (nI ff)), (3, .int (nI tt)), (4, .int (nI i)), (5, .int (nI (ff + j)))] → W p l e (headSpec wsX2_copies ({ frames := 1, cells := 0, slots := 0, locals := 21 })).room s m (([.ref x, .int (nI nn), .int (nI ff), .int (nI tt)] : List Value).toArray) below meth c H locs 0 0 (MQ below (qi D (fun (r : Int32) (u : (Nat → Option Nat) × Nat × Nat × Bool) => r = cpR bg (nI nn) (nI ff) (nI tt) ∧ u.2 = (if cpO bg (nI nn) (nI ff) (nI tt) then (bg + cpS (nI nn) (nI ff) (nI tt), 0, false) else (bg, st, on)) ∧ PI cI cR pl own L C u.2.1 u.1 (CPM bg (nI ff).toNatClampNeg ((nI tt).toNatClampNeg - (nI ff).toNatClampNeg + 1) M) ∧ CS u.2.2.2 u.2.1 u.1) (fun u : (Nat → Option Nat) × Nat × Nat × Bool => wX cI cP x aC aT aR aP (nI L) (nI C) (nI rl) (nI u.2.1) (zb u.2.2.2) (nI u.2.2.1) mk rp sp sc sk fa ch tr rc u.1 pl) (A)) (([.ref x, .int (nI nn), .int (nI ff), .int (nI tt)] : List Value).toArray) s 0 0 A) (F0 m 63 ls []) := by
                      intro n2
                      induction n2 with
                      | zero => intro j pgw H locs ls hj hn2 hPIw hP hD hS hl; exact absurd hn2 (Nat.not_lt_zero _)
                      | succ n2 ih2 =>
                        intro j pgw H locs ls hj hn2 hPIw hP hD hS hl
                        refine lv_iload hx hb dX2_copies_63 (lv_at hl 5 rfl) ?_
                        refine lv_iload_n hx hb dX2_copies_65 rfl (lv_at hl 3 rfl) ?_
                        refine lv_icmp_gt (tgt := 85) hx hb dX2_copies_66 (by decide) (fun c_66 => ?_) (fun c_66 => ?_)
                        ·
                          have hje : j = many := by have := (nI_ltI htt0 (by omega)).mp c_66; omega
                          refine lv_iinc (v := (nI (i + 1))) (lv' := [(4, .int (nI (i + 1))), (0, .ref x), (1, .int (nI nn)), (2, .int (nI ff)), (3, .int (nI tt)), (5, .int (nI (ff + j)))]) hx hb dX2_copies_85 hl (k := 4) rfl (nI_1 i) (by decide) rfl (fun ls hl => ?_)
                          refine lv_goto (tgt := 54) hx hb dX2_copies_88 (by decide) ?_
                          rw [hje, Nat.add_assoc, ← Nat.succ_mul] at hP hD hPIw
                          exact ih (i + 1) pgw _ _ _ (by omega) (by omega) (hPIw) hP hD hS (lv_sub hl [1, 2, 3, 4, 0] rfl)
                        ·
                          have hjl : j < many := by have := Nat.le_of_not_lt (fun h9 => c_66 (nI_lt (a := tt) (b := ff + j) h9 (by omega))); omega
                          refine lv_aload_n hx hb dX2_copies_69 rfl (lv_at hl 0 rfl) ?_
                          refine lv_aload_n hx hb dX2_copies_70 rfl (lv_at hl 0 rfl) ?_
                          refine lv_iload hx hb dX2_copies_71 (lv_at hl 5 rfl) ?_
                          obtain ⟨a, hpa, ra, g, ka, kr, hka, -⟩ := hPIw (ff + j) (by omega)
                          refine va_csq (W.runV (As := [.int (nI (ff + j))]) (rest := [.ref x]) ⟨hx, hb, hml, hown, hts⟩ (c_X2_begunPage l (by omega) (nI (ff + j))) (cwV 1 hts gX2_copies_X2_begunPage rfl rfl rfl (by decide +kernel) ⟨(Nat.le_of_ble_eq_true rfl), (Nat.le_of_ble_eq_true rfl)⟩) (ro_pre hK hP rfl 0 rfl) rfl rfl hl.1 rfl (lv_room (Nat.le_of_ble_eq_true rfl)) dX2_copies_73 ⟨(Nat.le_of_ble_eq_true rfl), (Nat.le_of_ble_eq_true rfl)⟩) (fun r_73 w_73 => ?_)
                          subst w_73
                          refine W.eq (g2 := F0 m 76 ls [.ref a, .ref x]) (by rw [bpR, if_pos ⟨nI_pos (by omega), nI_ge (by omega) (by omega)⟩, nI_clamp (by omega), hpa]; rfl) ?_
                          refine callQv (va_runV (As := [.ref a]) (rest := []) ⟨hx, hb, hml, hown, hts⟩ (c_X2_addPage l (by omega) a ka _ hka) (cwV 1 hts gX2_copies_X2_addPage rfl rfl rfl (by decide +kernel) ⟨(Nat.le_of_ble_eq_true rfl), (Nat.le_of_ble_eq_true rfl)⟩) (mu_pre hK hP hD rfl 0 rfl) rfl rfl hl.1 rfl (lv_room (Nat.le_of_ble_eq_true rfl)) dX2_copies_76 ⟨(Nat.le_of_ble_eq_true rfl), (Nat.le_of_ble_eq_true rfl)⟩) hD hS hA (fun u_76 H locs w_76 hP hD hS => ?_)
                          have hP : va_P D vwCl (wX cI cP x aC aT aR aP (nI L) (nI C) (nI rl) (nI (bg + i * many + j + 1)) (zb on) (nI st) mk rp sp sc sk fa ch tr rc (va_up pgw (bg + i * many + j) (some a)) pl) H := hP
                          have hD : va_D A (wX cI cP x aC aT aR aP (nI L) (nI C) (nI rl) (nI (bg + i * many + j + 1)) (zb on) (nI st) mk rp sp sc sk fa ch tr rc (va_up pgw (bg + i * many + j) (some a)) pl) := hD
                          refine lv_iinc (v := (nI (ff + (j + 1)))) (lv' := [(5, .int (nI (ff + (j + 1)))), (0, .ref x), (1, .int (nI nn)), (2, .int (nI ff)), (3, .int (nI tt)), (4, .int (nI i))]) hx hb dX2_copies_79 hl (k := 5) rfl (nI_1 (ff + j)) (by decide) rfl (fun ls hl => ?_)
                          refine lv_goto (tgt := 63) hx hb dX2_copies_82 (by decide) ?_
                          exact ih2 (j + 1) _ _ _ _ (by omega) (by omega) (CPM_step hPIw hjl (by omega) hpa) hP hD hS (lv_sub hl [1, 2, 3, 4, 5, 0] rfl)
                    exact loop2 (many + 1) 0 pgv _ _ _ (Nat.zero_le _) (by omega) (hPIv) hP hD hS (lv_sub hl [1, 2, 3, 4, 5, 0] rfl)
              rw [show bg = bg + 0 * many by omega] at hP hD
              exact loop (nn + 1) 0 pg _ _ _ (Nat.zero_le _) (by omega) (PI.congr (by omega) (fun _ _ => rfl) (fun q i c hq _ _ => by unfold CPM; rw [if_pos (by omega)]) hPI) hP hD hS (lv_sub hl [1, 2, 3, 4, 0] rfl)
            ·
              have hfit : ¬ bg + nn * many ≤ 40 := fun h9 => c_45 (nI_le (b := 40) h9 (by decide))
              have hO : cpO bg (nI nn) (nI ff) (nI tt) = false := by rw [cpO, hV, hSz]; exact decide_eq_false hfit
              refine lv_bipush (v := (-6)) hx hb dX2_copies_48 (by decide +kernel) ?_
              exact W.iret (v := (-6)) hx hb hr (fun t ht hW => ⟨⟨_, (pg, bg, st, on), rfl, ⟨by rw [cpR, hV, hSz, if_pos rfl, if_neg hfit], by rw [hO]; rfl, by rw [hcf, hct, ← hmy]; exact PI.congr (Nat.le_refl _) (fun _ _ => rfl) (fun q i c hq _ _ => by unfold CPM; rw [if_pos hq]) hPI, hCS⟩, by rw [ht]; exact hP, hD⟩, hS.F ht⟩) hS.2.2 dX2_copies_50
          ·
            refine lv_bipush (v := (-2)) hx hb dX2_copies_28 (by decide +kernel) ?_
            exact W.iret (v := (-2)) hx hb hr (fun t ht hW => ⟨⟨_, (pg, bg, st, on), rfl, ⟨by rw [cpR, cpV, if_neg c_2, if_neg c_8, if_neg c_12, if_neg c_17, if_neg c_25]; rfl, by rw [cpO, cpV, if_neg c_2, if_neg c_8, if_neg c_12, if_neg c_17, if_neg c_25]; rfl, PI.congr (Nat.le_refl _) (fun _ _ => rfl) (fun q i c hq _ _ => by unfold CPM; rw [if_pos hq]) hPI, hCS⟩, by rw [ht]; exact hP, hD⟩, hS.F ht⟩) hS.2.2 dX2_copies_30
