/-! skip and line -/
theorem div_step {a L : Nat} (hL : 0 < L) (h : a % L + 1 < L) : (a + 1) / L = a / L ∧ (a + 1) % L = a % L + 1 := by
  have e : a + 1 = (a % L + 1) + L * (a / L) := by have := Nat.div_add_mod a L; omega
  constructor
  · rw [e, Nat.add_mul_div_left _ _ hL, Nat.div_eq_of_lt h, Nat.zero_add]
  · conv => lhs; rw [e]
    rw [Nat.add_mul_mod_self_left, Nat.mod_eq_of_lt h]
theorem div_turn {a L : Nat} (hL : 0 < L) (h : ¬ a % L + 1 < L) : (a + 1) / L = a / L + 1 ∧ (a + 1) % L = 0 := by
  have hm := Nat.mod_lt a hL
  have e : a + 1 = 0 + L * (a / L + 1) := by have := Nat.div_add_mod a L; rw [Nat.mul_add]; omega
  constructor
  · rw [e, Nat.add_mul_div_left _ _ hL, Nat.zero_div, Nat.zero_add]
  · rw [e, Nat.add_mul_mod_self_left, Nat.zero_mod]
/-- where n lines lead -/
theorem mvn_eq {L : Nat} (hL : 0 < L) (bg st : Nat) (on : Bool) (hst : st < L) (n : Nat) : mvn L n (bg, st, on) = if (st + n) / L = 0 then (bg, st + n, on) else ((if on then bg + ((st + n) / L - 1) else bg + (st + n) / L), (st + n) % L, false) := by
  induction n with
  | zero =>
    rw [Nat.add_zero, if_pos (Nat.div_eq_of_lt hst)]
    rfl
  | succ n ih =>
    show mv1 L (mvn L n (bg, st, on)) = _
    rw [ih]
    by_cases h0 : (st + n) / L = 0
    · have hlt : st + n < L := by have h8 := Nat.div_add_mod (st + n) L; have h9 := Nat.mod_lt (st + n) hL; rw [h0] at h8; omega
      have hmod : (st + n) % L = st + n := Nat.mod_eq_of_lt hlt
      rw [if_pos h0]
      unfold mv1
      dsimp only
      by_cases h1 : st + n + 1 < L
      · obtain ⟨q1, q2⟩ := div_step hL (a := st + n) (by omega)
        rw [if_pos h1, ← Nat.add_assoc, q1, if_pos h0]
      · obtain ⟨q1, q2⟩ := div_turn hL (a := st + n) (by omega)
        rw [if_neg h1, ← Nat.add_assoc, q1, q2, h0, if_neg (Nat.succ_ne_zero 0)]
        cases on <;> rfl
    · rw [if_neg h0]
      unfold mv1
      dsimp only
      by_cases h1 : (st + n) % L + 1 < L
      · obtain ⟨q1, q2⟩ := div_step hL (a := st + n) h1
        rw [if_pos h1, ← Nat.add_assoc, q1, q2, if_neg h0]
      · obtain ⟨q1, q2⟩ := div_turn hL (a := st + n) h1
        rw [if_neg h1, ← Nat.add_assoc, q1, q2, if_neg (Nat.succ_ne_zero _)]
        cases on
        · simp only [Bool.false_eq_true, if_false]; rw [Nat.add_assoc]
        · have h9 : bg + ((st + n) / L - 1) + 1 = bg + ((st + n) / L + 1 - 1) := by generalize (st + n) / L = d at h0 ⊢; omega
          simp only [if_true, Bool.false_eq_true, if_false, h9]
theorem fit_move {L bg st w : Nat} {on : Bool} (hL : 0 < L) (hst : st < L) (hbg : bg ≤ 40) (hon : on = true → 0 < bg) : sP bg on + (st + w) / L ≤ 40 ↔ (mvn L w (bg, st, on)).1 ≤ 40 := by
  rw [mvn_eq hL bg st on hst w]
  unfold sP
  generalize (st + w) / L = d
  by_cases h : d = 0
  · rw [if_pos h]; subst h; cases on <;> simp <;> omega
  · rw [if_neg h]; cases on
    · simp
    · have := hon rfl; simp; omega
theorem fit_after {L bg st w : Nat} {on : Bool} (hL : 0 < L) (hst : st < L) (hbg : bg ≤ 40) (hon : on = true → 0 < bg) : sP bg on + (st + w) / L < 40 ↔ bgB (mvn L w (bg, st, on)).1 (mvn L w (bg, st, on)).2.2 ≤ 40 := by
  rw [mvn_eq hL bg st on hst w]
  unfold sP bgB
  generalize (st + w) / L = d
  by_cases h : d = 0
  · rw [if_pos h]; subst h; cases on <;> simp <;> omega
  · rw [if_neg h]; cases on
    · simp; omega
    · have := hon rfl; simp; omega
theorem fit_second {L bg st w : Nat} {on : Bool} (hL : 0 < L) (hst : st < L) (hbg : bg ≤ 40) (hon : on = true → 0 < bg) : (sP bg on < 40 ∧ sP bg on + (st + w) / L ≤ 40) ↔ (mvn L w (bgB bg on, st, true)).1 ≤ 40 := by
  rw [mvn_eq hL _ st true hst w]
  unfold sP bgB
  generalize (st + w) / L = d
  by_cases h : d = 0
  · rw [if_pos h]; subst h; cases on <;> simp <;> omega
  · rw [if_neg h]; cases on
    · simp; omega
    · have := hon rfl; simp; omega
theorem wyN_le {L st : Nat} {v : Int32} (hst : st < L) (hL : L ≤ 66) (h : chOK L v) : wyN L st v ≤ L := by
  unfold wyN
  rcases h with h | ⟨j, hj, h⟩
  · rw [if_pos h]; exact Nat.le_refl _
  · by_cases e : v = -1
    · rw [if_pos e]; exact Nat.le_refl _
    · rw [if_neg e, h, nI_clamp (by omega)]
      by_cases q : st < j
      · rw [if_pos q]; omega
      · rw [if_neg q]; omega
theorem isCh_nI {c : Int32} (h : isCh c = true) : ∃ k : Nat, 1 ≤ k ∧ k ≤ 12 ∧ c = nI k := by
  have h1 := isCh_iff.mp h
  refine ⟨c.toInt.toNat, by omega, by omega, i32_ext ?_⟩
  rw [nI_toInt (by omega)]; omega
theorem c_X2_wayToI (l : Launch) {D : va_G} {cI cP cR cJ : ClassId} {x aC aT aR aP L C rl bg st : Nat} {on : Bool} {mk rp sp sc sk fa : Int32} {ch tr rc : Nat → Int32} {pg : Nat → Option Nat} {pl : va_W} (hL0 : 0 < L) (hL : L ≤ 66) (hst : st < L) (hch : ∀ k, 1 ≤ k → k ≤ 12 → chOK L (ch k)) (c0 : Int32) (hc : isCh c0 = true) : Met l yX2_wayTo wsX2_wayTo ({ frames := 1, cells := 0, slots := 0, locals := 20 }) (ro [.ref x, .int c0] D cI cP cR cJ (wX cI cP x aC aT aR aP (nI L) (nI C) (nI rl) (nI bg) (zb on) (nI st) mk rp sp sc sk fa ch tr rc pg pl)) (vp_Si (fun r => r = nI (wyN L st (ch c0.toNatClampNeg)))) 0 0 (fun _ => False) := by
  obtain ⟨k, h1, h2, rfl⟩ := isCh_nI hc
  rw [nI_clamp (by omega)]
  exact c_X2_wayTo l hL0 hL hst k h1 h2 (hch k h1 h2)
theorem lnOf_nI (c : Int32) : ∃ k : Nat, k ≤ 3 ∧ lnOf c = nI k := by
  unfold lnOf
  by_cases h : zb (isPl c) = 0
  · rw [if_pos h]
    by_cases h1 : c = 43
    · rw [if_pos h1]; exact ⟨0, by decide, rfl⟩
    · rw [if_neg h1]
      by_cases h2 : c = 45
      · rw [if_pos h2]; exact ⟨3, by decide, rfl⟩
      · rw [if_neg h2]
        by_cases h3 : c = 48
        · rw [if_pos h3]; exact ⟨2, by decide, rfl⟩
        · rw [if_neg h3]; exact ⟨1, by decide, rfl⟩
  · rw [if_neg h]
    have h1 := zb1.mp h
    unfold isPl at h1
    by_cases q1 : c < 256
    · rw [if_pos q1] at h1; cases h1
    · rw [if_neg q1] at h1
      by_cases q2 : 259 < c
      · rw [if_pos q2] at h1; cases h1
      · rw [i32_lt] at q1 q2
        have e1 : (256 : Int32).toInt = 256 := rfl
        have e2 : (259 : Int32).toInt = 259 := rfl
        refine ⟨(c.toInt - 256).toNat, by omega, i32_ext ?_⟩
        rw [nI_toInt (by omega)]
        have h4 := i32 c
        have h5 := i32 (c - 256)
        rcases i32_sub c 256 with e | e | e <;> rw [e1] at e <;> omega
/-- how many lines a code moves by -/
def lwy (L st : Nat) (ch : Nat → Int32) (c : Int32) : Nat := if zb (isCh (chOf c)) = 0 then (lnOf c).toNatClampNeg else wyN L st (ch (chOf c).toNatClampNeg)
theorem lwy_le {L st : Nat} {ch : Nat → Int32} (hst : st < L) (hL : L ≤ 66) (hch : ∀ k, 1 ≤ k → k ≤ 12 → chOK L (ch k)) (c : Int32) : lwy L st ch c ≤ 66 := by
  unfold lwy
  by_cases h : zb (isCh (chOf c)) = 0
  · rw [if_pos h]
    obtain ⟨k, h1, h2⟩ := lnOf_nI c
    rw [h2, nI_clamp (by omega)]; omega
  · rw [if_neg h]
    obtain ⟨k, h1, h2, h3⟩ := isCh_nI (zb1.mp h)
    rw [h3, nI_clamp (by omega)]
    have := wyN_le hst hL (hch k h1 h2)
    omega
/-- where a record by a code leaves the printer, and where it is printed -/
def lnT (L bg st : Nat) (on : Bool) (sec : Bool) (w : Nat) : Nat × Nat × Bool := if sec then mvn L w (bgB bg on, st, true) else (bgB (mvn L w (bg, st, on)).1 (mvn L w (bg, st, on)).2.2, (mvn L w (bg, st, on)).2.1, true)
def lnQ (L bg st : Nat) (on : Bool) (sec : Bool) (w : Nat) : Nat := if sec then bgB bg on - 1 else bgB (mvn L w (bg, st, on)).1 (mvn L w (bg, st, on)).2.2 - 1
def lnI (L bg st : Nat) (on : Bool) (sec : Bool) (w : Nat) : Nat := if sec then st else (mvn L w (bg, st, on)).2.1
def skT (L st : Nat) (ch : Nat → Int32) (bg : Nat) (on : Bool) (c : Int32) : Nat × Nat × Bool := mvn L (wyN L st (ch c.toNatClampNeg)) (bg, st, on)
def skO (L st : Nat) (ch : Nat → Int32) (bg : Nat) (on : Bool) (c : Int32) : Bool := if zb (isCh c) = 0 then false else decide ((skT L st ch bg on c).1 ≤ 40)
def skOx (L st : Nat) (ch : Nat → Int32) (bg : Nat) (on : Bool) (c : Int32) : Bool := if zb (isCh c) = 0 then false else decide (sP bg on + (st + wyN L st (ch c.toNatClampNeg)) / L < 40)
def skRx (L st : Nat) (ch : Nat → Int32) (bg : Nat) (on : Bool) (c : Int32) : Int32 := if zb (isCh c) = 0 then 0 else if sP bg on + (st + wyN L st (ch c.toNatClampNeg)) / L < 40 then (if ¬ ch c.toNatClampNeg = -1 then nI (wyN L st (ch c.toNatClampNeg)) else -1) else -6
def skR (L st : Nat) (ch : Nat → Int32) (bg : Nat) (on : Bool) (c : Int32) : Int32 := if zb (isCh c) = 0 then 0 else if (skT L st ch bg on c).1 ≤ 40 then (if ¬ ch c.toNatClampNeg = -1 then nI (wyN L st (ch c.toNatClampNeg)) else -1) else -6
theorem MP_MB {M : Nat → Nat → Nat → Int32} {bg b1 i0 n : Nat} {tr rc : Nat → Int32} (hb : bg ≤ b1) (h0 : 0 < b1) : MB b1 (MP (MB bg M) (b1 - 1) i0 tr rc n) = MP (MB bg M) (b1 - 1) i0 tr rc n := by
  funext q i c
  by_cases h : q < b1
  · exact if_pos h
  · have e1 : MB b1 (MP (MB bg M) (b1 - 1) i0 tr rc n) q i c = 32 := if_neg h
    rw [e1]
    unfold MP
    rw [if_neg (fun z => by omega)]
    unfold MB
    rw [if_neg (by omega)]

set_option maxHeartbeats 1000000 in
set_option maxRecDepth 100000 in
theorem c_X2_skip (l : Launch) {D : va_G} {cI cP cR cJ : ClassId} {x aC aT aR aP L C rl bg st : Nat} {on : Bool} {mk rp sp sc sk fa : Int32} {ch tr rc : Nat → Int32} {pg : Nat → Option Nat} {pl : va_W} {own : Nat → Nat × Nat} {M : Nat → Nat → Nat → Int32} {sz : Nat} (hL0 : 0 < L) (hL : L ≤ 66) (hC : C ≤ 132) (hst : st < L) (hbg : bg ≤ 40) (hch : ∀ k, 1 ≤ k → k ≤ 12 → chOK L (ch k)) (hPI : PI cI cR pl own L C bg pg M) (hCS : CS on bg pg) (c0 : Int32) : Met l yX2_skip wsX2_skip ({ frames := 4, cells := 132, slots := 4488, locals := 79 }) (mu [.ref x, .int c0] D cI cP cR cJ (wX cI cP x aC aT aR aP (nI L) (nI C) (nI rl) (nI bg) (zb on) (nI st) mk rp sp sc sk fa ch tr rc pg pl) sz) (qi D (fun (r : Int32) (u : va_W × (Nat → Option Nat) × Nat × Nat × Bool × Int32) => r = skRx L st ch bg on c0 ∧ (u.2.2.1, u.2.2.2.1, u.2.2.2.2.1) = (if skOx L st ch bg on c0 then skT L st ch bg on c0 else (bg, st, on)) ∧ u.2.2.2.2.2 = (if skOx L st ch bg on c0 then skN ch sk c0 else sk) ∧ (∃ own' : Nat → Nat × Nat, PI cI cR u.1 own' L C u.2.2.1 u.2.1 (MB bg M)) ∧ CS u.2.2.2.2.1 u.2.2.1 u.2.1) (fun u : va_W × (Nat → Option Nat) × Nat × Nat × Bool × Int32 => wX cI cP x aC aT aR aP (nI L) (nI C) (nI rl) (nI u.2.2.1) (zb u.2.2.2.2.1) (nI u.2.2.2.1) mk rp sp sc u.2.2.2.2.2 fa ch tr rc u.2.1 u.1) (va_A (wX cI cP x aC aT aR aP (nI L) (nI C) (nI rl) (nI bg) (zb on) (nI st) mk rp sp sc sk fa ch tr rc pg pl) sz)) 132 4488 (va_A (wX cI cP x aC aT aR aP (nI L) (nI C) (nI rl) (nI bg) (zb on) (nI st) mk rp sp sc sk fa ch tr rc pg pl) sz) := by
  refine Met.ofW (cc := cX2_skip) (maxL := 3) (ret := (some .int)) (by decide) rfl ?_
  intro p e s m args below meth c s₁ B hml hv
  obtain ⟨rfl, hsz, hP, hK, hD0⟩ := hv
  have hx := B.exec
  have hb := B.bytes
  have hr := B.returns
  have hts := atoms_spec (ws := wsX2_skip) B.pre
  have hown : s.vm.findClass RX2 = some m.cls := findClass_of_methodNamed B.named
  have hlocks := B.notSynchronized
  have hinX0 : ∀ w ∈ wsX00, w ∈ wsX2_skip := by decide +kernel
  have hinX2 : ∀ w ∈ wsX20, w ∈ wsX2_skip := by decide +kernel
  subst hsz
  have hD := hD0.self (sz := s.heap.size)
  generalize hAe : va_A (wX cI cP x aC aT aR aP (nI L) (nI C) (nI rl) (nI bg) (zb on) (nI st) mk rp sp sc sk fa ch tr rc pg pl) s.heap.size = A at hD ⊢
  have hA : ∀ q : Nat, s.heap.size ≤ q → A q := fun q h => by rw [← hAe]; exact Or.inr h
  have hS : va_S A s.heap s.heap [] := va_S.rf
  have hP : va_P D vwCl (wX cI cP x aC aT aR aP (nI L) (nI C) (nI rl) (nI bg) (zb on) (nI st) mk rp sp sc sk fa ch tr rc pg pl) s.heap := hP
  have hl := lv_entry ([.ref x, .int c0]) (n := 3) (Nat.le_of_ble_eq_true rfl)
  rw [lg_entry_eq]
  generalize (lg_sl ([.ref x, .int c0]) ++ List.replicate (3 - (lg_sl ([.ref x, .int c0])).length) Slot.unset).toArray = ls at hl ⊢
  have hl : lv_has ls 3 [(0, .ref x), (1, .int c0)] := hl
  have hon : on = true → 0 < bg := fun h9 => (hCS h9).1
  refine lv_iload_n hx hb dX2_skip_0 rfl (lv_at hl 1 rfl) ?_
  refine vp_callSi (W.runS (As := [.int c0]) (rest := []) ⟨hx, hb, hml, hown, hts⟩ (c_X2_isChannel l (c0)) (va_cwS 1 hts gX2_skip_X2_isChannel rfl rfl rfl (by decide +kernel) ⟨(Nat.le_of_ble_eq_true rfl), (Nat.le_of_ble_eq_true rfl)⟩) pu_pre rfl rfl hl.1 rfl (lv_room (Nat.le_of_ble_eq_true rfl)) dX2_skip_1 ⟨(Nat.le_of_ble_eq_true rfl), (Nat.le_of_ble_eq_true rfl)⟩) (fun r_1 w_1 => ?_)
  subst w_1
  refine lv_if_ne (tgt := 9) hx hb dX2_skip_4 (by decide) (fun c_4 => ?_) (fun c_4 => ?_)
  ·
    have hwl : (wyN L st (ch c0.toNatClampNeg)) ≤ 66 := by
      obtain ⟨k9, h7, h8, h9⟩ := isCh_nI (zb1.mp c_4)
      rw [h9, nI_clamp (by omega)]
      exact Nat.le_trans (wyN_le hst hL (hch k9 h7 h8)) hL
    refine lv_aload_n hx hb dX2_skip_9 rfl (lv_at hl 0 rfl) ?_
    refine lv_iload_n hx hb dX2_skip_10 rfl (lv_at hl 1 rfl) ?_
    refine vp_callSi (W.runV (As := [.int c0]) (rest := []) ⟨hx, hb, hml, hown, hts⟩ (c_X2_wayToI l hL0 hL hst hch c0 (zb1.mp c_4)) (cwV 1 hts gX2_skip_X2_wayTo rfl rfl rfl (by decide +kernel) ⟨(Nat.le_of_ble_eq_true rfl), (Nat.le_of_ble_eq_true rfl)⟩) (ro_pre hK hP rfl 0 rfl) rfl rfl hl.1 rfl (lv_room (Nat.le_of_ble_eq_true rfl)) dX2_skip_11 ⟨(Nat.le_of_ble_eq_true rfl), (Nat.le_of_ble_eq_true rfl)⟩) (fun r_11 w_11 => ?_)
    subst w_11
    refine lv_istore_n (lv' := [(2, .int (nI (wyN L st (ch c0.toNatClampNeg)))), (0, .ref x), (1, .int c0)]) hx hb dX2_skip_14 rfl hl (by decide) rfl (fun ls hl => ?_)
    refine lv_aload_n hx hb dX2_skip_15 rfl (lv_at hl 1 rfl) ?_
    refine lv_iload_n hx hb dX2_skip_16 rfl (lv_at hl 0 rfl) ?_
    refine vp_callSi (W.runV (As := [.int (nI (wyN L st (ch c0.toNatClampNeg)))]) (rest := []) ⟨hx, hb, hml, hown, hts⟩ (c_X2_endsOnAPage l hon hbg hL0 hL hst (wyN L st (ch c0.toNatClampNeg)) (by omega)) (cwV 1 hts gX2_skip_X2_endsOnAPage rfl rfl rfl (by decide +kernel) ⟨(Nat.le_of_ble_eq_true rfl), (Nat.le_of_ble_eq_true rfl)⟩) (ro_pre hK hP rfl 0 rfl) rfl rfl hl.1 rfl (lv_room (Nat.le_of_ble_eq_true rfl)) dX2_skip_17 ⟨(Nat.le_of_ble_eq_true rfl), (Nat.le_of_ble_eq_true rfl)⟩) (fun r_17 w_17 => ?_)
    subst w_17
    refine lv_if_ne (tgt := 26) hx hb dX2_skip_20 (by decide) (fun c_20 => ?_) (fun c_20 => ?_)
    ·
      have hfx := of_decide_eq_true (zb1.mp c_20)
      have hfit : (skT L st ch bg on c0).1 ≤ 40 := (fit_move hL0 hst hbg hon).mp (Nat.le_of_lt hfx)
      have hok : skOx L st ch bg on c0 = true := by rw [skOx, if_neg c_4, decide_eq_true hfx]
      refine lv_aload_n hx hb dX2_skip_26 rfl (lv_at hl 1 rfl) ?_
      refine lv_iload_n hx hb dX2_skip_27 rfl (lv_at hl 0 rfl) ?_
      refine callQv (va_runV (As := [.int (nI (wyN L st (ch c0.toNatClampNeg)))]) (rest := []) ⟨hx, hb, hml, hown, hts⟩ (c_X2_moveBy l hL0 hL hst hbg hPI hCS (wyN L st (ch c0.toNatClampNeg)) hwl hfit) (cwV 1 hts gX2_skip_X2_moveBy rfl rfl rfl (by decide +kernel) ⟨(Nat.le_of_ble_eq_true rfl), (Nat.le_of_ble_eq_true rfl)⟩) (mu_pre hK hP hD rfl 0 rfl) rfl rfl hl.1 rfl (lv_room (Nat.le_of_ble_eq_true rfl)) dX2_skip_28 ⟨(Nat.le_of_ble_eq_true rfl), (Nat.le_of_ble_eq_true rfl)⟩) hD hS hA (fun u_28 H locs w_28 hP hD hS => ?_)
      obtain ⟨pl1, pg1, bg1, st1, on1⟩ := u_28
      obtain ⟨hmv, hpg1, hPI1, hCS1⟩ := w_28
      dsimp only at hmv hpg1 hPI1 hCS1
      have hP : va_P D vwCl (wX cI cP x aC aT aR aP (nI L) (nI C) (nI rl) (nI bg1) (zb on1) (nI st1) mk rp sp sc sk fa ch tr rc pg1 pl1) H := hP
      have hD : va_D A (wX cI cP x aC aT aR aP (nI L) (nI C) (nI rl) (nI bg1) (zb on1) (nI st1) mk rp sp sc sk fa ch tr rc pg1 pl1) := hD
      refine lv_aload_n hx hb dX2_skip_31 rfl (lv_at hl 1 rfl) ?_
      refine lv_iload_n hx hb dX2_skip_32 rfl (lv_at hl 2 rfl) ?_
      refine callQv (va_runV (As := [.int c0]) (rest := []) ⟨hx, hb, hml, hown, hts⟩ (c_X2_countSkip l c0) (cwV 1 hts gX2_skip_X2_countSkip rfl rfl rfl (by decide +kernel) ⟨(Nat.le_of_ble_eq_true rfl), (Nat.le_of_ble_eq_true rfl)⟩) (mu_pre hK hP hD rfl 0 rfl) rfl rfl hl.1 rfl (lv_room (Nat.le_of_ble_eq_true rfl)) dX2_skip_33 ⟨(Nat.le_of_ble_eq_true rfl), (Nat.le_of_ble_eq_true rfl)⟩) hD hS hA (fun u_33 H locs w_33 hP hD hS => ?_)
      subst w_33
      have hP : va_P D vwCl (wX cI cP x aC aT aR aP (nI L) (nI C) (nI rl) (nI bg1) (zb on1) (nI st1) mk rp sp sc (skN ch sk c0) fa ch tr rc pg1 pl1) H := hP
      have hD : va_D A (wX cI cP x aC aT aR aP (nI L) (nI C) (nI rl) (nI bg1) (zb on1) (nI st1) mk rp sp sc (skN ch sk c0) fa ch tr rc pg1 pl1) := hD
      refine lv_aload_n hx hb dX2_skip_36 rfl (lv_at hl 1 rfl) ?_
      refine va_get (D := D) (ci := 3) (v := .ref aC) (C := RX2) (T := TX2) (N := 16) hx hb hts hinX2 hown hK.1 hP 0 rfl rfl 2 (by decide) (hts (.fieldLink RX2 20 "PrinterRows" "channelLines" "[I") (by decide +kernel)) (fun _ h9 => h9) rfl dX2_skip_37 ?_
      refine lv_iload_n hx hb dX2_skip_40 rfl (lv_at hl 2 rfl) ?_
      refine va_iald hx hb hK.1 hP 1 0 rfl rfl (isCh_in c_4) dX2_skip_41 ?_
      refine lv_iconst (v := (-1)) hx hb dX2_skip_42 (by decide +kernel) ?_
      refine lv_icmp_ne (tgt := 50) hx hb dX2_skip_43 (by decide) (fun c_43 => ?_) (fun c_43 => ?_)
      ·
        refine lv_iload_n hx hb dX2_skip_50 rfl (lv_at hl 0 rfl) ?_
        refine W.widen (k := 132) (n := 4488) (by omega) (by omega) ?_
        exact W.iret (v := (nI (wyN L st (ch c0.toNatClampNeg)))) hx hb hr (fun t ht hW => ⟨⟨_, (pl1, pg1, bg1, st1, on1, skN ch sk c0), rfl, ⟨by rw [skRx, if_neg c_4, if_pos hfx, if_pos c_43], by rw [hok]; exact hmv, by rw [hok]; rfl, hPI1, hCS1⟩, by rw [ht]; exact hP, hD⟩, hS.F ht⟩) hS.2.2 dX2_skip_51
      ·
        refine lv_iconst (v := (-1)) hx hb dX2_skip_46 (by decide +kernel) ?_
        refine lv_goto (tgt := 51) hx hb dX2_skip_47 (by decide) ?_
        refine W.widen (k := 132) (n := 4488) (by omega) (by omega) ?_
        exact W.iret (v := (-1)) hx hb hr (fun t ht hW => ⟨⟨_, (pl1, pg1, bg1, st1, on1, skN ch sk c0), rfl, ⟨by rw [skRx, if_neg c_4, if_pos hfx, if_neg (fun h9 => h9 c_43)], by rw [hok]; exact hmv, by rw [hok]; rfl, hPI1, hCS1⟩, by rw [ht]; exact hP, hD⟩, hS.F ht⟩) hS.2.2 dX2_skip_51
    ·
      have hfx := of_decide_eq_false (zb0.mp c_20)
      have hok : skOx L st ch bg on c0 = false := by rw [skOx, if_neg c_4, decide_eq_false hfx]
      refine lv_bipush (v := (-6)) hx hb dX2_skip_23 (by decide +kernel) ?_
      refine W.widen (k := 132) (n := 4488) (by omega) (by omega) ?_
      exact W.iret (v := (-6)) hx hb hr (fun t ht hW => ⟨⟨_, (pl, pg, bg, st, on, sk), rfl, ⟨by rw [skRx, if_neg c_4, if_neg hfx], by rw [hok]; rfl, by rw [hok]; rfl, ⟨own, PI.congr (Nat.le_refl _) (fun _ _ => rfl) (fun q i c hq _ _ => by unfold MB; rw [if_pos hq]) hPI⟩, hCS⟩, by rw [ht]; exact hP, hD⟩, hS.F ht⟩) hS.2.2 dX2_skip_25
  ·
    refine lv_iconst (v := 0) hx hb dX2_skip_7 (by decide +kernel) ?_
    refine W.widen (k := 132) (n := 4488) (by omega) (by omega) ?_
    exact W.iret (v := 0) hx hb hr (fun t ht hW => ⟨⟨_, (pl, pg, bg, st, on, sk), rfl, ⟨by rw [skRx, if_pos c_4], by rw [skOx, if_pos c_4]; rfl, by rw [skOx, if_pos c_4]; rfl, ⟨own, PI.congr (Nat.le_refl _) (fun _ _ => rfl) (fun q i c hq _ _ => by unfold MB; rw [if_pos hq]) hPI⟩, hCS⟩, by rw [ht]; exact hP, hD⟩, hS.F ht⟩) hS.2.2 dX2_skip_8

set_option maxHeartbeats 1000000 in
set_option maxRecDepth 100000 in
theorem c_X2_line (l : Launch) {D : va_G} {cI cP cR cJ : ClassId} {x aC aT aR aP L C rl bg st : Nat} {on : Bool} {mk rp sp sc sk fa : Int32} {ch tr rc : Nat → Int32} {pg : Nat → Option Nat} {pl : va_W} {own : Nat → Nat × Nat} {M : Nat → Nat → Nat → Int32} {sz : Nat} (hL0 : 0 < L) (hL : L ≤ 66) (hC : C ≤ 132) (hst : st < L) (hbg : bg ≤ 40) (hch : ∀ k, 1 ≤ k → k ≤ 12 → chOK L (ch k)) (hPI : PI cI cR pl own L C bg pg M) (hCS : CS on bg pg) (hrl : rl ≤ 200) (hrc : ∀ j, j < rl → isSg (rc j) = true) (hMG : MG L C bg M) (c0 : Int32) (w : Nat) (hw : w = lwy L st ch c0) : Met l yX2_line wsX2_line ({ frames := 6, cells := 136, slots := 4689, locals := 125 }) (mu [.ref x, .int c0] D cI cP cR cJ (wX cI cP x aC aT aR aP (nI L) (nI C) (nI rl) (nI bg) (zb on) (nI st) mk rp sp sc sk fa ch tr rc pg pl) sz) (qi D (fun (r : Int32) (u : va_W × (Nat → Option Nat) × Nat × Nat × Bool × Nat × Int32 × Int32 × Int32 × Int32) => ((lnT L bg st on (isSk c0) w).1 ≤ 40 ∧ r = nI (lnT L bg st on (isSk c0) w).1 ∧ (u.2.2.1, u.2.2.2.1, u.2.2.2.2.1) = (lnT L bg st on (isSk c0) w) ∧ u.2.2.2.2.2.1 = 0 ∧ u.2.2.2.2.2.2.1 = rp + 1 ∧ u.2.2.2.2.2.2.2.1 = sp + cS tr rc C rl ∧ u.2.2.2.2.2.2.2.2.1 = sc + cC C rl ∧ u.2.2.2.2.2.2.2.2.2 = skN ch sk (chOf c0) ∧ (∃ own' : Nat → Nat × Nat, PI cI cR u.1 own' L C u.2.2.1 u.2.1 (MP (MB bg M) (lnQ L bg st on (isSk c0) w) (lnI L bg st on (isSk c0) w) tr rc rl)) ∧ CS u.2.2.2.2.1 u.2.2.1 u.2.1) ∨ (¬ (lnT L bg st on (isSk c0) w).1 ≤ 40 ∧ r = -6 ∧ u.2.2 = (bg, st, on, rl, rp, sp, sc, sk) ∧ PI cI cR u.1 own L C bg u.2.1 M ∧ CS on bg u.2.1)) (fun u : va_W × (Nat → Option Nat) × Nat × Nat × Bool × Nat × Int32 × Int32 × Int32 × Int32 => wX cI cP x aC aT aR aP (nI L) (nI C) (nI u.2.2.2.2.2.1) (nI u.2.2.1) (zb u.2.2.2.2.1) (nI u.2.2.2.1) mk u.2.2.2.2.2.2.1 u.2.2.2.2.2.2.2.1 u.2.2.2.2.2.2.2.2.1 u.2.2.2.2.2.2.2.2.2 fa ch tr rc u.2.1 u.1) (va_A (wX cI cP x aC aT aR aP (nI L) (nI C) (nI rl) (nI bg) (zb on) (nI st) mk rp sp sc sk fa ch tr rc pg pl) sz)) 136 4689 (va_A (wX cI cP x aC aT aR aP (nI L) (nI C) (nI rl) (nI bg) (zb on) (nI st) mk rp sp sc sk fa ch tr rc pg pl) sz) := by
  refine Met.ofW (cc := cX2_line) (maxL := 4) (ret := (some .int)) (by decide) rfl ?_
  intro p e s m args below meth c s₁ B hml hv
  obtain ⟨rfl, hsz, hP, hK, hD0⟩ := hv
  have hx := B.exec
  have hb := B.bytes
  have hr := B.returns
  have hts := atoms_spec (ws := wsX2_line) B.pre
  have hown : s.vm.findClass RX2 = some m.cls := findClass_of_methodNamed B.named
  have hlocks := B.notSynchronized
  have hinX0 : ∀ w ∈ wsX00, w ∈ wsX2_line := by decide +kernel
  have hinX1 : ∀ w ∈ wsX10, w ∈ wsX2_line := by decide +kernel
  have hinX2 : ∀ w ∈ wsX20, w ∈ wsX2_line := by decide +kernel
  subst hsz
  have hD := hD0.self (sz := s.heap.size)
  generalize hAe : va_A (wX cI cP x aC aT aR aP (nI L) (nI C) (nI rl) (nI bg) (zb on) (nI st) mk rp sp sc sk fa ch tr rc pg pl) s.heap.size = A at hD ⊢
  have hA : ∀ q : Nat, s.heap.size ≤ q → A q := fun q h => by rw [← hAe]; exact Or.inr h
  have hS : va_S A s.heap s.heap [] := va_S.rf
  have hP : va_P D vwCl (wX cI cP x aC aT aR aP (nI L) (nI C) (nI rl) (nI bg) (zb on) (nI st) mk rp sp sc sk fa ch tr rc pg pl) s.heap := hP
  have hl := lv_entry ([.ref x, .int c0]) (n := 4) (Nat.le_of_ble_eq_true rfl)
  rw [lg_entry_eq]
  generalize (lg_sl ([.ref x, .int c0]) ++ List.replicate (4 - (lg_sl ([.ref x, .int c0])).length) Slot.unset).toArray = ls at hl ⊢
  have hl : lv_has ls 4 [(0, .ref x), (1, .int c0)] := hl
  have hon : on = true → 0 < bg := fun h9 => (hCS h9).1
  have hwl : w ≤ 66 := by rw [hw]; exact lwy_le hst hL hch c0
  refine lv_iload_n hx hb dX2_line_0 rfl (lv_at hl 1 rfl) ?_
  refine vp_callSi (W.runS (As := [.int c0]) (rest := []) ⟨hx, hb, hml, hown, hts⟩ (c_X2_channelOfCode l (c0)) (va_cwS 1 hts gX2_line_X2_channelOfCode rfl rfl rfl (by decide +kernel) ⟨(Nat.le_of_ble_eq_true rfl), (Nat.le_of_ble_eq_true rfl)⟩) pu_pre rfl rfl hl.1 rfl (lv_room (Nat.le_of_ble_eq_true rfl)) dX2_line_1 ⟨(Nat.le_of_ble_eq_true rfl), (Nat.le_of_ble_eq_true rfl)⟩) (fun r_1 w_1 => ?_)
  subst w_1
  refine lv_istore_n (lv' := [(2, .int (chOf c0)), (0, .ref x), (1, .int c0)]) hx hb dX2_line_4 rfl hl (by decide) rfl (fun ls hl => ?_)
  refine lv_iload_n hx hb dX2_line_5 rfl (lv_at hl 0 rfl) ?_
  refine vp_callSi (W.runS (As := [.int (chOf c0)]) (rest := []) ⟨hx, hb, hml, hown, hts⟩ (c_X2_isChannel l ((chOf c0))) (va_cwS 1 hts gX2_line_X2_isChannel rfl rfl rfl (by decide +kernel) ⟨(Nat.le_of_ble_eq_true rfl), (Nat.le_of_ble_eq_true rfl)⟩) pu_pre rfl rfl hl.1 rfl (lv_room (Nat.le_of_ble_eq_true rfl)) dX2_line_6 ⟨(Nat.le_of_ble_eq_true rfl), (Nat.le_of_ble_eq_true rfl)⟩) (fun r_6 w_6 => ?_)
  subst w_6
  refine lv_if_eq (tgt := 20) hx hb dX2_line_9 (by decide) (fun c_9 => ?_) (fun c_9 => ?_)
  ·
    refine lv_iload_n hx hb dX2_line_20 rfl (lv_at hl 2 rfl) ?_
    refine vp_callSi (W.runS (As := [.int c0]) (rest := []) ⟨hx, hb, hml, hown, hts⟩ (c_X2_linesOfCode l (c0)) (va_cwS 1 hts gX2_line_X2_linesOfCode rfl rfl rfl (by decide +kernel) ⟨(Nat.le_of_ble_eq_true rfl), (Nat.le_of_ble_eq_true rfl)⟩) pu_pre rfl rfl hl.1 rfl (lv_room (Nat.le_of_ble_eq_true rfl)) dX2_line_21 ⟨(Nat.le_of_ble_eq_true rfl), (Nat.le_of_ble_eq_true rfl)⟩) (fun r_21 w_21 => ?_)
    subst w_21
    refine lv_topi (fun x_21 ex_21 => ?_)
    obtain rfl : x_21 = nI w := ex_21.trans (by rw [hw, lwy, if_pos c_9]; obtain ⟨k9, h8, h9⟩ := lnOf_nI c0; rw [h9, nI_clamp (by omega)])
    refine lv_istore_n (lv' := [(3, .int (nI w)), (2, .int (chOf c0)), (0, .ref x), (1, .int c0)]) hx hb dX2_line_24 rfl hl (by decide) rfl (fun ls hl => ?_)
    refine lv_iload_n hx hb dX2_line_25 rfl (lv_at hl 3 rfl) ?_
    refine vp_callSi (W.runS (As := [.int c0]) (rest := []) ⟨hx, hb, hml, hown, hts⟩ (c_X2_isSecondKind l (c0)) (va_cwS 1 hts gX2_line_X2_isSecondKind rfl rfl rfl (by decide +kernel) ⟨(Nat.le_of_ble_eq_true rfl), (Nat.le_of_ble_eq_true rfl)⟩) pu_pre rfl rfl hl.1 rfl (lv_room (Nat.le_of_ble_eq_true rfl)) dX2_line_26 ⟨(Nat.le_of_ble_eq_true rfl), (Nat.le_of_ble_eq_true rfl)⟩) (fun r_26 w_26 => ?_)
    subst w_26
    refine lv_if_eq (tgt := 63) hx hb dX2_line_29 (by decide) (fun c_29 => ?_) (fun c_29 => ?_)
    ·
      have hsk : isSk c0 = false := zb0.mp c_29
      refine lv_aload_n hx hb dX2_line_63 rfl (lv_at hl 2 rfl) ?_
      refine lv_iload_n hx hb dX2_line_64 rfl (lv_at hl 0 rfl) ?_
      refine vp_callSi (W.runV (As := [.int (nI w)]) (rest := []) ⟨hx, hb, hml, hown, hts⟩ (c_X2_endsOnAPage l hon hbg hL0 hL hst w (by omega)) (cwV 1 hts gX2_line_X2_endsOnAPage rfl rfl rfl (by decide +kernel) ⟨(Nat.le_of_ble_eq_true rfl), (Nat.le_of_ble_eq_true rfl)⟩) (ro_pre hK hP rfl 0 rfl) rfl rfl hl.1 rfl (lv_room (Nat.le_of_ble_eq_true rfl)) dX2_line_65 ⟨(Nat.le_of_ble_eq_true rfl), (Nat.le_of_ble_eq_true rfl)⟩) (fun r_65 w_65 => ?_)
      subst w_65
      refine lv_if_ne (tgt := 74) hx hb dX2_line_68 (by decide) (fun c_68 => ?_) (fun c_68 => ?_)
      ·
        have hfit : bgB (mvn L w (bg, st, on)).1 (mvn L w (bg, st, on)).2.2 ≤ 40 := (fit_after hL0 hst hbg hon).mp (of_decide_eq_true (zb1.mp c_68))
        have hfm : (mvn L w (bg, st, on)).1 ≤ 40 := by revert hfit; unfold bgB; split <;> omega
        refine lv_aload_n hx hb dX2_line_74 rfl (lv_at hl 2 rfl) ?_
        refine lv_iload_n hx hb dX2_line_75 rfl (lv_at hl 0 rfl) ?_
        refine callQv (va_runV (As := [.int (nI w)]) (rest := []) ⟨hx, hb, hml, hown, hts⟩ (c_X2_moveBy l hL0 hL hst hbg hPI hCS w hwl hfm) (cwV 1 hts gX2_line_X2_moveBy rfl rfl rfl (by decide +kernel) ⟨(Nat.le_of_ble_eq_true rfl), (Nat.le_of_ble_eq_true rfl)⟩) (mu_pre hK hP hD rfl 0 rfl) rfl rfl hl.1 rfl (lv_room (Nat.le_of_ble_eq_true rfl)) dX2_line_76 ⟨(Nat.le_of_ble_eq_true rfl), (Nat.le_of_ble_eq_true rfl)⟩) hD hS hA (fun u_76 H locs w_76 hP hD hS => ?_)
        obtain ⟨pl1, pg1, bg1, st1, on1⟩ := u_76
        obtain ⟨hmv, hpg1, ⟨own1, hPI1⟩, hCS1⟩ := w_76
        dsimp only at hmv hpg1 hPI1 hCS1
        have hP : va_P D vwCl (wX cI cP x aC aT aR aP (nI L) (nI C) (nI rl) (nI bg1) (zb on1) (nI st1) mk rp sp sc sk fa ch tr rc pg1 pl1) H := hP
        have hD : va_D A (wX cI cP x aC aT aR aP (nI L) (nI C) (nI rl) (nI bg1) (zb on1) (nI st1) mk rp sp sc sk fa ch tr rc pg1 pl1) := hD
        have hbb : bg ≤ bg1 := by have h9 := mvn_le (L := L) (Nat.zero_le w) (bg, st, on); rw [← hmv] at h9; exact h9
        have hf1 : bgB bg1 on1 ≤ 40 := by rw [← hmv] at hfit; exact hfit
        have hs1 : st1 < L := by have h9 := mvn_st hL0 w (bg, st, on) hst; rw [← hmv] at h9; exact h9
        have hb140 : bg1 ≤ 40 := by revert hf1; unfold bgB; split <;> omega
        have h401 : on1 = false → bg1 < 40 := fun h9 => by rw [h9] at hf1; exact hf1
        refine lv_aload_n hx hb dX2_line_79 rfl (lv_at hl 2 rfl) ?_
        refine callQv (va_runV (As := []) (rest := []) ⟨hx, hb, hml, hown, hts⟩ (c_X2_printRecord l hL hC hs1 h401 hb140 hrl hrc hPI1 hCS1 hMG.blank) (cwV 0 hts gX2_line_X2_printRecord rfl rfl rfl (by decide +kernel) ⟨(Nat.le_of_ble_eq_true rfl), (Nat.le_of_ble_eq_true rfl)⟩) (mu_pre hK hP hD rfl 0 rfl) rfl rfl hl.1 rfl (lv_room (Nat.le_of_ble_eq_true rfl)) dX2_line_80 ⟨(Nat.le_of_ble_eq_true rfl), (Nat.le_of_ble_eq_true rfl)⟩) hD hS hA (fun u_80 H locs w_80 hP hD hS => ?_)
        obtain ⟨pl2, pg2, bg2, sp1, sc1⟩ := u_80
        obtain ⟨hb2, hpg2, hPI2, hCS2, hsp1, hsc1⟩ := w_80
        dsimp only at hb2 hpg2 hPI2 hCS2 hsp1 hsc1
        have hP : va_P D vwCl (wX cI cP x aC aT aR aP (nI L) (nI C) (nI 0) (nI bg2) (zb true) (nI st1) mk (rp + 1) sp1 sc1 sk fa ch tr rc pg2 pl2) H := hP
        have hD : va_D A (wX cI cP x aC aT aR aP (nI L) (nI C) (nI 0) (nI bg2) (zb true) (nI st1) mk (rp + 1) sp1 sc1 sk fa ch tr rc pg2 pl2) := hD
        have hT : (bg2, st1, true) = (lnT L bg st on (isSk c0) w) := by rw [lnT, hsk, if_neg (by decide), ← hmv, hb2]
        have hPIf : ∃ own' : Nat → Nat × Nat, PI cI cR pl2 own' L C bg2 pg2 (MP (MB bg M) (lnQ L bg st on (isSk c0) w) (lnI L bg st on (isSk c0) w) tr rc rl) := by
          rw [MB_MB hbb] at hPI2
          rw [lnQ, lnI, hsk, if_neg (by decide), if_neg (by decide), ← hmv, ← hb2]
          exact hPI2
        have hb240 : bg2 ≤ 40 := by rw [hb2]; exact hf1
        refine lv_iload_n hx hb dX2_line_83 rfl (lv_at hl 1 rfl) ?_
        refine vp_callSi (W.runS (As := [.int (chOf c0)]) (rest := []) ⟨hx, hb, hml, hown, hts⟩ (c_X2_isChannel l ((chOf c0))) (va_cwS 1 hts gX2_line_X2_isChannel rfl rfl rfl (by decide +kernel) ⟨(Nat.le_of_ble_eq_true rfl), (Nat.le_of_ble_eq_true rfl)⟩) pu_pre rfl rfl hl.1 rfl (lv_room (Nat.le_of_ble_eq_true rfl)) dX2_line_84 ⟨(Nat.le_of_ble_eq_true rfl), (Nat.le_of_ble_eq_true rfl)⟩) (fun r_84 w_84 => ?_)
        subst w_84
        refine lv_if_eq (tgt := 95) hx hb dX2_line_87 (by decide) (fun c_87 => ?_) (fun c_87 => ?_)
        ·
          refine lv_aload_n hx hb dX2_line_95 rfl (lv_at hl 2 rfl) ?_
          refine va_get (D := D) (ci := 3) (v := .int (nI bg2)) (C := RX2) (T := TX2) (N := 16) hx hb hts hinX2 hown hK.1 hP 0 rfl rfl 7 (by decide) (hts (.fieldLink RX2 86 "PrinterRows" "begun" "I") (by decide +kernel)) (fun _ h9 => h9) rfl dX2_line_96 ?_
          refine W.widen (k := 136) (n := 4689) (by omega) (by omega) ?_
          exact W.iret (v := (nI bg2)) hx hb hr (fun t ht hW => ⟨⟨_, (pl2, pg2, bg2, st1, true, 0, rp + 1, sp1, sc1, sk), rfl, Or.inl ⟨by rw [← hT]; exact hb240, by rw [← hT], hT, rfl, rfl, hsp1, hsc1, by rw [skN, if_pos c_87], hPIf, hCS2⟩, by rw [ht]; exact hP, hD⟩, hS.F ht⟩) hS.2.2 dX2_line_99
        ·
          refine lv_aload_n hx hb dX2_line_90 rfl (lv_at hl 2 rfl) ?_
          refine lv_iload_n hx hb dX2_line_91 rfl (lv_at hl 1 rfl) ?_
          refine callQv (va_runV (As := [.int (chOf c0)]) (rest := []) ⟨hx, hb, hml, hown, hts⟩ (c_X2_countSkip l (chOf c0)) (cwV 1 hts gX2_line_X2_countSkip rfl rfl rfl (by decide +kernel) ⟨(Nat.le_of_ble_eq_true rfl), (Nat.le_of_ble_eq_true rfl)⟩) (mu_pre hK hP hD rfl 0 rfl) rfl rfl hl.1 rfl (lv_room (Nat.le_of_ble_eq_true rfl)) dX2_line_92 ⟨(Nat.le_of_ble_eq_true rfl), (Nat.le_of_ble_eq_true rfl)⟩) hD hS hA (fun u_92 H locs w_92 hP hD hS => ?_)
          subst w_92
          have hP : va_P D vwCl (wX cI cP x aC aT aR aP (nI L) (nI C) (nI 0) (nI bg2) (zb true) (nI st1) mk (rp + 1) sp1 sc1 (skN ch sk (chOf c0)) fa ch tr rc pg2 pl2) H := hP
          have hD : va_D A (wX cI cP x aC aT aR aP (nI L) (nI C) (nI 0) (nI bg2) (zb true) (nI st1) mk (rp + 1) sp1 sc1 (skN ch sk (chOf c0)) fa ch tr rc pg2 pl2) := hD
          refine lv_aload_n hx hb dX2_line_95 rfl (lv_at hl 2 rfl) ?_
          refine va_get (D := D) (ci := 3) (v := .int (nI bg2)) (C := RX2) (T := TX2) (N := 16) hx hb hts hinX2 hown hK.1 hP 0 rfl rfl 7 (by decide) (hts (.fieldLink RX2 86 "PrinterRows" "begun" "I") (by decide +kernel)) (fun _ h9 => h9) rfl dX2_line_96 ?_
          refine W.widen (k := 136) (n := 4689) (by omega) (by omega) ?_
          exact W.iret (v := (nI bg2)) hx hb hr (fun t ht hW => ⟨⟨_, (pl2, pg2, bg2, st1, true, 0, rp + 1, sp1, sc1, skN ch sk (chOf c0)), rfl, Or.inl ⟨by rw [← hT]; exact hb240, by rw [← hT], hT, rfl, rfl, hsp1, hsc1, rfl, hPIf, hCS2⟩, by rw [ht]; exact hP, hD⟩, hS.F ht⟩) hS.2.2 dX2_line_99
      ·
        have hfit : ¬ (lnT L bg st on (isSk c0) w).1 ≤ 40 := fun h9 => by rw [lnT, hsk, if_neg (by decide)] at h9; exact absurd ((fit_after hL0 hst hbg hon).mpr h9) (of_decide_eq_false (zb0.mp c_68))
        refine lv_bipush (v := (-6)) hx hb dX2_line_71 (by decide +kernel) ?_
        refine W.widen (k := 136) (n := 4689) (by omega) (by omega) ?_
        exact W.iret (v := (-6)) hx hb hr (fun t ht hW => ⟨⟨_, (pl, pg, bg, st, on, rl, rp, sp, sc, sk), rfl, Or.inr ⟨hfit, rfl, rfl, hPI, hCS⟩, by rw [ht]; exact hP, hD⟩, hS.F ht⟩) hS.2.2 dX2_line_73
    ·
      have hsk : isSk c0 = true := zb1.mp c_29
      refine lv_aload_n hx hb dX2_line_32 rfl (lv_at hl 2 rfl) ?_
      refine lv_iconst (v := 0) hx hb dX2_line_33 (by decide +kernel) ?_
      refine lv_topi (fun x_33 ex_33 => ?_)
      obtain rfl : x_33 = nI 0 := ex_33
      refine vp_callSi (W.runV (As := [.int (nI 0)]) (rest := []) ⟨hx, hb, hml, hown, hts⟩ (c_X2_endsOnAPage l hon hbg hL0 hL hst 0 (by omega)) (cwV 1 hts gX2_line_X2_endsOnAPage rfl rfl rfl (by decide +kernel) ⟨(Nat.le_of_ble_eq_true rfl), (Nat.le_of_ble_eq_true rfl)⟩) (ro_pre hK hP rfl 0 rfl) rfl rfl hl.1 rfl (lv_room (Nat.le_of_ble_eq_true rfl)) dX2_line_34 ⟨(Nat.le_of_ble_eq_true rfl), (Nat.le_of_ble_eq_true rfl)⟩) (fun r_34 w_34 => ?_)
      subst w_34
      refine lv_topi (fun x_34 ex_34 => ?_)
      obtain rfl : x_34 = (zb (decide (sP bg on < 40))) := ex_34.trans (by rw [Nat.add_zero, Nat.div_eq_of_lt hst, Nat.add_zero])
      refine lv_if_eq (tgt := 48) hx hb dX2_line_37 (by decide) (fun c_37 => ?_) (fun c_37 => ?_)
      ·
        have hfit : ¬ (lnT L bg st on (isSk c0) w).1 ≤ 40 := fun h9 => by rw [lnT, hsk, if_pos rfl] at h9; exact absurd ((fit_second hL0 hst hbg hon).mpr h9).1 (of_decide_eq_false (zb0.mp c_37))
        refine lv_bipush (v := (-6)) hx hb dX2_line_48 (by decide +kernel) ?_
        refine W.widen (k := 136) (n := 4689) (by omega) (by omega) ?_
        exact W.iret (v := (-6)) hx hb hr (fun t ht hW => ⟨⟨_, (pl, pg, bg, st, on, rl, rp, sp, sc, sk), rfl, Or.inr ⟨hfit, rfl, rfl, hPI, hCS⟩, by rw [ht]; exact hP, hD⟩, hS.F ht⟩) hS.2.2 dX2_line_50
      ·
        refine lv_aload_n hx hb dX2_line_40 rfl (lv_at hl 2 rfl) ?_
        refine lv_iload_n hx hb dX2_line_41 rfl (lv_at hl 0 rfl) ?_
        refine vp_callSi (W.runV (As := [.int (nI w)]) (rest := []) ⟨hx, hb, hml, hown, hts⟩ (c_X2_endsAtMostBehindThem l hon hbg hL0 hL hst w (by omega)) (cwV 1 hts gX2_line_X2_endsAtMostBehindThem rfl rfl rfl (by decide +kernel) ⟨(Nat.le_of_ble_eq_true rfl), (Nat.le_of_ble_eq_true rfl)⟩) (ro_pre hK hP rfl 0 rfl) rfl rfl hl.1 rfl (lv_room (Nat.le_of_ble_eq_true rfl)) dX2_line_42 ⟨(Nat.le_of_ble_eq_true rfl), (Nat.le_of_ble_eq_true rfl)⟩) (fun r_42 w_42 => ?_)
        subst w_42
        refine lv_if_ne (tgt := 51) hx hb dX2_line_45 (by decide) (fun c_45 => ?_) (fun c_45 => ?_)
        ·
          have hpp := of_decide_eq_true (zb1.mp c_37)
          have hfit : (mvn L w (bgB bg on, st, true)).1 ≤ 40 := (fit_second hL0 hst hbg hon).mp ⟨hpp, of_decide_eq_true (zb1.mp c_45)⟩
          have h40 : on = false → bg < 40 := fun h9 => by rw [h9] at hpp; exact hpp
          refine lv_aload_n hx hb dX2_line_51 rfl (lv_at hl 2 rfl) ?_
          refine callQv (va_runV (As := []) (rest := []) ⟨hx, hb, hml, hown, hts⟩ (c_X2_printRecord l hL hC hst h40 hbg hrl hrc hPI hCS hMG) (cwV 0 hts gX2_line_X2_printRecord rfl rfl rfl (by decide +kernel) ⟨(Nat.le_of_ble_eq_true rfl), (Nat.le_of_ble_eq_true rfl)⟩) (mu_pre hK hP hD rfl 0 rfl) rfl rfl hl.1 rfl (lv_room (Nat.le_of_ble_eq_true rfl)) dX2_line_52 ⟨(Nat.le_of_ble_eq_true rfl), (Nat.le_of_ble_eq_true rfl)⟩) hD hS hA (fun u_52 H locs w_52 hP hD hS => ?_)
          obtain ⟨pl1, pg1, bg1, sp1, sc1⟩ := u_52
          obtain ⟨hb1, hpg1, ⟨own1, hPI1⟩, hCS1, hsp1, hsc1⟩ := w_52
          dsimp only at hb1 hpg1 hPI1 hCS1 hsp1 hsc1
          have hP : va_P D vwCl (wX cI cP x aC aT aR aP (nI L) (nI C) (nI 0) (nI bg1) (zb true) (nI st) mk (rp + 1) sp1 sc1 sk fa ch tr rc pg1 pl1) H := hP
          have hD : va_D A (wX cI cP x aC aT aR aP (nI L) (nI C) (nI 0) (nI bg1) (zb true) (nI st) mk (rp + 1) sp1 sc1 sk fa ch tr rc pg1 pl1) := hD
          have hb140 : bg1 ≤ 40 := by rw [hb1]; exact bgB_le h40 hbg
          have hb10 : 0 < bg1 := (hCS1 rfl).1
          have hfit2 : (mvn L w (bg1, st, true)).1 ≤ 40 := by rw [hb1]; exact hfit
          refine lv_aload_n hx hb dX2_line_55 rfl (lv_at hl 2 rfl) ?_
          refine lv_iload_n hx hb dX2_line_56 rfl (lv_at hl 0 rfl) ?_
          refine callQv (va_runV (As := [.int (nI w)]) (rest := []) ⟨hx, hb, hml, hown, hts⟩ (c_X2_moveBy l hL0 hL hst hb140 hPI1 hCS1 w hwl hfit2) (cwV 1 hts gX2_line_X2_moveBy rfl rfl rfl (by decide +kernel) ⟨(Nat.le_of_ble_eq_true rfl), (Nat.le_of_ble_eq_true rfl)⟩) (mu_pre hK hP hD rfl 0 rfl) rfl rfl hl.1 rfl (lv_room (Nat.le_of_ble_eq_true rfl)) dX2_line_57 ⟨(Nat.le_of_ble_eq_true rfl), (Nat.le_of_ble_eq_true rfl)⟩) hD hS hA (fun u_57 H locs w_57 hP hD hS => ?_)
          obtain ⟨pl2, pg2, bg2, st2, on2⟩ := u_57
          obtain ⟨hmv2, hpg2, hPI2, hCS2⟩ := w_57
          dsimp only at hmv2 hpg2 hPI2 hCS2
          have hP : va_P D vwCl (wX cI cP x aC aT aR aP (nI L) (nI C) (nI 0) (nI bg2) (zb on2) (nI st2) mk (rp + 1) sp1 sc1 sk fa ch tr rc pg2 pl2) H := hP
          have hD : va_D A (wX cI cP x aC aT aR aP (nI L) (nI C) (nI 0) (nI bg2) (zb on2) (nI st2) mk (rp + 1) sp1 sc1 sk fa ch tr rc pg2 pl2) := hD
          have hT : (bg2, st2, on2) = (lnT L bg st on (isSk c0) w) := by rw [lnT, hsk, if_pos rfl, hmv2, hb1]
          have hPIf : ∃ own' : Nat → Nat × Nat, PI cI cR pl2 own' L C bg2 pg2 (MP (MB bg M) (lnQ L bg st on (isSk c0) w) (lnI L bg st on (isSk c0) w) tr rc rl) := by
            rw [MP_MB (by rw [hb1]; unfold bgB; split <;> omega) hb10] at hPI2
            rw [lnQ, lnI, hsk, if_pos rfl, if_pos rfl, ← hb1]
            exact hPI2
          have hb240 : bg2 ≤ 40 := by rw [← hmv2] at hfit2; exact hfit2
          refine lv_goto (tgt := 83) hx hb dX2_line_60 (by decide) ?_
          refine lv_iload_n hx hb dX2_line_83 rfl (lv_at hl 1 rfl) ?_
          refine vp_callSi (W.runS (As := [.int (chOf c0)]) (rest := []) ⟨hx, hb, hml, hown, hts⟩ (c_X2_isChannel l ((chOf c0))) (va_cwS 1 hts gX2_line_X2_isChannel rfl rfl rfl (by decide +kernel) ⟨(Nat.le_of_ble_eq_true rfl), (Nat.le_of_ble_eq_true rfl)⟩) pu_pre rfl rfl hl.1 rfl (lv_room (Nat.le_of_ble_eq_true rfl)) dX2_line_84 ⟨(Nat.le_of_ble_eq_true rfl), (Nat.le_of_ble_eq_true rfl)⟩) (fun r_84 w_84 => ?_)
          subst w_84
          refine lv_if_eq (tgt := 95) hx hb dX2_line_87 (by decide) (fun c_87 => ?_) (fun c_87 => ?_)
          ·
            refine lv_aload_n hx hb dX2_line_95 rfl (lv_at hl 2 rfl) ?_
            refine va_get (D := D) (ci := 3) (v := .int (nI bg2)) (C := RX2) (T := TX2) (N := 16) hx hb hts hinX2 hown hK.1 hP 0 rfl rfl 7 (by decide) (hts (.fieldLink RX2 86 "PrinterRows" "begun" "I") (by decide +kernel)) (fun _ h9 => h9) rfl dX2_line_96 ?_
            refine W.widen (k := 136) (n := 4689) (by omega) (by omega) ?_
            exact W.iret (v := (nI bg2)) hx hb hr (fun t ht hW => ⟨⟨_, (pl2, pg2, bg2, st2, on2, 0, rp + 1, sp1, sc1, sk), rfl, Or.inl ⟨by rw [← hT]; exact hb240, by rw [← hT], hT, rfl, rfl, hsp1, hsc1, by rw [skN, if_pos c_87], hPIf, hCS2⟩, by rw [ht]; exact hP, hD⟩, hS.F ht⟩) hS.2.2 dX2_line_99
          ·
            refine lv_aload_n hx hb dX2_line_90 rfl (lv_at hl 2 rfl) ?_
            refine lv_iload_n hx hb dX2_line_91 rfl (lv_at hl 1 rfl) ?_
            refine callQv (va_runV (As := [.int (chOf c0)]) (rest := []) ⟨hx, hb, hml, hown, hts⟩ (c_X2_countSkip l (chOf c0)) (cwV 1 hts gX2_line_X2_countSkip rfl rfl rfl (by decide +kernel) ⟨(Nat.le_of_ble_eq_true rfl), (Nat.le_of_ble_eq_true rfl)⟩) (mu_pre hK hP hD rfl 0 rfl) rfl rfl hl.1 rfl (lv_room (Nat.le_of_ble_eq_true rfl)) dX2_line_92 ⟨(Nat.le_of_ble_eq_true rfl), (Nat.le_of_ble_eq_true rfl)⟩) hD hS hA (fun u_92 H locs w_92 hP hD hS => ?_)
            subst w_92
            have hP : va_P D vwCl (wX cI cP x aC aT aR aP (nI L) (nI C) (nI 0) (nI bg2) (zb on2) (nI st2) mk (rp + 1) sp1 sc1 (skN ch sk (chOf c0)) fa ch tr rc pg2 pl2) H := hP
            have hD : va_D A (wX cI cP x aC aT aR aP (nI L) (nI C) (nI 0) (nI bg2) (zb on2) (nI st2) mk (rp + 1) sp1 sc1 (skN ch sk (chOf c0)) fa ch tr rc pg2 pl2) := hD
            refine lv_aload_n hx hb dX2_line_95 rfl (lv_at hl 2 rfl) ?_
            refine va_get (D := D) (ci := 3) (v := .int (nI bg2)) (C := RX2) (T := TX2) (N := 16) hx hb hts hinX2 hown hK.1 hP 0 rfl rfl 7 (by decide) (hts (.fieldLink RX2 86 "PrinterRows" "begun" "I") (by decide +kernel)) (fun _ h9 => h9) rfl dX2_line_96 ?_
            refine W.widen (k := 136) (n := 4689) (by omega) (by omega) ?_
            exact W.iret (v := (nI bg2)) hx hb hr (fun t ht hW => ⟨⟨_, (pl2, pg2, bg2, st2, on2, 0, rp + 1, sp1, sc1, skN ch sk (chOf c0)), rfl, Or.inl ⟨by rw [← hT]; exact hb240, by rw [← hT], hT, rfl, rfl, hsp1, hsc1, rfl, hPIf, hCS2⟩, by rw [ht]; exact hP, hD⟩, hS.F ht⟩) hS.2.2 dX2_line_99
        ·
          have hfit : ¬ (lnT L bg st on (isSk c0) w).1 ≤ 40 := fun h9 => by rw [lnT, hsk, if_pos rfl] at h9; exact absurd ((fit_second hL0 hst hbg hon).mpr h9).2 (of_decide_eq_false (zb0.mp c_45))
          refine lv_bipush (v := (-6)) hx hb dX2_line_48 (by decide +kernel) ?_
          refine W.widen (k := 136) (n := 4689) (by omega) (by omega) ?_
          exact W.iret (v := (-6)) hx hb hr (fun t ht hW => ⟨⟨_, (pl, pg, bg, st, on, rl, rp, sp, sc, sk), rfl, Or.inr ⟨hfit, rfl, rfl, hPI, hCS⟩, by rw [ht]; exact hP, hD⟩, hS.F ht⟩) hS.2.2 dX2_line_50
  ·
    refine lv_aload_n hx hb dX2_line_12 rfl (lv_at hl 1 rfl) ?_
    refine lv_iload_n hx hb dX2_line_13 rfl (lv_at hl 0 rfl) ?_
    refine vp_callSi (W.runV (As := [.int (chOf c0)]) (rest := []) ⟨hx, hb, hml, hown, hts⟩ (c_X2_wayToI l hL0 hL hst hch (chOf c0) (zb1.mp c_9)) (cwV 1 hts gX2_line_X2_wayTo rfl rfl rfl (by decide +kernel) ⟨(Nat.le_of_ble_eq_true rfl), (Nat.le_of_ble_eq_true rfl)⟩) (ro_pre hK hP rfl 0 rfl) rfl rfl hl.1 rfl (lv_room (Nat.le_of_ble_eq_true rfl)) dX2_line_14 ⟨(Nat.le_of_ble_eq_true rfl), (Nat.le_of_ble_eq_true rfl)⟩) (fun r_14 w_14 => ?_)
    subst w_14
    refine lv_topi (fun x_14 ex_14 => ?_)
    obtain rfl : x_14 = nI w := ex_14.trans (by rw [hw, lwy, if_neg c_9])
    refine lv_goto (tgt := 24) hx hb dX2_line_17 (by decide) ?_
    refine lv_istore_n (lv' := [(3, .int (nI w)), (2, .int (chOf c0)), (0, .ref x), (1, .int c0)]) hx hb dX2_line_24 rfl hl (by decide) rfl (fun ls hl => ?_)
    refine lv_iload_n hx hb dX2_line_25 rfl (lv_at hl 3 rfl) ?_
    refine vp_callSi (W.runS (As := [.int c0]) (rest := []) ⟨hx, hb, hml, hown, hts⟩ (c_X2_isSecondKind l (c0)) (va_cwS 1 hts gX2_line_X2_isSecondKind rfl rfl rfl (by decide +kernel) ⟨(Nat.le_of_ble_eq_true rfl), (Nat.le_of_ble_eq_true rfl)⟩) pu_pre rfl rfl hl.1 rfl (lv_room (Nat.le_of_ble_eq_true rfl)) dX2_line_26 ⟨(Nat.le_of_ble_eq_true rfl), (Nat.le_of_ble_eq_true rfl)⟩) (fun r_26 w_26 => ?_)
    subst w_26
    refine lv_if_eq (tgt := 63) hx hb dX2_line_29 (by decide) (fun c_29 => ?_) (fun c_29 => ?_)
    ·
      have hsk : isSk c0 = false := zb0.mp c_29
      refine lv_aload_n hx hb dX2_line_63 rfl (lv_at hl 2 rfl) ?_
      refine lv_iload_n hx hb dX2_line_64 rfl (lv_at hl 0 rfl) ?_
      refine vp_callSi (W.runV (As := [.int (nI w)]) (rest := []) ⟨hx, hb, hml, hown, hts⟩ (c_X2_endsOnAPage l hon hbg hL0 hL hst w (by omega)) (cwV 1 hts gX2_line_X2_endsOnAPage rfl rfl rfl (by decide +kernel) ⟨(Nat.le_of_ble_eq_true rfl), (Nat.le_of_ble_eq_true rfl)⟩) (ro_pre hK hP rfl 0 rfl) rfl rfl hl.1 rfl (lv_room (Nat.le_of_ble_eq_true rfl)) dX2_line_65 ⟨(Nat.le_of_ble_eq_true rfl), (Nat.le_of_ble_eq_true rfl)⟩) (fun r_65 w_65 => ?_)
      subst w_65
      refine lv_if_ne (tgt := 74) hx hb dX2_line_68 (by decide) (fun c_68 => ?_) (fun c_68 => ?_)
      ·
        have hfit : bgB (mvn L w (bg, st, on)).1 (mvn L w (bg, st, on)).2.2 ≤ 40 := (fit_after hL0 hst hbg hon).mp (of_decide_eq_true (zb1.mp c_68))
        have hfm : (mvn L w (bg, st, on)).1 ≤ 40 := by revert hfit; unfold bgB; split <;> omega
        refine lv_aload_n hx hb dX2_line_74 rfl (lv_at hl 2 rfl) ?_
        refine lv_iload_n hx hb dX2_line_75 rfl (lv_at hl 0 rfl) ?_
        refine callQv (va_runV (As := [.int (nI w)]) (rest := []) ⟨hx, hb, hml, hown, hts⟩ (c_X2_moveBy l hL0 hL hst hbg hPI hCS w hwl hfm) (cwV 1 hts gX2_line_X2_moveBy rfl rfl rfl (by decide +kernel) ⟨(Nat.le_of_ble_eq_true rfl), (Nat.le_of_ble_eq_true rfl)⟩) (mu_pre hK hP hD rfl 0 rfl) rfl rfl hl.1 rfl (lv_room (Nat.le_of_ble_eq_true rfl)) dX2_line_76 ⟨(Nat.le_of_ble_eq_true rfl), (Nat.le_of_ble_eq_true rfl)⟩) hD hS hA (fun u_76 H locs w_76 hP hD hS => ?_)
        obtain ⟨pl1, pg1, bg1, st1, on1⟩ := u_76
        obtain ⟨hmv, hpg1, ⟨own1, hPI1⟩, hCS1⟩ := w_76
        dsimp only at hmv hpg1 hPI1 hCS1
        have hP : va_P D vwCl (wX cI cP x aC aT aR aP (nI L) (nI C) (nI rl) (nI bg1) (zb on1) (nI st1) mk rp sp sc sk fa ch tr rc pg1 pl1) H := hP
        have hD : va_D A (wX cI cP x aC aT aR aP (nI L) (nI C) (nI rl) (nI bg1) (zb on1) (nI st1) mk rp sp sc sk fa ch tr rc pg1 pl1) := hD
        have hbb : bg ≤ bg1 := by have h9 := mvn_le (L := L) (Nat.zero_le w) (bg, st, on); rw [← hmv] at h9; exact h9
        have hf1 : bgB bg1 on1 ≤ 40 := by rw [← hmv] at hfit; exact hfit
        have hs1 : st1 < L := by have h9 := mvn_st hL0 w (bg, st, on) hst; rw [← hmv] at h9; exact h9
        have hb140 : bg1 ≤ 40 := by revert hf1; unfold bgB; split <;> omega
        have h401 : on1 = false → bg1 < 40 := fun h9 => by rw [h9] at hf1; exact hf1
        refine lv_aload_n hx hb dX2_line_79 rfl (lv_at hl 2 rfl) ?_
        refine callQv (va_runV (As := []) (rest := []) ⟨hx, hb, hml, hown, hts⟩ (c_X2_printRecord l hL hC hs1 h401 hb140 hrl hrc hPI1 hCS1 hMG.blank) (cwV 0 hts gX2_line_X2_printRecord rfl rfl rfl (by decide +kernel) ⟨(Nat.le_of_ble_eq_true rfl), (Nat.le_of_ble_eq_true rfl)⟩) (mu_pre hK hP hD rfl 0 rfl) rfl rfl hl.1 rfl (lv_room (Nat.le_of_ble_eq_true rfl)) dX2_line_80 ⟨(Nat.le_of_ble_eq_true rfl), (Nat.le_of_ble_eq_true rfl)⟩) hD hS hA (fun u_80 H locs w_80 hP hD hS => ?_)
        obtain ⟨pl2, pg2, bg2, sp1, sc1⟩ := u_80
        obtain ⟨hb2, hpg2, hPI2, hCS2, hsp1, hsc1⟩ := w_80
        dsimp only at hb2 hpg2 hPI2 hCS2 hsp1 hsc1
        have hP : va_P D vwCl (wX cI cP x aC aT aR aP (nI L) (nI C) (nI 0) (nI bg2) (zb true) (nI st1) mk (rp + 1) sp1 sc1 sk fa ch tr rc pg2 pl2) H := hP
        have hD : va_D A (wX cI cP x aC aT aR aP (nI L) (nI C) (nI 0) (nI bg2) (zb true) (nI st1) mk (rp + 1) sp1 sc1 sk fa ch tr rc pg2 pl2) := hD
        have hT : (bg2, st1, true) = (lnT L bg st on (isSk c0) w) := by rw [lnT, hsk, if_neg (by decide), ← hmv, hb2]
        have hPIf : ∃ own' : Nat → Nat × Nat, PI cI cR pl2 own' L C bg2 pg2 (MP (MB bg M) (lnQ L bg st on (isSk c0) w) (lnI L bg st on (isSk c0) w) tr rc rl) := by
          rw [MB_MB hbb] at hPI2
          rw [lnQ, lnI, hsk, if_neg (by decide), if_neg (by decide), ← hmv, ← hb2]
          exact hPI2
        have hb240 : bg2 ≤ 40 := by rw [hb2]; exact hf1
        refine lv_iload_n hx hb dX2_line_83 rfl (lv_at hl 1 rfl) ?_
        refine vp_callSi (W.runS (As := [.int (chOf c0)]) (rest := []) ⟨hx, hb, hml, hown, hts⟩ (c_X2_isChannel l ((chOf c0))) (va_cwS 1 hts gX2_line_X2_isChannel rfl rfl rfl (by decide +kernel) ⟨(Nat.le_of_ble_eq_true rfl), (Nat.le_of_ble_eq_true rfl)⟩) pu_pre rfl rfl hl.1 rfl (lv_room (Nat.le_of_ble_eq_true rfl)) dX2_line_84 ⟨(Nat.le_of_ble_eq_true rfl), (Nat.le_of_ble_eq_true rfl)⟩) (fun r_84 w_84 => ?_)
        subst w_84
        refine lv_if_eq (tgt := 95) hx hb dX2_line_87 (by decide) (fun c_87 => ?_) (fun c_87 => ?_)
        ·
          refine lv_aload_n hx hb dX2_line_95 rfl (lv_at hl 2 rfl) ?_
          refine va_get (D := D) (ci := 3) (v := .int (nI bg2)) (C := RX2) (T := TX2) (N := 16) hx hb hts hinX2 hown hK.1 hP 0 rfl rfl 7 (by decide) (hts (.fieldLink RX2 86 "PrinterRows" "begun" "I") (by decide +kernel)) (fun _ h9 => h9) rfl dX2_line_96 ?_
          refine W.widen (k := 136) (n := 4689) (by omega) (by omega) ?_
          exact W.iret (v := (nI bg2)) hx hb hr (fun t ht hW => ⟨⟨_, (pl2, pg2, bg2, st1, true, 0, rp + 1, sp1, sc1, sk), rfl, Or.inl ⟨by rw [← hT]; exact hb240, by rw [← hT], hT, rfl, rfl, hsp1, hsc1, by rw [skN, if_pos c_87], hPIf, hCS2⟩, by rw [ht]; exact hP, hD⟩, hS.F ht⟩) hS.2.2 dX2_line_99
        ·
          refine lv_aload_n hx hb dX2_line_90 rfl (lv_at hl 2 rfl) ?_
          refine lv_iload_n hx hb dX2_line_91 rfl (lv_at hl 1 rfl) ?_
          refine callQv (va_runV (As := [.int (chOf c0)]) (rest := []) ⟨hx, hb, hml, hown, hts⟩ (c_X2_countSkip l (chOf c0)) (cwV 1 hts gX2_line_X2_countSkip rfl rfl rfl (by decide +kernel) ⟨(Nat.le_of_ble_eq_true rfl), (Nat.le_of_ble_eq_true rfl)⟩) (mu_pre hK hP hD rfl 0 rfl) rfl rfl hl.1 rfl (lv_room (Nat.le_of_ble_eq_true rfl)) dX2_line_92 ⟨(Nat.le_of_ble_eq_true rfl), (Nat.le_of_ble_eq_true rfl)⟩) hD hS hA (fun u_92 H locs w_92 hP hD hS => ?_)
          subst w_92
          have hP : va_P D vwCl (wX cI cP x aC aT aR aP (nI L) (nI C) (nI 0) (nI bg2) (zb true) (nI st1) mk (rp + 1) sp1 sc1 (skN ch sk (chOf c0)) fa ch tr rc pg2 pl2) H := hP
          have hD : va_D A (wX cI cP x aC aT aR aP (nI L) (nI C) (nI 0) (nI bg2) (zb true) (nI st1) mk (rp + 1) sp1 sc1 (skN ch sk (chOf c0)) fa ch tr rc pg2 pl2) := hD
          refine lv_aload_n hx hb dX2_line_95 rfl (lv_at hl 2 rfl) ?_
          refine va_get (D := D) (ci := 3) (v := .int (nI bg2)) (C := RX2) (T := TX2) (N := 16) hx hb hts hinX2 hown hK.1 hP 0 rfl rfl 7 (by decide) (hts (.fieldLink RX2 86 "PrinterRows" "begun" "I") (by decide +kernel)) (fun _ h9 => h9) rfl dX2_line_96 ?_
          refine W.widen (k := 136) (n := 4689) (by omega) (by omega) ?_
          exact W.iret (v := (nI bg2)) hx hb hr (fun t ht hW => ⟨⟨_, (pl2, pg2, bg2, st1, true, 0, rp + 1, sp1, sc1, skN ch sk (chOf c0)), rfl, Or.inl ⟨by rw [← hT]; exact hb240, by rw [← hT], hT, rfl, rfl, hsp1, hsc1, rfl, hPIf, hCS2⟩, by rw [ht]; exact hP, hD⟩, hS.F ht⟩) hS.2.2 dX2_line_99
      ·
        have hfit : ¬ (lnT L bg st on (isSk c0) w).1 ≤ 40 := fun h9 => by rw [lnT, hsk, if_neg (by decide)] at h9; exact absurd ((fit_after hL0 hst hbg hon).mpr h9) (of_decide_eq_false (zb0.mp c_68))
        refine lv_bipush (v := (-6)) hx hb dX2_line_71 (by decide +kernel) ?_
        refine W.widen (k := 136) (n := 4689) (by omega) (by omega) ?_
        exact W.iret (v := (-6)) hx hb hr (fun t ht hW => ⟨⟨_, (pl, pg, bg, st, on, rl, rp, sp, sc, sk), rfl, Or.inr ⟨hfit, rfl, rfl, hPI, hCS⟩, by rw [ht]; exact hP, hD⟩, hS.F ht⟩) hS.2.2 dX2_line_73
    ·
      have hsk : isSk c0 = true := zb1.mp c_29
      refine lv_aload_n hx hb dX2_line_32 rfl (lv_at hl 2 rfl) ?_
      refine lv_iconst (v := 0) hx hb dX2_line_33 (by decide +kernel) ?_
      refine lv_topi (fun x_33 ex_33 => ?_)
      obtain rfl : x_33 = nI 0 := ex_33
      refine vp_callSi (W.runV (As := [.int (nI 0)]) (rest := []) ⟨hx, hb, hml, hown, hts⟩ (c_X2_endsOnAPage l hon hbg hL0 hL hst 0 (by omega)) (cwV 1 hts gX2_line_X2_endsOnAPage rfl rfl rfl (by decide +kernel) ⟨(Nat.le_of_ble_eq_true rfl), (Nat.le_of_ble_eq_true rfl)⟩) (ro_pre hK hP rfl 0 rfl) rfl rfl hl.1 rfl (lv_room (Nat.le_of_ble_eq_true rfl)) dX2_line_34 ⟨(Nat.le_of_ble_eq_true rfl), (Nat.le_of_ble_eq_true rfl)⟩) (fun r_34 w_34 => ?_)
      subst w_34
      refine lv_topi (fun x_34 ex_34 => ?_)
      obtain rfl : x_34 = (zb (decide (sP bg on < 40))) := ex_34.trans (by rw [Nat.add_zero, Nat.div_eq_of_lt hst, Nat.add_zero])
      refine lv_if_eq (tgt := 48) hx hb dX2_line_37 (by decide) (fun c_37 => ?_) (fun c_37 => ?_)
      ·
        have hfit : ¬ (lnT L bg st on (isSk c0) w).1 ≤ 40 := fun h9 => by rw [lnT, hsk, if_pos rfl] at h9; exact absurd ((fit_second hL0 hst hbg hon).mpr h9).1 (of_decide_eq_false (zb0.mp c_37))
        refine lv_bipush (v := (-6)) hx hb dX2_line_48 (by decide +kernel) ?_
        refine W.widen (k := 136) (n := 4689) (by omega) (by omega) ?_
        exact W.iret (v := (-6)) hx hb hr (fun t ht hW => ⟨⟨_, (pl, pg, bg, st, on, rl, rp, sp, sc, sk), rfl, Or.inr ⟨hfit, rfl, rfl, hPI, hCS⟩, by rw [ht]; exact hP, hD⟩, hS.F ht⟩) hS.2.2 dX2_line_50
      ·
        refine lv_aload_n hx hb dX2_line_40 rfl (lv_at hl 2 rfl) ?_
        refine lv_iload_n hx hb dX2_line_41 rfl (lv_at hl 0 rfl) ?_
        refine vp_callSi (W.runV (As := [.int (nI w)]) (rest := []) ⟨hx, hb, hml, hown, hts⟩ (c_X2_endsAtMostBehindThem l hon hbg hL0 hL hst w (by omega)) (cwV 1 hts gX2_line_X2_endsAtMostBehindThem rfl rfl rfl (by decide +kernel) ⟨(Nat.le_of_ble_eq_true rfl), (Nat.le_of_ble_eq_true rfl)⟩) (ro_pre hK hP rfl 0 rfl) rfl rfl hl.1 rfl (lv_room (Nat.le_of_ble_eq_true rfl)) dX2_line_42 ⟨(Nat.le_of_ble_eq_true rfl), (Nat.le_of_ble_eq_true rfl)⟩) (fun r_42 w_42 => ?_)
        subst w_42
        refine lv_if_ne (tgt := 51) hx hb dX2_line_45 (by decide) (fun c_45 => ?_) (fun c_45 => ?_)
        ·
          have hpp := of_decide_eq_true (zb1.mp c_37)
          have hfit : (mvn L w (bgB bg on, st, true)).1 ≤ 40 := (fit_second hL0 hst hbg hon).mp ⟨hpp, of_decide_eq_true (zb1.mp c_45)⟩
          have h40 : on = false → bg < 40 := fun h9 => by rw [h9] at hpp; exact hpp
          refine lv_aload_n hx hb dX2_line_51 rfl (lv_at hl 2 rfl) ?_
          refine callQv (va_runV (As := []) (rest := []) ⟨hx, hb, hml, hown, hts⟩ (c_X2_printRecord l hL hC hst h40 hbg hrl hrc hPI hCS hMG) (cwV 0 hts gX2_line_X2_printRecord rfl rfl rfl (by decide +kernel) ⟨(Nat.le_of_ble_eq_true rfl), (Nat.le_of_ble_eq_true rfl)⟩) (mu_pre hK hP hD rfl 0 rfl) rfl rfl hl.1 rfl (lv_room (Nat.le_of_ble_eq_true rfl)) dX2_line_52 ⟨(Nat.le_of_ble_eq_true rfl), (Nat.le_of_ble_eq_true rfl)⟩) hD hS hA (fun u_52 H locs w_52 hP hD hS => ?_)
          obtain ⟨pl1, pg1, bg1, sp1, sc1⟩ := u_52
          obtain ⟨hb1, hpg1, ⟨own1, hPI1⟩, hCS1, hsp1, hsc1⟩ := w_52
          dsimp only at hb1 hpg1 hPI1 hCS1 hsp1 hsc1
          have hP : va_P D vwCl (wX cI cP x aC aT aR aP (nI L) (nI C) (nI 0) (nI bg1) (zb true) (nI st) mk (rp + 1) sp1 sc1 sk fa ch tr rc pg1 pl1) H := hP
          have hD : va_D A (wX cI cP x aC aT aR aP (nI L) (nI C) (nI 0) (nI bg1) (zb true) (nI st) mk (rp + 1) sp1 sc1 sk fa ch tr rc pg1 pl1) := hD
          have hb140 : bg1 ≤ 40 := by rw [hb1]; exact bgB_le h40 hbg
          have hb10 : 0 < bg1 := (hCS1 rfl).1
          have hfit2 : (mvn L w (bg1, st, true)).1 ≤ 40 := by rw [hb1]; exact hfit
          refine lv_aload_n hx hb dX2_line_55 rfl (lv_at hl 2 rfl) ?_
          refine lv_iload_n hx hb dX2_line_56 rfl (lv_at hl 0 rfl) ?_
          refine callQv (va_runV (As := [.int (nI w)]) (rest := []) ⟨hx, hb, hml, hown, hts⟩ (c_X2_moveBy l hL0 hL hst hb140 hPI1 hCS1 w hwl hfit2) (cwV 1 hts gX2_line_X2_moveBy rfl rfl rfl (by decide +kernel) ⟨(Nat.le_of_ble_eq_true rfl), (Nat.le_of_ble_eq_true rfl)⟩) (mu_pre hK hP hD rfl 0 rfl) rfl rfl hl.1 rfl (lv_room (Nat.le_of_ble_eq_true rfl)) dX2_line_57 ⟨(Nat.le_of_ble_eq_true rfl), (Nat.le_of_ble_eq_true rfl)⟩) hD hS hA (fun u_57 H locs w_57 hP hD hS => ?_)
          obtain ⟨pl2, pg2, bg2, st2, on2⟩ := u_57
          obtain ⟨hmv2, hpg2, hPI2, hCS2⟩ := w_57
          dsimp only at hmv2 hpg2 hPI2 hCS2
          have hP : va_P D vwCl (wX cI cP x aC aT aR aP (nI L) (nI C) (nI 0) (nI bg2) (zb on2) (nI st2) mk (rp + 1) sp1 sc1 sk fa ch tr rc pg2 pl2) H := hP
          have hD : va_D A (wX cI cP x aC aT aR aP (nI L) (nI C) (nI 0) (nI bg2) (zb on2) (nI st2) mk (rp + 1) sp1 sc1 sk fa ch tr rc pg2 pl2) := hD
          have hT : (bg2, st2, on2) = (lnT L bg st on (isSk c0) w) := by rw [lnT, hsk, if_pos rfl, hmv2, hb1]
          have hPIf : ∃ own' : Nat → Nat × Nat, PI cI cR pl2 own' L C bg2 pg2 (MP (MB bg M) (lnQ L bg st on (isSk c0) w) (lnI L bg st on (isSk c0) w) tr rc rl) := by
            rw [MP_MB (by rw [hb1]; unfold bgB; split <;> omega) hb10] at hPI2
            rw [lnQ, lnI, hsk, if_pos rfl, if_pos rfl, ← hb1]
            exact hPI2
          have hb240 : bg2 ≤ 40 := by rw [← hmv2] at hfit2; exact hfit2
          refine lv_goto (tgt := 83) hx hb dX2_line_60 (by decide) ?_
          refine lv_iload_n hx hb dX2_line_83 rfl (lv_at hl 1 rfl) ?_
          refine vp_callSi (W.runS (As := [.int (chOf c0)]) (rest := []) ⟨hx, hb, hml, hown, hts⟩ (c_X2_isChannel l ((chOf c0))) (va_cwS 1 hts gX2_line_X2_isChannel rfl rfl rfl (by decide +kernel) ⟨(Nat.le_of_ble_eq_true rfl), (Nat.le_of_ble_eq_true rfl)⟩) pu_pre rfl rfl hl.1 rfl (lv_room (Nat.le_of_ble_eq_true rfl)) dX2_line_84 ⟨(Nat.le_of_ble_eq_true rfl), (Nat.le_of_ble_eq_true rfl)⟩) (fun r_84 w_84 => ?_)
          subst w_84
          refine lv_if_eq (tgt := 95) hx hb dX2_line_87 (by decide) (fun c_87 => ?_) (fun c_87 => ?_)
          ·
            refine lv_aload_n hx hb dX2_line_95 rfl (lv_at hl 2 rfl) ?_
            refine va_get (D := D) (ci := 3) (v := .int (nI bg2)) (C := RX2) (T := TX2) (N := 16) hx hb hts hinX2 hown hK.1 hP 0 rfl rfl 7 (by decide) (hts (.fieldLink RX2 86 "PrinterRows" "begun" "I") (by decide +kernel)) (fun _ h9 => h9) rfl dX2_line_96 ?_
            refine W.widen (k := 136) (n := 4689) (by omega) (by omega) ?_
            exact W.iret (v := (nI bg2)) hx hb hr (fun t ht hW => ⟨⟨_, (pl2, pg2, bg2, st2, on2, 0, rp + 1, sp1, sc1, sk), rfl, Or.inl ⟨by rw [← hT]; exact hb240, by rw [← hT], hT, rfl, rfl, hsp1, hsc1, by rw [skN, if_pos c_87], hPIf, hCS2⟩, by rw [ht]; exact hP, hD⟩, hS.F ht⟩) hS.2.2 dX2_line_99
          ·
            refine lv_aload_n hx hb dX2_line_90 rfl (lv_at hl 2 rfl) ?_
            refine lv_iload_n hx hb dX2_line_91 rfl (lv_at hl 1 rfl) ?_
            refine callQv (va_runV (As := [.int (chOf c0)]) (rest := []) ⟨hx, hb, hml, hown, hts⟩ (c_X2_countSkip l (chOf c0)) (cwV 1 hts gX2_line_X2_countSkip rfl rfl rfl (by decide +kernel) ⟨(Nat.le_of_ble_eq_true rfl), (Nat.le_of_ble_eq_true rfl)⟩) (mu_pre hK hP hD rfl 0 rfl) rfl rfl hl.1 rfl (lv_room (Nat.le_of_ble_eq_true rfl)) dX2_line_92 ⟨(Nat.le_of_ble_eq_true rfl), (Nat.le_of_ble_eq_true rfl)⟩) hD hS hA (fun u_92 H locs w_92 hP hD hS => ?_)
            subst w_92
            have hP : va_P D vwCl (wX cI cP x aC aT aR aP (nI L) (nI C) (nI 0) (nI bg2) (zb on2) (nI st2) mk (rp + 1) sp1 sc1 (skN ch sk (chOf c0)) fa ch tr rc pg2 pl2) H := hP
            have hD : va_D A (wX cI cP x aC aT aR aP (nI L) (nI C) (nI 0) (nI bg2) (zb on2) (nI st2) mk (rp + 1) sp1 sc1 (skN ch sk (chOf c0)) fa ch tr rc pg2 pl2) := hD
            refine lv_aload_n hx hb dX2_line_95 rfl (lv_at hl 2 rfl) ?_
            refine va_get (D := D) (ci := 3) (v := .int (nI bg2)) (C := RX2) (T := TX2) (N := 16) hx hb hts hinX2 hown hK.1 hP 0 rfl rfl 7 (by decide) (hts (.fieldLink RX2 86 "PrinterRows" "begun" "I") (by decide +kernel)) (fun _ h9 => h9) rfl dX2_line_96 ?_
            refine W.widen (k := 136) (n := 4689) (by omega) (by omega) ?_
            exact W.iret (v := (nI bg2)) hx hb hr (fun t ht hW => ⟨⟨_, (pl2, pg2, bg2, st2, on2, 0, rp + 1, sp1, sc1, skN ch sk (chOf c0)), rfl, Or.inl ⟨by rw [← hT]; exact hb240, by rw [← hT], hT, rfl, rfl, hsp1, hsc1, rfl, hPIf, hCS2⟩, by rw [ht]; exact hP, hD⟩, hS.F ht⟩) hS.2.2 dX2_line_99
        ·
          have hfit : ¬ (lnT L bg st on (isSk c0) w).1 ≤ 40 := fun h9 => by rw [lnT, hsk, if_pos rfl] at h9; exact absurd ((fit_second hL0 hst hbg hon).mpr h9).2 (of_decide_eq_false (zb0.mp c_45))
          refine lv_bipush (v := (-6)) hx hb dX2_line_48 (by decide +kernel) ?_
          refine W.widen (k := 136) (n := 4689) (by omega) (by omega) ?_
          exact W.iret (v := (-6)) hx hb hr (fun t ht hW => ⟨⟨_, (pl, pg, bg, st, on, rl, rp, sp, sc, sk), rfl, Or.inr ⟨hfit, rfl, rfl, hPI, hCS⟩, by rw [ht]; exact hP, hD⟩, hS.F ht⟩) hS.2.2 dX2_line_50
