/-! what stays true over all calls: the class's pages and the reference's signs -/
def SG (L C bg : Nat) (sg : Nat → Int32) (M : Nat → Nat → Nat → Int32) : Prop := ∀ q i c, q < bg → i < L → c < C → sg (8712 * q + 132 * i + c) = M q i c
theorem SG_mb {L C bg b2 : Nat} {sg : Nat → Int32} {M : Nat → Nat → Nat → Int32} (hL : L ≤ 66) (hC : C ≤ 132) (h : SG L C bg sg M) : SG L C b2 (stG bg b2 sg) (MB bg M) := by
  intro q i c hq hi hc
  unfold stG MB
  by_cases e : q < bg
  · rw [if_neg (by omega), if_pos e]
    exact h q i c e hi hc
  · rw [if_pos (by omega), if_neg e]
theorem SG_pr {L C b Q I rl : Nat} {tr rc sg : Nat → Int32} {M : Nat → Nat → Nat → Int32} (hL : L ≤ 66) (hC : C ≤ 132) (hI : I < L) (h : SG L C b sg M) : SG L C b (prG (8712 * Q + 132 * I) (min rl C) tr rc sg) (MP M Q I tr rc rl) := by
  intro q i c hq hi hc
  unfold prG MP
  have hm : min rl C ≤ C := Nat.min_le_right _ _
  by_cases e : q = Q ∧ i = I ∧ c < rl
  · obtain ⟨rfl, rfl, hcl⟩ := e
    have hm2 : c < min rl C := Nat.lt_min.mpr ⟨hcl, hc⟩
    rw [if_pos (by omega), if_pos ⟨rfl, rfl, hcl⟩, h q i c hq hi hc, show 8712 * q + 132 * i + c - (8712 * q + 132 * i) = c by omega]
  · rw [if_neg, if_neg e]
    · exact h q i c hq hi hc
    · rintro ⟨h1, h2⟩
      have h3 : q = Q := by omega
      subst h3
      have h4 : i = I := by omega
      subst h4
      have h5 : c < min rl C := by omega
      exact e ⟨rfl, rfl, Nat.lt_of_lt_of_le h5 (Nat.min_le_left _ _)⟩
theorem mod_page {a r many : Nat} (hr : r < 8712) : (8712 * a + r) % (many * 8712) = 8712 * (a % many) + r := by
  rw [Nat.mul_comm many 8712, Nat.mod_mul]
  have h1 : (8712 * a + r) % 8712 = r := by omega
  have h2 : (8712 * a + r) / 8712 = a := by omega
  rw [h1, h2]
  omega
theorem SG_cp {L C bg f many S : Nat} {sg : Nat → Int32} {M : Nat → Nat → Nat → Int32} (hL : L ≤ 66) (hC : C ≤ 132) (hm : 0 < many) (hf : f + many ≤ bg) (h : SG L C bg sg M) : SG L C (bg + S) (cpG (8712 * bg) (8712 * f) (many * 8712) (S * 8712) sg) (CPM bg f many M) := by
  intro q i c hq hi hc
  unfold cpG CPM
  by_cases e : q < bg
  · rw [if_neg (by omega), if_pos e]
    exact h q i c e hi hc
  · have hlt := Nat.mod_lt (q - bg) hm
    rw [if_pos (by omega), if_neg e, show 8712 * q + 132 * i + c - 8712 * bg = 8712 * (q - bg) + (132 * i + c) by omega, mod_page (by omega), show 8712 * f + (8712 * ((q - bg) % many) + (132 * i + c)) = 8712 * (f + (q - bg) % many) + 132 * i + c by omega]
    exact h _ i c (by omega) hi hc
theorem SG_le {L C bg b2 : Nat} {sg : Nat → Int32} {M : Nat → Nat → Nat → Int32} (hb : b2 ≤ bg) (h : SG L C bg sg M) : SG L C b2 sg M := fun q i c hq hi hc => h q i c (by omega) hi hc
theorem MG_mp {L C b Q I n : Nat} {tr rc : Nat → Int32} {M : Nat → Nat → Nat → Int32} (h : MG L C b M) : MG L C b (MP M Q I tr rc n) := by
  intro q i c hq hi hc
  unfold MP
  split
  · unfold mx
    split
    · rename_i h2
      have h3 := h q i c hq hi hc
      intro h4
      exact h3 (Int32.lt_trans h2 h4)
    · exact h q i c hq hi hc
  · exact h q i c hq hi hc
theorem MG_cpm {L C bg f many S : Nat} {M : Nat → Nat → Nat → Int32} (hm : 0 < many) (hf : f + many ≤ bg) (h : MG L C bg M) : MG L C (bg + S) (CPM bg f many M) := by
  intro q i c hq hi hc
  unfold CPM
  split
  · exact h q i c (by assumption) hi hc
  · have hlt := Nat.mod_lt (q - bg) hm
    exact h _ i c (by omega) hi hc
theorem MG_le {L C bg b2 : Nat} {M : Nat → Nat → Nat → Int32} (hb : b2 ≤ bg) (h : MG L C bg M) : MG L C b2 M := fun q i c hq hi hc => h q i c (by omega) hi hc
def TA (ta : Nat → Int32) (rp sp sc sk fa : Int32) : Prop := ta 2 = rp ∧ ta 3 = sp ∧ ta 4 = sc ∧ ta 5 = sk ∧ ta 6 = fa
def INV (cI cR : ClassId) (L C rl bg st : Nat) (on : Bool) (rp sp sc sk fa : Int32) (ch rc ta sg : Nat → Int32) (pg : Nat → Option Nat) (pl : va_W) (own : Nat → Nat × Nat) (M : Nat → Nat → Nat → Int32) : Prop :=
  rl ≤ 200 ∧ bg ≤ 40 ∧ st < L ∧ (∀ k, 1 ≤ k → k ≤ 12 → chOK L (ch k)) ∧ (∀ j, j < rl → isSg (rc j) = true) ∧ PI cI cR pl own L C bg pg M ∧ CS on bg pg ∧ MG L C bg M ∧ SG L C bg sg M ∧ TA ta rp sp sc sk fa
section IV
variable {cI cR : ClassId} {L C rl bg st : Nat} {on : Bool} {rp sp sc sk fa : Int32} {ch rc ta sg : Nat → Int32} {pg : Nat → Option Nat} {pl : va_W} {own : Nat → Nat × Nat} {M : Nat → Nat → Nat → Int32}
theorem INV.stands (h : INV cI cR L C rl bg st on rp sp sc sk fa ch rc ta sg pg pl own M) : on = true → 0 < bg := fun q => (h.2.2.2.2.2.2.1 q).1
theorem INV.channel (h : INV cI cR L C rl bg st on rp sp sc sk fa ch rc ta sg pg pl own M) (hL : L ≤ 66) (c ln : Int32) : INV cI cR L C rl bg st on rp sp sc sk fa (chN L ch c ln) rc ta sg pg pl own M := by
  refine ⟨h.1, h.2.1, h.2.2.1, fun k h1 h2 => ?_, h.2.2.2.2⟩
  unfold chN
  by_cases e : okc L c ln = true
  · rw [if_pos e]
    by_cases ek : k = c.toNatClampNeg
    · rw [ek, show upd ch c.toNatClampNeg ln c.toNatClampNeg = ln from if_pos rfl]
      unfold okc at e
      split at e
      · cases e
      split at e
      · cases e
      split at e
      · rename_i h3 h4 h5
        rw [i32_lt, nI_toInt (by omega)] at h5
        rw [i32_lt] at h4
        have e1 : (-1 : Int32).toInt = -1 := rfl
        by_cases e2 : ln.toInt = -1
        · exact Or.inl (i32_ext (by rw [e2, e1]))
        · exact Or.inr ⟨ln.toInt.toNat, by omega, i32_ext (by rw [nI_toInt (by omega)]; omega)⟩
      · cases e
    · rw [pk_un ek]
      exact h.2.2.2.1 k h1 h2
  · rw [if_neg e]
    exact h.2.2.2.1 k h1 h2
theorem INV.skip (h : INV cI cR L C rl bg st on rp sp sc sk fa ch rc ta sg pg pl own M) (hL0 : 0 < L) (hL : L ≤ 66) (hC : C ≤ 132) (c : Int32) {pl' : va_W} {pg' : Nat → Option Nat} {own' : Nat → Nat × Nat} {t : Nat × Nat × Bool} {ta' sg' : Nat → Int32} {sk' : Int32}
    (ht : t = if skO L st ch bg on c then skT L st ch bg on c else (bg, st, on)) (hs : sk' = if skO L st ch bg on c then skN ch sk c else sk) (hta : ta' = if skO L st ch bg on c then upd ta 5 (skN ch (ta 5) c) else ta) (hsg : sg' = if skO L st ch bg on c then stG bg (skT L st ch bg on c).1 sg else sg)
    (hPI : PI cI cR pl' own' L C t.1 pg' (MB bg M)) (hCS : CS t.2.2 t.1 pg') : INV cI cR L C rl t.1 t.2.1 t.2.2 rp sp sc sk' fa ch rc ta' sg' pg' pl' own' (MB bg M) := by
  obtain ⟨h1, h2, h3, h4, h5, h6, h7, h8, h9, h10, h11, h12, h13, h14⟩ := h
  by_cases e : skO L st ch bg on c = true
  · rw [if_pos e] at ht hs hta hsg
    subst ht hs hta hsg
    have hb : (skT L st ch bg on c).1 ≤ 40 := by
      unfold skO at e
      split at e
      · cases e
      · exact of_decide_eq_true e
    refine ⟨h1, hb, mvn_st hL0 _ _ h3, h4, h5, hPI, hCS, h8.blank, SG_mb hL hC h9, ?_, ?_, ?_, ?_, ?_⟩
    · rw [pk_un (by decide)]; exact h10
    · rw [pk_un (by decide)]; exact h11
    · rw [pk_un (by decide)]; exact h12
    · rw [← h13]; exact if_pos rfl
    · rw [pk_un (by decide)]; exact h14
  · rw [if_neg e] at ht hs hta hsg
    subst ht hs hta hsg
    refine ⟨h1, h2, h3, h4, h5, hPI, hCS, h8.blank, fun q i c hq hi hc => ?_, h10, h11, h12, h13, h14⟩
    have hq : q < bg := hq
    unfold MB
    rw [if_pos hq]
    exact h9 q i c hq hi hc
theorem INV.line (h : INV cI cR L C rl bg st on rp sp sc sk fa ch rc ta sg pg pl own M) (hL0 : 0 < L) (hL : L ≤ 66) (hC : C ≤ 132) (c0 : Int32) (w : Nat) (tr : Nat → Int32) {pl' : va_W} {pg' : Nat → Option Nat} {own' : Nat → Nat × Nat}
    (hb : (lnT L bg st on (isSk c0) w).1 ≤ 40) (hPI : PI cI cR pl' own' L C (lnT L bg st on (isSk c0) w).1 pg' (MP (MB bg M) (lnQ L bg st on (isSk c0) w) (lnI L bg st on (isSk c0) w) tr rc rl)) (hCS : CS (lnT L bg st on (isSk c0) w).2.2 (lnT L bg st on (isSk c0) w).1 pg') :
    INV cI cR L C 0 (lnT L bg st on (isSk c0) w).1 (lnT L bg st on (isSk c0) w).2.1 (lnT L bg st on (isSk c0) w).2.2 (rp + 1) (sp + cS tr rc C rl) (sc + cC C rl) (skN ch sk (chOf c0)) fa ch rc (upd (taP (upd ta 5 (skN ch (ta 5) (chOf c0))) (ta 3 + cS tr rc C rl) (ta 4 + cC C rl)) 2 (ta 2 + 1)) (prG (8712 * lnQ L bg st on (isSk c0) w + 132 * lnI L bg st on (isSk c0) w) (min rl C) tr rc (stG bg (lnT L bg st on (isSk c0) w).1 sg)) pg' pl' own' (MP (MB bg M) (lnQ L bg st on (isSk c0) w) (lnI L bg st on (isSk c0) w) tr rc rl) := by
  obtain ⟨h1, h2, h3, h4, h5, h6, h7, h8, h9, h10, h11, h12, h13, h14⟩ := h
  have hI : lnI L bg st on (isSk c0) w < L := by
    unfold lnI
    split
    · exact h3
    · exact mvn_st hL0 _ _ h3
  have hS : (lnT L bg st on (isSk c0) w).2.1 < L := by
    unfold lnT
    split
    · exact mvn_st hL0 _ _ h3
    · exact mvn_st hL0 _ _ h3
  refine ⟨Nat.zero_le _, hb, hS, h4, fun j hj => absurd hj (Nat.not_lt_zero _), hPI, hCS, MG_mp h8.blank, SG_pr hL hC hI (SG_mb hL hC h9), ?_, ?_, ?_, ?_, ?_⟩
  · rw [← h10]; exact if_pos rfl
  · rw [pk_un (by decide), ← h11]; rfl
  · rw [pk_un (by decide), ← h12]; rfl
  · rw [pk_un (by decide), ← h13]; rfl
  · rw [pk_un (by decide), ← h14]; rfl
theorem INV.sign (h : INV cI cR L C rl bg st on rp sp sc sk fa ch rc ta sg pg pl own M) (c : Int32) : INV cI cR L C (sgL rl) bg st on rp sp sc sk fa ch (sgC rl rc c) ta sg pg pl own M := by
  obtain ⟨h1, h2, h3, h4, h5, h6⟩ := h
  refine ⟨by unfold sgL; split <;> omega, h2, h3, h4, fun j hj => ?_, h6⟩
  unfold sgL at hj
  unfold sgC
  by_cases e : rl < 200
  · rw [if_pos e] at hj ⊢
    by_cases ej : j = rl
    · rw [ej, show upd rc rl (sgV c) rl = sgV c from if_pos rfl, sgV_eq, isSg_iff]
      have h7 := and255 c
      split
      · rename_i h8
        rw [i32_le] at h8
        have : (32 : Int32).toInt = 32 := rfl
        rw [h7] at h8 ⊢
        omega
      · have : (32 : Int32).toInt = 32 := rfl
        omega
    · rw [pk_un ej]
      exact h5 j (by omega)
  · rw [if_neg e] at hj ⊢
    exact h5 j hj
theorem INV.fresh (h : INV cI cR L C rl bg st on rp sp sc sk fa ch rc ta sg pg pl own M) (hL0 : 0 < L) : INV cI cR L C rl bg 0 false rp sp sc sk fa ch rc ta sg pg pl own M :=
  ⟨h.1, h.2.1, hL0, h.2.2.2.1, h.2.2.2.2.1, h.2.2.2.2.2.1, fun q => (by cases q), h.2.2.2.2.2.2.2⟩
theorem INV.copies (h : INV cI cR L C rl bg st on rp sp sc sk fa ch rc ta sg pg pl own M) (hL0 : 0 < L) (hL : L ≤ 66) (hC : C ≤ 132) (n0 f0 t0 : Int32) {pg' : Nat → Option Nat} {t : Nat × Nat × Bool} {sg' : Nat → Int32} (ht : t = if cpO bg n0 f0 t0 then (bg + cpS n0 f0 t0, 0, false) else (bg, st, on))
    (hsg : sg' = if cpO bg n0 f0 t0 then cpG (8712 * bg) (8712 * f0.toNatClampNeg) ((t0.toNatClampNeg - f0.toNatClampNeg + 1) * 8712) (cpS n0 f0 t0 * 8712) sg else sg) (hPI : PI cI cR pl own L C t.1 pg' (CPM bg f0.toNatClampNeg (t0.toNatClampNeg - f0.toNatClampNeg + 1) M)) (hCS : CS t.2.2 t.1 pg') :
    INV cI cR L C rl t.1 t.2.1 t.2.2 rp sp sc sk fa ch rc ta sg' pg' pl own (CPM bg f0.toNatClampNeg (t0.toNatClampNeg - f0.toNatClampNeg + 1) M) := by
  obtain ⟨h1, h2, h3, h4, h5, h6, h7, h8, h9, h10⟩ := h
  by_cases e : cpO bg n0 f0 t0 = true
  · rw [if_pos e] at ht hsg
    subst ht hsg
    unfold cpO at e
    split at e
    · rename_i hv
      have hb := of_decide_eq_true e
      unfold cpV at hv
      split at hv
      · cases hv
      split at hv
      · cases hv
      split at hv
      · cases hv
      split at hv
      · cases hv
      split at hv
      · rename_i g1 g2 g3 g4 g5
        obtain ⟨ff, hff0, rfl⟩ := nI_of (x := f0) g3
        obtain ⟨tt, htt0, rfl⟩ := nI_of (x := t0) (fun h9 => g4 (by rw [i32_lt] at h9 ⊢; rw [nI_toInt hff0]; have : (0 : Int32).toInt = 0 := rfl; omega))
        have hft : ff ≤ tt := Nat.le_of_not_lt (fun h9 => g4 (nI_lt h9 hff0))
        have htb : tt < bg := (nI_ltI htt0 (by omega)).mp g5
        rw [nI_clamp hff0, nI_clamp htt0] at hPI ⊢
        exact ⟨h1, hb, hL0, h4, h5, hPI, hCS, MG_cpm (by omega) (by omega) h8, SG_cp hL hC (by omega) (by omega) h9, h10⟩
      · cases hv
    · cases e
  · rw [if_neg e] at ht hsg
    subst ht hsg
    refine ⟨h1, h2, h3, h4, h5, hPI, hCS, fun q i c hq hi hc => ?_, fun q i c hq hi hc => ?_, h10⟩
    · unfold CPM
      rw [if_pos hq]
      exact h8 q i c hq hi hc
    · unfold CPM
      rw [if_pos hq]
      exact h9 q i c hq hi hc
theorem INV.back (h : INV cI cR L C rl bg st on rp sp sc sk fa ch rc ta sg pg pl own M) (hL0 : 0 < L) (n0 : Int32) {pg' : Nat → Option Nat} {t : Bool × Nat} (ht : t = if bkO bg n0 then (false, 0) else (on, st)) (hpg : ∀ q, q < bkB bg n0 → pg' q = pg q) :
    INV cI cR L C rl (bkB bg n0) t.2 t.1 rp sp sc sk fa ch rc ta sg pg' pl own M := by
  obtain ⟨h1, h2, h3, h4, h5, h6, h7, h8, h9, h10⟩ := h
  have hb : bkB bg n0 ≤ bg := by unfold bkB; split <;> omega
  have hPI : PI cI cR pl own L C (bkB bg n0) pg' M := PI.congr hb hpg (fun _ _ _ _ _ _ => rfl) h6
  by_cases e : bkO bg n0 = true
  · rw [if_pos e] at ht
    subst ht
    exact ⟨h1, Nat.le_trans hb h2, hL0, h4, h5, hPI, fun q => (by cases q), MG_le hb h8, SG_le hb h9, h10⟩
  · rw [if_neg e] at ht
    subst ht
    have eb : bkB bg n0 = bg := by unfold bkB; rw [if_neg e]
    rw [eb] at hpg hPI ⊢
    refine ⟨h1, h2, h3, h4, h5, hPI, fun q => ⟨(h7 q).1, fun z hz => ?_⟩, h8, h9, h10⟩
    have q1 := (h7 q).1
    have q2 := (h7 q).2 z hz
    rw [hpg z (by omega), hpg (bg - 1) (by omega)]
    exact q2
theorem INV.forms (h : INV cI cR L C rl bg st on rp sp sc sk fa ch rc ta sg pg pl own M) (hL0 : 0 < L) : INV cI cR L C rl bg 0 false rp sp sc sk (fa + 1) ch rc (upd ta 6 (ta 6 + 1)) sg pg pl own M := by
  obtain ⟨h1, h2, h3, h4, h5, h6, h7, h8, h9, h10, h11, h12, h13, h14⟩ := h
  refine ⟨h1, h2, hL0, h4, h5, h6, fun q => (by cases q), h8, h9, ?_, ?_, ?_, ?_, ?_⟩
  · rw [pk_un (by decide)]; exact h10
  · rw [pk_un (by decide)]; exact h11
  · rw [pk_un (by decide)]; exact h12
  · rw [pk_un (by decide)]; exact h13
  · rw [← h14]; exact if_pos rfl
end IV
