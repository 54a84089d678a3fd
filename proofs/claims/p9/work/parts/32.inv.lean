/-! what stays true over all calls: of the class, and of the reference by itself -/
theorem MG_mp {L C b Q I n : Nat} {tr rc : Nat → Int32} {M : Nat → Nat → Nat → Int32} (h : MG L C b M) : MG L C b (MP M Q I tr rc n) := by
  intro q i c hq hi hc
  unfold MP
  split
  · unfold mx
    split
    · rename_i h2
      have h3 := h q i c hq hi hc
      intro h4
      exact h3 (Int32.lt_trans h2 h4)
    · exact h q i c hq hi hc
  · exact h q i c hq hi hc
theorem MG_cpm {L C bg f many S : Nat} {M : Nat → Nat → Nat → Int32} (hm : 0 < many) (hf : f + many ≤ bg) (h : MG L C bg M) : MG L C (bg + S) (CPM bg f many M) := by
  intro q i c hq hi hc
  unfold CPM
  split
  · exact h q i c (by assumption) hi hc
  · have hlt := Nat.mod_lt (q - bg) hm
    exact h _ i c (by omega) hi hc
theorem MG_le {L C bg b2 : Nat} {M : Nat → Nat → Nat → Int32} (hb : b2 ≤ bg) (h : MG L C bg M) : MG L C b2 M := fun q i c hq hi hc => h q i c (by omega) hi hc
def CHK (L : Nat) (ch : Nat → Int32) : Prop := ∀ k, 1 ≤ k → k ≤ 12 → chOK L (ch k)
theorem CHK_N {L : Nat} {ch : Nat → Int32} (h : CHK L ch) (hL : L ≤ 66) (c ln : Int32) : CHK L (chN L ch c ln) := by
  intro k h1 h2
  unfold chN
  by_cases e : okc L c ln = true
  · rw [if_pos e]
    by_cases ek : k = c.toNatClampNeg
    · rw [ek, show upd ch c.toNatClampNeg ln c.toNatClampNeg = ln from if_pos rfl]
      unfold okc at e
      split at e
      · cases e
      split at e
      · cases e
      split at e
      · rename_i h3 h4 h5
        rw [i32_lt, nI_toInt (by omega)] at h5
        rw [i32_lt] at h4
        have e1 : (-1 : Int32).toInt = -1 := rfl
        by_cases e2 : ln.toInt = -1
        · exact Or.inl (i32_ext (by rw [e2, e1]))
        · exact Or.inr ⟨ln.toInt.toNat, by omega, i32_ext (by rw [nI_toInt (by omega)]; omega)⟩
      · cases e
    · rw [pk_un ek]
      exact h k h1 h2
  · rw [if_neg e]
    exact h k h1 h2
def RCK (rl : Nat) (rc : Nat → Int32) : Prop := ∀ j, j < rl → isSg (rc j) = true
theorem sgL_le {rl : Nat} (h : rl ≤ 200) : sgL rl ≤ 200 := by unfold sgL; split <;> omega
theorem RCK_N {rl : Nat} {rc : Nat → Int32} (h5 : RCK rl rc) (c : Int32) : RCK (sgL rl) (sgC rl rc c) := by
  intro j hj
  unfold sgL at hj
  unfold sgC
  by_cases e : rl < 200
  · rw [if_pos e] at hj ⊢
    by_cases ej : j = rl
    · rw [ej, show upd rc rl (sgV c) rl = sgV c from if_pos rfl, sgV_eq, isSg_iff]
      have h7 := and255 c
      split
      · rename_i h8
        rw [i32_le] at h8
        have : (32 : Int32).toInt = 32 := rfl
        rw [h7] at h8 ⊢
        omega
      · have : (32 : Int32).toInt = 32 := rfl
        omega
    · rw [pk_un ej]
      exact h5 j (by omega)
  · rw [if_neg e] at hj ⊢
    exact h5 j hj
theorem mvn_begun {L : Nat} (n : Nat) (t : Nat × Nat × Bool) (h : t.2.2 = true → 0 < t.1) : (mvn L n t).2.2 = true → 0 < (mvn L n t).1 := by
  induction n with
  | zero => exact h
  | succ n ih =>
    show (mv1 L (mvn L n t)).2.2 = true → 0 < (mv1 L (mvn L n t)).1
    unfold mv1
    by_cases q : (mvn L n t).2.1 + 1 < L
    · rw [if_pos q]; exact ih
    · rw [if_neg q]; intro h9; cases h9
theorem lnT_st {L bg st w : Nat} {on sec : Bool} (hL0 : 0 < L) (h3 : st < L) : (lnT L bg st on sec w).2.1 < L := by
  unfold lnT
  split
  · exact mvn_st hL0 _ _ h3
  · exact mvn_st hL0 _ _ h3
theorem lnT_on {L bg st w : Nat} {on sec : Bool} (h : on = true → 0 < bg) : (lnT L bg st on sec w).2.2 = true → 0 < (lnT L bg st on sec w).1 := by
  unfold lnT
  split
  · exact mvn_begun _ _ (fun _ => bgB_pos h)
  · intro _
    exact bgB_pos (mvn_begun _ _ h)
theorem skT_le {L st bg : Nat} {ch : Nat → Int32} {on : Bool} {c : Int32} (e : skO L st ch bg on c = true) : (skT L st ch bg on c).1 ≤ 40 := by
  unfold skO at e
  split at e
  · cases e
  · exact of_decide_eq_true e
theorem skTx_le {L st bg : Nat} {ch : Nat → Int32} {on : Bool} {c : Int32} (hL0 : 0 < L) (hst : st < L) (hbg : bg ≤ 40) (hon : on = true → 0 < bg) (e : skOx L st ch bg on c = true) : (skT L st ch bg on c).1 ≤ 40 := by
  unfold skOx at e
  split at e
  · cases e
  · exact (fit_move hL0 hst hbg hon).mp (Nat.le_of_lt (of_decide_eq_true e))
theorem cpO_le {bg : Nat} {n f t : Int32} (e : cpO bg n f t = true) : bg + cpS n f t ≤ 40 := by
  unfold cpO at e
  split at e
  · exact of_decide_eq_true e
  · cases e
theorem bkB_le {bg : Nat} {n : Int32} : bkB bg n ≤ bg := by unfold bkB; split <;> omega
/-- of the class -/
def INX (cI cR : ClassId) (L C rl bg st : Nat) (on : Bool) (ch rc : Nat → Int32) (pg : Nat → Option Nat) (pl : va_W) (own : Nat → Nat × Nat) (M : Nat → Nat → Nat → Int32) : Prop :=
  rl ≤ 200 ∧ bg ≤ 40 ∧ st < L ∧ CHK L ch ∧ RCK rl rc ∧ PI cI cR pl own L C bg pg M ∧ CS on bg pg ∧ MG L C bg M
/-- of the reference -/
def INM (L rl bg st : Nat) (on : Bool) (ch rc : Nat → Int32) : Prop := rl ≤ 200 ∧ bg ≤ 40 ∧ st < L ∧ CHK L ch ∧ RCK rl rc ∧ (on = true → 0 < bg)
section IV
variable {cI cR : ClassId} {L C rl bg st : Nat} {on : Bool} {ch rc : Nat → Int32} {pg : Nat → Option Nat} {pl : va_W} {own : Nat → Nat × Nat} {M : Nat → Nat → Nat → Int32}
theorem INX.channel (h : INX cI cR L C rl bg st on ch rc pg pl own M) (hL : L ≤ 66) (c ln : Int32) : INX cI cR L C rl bg st on (chN L ch c ln) rc pg pl own M :=
  ⟨h.1, h.2.1, h.2.2.1, CHK_N h.2.2.2.1 hL c ln, h.2.2.2.2⟩
theorem INX.sign (h : INX cI cR L C rl bg st on ch rc pg pl own M) (c : Int32) : INX cI cR L C (sgL rl) bg st on ch (sgC rl rc c) pg pl own M :=
  ⟨sgL_le h.1, h.2.1, h.2.2.1, h.2.2.2.1, RCK_N h.2.2.2.2.1 c, h.2.2.2.2.2⟩
theorem INX.fresh (h : INX cI cR L C rl bg st on ch rc pg pl own M) (hL0 : 0 < L) : INX cI cR L C rl bg 0 false ch rc pg pl own M :=
  ⟨h.1, h.2.1, hL0, h.2.2.2.1, h.2.2.2.2.1, h.2.2.2.2.2.1, fun q => (by cases q), h.2.2.2.2.2.2.2⟩
theorem INX.line (h : INX cI cR L C rl bg st on ch rc pg pl own M) (hL0 : 0 < L) (c0 : Int32) (w : Nat) (tr : Nat → Int32) {pl' : va_W} {pg' : Nat → Option Nat} {own' : Nat → Nat × Nat}
    (hb : (lnT L bg st on (isSk c0) w).1 ≤ 40) (hPI : PI cI cR pl' own' L C (lnT L bg st on (isSk c0) w).1 pg' (MP (MB bg M) (lnQ L bg st on (isSk c0) w) (lnI L bg st on (isSk c0) w) tr rc rl)) (hCS : CS (lnT L bg st on (isSk c0) w).2.2 (lnT L bg st on (isSk c0) w).1 pg') :
    INX cI cR L C 0 (lnT L bg st on (isSk c0) w).1 (lnT L bg st on (isSk c0) w).2.1 (lnT L bg st on (isSk c0) w).2.2 ch rc pg' pl' own' (MP (MB bg M) (lnQ L bg st on (isSk c0) w) (lnI L bg st on (isSk c0) w) tr rc rl) := by
  obtain ⟨h1, h2, h3, h4, h5, h6, h7, h8⟩ := h
  exact ⟨Nat.zero_le _, hb, lnT_st hL0 h3, h4, fun j hj => absurd hj (Nat.not_lt_zero _), hPI, hCS, MG_mp h8.blank⟩
theorem INX.skip (h : INX cI cR L C rl bg st on ch rc pg pl own M) (hL0 : 0 < L) (c : Int32) {pl' : va_W} {pg' : Nat → Option Nat} {own' : Nat → Nat × Nat} {t : Nat × Nat × Bool}
    (ht : t = if skOx L st ch bg on c then skT L st ch bg on c else (bg, st, on)) (hPI : PI cI cR pl' own' L C t.1 pg' (MB bg M)) (hCS : CS t.2.2 t.1 pg') : INX cI cR L C rl t.1 t.2.1 t.2.2 ch rc pg' pl' own' (MB bg M) := by
  obtain ⟨h1, h2, h3, h4, h5, h6, h7, h8⟩ := h
  by_cases e : skOx L st ch bg on c = true
  · rw [if_pos e] at ht
    subst ht
    exact ⟨h1, skTx_le hL0 h3 h2 (fun q => (h7 q).1) e, mvn_st hL0 _ _ h3, h4, h5, hPI, hCS, h8.blank⟩
  · rw [if_neg e] at ht
    subst ht
    exact ⟨h1, h2, h3, h4, h5, hPI, hCS, h8.blank⟩
theorem INX.copies (h : INX cI cR L C rl bg st on ch rc pg pl own M) (hL0 : 0 < L) (n0 f0 t0 : Int32) {pg' : Nat → Option Nat} {t : Nat × Nat × Bool} (ht : t = if cpO bg n0 f0 t0 then (bg + cpS n0 f0 t0, 0, false) else (bg, st, on))
    (hPI : PI cI cR pl own L C t.1 pg' (CPM bg f0.toNatClampNeg (t0.toNatClampNeg - f0.toNatClampNeg + 1) M)) (hCS : CS t.2.2 t.1 pg') :
    INX cI cR L C rl t.1 t.2.1 t.2.2 ch rc pg' pl own (CPM bg f0.toNatClampNeg (t0.toNatClampNeg - f0.toNatClampNeg + 1) M) := by
  obtain ⟨h1, h2, h3, h4, h5, h6, h7, h8⟩ := h
  by_cases e : cpO bg n0 f0 t0 = true
  · rw [if_pos e] at ht
    subst ht
    have hb := cpO_le e
    unfold cpO at e
    split at e
    · rename_i hv
      unfold cpV at hv
      split at hv
      · cases hv
      split at hv
      · cases hv
      split at hv
      · cases hv
      split at hv
      · cases hv
      split at hv
      · rename_i g1 g2 g3 g4 g5
        obtain ⟨ff, hff0, rfl⟩ := nI_of (x := f0) g3
        obtain ⟨tt, htt0, rfl⟩ := nI_of (x := t0) (fun h9 => g4 (by rw [i32_lt] at h9 ⊢; rw [nI_toInt hff0]; have : (0 : Int32).toInt = 0 := rfl; omega))
        have hft : ff ≤ tt := Nat.le_of_not_lt (fun h9 => g4 (nI_lt h9 hff0))
        have htb : tt < bg := (nI_ltI htt0 (by omega)).mp g5
        rw [nI_clamp hff0, nI_clamp htt0] at hPI ⊢
        exact ⟨h1, hb, hL0, h4, h5, hPI, hCS, MG_cpm (by omega) (by omega) h8⟩
      · cases hv
    · cases e
  · rw [if_neg e] at ht
    subst ht
    refine ⟨h1, h2, h3, h4, h5, hPI, hCS, fun q i c hq hi hc => ?_⟩
    unfold CPM
    rw [if_pos hq]
    exact h8 q i c hq hi hc
theorem INX.back (h : INX cI cR L C rl bg st on ch rc pg pl own M) (hL0 : 0 < L) (n0 : Int32) {pg' : Nat → Option Nat} {t : Bool × Nat} (ht : t = if bkO bg n0 then (false, 0) else (on, st)) (hpg : ∀ q, q < bkB bg n0 → pg' q = pg q) :
    INX cI cR L C rl (bkB bg n0) t.2 t.1 ch rc pg' pl own M := by
  obtain ⟨h1, h2, h3, h4, h5, h6, h7, h8⟩ := h
  have hb : bkB bg n0 ≤ bg := bkB_le
  have hPI : PI cI cR pl own L C (bkB bg n0) pg' M := PI.congr hb hpg (fun _ _ _ _ _ _ => rfl) h6
  by_cases e : bkO bg n0 = true
  · rw [if_pos e] at ht
    subst ht
    exact ⟨h1, Nat.le_trans hb h2, hL0, h4, h5, hPI, fun q => (by cases q), MG_le hb h8⟩
  · rw [if_neg e] at ht
    subst ht
    have eb : bkB bg n0 = bg := by unfold bkB; rw [if_neg e]
    rw [eb] at hpg hPI ⊢
    refine ⟨h1, h2, h3, h4, h5, hPI, fun q => ⟨(h7 q).1, fun z hz => ?_⟩, h8⟩
    have q1 := (h7 q).1
    have q2 := (h7 q).2 z hz
    rw [hpg z (by omega), hpg (bg - 1) (by omega)]
    exact q2
theorem INM.channel (h : INM L rl bg st on ch rc) (hL : L ≤ 66) (c ln : Int32) : INM L rl bg st on (chN L ch c ln) rc := ⟨h.1, h.2.1, h.2.2.1, CHK_N h.2.2.2.1 hL c ln, h.2.2.2.2⟩
theorem INM.sign (h : INM L rl bg st on ch rc) (c : Int32) : INM L (sgL rl) bg st on ch (sgC rl rc c) := ⟨sgL_le h.1, h.2.1, h.2.2.1, h.2.2.2.1, RCK_N h.2.2.2.2.1 c, h.2.2.2.2.2⟩
theorem INM.fresh (h : INM L rl bg st on ch rc) (hL0 : 0 < L) : INM L rl bg 0 false ch rc := ⟨h.1, h.2.1, hL0, h.2.2.2.1, h.2.2.2.2.1, fun q => (by cases q)⟩
theorem INM.line (h : INM L rl bg st on ch rc) (hL0 : 0 < L) (sec : Bool) (w : Nat) (hb : (lnT L bg st on sec w).1 ≤ 40) : INM L 0 (lnT L bg st on sec w).1 (lnT L bg st on sec w).2.1 (lnT L bg st on sec w).2.2 ch rc :=
  ⟨Nat.zero_le _, hb, lnT_st hL0 h.2.2.1, h.2.2.2.1, fun j hj => absurd hj (Nat.not_lt_zero _), lnT_on h.2.2.2.2.2⟩
theorem INM.skip (h : INM L rl bg st on ch rc) (hL0 : 0 < L) (c : Int32) {t : Nat × Nat × Bool} (ht : t = if skO L st ch bg on c then skT L st ch bg on c else (bg, st, on)) : INM L rl t.1 t.2.1 t.2.2 ch rc := by
  by_cases e : skO L st ch bg on c = true
  · rw [if_pos e] at ht
    subst ht
    exact ⟨h.1, skT_le e, mvn_st hL0 _ _ h.2.2.1, h.2.2.2.1, h.2.2.2.2.1, mvn_begun _ _ h.2.2.2.2.2⟩
  · rw [if_neg e] at ht
    subst ht
    exact h
theorem INM.copies (h : INM L rl bg st on ch rc) (hL0 : 0 < L) (n0 f0 t0 : Int32) {t : Nat × Nat × Bool} (ht : t = if cpO bg n0 f0 t0 then (bg + cpS n0 f0 t0, 0, false) else (bg, st, on)) : INM L rl t.1 t.2.1 t.2.2 ch rc := by
  by_cases e : cpO bg n0 f0 t0 = true
  · rw [if_pos e] at ht
    subst ht
    exact ⟨h.1, cpO_le e, hL0, h.2.2.2.1, h.2.2.2.2.1, fun q => (by cases q)⟩
  · rw [if_neg e] at ht
    subst ht
    exact h
theorem INM.back (h : INM L rl bg st on ch rc) (hL0 : 0 < L) (n0 : Int32) {t : Bool × Nat} (ht : t = if bkO bg n0 then (false, 0) else (on, st)) : INM L rl (bkB bg n0) t.2 t.1 ch rc := by
  by_cases e : bkO bg n0 = true
  · rw [if_pos e] at ht
    subst ht
    exact ⟨h.1, Nat.le_trans bkB_le h.2.1, hL0, h.2.2.2.1, h.2.2.2.2.1, fun q => (by cases q)⟩
  · rw [if_neg e] at ht
    subst ht
    have eb : bkB bg n0 = bg := by unfold bkB; rw [if_neg e]
    rw [eb]
    exact h
theorem forms_join {rl2 bg2 st2 : Nat} {on2 : Bool} {rc2 ta : Nat → Int32} {fa mk k : Int32} {u1 : Int32 × Int32 × Bool × Nat} {u2 : Int32 × (Nat → Int32) × Bool × Nat} (h1 : u1 = if fmD mk k then (k, fa + 1, false, 0) else (mk, fa, on, st)) (h2 : u2 = if fmD mk k then (k, upd ta 6 (ta 6 + 1), false, 0) else (mk, ta, on2, st2)) (hI : INX cI cR L C rl bg st on ch rc pg pl own M) (hJ : INM L rl2 bg2 st2 on2 ch rc2) (hL0 : 0 < L) :
    u1.1 = u2.1 ∧ INX cI cR L C rl bg u1.2.2.2 u1.2.2.1 ch rc pg pl own M ∧ INM L rl2 bg2 u2.2.2.2 u2.2.2.1 ch rc2 := by
  by_cases e : fmD mk k = true
  · rw [if_pos e] at h1 h2
    subst h1 h2
    exact ⟨rfl, hI.fresh hL0, hJ.fresh hL0⟩
  · rw [if_neg e] at h1 h2
    subst h1 h2
    exact ⟨rfl, hI, hJ⟩
end IV
