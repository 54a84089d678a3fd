/-! the pages as a picture: M page line column; whose cell is whose -/
def uq (pl : va_W) : Prop := ∀ (i j : Nat) (x y : Nat × va_E), pl[i]? = some x → pl[j]? = some y → x.1 = y.1 → i = j
theorem uqX {A : Nat → Prop} {cI cP : ClassId} {x aC aT aR aP : Nat} {L C rl bg on st mk rp sp sc sk fa : Int32} {ch tr rc : Nat → Int32} {pg : Nat → Option Nat} {pl : va_W} (h : va_D A (wX cI cP x aC aT aR aP L C rl bg on st mk rp sp sc sk fa ch tr rc pg pl)) : uq pl := fun i j p q hi hj e => by
  have := h.1 (i + 5) (j + 5) p q hi hj e
  omega
theorem uq.same {pl : va_W} (h : uq pl) {i j a : Nat} {e e' : va_E} (hi : pl[i]? = some (a, e)) (hj : pl[j]? = some (a, e')) : e = e' := by
  have := h i j _ _ hi hj rfl
  subst this
  exact (Prod.mk.inj (Option.some.inj (hi.symm.trans hj))).2
abbrev eRow (sa : Nat) : va_E := .inr (2, [.ref sa])
abbrev eSg (cI : ClassId) (C : Nat) (f : Nat → Int32) : va_E := .inl (cI, C, .inl f)
abbrev ePg (C ra : Nat) : va_E := .inr (1, [.ref ra, .int (nI C)])
abbrev eRs (cR : ClassId) (L : Nat) (g : Nat → Option Nat) : va_E := .inl (cR, L, .inr (.inr (.inr (.inr g))))
def rowOK (cI : ClassId) (pl : va_W) (own : Nat → Nat × Nat) (C b : Nat) (r : Nat → Int32) : Prop := ∃ (sa : Nat) (f : Nat → Int32) (kb ks : Nat), pl[kb]? = some (b, eRow sa) ∧ pl[ks]? = some (sa, eSg cI C f) ∧ own sa = (b, 0) ∧ ∀ c, c < C → f c = r c
def lineOK (cI : ClassId) (pl : va_W) (own : Nat → Nat × Nat) (C ra : Nat) (g : Nat → Option Nat) (i : Nat) (r : Nat → Int32) : Prop := (g i = none ∧ ∀ c, c < C → r c = 32) ∨ ∃ b, g i = some b ∧ own b = (ra, i) ∧ rowOK cI pl own C b r
def pageOK (cI cR : ClassId) (pl : va_W) (own : Nat → Nat × Nat) (L C a : Nat) (m : Nat → Nat → Int32) : Prop := ∃ (ra : Nat) (g : Nat → Option Nat) (ka kr : Nat), pl[ka]? = some (a, ePg C ra) ∧ pl[kr]? = some (ra, eRs cR L g) ∧ own ra = (a, 0) ∧ ∀ i, i < L → lineOK cI pl own C ra g i (m i)
def PI (cI cR : ClassId) (pl : va_W) (own : Nat → Nat × Nat) (L C bg : Nat) (pg : Nat → Option Nat) (M : Nat → Nat → Nat → Int32) : Prop := ∀ q, q < bg → ∃ a, pg q = some a ∧ pageOK cI cR pl own L C a (M q)
/-- the printer stands on a page that no other place holds -/
def CS (on : Bool) (bg : Nat) (pg : Nat → Option Nat) : Prop := on = true → 0 < bg ∧ ∀ q, q + 1 < bg → pg q ≠ pg (bg - 1)
section PIC
variable {cI cR : ClassId} {pl pl' : va_W} {own own' : Nat → Nat × Nat} {L C : Nat}
theorem rowOK.mono {P : Nat → Prop} (hk : ∀ (k : Nat) (e : Nat × va_E), pl[k]? = some e → P e.1 → ∃ k' : Nat, pl'[k']? = some e) (ho : ∀ (k : Nat) (e : Nat × va_E), pl[k]? = some e → own' e.1 = own e.1) {b : Nat} {r : Nat → Int32} (hb : P b) (hs : ∀ (sa k : Nat) (f : Nat → Int32), pl[k]? = some (sa, eSg cI C f) → own sa = (b, 0) → P sa) (h : rowOK cI pl own C b r) : rowOK cI pl' own' C b r := by
  obtain ⟨sa, f, kb, ks, h1, h2, h3, h4⟩ := h
  obtain ⟨kb', h1'⟩ := hk kb _ h1 hb
  obtain ⟨ks', h2'⟩ := hk ks _ h2 (hs sa ks f h2 h3)
  exact ⟨sa, f, kb', ks', h1', h2', (ho ks _ h2).trans h3, h4⟩
theorem lineOK.mono {P : Nat → Prop} (hk : ∀ (k : Nat) (e : Nat × va_E), pl[k]? = some e → P e.1 → ∃ k' : Nat, pl'[k']? = some e) (ho : ∀ (k : Nat) (e : Nat × va_E), pl[k]? = some e → own' e.1 = own e.1) {ra i : Nat} {g g' : Nat → Option Nat} {r : Nat → Int32} (hg : g' i = g i) (hb : ∀ (b k sa : Nat), pl[k]? = some (b, eRow sa) → own b = (ra, i) → P b) (hs : ∀ (b sa k : Nat) (f : Nat → Int32), own b = (ra, i) → pl[k]? = some (sa, eSg cI C f) → own sa = (b, 0) → P sa) (h : lineOK cI pl own C ra g i r) : lineOK cI pl' own' C ra g' i r := by
  rcases h with ⟨h1, h2⟩ | ⟨b, h1, h2, h3⟩
  · exact Or.inl ⟨hg.trans h1, h2⟩
  · have h3' := h3
    obtain ⟨sa, f, kb, ks, g1, -⟩ := h3'
    exact Or.inr ⟨b, hg.trans h1, (ho kb _ g1).trans h2, h3.mono hk ho (hb b kb sa g1 h2) (fun sa k f q1 q2 => hs b sa k f h2 q1 q2)⟩
theorem pageOK.mono {P : Nat → Prop} (hk : ∀ (k : Nat) (e : Nat × va_E), pl[k]? = some e → P e.1 → ∃ k' : Nat, pl'[k']? = some e) (ho : ∀ (k : Nat) (e : Nat × va_E), pl[k]? = some e → own' e.1 = own e.1) {a : Nat} {m : Nat → Nat → Int32} (ha : P a) (hr : ∀ (ra k : Nat) (g : Nat → Option Nat), pl[k]? = some (ra, eRs cR L g) → own ra = (a, 0) → P ra) (hb : ∀ (ra i b k sa : Nat), own ra = (a, 0) → pl[k]? = some (b, eRow sa) → own b = (ra, i) → P b) (hs : ∀ (ra i b sa k : Nat) (f : Nat → Int32), own ra = (a, 0) → own b = (ra, i) → pl[k]? = some (sa, eSg cI C f) → own sa = (b, 0) → P sa) (h : pageOK cI cR pl own L C a m) : pageOK cI cR pl' own' L C a m := by
  obtain ⟨ra, g, ka, kr, h1, h2, h3, h4⟩ := h
  obtain ⟨ka', h1'⟩ := hk ka _ h1 ha
  obtain ⟨kr', h2'⟩ := hk kr _ h2 (hr ra kr g h2 h3)
  exact ⟨ra, g, ka', kr', h1', h2', (ho kr _ h2).trans h3, fun i hi => (h4 i hi).mono hk ho rfl (fun b k sa q1 q2 => hb ra i b k sa h3 q1 q2) (fun b sa k f q0 q1 q2 => hs ra i b sa k f h3 q0 q1 q2)⟩
theorem pageOK.congr {a : Nat} {m m' : Nat → Nat → Int32} (hm : ∀ i c, i < L → c < C → m' i c = m i c) (h : pageOK cI cR pl own L C a m) : pageOK cI cR pl own L C a m' := by
  obtain ⟨ra, g, ka, kr, h1, h2, h3, h4⟩ := h
  refine ⟨ra, g, ka, kr, h1, h2, h3, fun i hi => ?_⟩
  rcases h4 i hi with ⟨q1, q2⟩ | ⟨b, q1, q2, sa, f, kb, ks, q3, q4, q5, q6⟩
  · exact Or.inl ⟨q1, fun c hc => (hm i c hi hc).trans (q2 c hc)⟩
  · exact Or.inr ⟨b, q1, q2, sa, f, kb, ks, q3, q4, q5, fun c hc => (q6 c hc).trans (hm i c hi hc).symm⟩
theorem PI.congr {bg bg' : Nat} {pg pg' : Nat → Option Nat} {M M' : Nat → Nat → Nat → Int32} (hb : bg' ≤ bg) (hp : ∀ q, q < bg' → pg' q = pg q) (hm : ∀ q i c, q < bg' → i < L → c < C → M' q i c = M q i c) (h : PI cI cR pl own L C bg pg M) : PI cI cR pl own L C bg' pg' M' := fun q hq => by
  obtain ⟨a, h1, h2⟩ := h q (by omega)
  exact ⟨a, (hp q hq).trans h1, h2.congr (fun i c hi hc => hm q i c hq hi hc)⟩
/-- a copy of a page comes behind all -/
theorem PI.copy {bg q0 : Nat} {pg : Nat → Option Nat} {M : Nat → Nat → Nat → Int32} (h : PI cI cR pl own L C bg pg M) (hq : q0 < bg) : PI cI cR pl own L C (bg + 1) (va_up pg bg (pg q0)) (va_up M bg (M q0)) := fun q hq' => by
  by_cases e : q = bg
  · subst e
    rw [va_up_self, va_up_self]
    exact h q0 hq
  · rw [va_up_ne _ _ e, va_up_ne _ _ e]
    exact h q (by omega)
/-- pages from bg on are blank -/
def MB (bg : Nat) (M : Nat → Nat → Nat → Int32) : Nat → Nat → Nat → Int32 := fun q i c => if q < bg then M q i c else 32
theorem MB_MB {bg b2 : Nat} (h : bg ≤ b2) (M : Nat → Nat → Nat → Int32) : MB b2 (MB bg M) = MB bg M := by
  funext q i c
  unfold MB
  by_cases h1 : q < b2
  · rw [if_pos h1]
  · rw [if_neg h1, if_neg (by omega)]
theorem uq.pre {t : va_W} (h : uq (pl ++ t)) : uq pl := fun i j x y hi hj e => h i j x y (apL hi) (apL hj) e
theorem uq.fresh {t : va_W} (h : uq (pl ++ t)) {k j : Nat} {e x : Nat × va_E} (hk : pl[k]? = some e) (hj : t[j]? = some x) : e.1 ≠ x.1 := fun q => by
  have h1 := h k (pl.length + j) e x (apL hk) (apR j hj) q
  have h2 := (List.getElem?_eq_some_iff.mp hk).1
  omega
/-- a new blank page comes behind all -/
theorem PI.fresh {bg a ra : Nat} {pg : Nat → Option Nat} {M : Nat → Nat → Nat → Int32} (h : PI cI cR pl own L C bg pg M) (hu : uq (pl ++ [(a, ePg C ra), (ra, eRs cR L (fun _ => none))])) : PI cI cR (pl ++ [(a, ePg C ra), (ra, eRs cR L (fun _ => none))]) (va_up own ra (a, 0)) L C (bg + 1) (va_up pg bg (some a)) (MB bg M) ∧ ∀ q, q < bg → va_up pg bg (some a) q ≠ some a := by
  have ho : ∀ (k : Nat) (e : Nat × va_E), pl[k]? = some e → va_up own ra (a, 0) e.1 = own e.1 := fun k e hk => va_up_ne _ _ (hu.fresh hk (j := 1) rfl)
  refine ⟨fun q hq => ?_, fun q hq => ?_⟩
  · by_cases e : q = bg
    · subst e
      refine ⟨a, va_up_self _ _ _, ra, fun _ => none, pl.length + 0, pl.length + 1, apR 0 rfl, apR 1 rfl, va_up_self _ _ _, fun i hi => Or.inl ⟨rfl, fun c hc => ?_⟩⟩
      unfold MB
      rw [if_neg (by omega)]
    · obtain ⟨a1, h1, h2⟩ := h q (by omega)
      refine ⟨a1, (va_up_ne _ _ e).trans h1, pageOK.congr (m := M q) (fun i c _ _ => by unfold MB; rw [if_pos (by omega)]) (h2.mono (P := fun _ => True) (fun k e hk _ => ⟨k, apL hk⟩) ho trivial (fun _ _ _ _ _ => trivial) (fun _ _ _ _ _ _ _ _ => trivial) (fun _ _ _ _ _ _ _ _ _ _ => trivial))⟩
  · rw [va_up_ne _ _ (by omega)]
    obtain ⟨a1, h1, ra1, g1, ka1, kr1, h2, -⟩ := h q hq
    rw [h1]
    intro q9
    exact hu.fresh h2 (j := 0) rfl (Option.some.inj q9)
/-- a sign is joined on the page that no other place holds: its row is there -/
def MJ (M : Nat → Nat → Nat → Int32) (q0 i0 k0 : Nat) (v : Int32) : Nat → Nat → Nat → Int32 := fun q i c => if q = q0 ∧ i = i0 ∧ c = k0 then mx (M q i c) v else M q i c
theorem pageOK.joinOld {a ra i k b sa ka kr kb ks : Nat} {g : Nat → Option Nat} {f : Nat → Int32} {m : Nat → Nat → Int32} {v : Int32} (hu : uq pl) (h : pageOK cI cR pl own L C a m) (hka : pl[ka]? = some (a, ePg C ra)) (hkr : pl[kr]? = some (ra, eRs cR L g)) (hg : g i = some b) (hkb : pl[kb]? = some (b, eRow sa)) (hks : pl[ks]? = some (sa, eSg cI C f)) (hra : own ra = (a, 0)) (hbo : own b = (ra, i)) (hsa : own sa = (b, 0)) (hf : ∀ c, c < C → f c = m i c) (hi : i < L) (hk : k < C) :
    pageOK cI cR (pl.set ks (sa, eSg cI C (upd f k (mx (f k) v)))) own L C a (fun i' c => if i' = i ∧ c = k then mx (m i' c) v else m i' c) := by
  obtain ⟨ra', g', ka', kr', h1, h2, h3, h4⟩ := h
  have e1 := hu.same hka h1
  have e1 : ra = ra' := by simpa [ePg] using e1
  subst e1
  have e2 := hu.same hkr h2
  have e2 : g = g' := by simpa [eRs] using e2
  subst e2
  have keep : ∀ (k' : Nat) (e : Nat × va_E), pl[k']? = some e → e.1 ≠ sa → (pl.set ks (sa, eSg cI C (upd f k (mx (f k) v))))[k']? = some e := fun k' e hk' hne => setNe hk' hks (fun q => hne (by rw [q]))
  have nP : ∀ (z k' : Nat) (e : va_E), pl[k']? = some (z, e) → (∀ f', e ≠ eSg cI C f') → z ≠ sa := fun z k' e hz hne q => by
    subst q
    exact hne f (hu.same hz hks)
  refine ⟨ra, g, ka, kr, keep ka _ hka (nP a ka _ hka (fun f' q => by cases q)), keep kr _ hkr (nP ra kr _ hkr (fun f' q => by cases q)), hra, fun j hj => ?_⟩
  by_cases ej : j = i
  · subst ej
    refine Or.inr ⟨b, hg, hbo, sa, upd f k (mx (f k) v), kb, ks, keep kb _ hkb (nP b kb _ hkb (fun f' q => by cases q)), setSelf hks, hsa, fun c hc => ?_⟩
    by_cases ec : c = k
    · subst ec
      show upd f c (mx (f c) v) c = if j = j ∧ c = c then mx (m j c) v else m j c
      rw [if_pos ⟨rfl, rfl⟩, ← hf c hc]
      exact if_pos rfl
    · show upd f k (mx (f k) v) c = if j = j ∧ c = k then mx (m j c) v else m j c
      rw [if_neg (fun q => ec q.2), pk_un ec]
      exact hf c hc
  · have hl : lineOK cI (pl.set ks (sa, eSg cI C (upd f k (mx (f k) v)))) own C ra g j (m j) := (h4 j hj).mono (P := fun z => z ≠ sa) (fun k' e hk' hne => ⟨k', keep k' e hk' hne⟩) (fun _ _ _ => rfl) rfl (fun b' k' sa' q1 _ => nP b' k' _ q1 (fun f' q => by cases q)) (fun b' sa' k' f' q0 q1 q2 q => by
      subst q
      rw [hsa] at q2
      have : b = b' := (Prod.mk.inj q2).1
      subst this
      rw [hbo] at q0
      exact ej (Prod.mk.inj q0).2.symm)
    have e9 : (fun c => if j = i ∧ c = k then mx (m j c) v else m j c) = m j := funext fun c => if_neg (fun q => ej q.1)
    show lineOK cI _ own C ra g j (fun c => if j = i ∧ c = k then mx (m j c) v else m j c)
    rw [e9]
    exact hl
theorem PI.joinOld {bg q0 a ra i k b sa ka kr kb ks : Nat} {pg : Nat → Option Nat} {M : Nat → Nat → Nat → Int32} {g : Nat → Option Nat} {f : Nat → Int32} {v : Int32} (hu : uq pl) (h : PI cI cR pl own L C bg pg M) (hq : q0 < bg) (hpa : pg q0 = some a) (hsep : ∀ q, q < bg → q ≠ q0 → pg q ≠ some a) (hka : pl[ka]? = some (a, ePg C ra)) (hkr : pl[kr]? = some (ra, eRs cR L g)) (hg : g i = some b) (hkb : pl[kb]? = some (b, eRow sa)) (hks : pl[ks]? = some (sa, eSg cI C f)) (hra : own ra = (a, 0)) (hbo : own b = (ra, i)) (hsa : own sa = (b, 0)) (hf : ∀ c, c < C → f c = M q0 i c) (hi : i < L) (hk : k < C) :
    PI cI cR (pl.set ks (sa, eSg cI C (upd f k (mx (f k) v)))) own L C bg pg (MJ M q0 i k v) := by
  have keep : ∀ (k' : Nat) (e : Nat × va_E), pl[k']? = some e → e.1 ≠ sa → (pl.set ks (sa, eSg cI C (upd f k (mx (f k) v))))[k']? = some e := fun k' e hk' hne => setNe hk' hks (fun q => hne (by rw [q]))
  have nP : ∀ (z k' : Nat) (e : va_E), pl[k']? = some (z, e) → (∀ f', e ≠ eSg cI C f') → z ≠ sa := fun z k' e hz hne q => by
    subst q
    exact hne f (hu.same hz hks)
  intro q hqb
  obtain ⟨a1, h1, h2⟩ := h q hqb
  refine ⟨a1, h1, ?_⟩
  by_cases e : q = q0
  · subst e
    have : a1 = a := Option.some.inj (h1.symm.trans hpa)
    subst this
    refine pageOK.congr (fun i' c _ _ => ?_) (h2.joinOld (k := k) (v := v) hu hka hkr hg hkb hks hra hbo hsa hf hi hk)
    unfold MJ
    by_cases e2 : i' = i ∧ c = k
    · rw [if_pos ⟨rfl, e2⟩, if_pos e2]
    · rw [if_neg (fun z => e2 z.2), if_neg e2]
  · have hne : a1 ≠ a := fun z => hsep q hqb e (z ▸ h1)
    have hm : MJ M q0 i k v q = M q := by funext i' c; unfold MJ; rw [if_neg (fun z => e z.1)]
    rw [hm]
    have h2' := h2
    obtain ⟨ra1, g1, ka1, kr1, p1, p2, -⟩ := h2'
    refine h2.mono (P := fun z => z ≠ sa) (fun k' e hk' hn => ⟨k', keep k' e hk' hn⟩) (fun _ _ _ => rfl) (nP a1 ka1 _ p1 (fun f' q => by cases q)) (fun ra' k' g' q1 _ => nP ra' k' _ q1 (fun f' q => by cases q)) (fun ra' i' b' k' sa' _ q1 _ => nP b' k' _ q1 (fun f' q => by cases q)) (fun ra' i' b' sa' k' f' q0 q1 q2 q3 q => ?_)
    subst q
    rw [hsa] at q3
    have e3 : b = b' := (Prod.mk.inj q3).1
    subst e3
    rw [hbo] at q1
    have e4 : ra = ra' := (Prod.mk.inj q1).1
    subst e4
    rw [hra] at q0
    exact hne (Prod.mk.inj q0).1.symm
/-- .. its row is made -/
theorem PI.joinNew {bg q0 a ra i k b sa ka kr : Nat} {pg : Nat → Option Nat} {M : Nat → Nat → Nat → Int32} {g : Nat → Option Nat} {f : Nat → Int32} {v : Int32} (hu : uq pl) (hu2 : uq (pl.set kr (ra, eRs cR L (va_up g i (some b))) ++ [(b, eRow sa), (sa, eSg cI C f)])) (h : PI cI cR pl own L C bg pg M) (hq : q0 < bg) (hpa : pg q0 = some a) (hsep : ∀ q, q < bg → q ≠ q0 → pg q ≠ some a) (hka : pl[ka]? = some (a, ePg C ra)) (hkr : pl[kr]? = some (ra, eRs cR L g)) (hg : g i = none) (hra : own ra = (a, 0)) (hf : ∀ c, c < C → f c = if c = k then mx 32 v else 32) (hi : i < L) (hk : k < C) :
    PI cI cR (pl.set kr (ra, eRs cR L (va_up g i (some b))) ++ [(b, eRow sa), (sa, eSg cI C f)]) (va_up (va_up own b (ra, i)) sa (b, 0)) L C bg pg (MJ M q0 i k v) := by
  have keep : ∀ (k' : Nat) (e : Nat × va_E), pl[k']? = some e → e.1 ≠ ra → (pl.set kr (ra, eRs cR L (va_up g i (some b))) ++ [(b, eRow sa), (sa, eSg cI C f)])[k']? = some e := fun k' e hk' hne => apL (setNe hk' hkr (fun q => hne (by rw [q])))
  have same : ∀ (k' : Nat) (e : Nat × va_E), pl[k']? = some e → ∃ e' : va_E, (pl.set kr (ra, eRs cR L (va_up g i (some b))))[k']? = some (e.1, e') := fun k' e hk' => by
    by_cases q : k' = kr
    · subst q
      refine ⟨eRs cR L (va_up g i (some b)), ?_⟩
      rw [Option.some.inj (hk'.symm.trans hkr)]
      exact setSelf hkr
    · exact ⟨e.2, by rw [List.getElem?_set_ne (Ne.symm q)]; exact hk'⟩
  have ho : ∀ (k' : Nat) (e : Nat × va_E), pl[k']? = some e → va_up (va_up own b (ra, i)) sa (b, 0) e.1 = own e.1 := fun k' e hk' => by
    obtain ⟨e', he'⟩ := same k' e hk'
    rw [va_up_ne _ _ (hu2.fresh he' (j := 1) rfl), va_up_ne _ _ (hu2.fresh he' (j := 0) rfl)]
  have nP : ∀ (z k' : Nat) (e : va_E), pl[k']? = some (z, e) → (∀ g', e ≠ eRs cR L g') → z ≠ ra := fun z k' e hz hne q => by
    subst q
    exact hne g (hu.same hz hkr)
  have hbs : b ≠ sa := fun q => by
    have h9 := hu2 ((pl.set kr (ra, eRs cR L (va_up g i (some b)))).length + 0) ((pl.set kr (ra, eRs cR L (va_up g i (some b)))).length + 1) _ _ (apR 0 rfl) (apR 1 rfl) q
    omega
  intro q hqb
  obtain ⟨a1, h1, h2⟩ := h q hqb
  refine ⟨a1, h1, ?_⟩
  by_cases e : q = q0
  · subst e
    have : a1 = a := Option.some.inj (h1.symm.trans hpa)
    subst this
    obtain ⟨ra', g', ka', kr', p1, p2, p3, p4⟩ := h2
    have e1 := hu.same hka p1
    have e1 : ra = ra' := by simpa [ePg] using e1
    subst e1
    have e2 := hu.same hkr p2
    have e2 : g = g' := by simpa [eRs] using e2
    subst e2
    refine ⟨ra, va_up g i (some b), ka, kr, keep ka _ hka (nP a1 ka _ hka (fun g' q => by cases q)), apL (setSelf hkr), (ho kr _ hkr).trans hra, fun j hj => ?_⟩
    by_cases ej : j = i
    · subst ej
      refine Or.inr ⟨b, va_up_self _ _ _, by rw [va_up_ne _ _ hbs, va_up_self], sa, f, _, _, apR 0 rfl, apR 1 rfl, va_up_self _ _ _, fun c hc => ?_⟩
      rcases p4 j hj with ⟨-, q2⟩ | ⟨b', q1, -⟩
      · unfold MJ
        rw [hf c hc]
        by_cases ec : c = k
        · rw [if_pos ec, if_pos ⟨rfl, rfl, ec⟩, q2 c hc]
        · rw [if_neg ec, if_neg (fun z => ec z.2.2), q2 c hc]
      · rw [hg] at q1; cases q1
    · have hm : MJ M q i k v q j = M q j := by funext c; unfold MJ; rw [if_neg (fun z => ej z.2.1)]
      rw [hm]
      exact (p4 j hj).mono (P := fun z => z ≠ ra) (fun k' e hk' hn => ⟨k', keep k' e hk' hn⟩) ho (va_up_ne _ _ ej) (fun b' k' sa' q1 _ => nP b' k' _ q1 (fun g' q => by cases q)) (fun b' sa' k' f' _ q1 _ => nP sa' k' _ q1 (fun g' q => by cases q))
  · have hne : a1 ≠ a := fun z => hsep q hqb e (z ▸ h1)
    have hm : MJ M q0 i k v q = M q := by funext i' c; unfold MJ; rw [if_neg (fun z => e z.1)]
    rw [hm]
    have h2' := h2
    obtain ⟨ra1, g1, ka1, kr1, p1, p2, -⟩ := h2'
    refine h2.mono (P := fun z => z ≠ ra) (fun k' e hk' hn => ⟨k', keep k' e hk' hn⟩) ho (nP a1 ka1 _ p1 (fun g' q => by cases q)) (fun ra' k' g' q1 q2 q => ?_) (fun ra' i' b' k' sa' _ q1 _ => nP b' k' _ q1 (fun g' q => by cases q)) (fun ra' i' b' sa' k' f' _ _ q1 _ => nP sa' k' _ q1 (fun g' q => by cases q))
    subst q
    rw [hra] at q2
    exact hne (Prod.mk.inj q2).1.symm
end PIC
