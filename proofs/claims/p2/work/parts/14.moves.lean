/-! moving, beginning pages, printing -/
def mv1 (L : Nat) (t : Nat × Nat × Bool) : Nat × Nat × Bool := if t.2.1 + 1 < L then (t.1, t.2.1 + 1, t.2.2) else ((if t.2.2 then t.1 else t.1 + 1), 0, false)
def mvn (L : Nat) : Nat → Nat × Nat × Bool → Nat × Nat × Bool
  | 0, t => t
  | n + 1, t => mv1 L (mvn L n t)
theorem mv1_le (L : Nat) (t : Nat × Nat × Bool) : t.1 ≤ (mv1 L t).1 := by
  unfold mv1
  by_cases h : t.2.1 + 1 < L
  · rw [if_pos h]; exact Nat.le_refl _
  · rw [if_neg h]; dsimp only; split <;> omega
theorem mvn_le {L i n : Nat} (h : i ≤ n) (t : Nat × Nat × Bool) : (mvn L i t).1 ≤ (mvn L n t).1 := by
  induction n with
  | zero => rw [Nat.le_zero.mp h]; exact Nat.le_refl _
  | succ n ih =>
    by_cases e : i = n + 1
    · rw [e]; exact Nat.le_refl _
    · exact Nat.le_trans (ih (by omega)) (mv1_le L _)
theorem mvn_st {L : Nat} (hL : 0 < L) (n : Nat) (t : Nat × Nat × Bool) (h : t.2.1 < L) : (mvn L n t).2.1 < L := by
  induction n with
  | zero => exact h
  | succ n ih =>
    show (mv1 L (mvn L n t)).2.1 < L
    unfold mv1
    by_cases q : (mvn L n t).2.1 + 1 < L
    · rw [if_pos q]; exact q
    · rw [if_neg q]; exact hL
def bgB (bg : Nat) (on : Bool) : Nat := if on then bg else bg + 1
def rowT (cR : ClassId) (pl : va_W) (L C a i : Nat) : Prop := ∃ (ra : Nat) (g : Nat → Option Nat) (ka kr b : Nat), pl[ka]? = some (a, ePg C ra) ∧ pl[kr]? = some (ra, eRs cR L g) ∧ g i = some b
def MT (M : Nat → Nat → Nat → Int32) (q0 i k : Nat) (v : Int32) : Nat → Nat → Nat → Int32 := if v = 32 then M else MJ M q0 i k v
def spN (sp v : Int32) : Int32 := if v = 32 then sp else sp + 1
/-- the record printed as far as column n -/
def MP (M : Nat → Nat → Nat → Int32) (q0 i0 : Nat) (tr rc : Nat → Int32) (n : Nat) : Nat → Nat → Nat → Int32 := fun q i c => if q = q0 ∧ i = i0 ∧ c < n then mx (M q i c) (tr (rc c).toNatClampNeg) else M q i c
def cS (tr rc : Nat → Int32) (C : Nat) : Nat → Int32
  | 0 => 0
  | k + 1 => cS tr rc C k + (if C ≤ k then 0 else if tr (rc k).toNatClampNeg = 32 then 0 else 1)
def cC (C : Nat) : Nat → Int32
  | 0 => 0
  | k + 1 => cC C k + (if C ≤ k then 1 else 0)
def MG (L C bg : Nat) (M : Nat → Nat → Nat → Int32) : Prop := ∀ q i c, q < bg → i < L → c < C → ¬ M q i c < 32
theorem MG.blank {L C bg b2 : Nat} {M : Nat → Nat → Nat → Int32} (h : MG L C bg M) : MG L C b2 (MB bg M) := fun q i c _ hi hc => by
  unfold MB
  by_cases e : q < bg
  · rw [if_pos e]; exact h q i c e hi hc
  · rw [if_neg e]; decide
theorem mx32 {m : Int32} (h : ¬ m < 32) : mx m 32 = m := if_neg h
theorem MP_step {L C b1 q0 i0 k : Nat} {M : Nat → Nat → Nat → Int32} {tr rc : Nat → Int32} (hM : MG L C b1 M) (q i c : Nat) (hq : q < b1) (hi : i < L) (hc : c < C) : MP M q0 i0 tr rc (k + 1) q i c = MT (MP M q0 i0 tr rc k) q0 i0 k (tr (rc k).toNatClampNeg) q i c := by
  unfold MT
  by_cases e : q = q0 ∧ i = i0 ∧ c = k
  · obtain ⟨e1, e2, e3⟩ := e
    subst e1; subst e2; subst e3
    have hl : MP M q i tr rc (c + 1) q i c = mx (M q i c) (tr (rc c).toNatClampNeg) := if_pos ⟨rfl, rfl, Nat.lt_succ_self c⟩
    have hr : MP M q i tr rc c q i c = M q i c := if_neg (fun z => Nat.lt_irrefl _ z.2.2)
    rw [hl]
    by_cases hv : tr (rc c).toNatClampNeg = 32
    · rw [if_pos hv, hr, hv, mx32 (hM q i c hq hi hc)]
    · rw [if_neg hv]
      unfold MJ
      rw [if_pos ⟨rfl, rfl, rfl⟩, hr]
  · have h1 : (if tr (rc k).toNatClampNeg = 32 then MP M q0 i0 tr rc k else MJ (MP M q0 i0 tr rc k) q0 i0 k (tr (rc k).toNatClampNeg)) q i c = MP M q0 i0 tr rc k q i c := by
      by_cases hv : tr (rc k).toNatClampNeg = 32
      · rw [if_pos hv]
      · rw [if_neg hv]; exact if_neg e
    rw [h1]
    unfold MP
    by_cases h2 : q = q0 ∧ i = i0 ∧ c < k
    · rw [if_pos h2, if_pos ⟨h2.1, h2.2.1, by omega⟩]
    · rw [if_neg h2, if_neg (fun z => by
        by_cases e3 : c = k
        · exact e ⟨z.1, z.2.1, e3⟩
        · exact h2 ⟨z.1, z.2.1, by omega⟩)]
theorem MP_cut {C q0 i0 k : Nat} {M : Nat → Nat → Nat → Int32} {tr rc : Nat → Int32} (hk : C ≤ k) (q i c : Nat) (hc : c < C) : MP M q0 i0 tr rc (k + 1) q i c = MP M q0 i0 tr rc k q i c := by
  unfold MP
  by_cases h2 : q = q0 ∧ i = i0 ∧ c < k
  · rw [if_pos h2, if_pos ⟨h2.1, h2.2.1, by omega⟩]
  · rw [if_neg h2, if_neg (fun z => h2 ⟨z.1, z.2.1, by omega⟩)]
theorem MP_0 {q0 i0 : Nat} {M : Nat → Nat → Nat → Int32} {tr rc : Nat → Int32} : MP M q0 i0 tr rc 0 = M := by
  funext q i c
  exact if_neg (fun z => Nat.not_lt_zero _ z.2.2)

set_option maxHeartbeats 1000000 in
set_option maxRecDepth 100000 in
theorem c_X2_beginPage (l : Launch) {D : va_G} {cI cP cR cJ : ClassId} {x aC aT aR aP L C rl bg st : Nat} {on : Bool} {mk rp sp sc sk fa : Int32} {ch tr rc : Nat → Int32} {pg : Nat → Option Nat} {pl : va_W} {own : Nat → Nat × Nat} {M : Nat → Nat → Nat → Int32} {sz : Nat} (hbg : on = false → bg < 40) (hL : L ≤ 66) (hPI : PI cI cR pl own L C bg pg M) (hCS : CS on bg pg) : Met l yX2_beginPage wsX2_beginPage ({ frames := 2, cells := 2, slots := 68, locals := 37 }) (mu [.ref x] D cI cP cR cJ (wX cI cP x aC aT aR aP (nI L) (nI C) (nI rl) (nI bg) (zb on) (nI st) mk rp sp sc sk fa ch tr rc pg pl) sz) (qv D (fun (u : va_W × (Nat → Option Nat) × Nat) => ∃ own' : Nat → Nat × Nat, u.2.2 = bgB bg on ∧ (∀ q, q < bg → u.2.1 q = pg q) ∧ PI cI cR u.1 own' L C u.2.2 u.2.1 (MB bg M) ∧ CS true u.2.2 u.2.1) (fun u : va_W × (Nat → Option Nat) × Nat => wX cI cP x aC aT aR aP (nI L) (nI C) (nI rl) (nI u.2.2) (zb true) (nI st) mk rp sp sc sk fa ch tr rc u.2.1 u.1) (va_A (wX cI cP x aC aT aR aP (nI L) (nI C) (nI rl) (nI bg) (zb on) (nI st) mk rp sp sc sk fa ch tr rc pg pl) sz)) 2 68 (va_A (wX cI cP x aC aT aR aP (nI L) (nI C) (nI rl) (nI bg) (zb on) (nI st) mk rp sp sc sk fa ch tr rc pg pl) sz) := by
  refine Met.ofW (cc := cX2_beginPage) (maxL := 1) (ret := none) (by decide) rfl ?_
  intro p e s m args below meth c s₁ B hml hv
  obtain ⟨rfl, hsz, hP, hK, hD0⟩ := hv
  have hx := B.exec
  have hb := B.bytes
  have hr := B.returns
  have hts := atoms_spec (ws := wsX2_beginPage) B.pre
  have hown : s.vm.findClass RX2 = some m.cls := findClass_of_methodNamed B.named
  have hlocks := B.notSynchronized
  have hinX0 : ∀ w ∈ wsX00, w ∈ wsX2_beginPage := by decide +kernel
  have hinX2 : ∀ w ∈ wsX20, w ∈ wsX2_beginPage := by decide +kernel
  subst hsz
  have hD := hD0.self (sz := s.heap.size)
  generalize hAe : va_A (wX cI cP x aC aT aR aP (nI L) (nI C) (nI rl) (nI bg) (zb on) (nI st) mk rp sp sc sk fa ch tr rc pg pl) s.heap.size = A at hD ⊢
  have hA : ∀ q : Nat, s.heap.size ≤ q → A q := fun q h => by rw [← hAe]; exact Or.inr h
  have hS : va_S A s.heap s.heap [] := va_S.rf
  have hP : va_P D vwCl (wX cI cP x aC aT aR aP (nI L) (nI C) (nI rl) (nI bg) (zb on) (nI st) mk rp sp sc sk fa ch tr rc pg pl) s.heap := hP
  have hl := lv_entry ([.ref x]) (n := 1) (Nat.le_of_ble_eq_true rfl)
  rw [lg_entry_eq]
  generalize (lg_sl ([.ref x]) ++ List.replicate (1 - (lg_sl ([.ref x])).length) Slot.unset).toArray = ls at hl ⊢
  have hl : lv_has ls 1 [(0, .ref x)] := hl
  refine lv_aload_n hx hb dX2_beginPage_0 rfl (lv_at hl 0 rfl) ?_
  refine va_get (D := D) (ci := 3) (v := .int (zb on)) (C := RX2) (T := TX2) (N := 16) hx hb hts hinX2 hown hK.1 hP 0 rfl rfl 8 (by decide) (hts (.fieldLink RX2 146 "PrinterRows" "onBegunPage" "Z") (by decide +kernel)) (fun _ h9 => h9) rfl dX2_beginPage_1 ?_
  refine lv_if_ne (tgt := 31) hx hb dX2_beginPage_4 (by decide) (fun c_4 => ?_) (fun c_4 => ?_)
  ·
    obtain rfl : on = true := zb1.mp c_4
    refine W.widen (k := 2) (n := 68) (by omega) (by omega) ?_
    exact W.vret hx hb hr (fun t ht hW => ⟨⟨(pl, pg, bg), rfl, ⟨own, rfl, fun _ _ => rfl, PI.congr (Nat.le_refl _) (fun _ _ => rfl) (fun q i c hq _ _ => by unfold MB; rw [if_pos hq]) hPI, hCS⟩, by rw [ht]; exact hP, hD⟩, hS.F ht⟩) hS.2.2 dX2_beginPage_31
  ·
    obtain rfl : on = false := zb0.mp c_4
    have hb40 := hbg rfl
    refine lv_aload_n hx hb dX2_beginPage_7 rfl (lv_at hl 0 rfl) ?_
    refine va_new (ci := 1) (fs := [.null, .int 0]) (C := RX0) (T := TX0) (N := 2) hx hb hts hinX0 tyX0 tyX0_ok hown (hts (.classLink RX2 36 RX0) (by decide +kernel)) (hts (.instantiable RX0 2) (by decide +kernel)) (hts (.initialized RX0) (by decide +kernel)) hK.1 hP hD hS hA rfl (fun j hj => by rcases (show j = 0 ∨ j = 1 by omega) with rfl | rfl <;> rfl) (by show 0 + 1 ≤ 2; omega) (by show 0 + 2 ≤ 68; omega) dX2_beginPage_8 (fun a H hP hD hS => ?_)
    have hP : va_P D vwCl (wX cI cP x aC aT aR aP (nI L) (nI C) (nI rl) (nI bg) (zb false) (nI st) mk rp sp sc sk fa ch tr rc pg (pl ++ [(a, .inr (1, [.null, .int 0]))])) H := hP
    have hD : va_D A (wX cI cP x aC aT aR aP (nI L) (nI C) (nI rl) (nI bg) (zb false) (nI st) mk rp sp sc sk fa ch tr rc pg (pl ++ [(a, .inr (1, [.null, .int 0]))])) := hD
    refine lv_dup hx hb dX2_beginPage_11 rfl ?_
    refine lv_aload_n hx hb dX2_beginPage_12 rfl (lv_at hl 0 rfl) ?_
    refine va_get (D := D) (ci := 3) (v := .int (nI L)) (C := RX2) (T := TX2) (N := 16) hx hb hts hinX2 hown hK.1 hP 0 rfl rfl 0 (by decide) (hts (.fieldLink RX2 13 "PrinterRows" "lines" "I") (by decide +kernel)) (fun _ h9 => h9) rfl dX2_beginPage_13 ?_
    refine lv_aload_n hx hb dX2_beginPage_16 rfl (lv_at hl 0 rfl) ?_
    refine va_get (D := D) (ci := 3) (v := .int (nI C)) (C := RX2) (T := TX2) (N := 16) hx hb hts hinX2 hown hK.1 hP 0 rfl rfl 1 (by decide) (hts (.fieldLink RX2 17 "PrinterRows" "columns" "I") (by decide +kernel)) (fun _ h9 => h9) rfl dX2_beginPage_17 ?_
    have hP : va_P D vwCl (wX cI cP x aC aT aR aP (nI L) (nI C) (nI rl) (nI bg) (zb false) (nI st) mk rp sp sc sk fa ch tr rc pg pl ++ [(a, .inr (1, [.null, .int 0]))]) H := hP
    have hD : va_D A (wX cI cP x aC aT aR aP (nI L) (nI C) (nI rl) (nI bg) (zb false) (nI st) mk rp sp sc sk fa ch tr rc pg pl ++ [(a, .inr (1, [.null, .int 0]))]) := hD
    refine callSv (wr := wX cI cP x aC aT aR aP (nI L) (nI C) (nI rl) (nI bg) (zb false) (nI st) mk rp sp sc sk fa ch tr rc pg pl) (wc := [(a, .inr (1, [.null, .int 0]))]) (va_runI (As := [.int (nI L), .int (nI C)]) (rest := [.ref a, .ref x]) ⟨hx, hb, hml, hown, hts⟩ (c_X0_init l (C := C) hL) (cwI 2 hts gX2_beginPage_X0_init rfl rfl rfl (hts (.initialized RX0) (by decide +kernel)) (hts (.methodLink RX2 160 yX0_init) (by decide +kernel)) (hts (.instanceMethod yX0_init) (by decide +kernel)) rfl (by decide +kernel) ⟨(Nat.le_of_ble_eq_true rfl), (Nat.le_of_ble_eq_true rfl)⟩) (mu_preS hK (sufP hP) (sufD hD)) rfl rfl hl.1 rfl (lv_room (Nat.le_of_ble_eq_true rfl)) dX2_beginPage_20 ⟨(Nat.le_of_ble_eq_true rfl), (Nat.le_of_ble_eq_true rfl)⟩) hP hD hS hA (fun ra H locs _ hP hD hS => ?_)
    have hP : va_P D vwCl (wX cI cP x aC aT aR aP (nI L) (nI C) (nI rl) (nI bg) (zb false) (nI st) mk rp sp sc sk fa ch tr rc pg (pl ++ [(a, ePg C ra), (ra, eRs cR L (fun _ => none))])) H := hP
    have hD : va_D A (wX cI cP x aC aT aR aP (nI L) (nI C) (nI rl) (nI bg) (zb false) (nI st) mk rp sp sc sk fa ch tr rc pg (pl ++ [(a, ePg C ra), (ra, eRs cR L (fun _ => none))])) := hD
    have hu := uqX hD
    have hnew := PI.fresh hPI hu
    refine callQv (va_runV (As := [.ref a]) (rest := []) ⟨hx, hb, hml, hown, hts⟩ (c_X2_addPage l hb40 a (pl.length + 0) [.ref ra, .int (nI C)] (apR 0 rfl)) (cwV 1 hts gX2_beginPage_X2_addPage rfl rfl rfl (by decide +kernel) ⟨(Nat.le_of_ble_eq_true rfl), (Nat.le_of_ble_eq_true rfl)⟩) (mu_pre hK hP hD rfl 0 rfl) rfl rfl hl.1 rfl (lv_room (Nat.le_of_ble_eq_true rfl)) dX2_beginPage_23 ⟨(Nat.le_of_ble_eq_true rfl), (Nat.le_of_ble_eq_true rfl)⟩) hD hS hA (fun u_23 H locs w_23 hP hD hS => ?_)
    have hP : va_P D vwCl (wX cI cP x aC aT aR aP (nI L) (nI C) (nI rl) (nI (bg + 1)) (zb false) (nI st) mk rp sp sc sk fa ch tr rc (va_up pg bg (some a)) (pl ++ [(a, ePg C ra), (ra, eRs cR L (fun _ => none))])) H := hP
    have hD : va_D A (wX cI cP x aC aT aR aP (nI L) (nI C) (nI rl) (nI (bg + 1)) (zb false) (nI st) mk rp sp sc sk fa ch tr rc (va_up pg bg (some a)) (pl ++ [(a, ePg C ra), (ra, eRs cR L (fun _ => none))])) := hD
    refine lv_aload_n hx hb dX2_beginPage_26 rfl (lv_at hl 0 rfl) ?_
    refine lv_iconst (v := 1) hx hb dX2_beginPage_27 (by decide +kernel) ?_
    refine va_put (D := D) (ci := 3) (v := .int 1) (ty := .boolean) (C := RX2) (T := TX2) (N := 16) hx hb hts hinX2 tyX2 tyX2_ok nmX2 hown hK.1 hP hD hS 0 rfl rfl 8 (by decide) (hts (.fieldLink RX2 146 "PrinterRows" "onBegunPage" "Z") (by decide +kernel)) (fun _ h9 => h9) rfl (by decide +kernel) (by decide +kernel) (by decide +kernel) (Nat.le_of_ble_eq_true rfl) dX2_beginPage_28 (fun H locs hP hD hS => ?_)
    have hP : va_P D vwCl (wX cI cP x aC aT aR aP (nI L) (nI C) (nI rl) (nI (bg + 1)) 1 (nI st) mk rp sp sc sk fa ch tr rc (va_up pg bg (some a)) (pl ++ [(a, ePg C ra), (ra, eRs cR L (fun _ => none))])) H := hP
    have hD : va_D A (wX cI cP x aC aT aR aP (nI L) (nI C) (nI rl) (nI (bg + 1)) 1 (nI st) mk rp sp sc sk fa ch tr rc (va_up pg bg (some a)) (pl ++ [(a, ePg C ra), (ra, eRs cR L (fun _ => none))])) := hD
    refine W.widen (k := 2) (n := 68) (by omega) (by omega) ?_
    exact W.vret hx hb hr (fun t ht hW => ⟨⟨(pl ++ [(a, ePg C ra), (ra, eRs cR L (fun _ => none))], va_up pg bg (some a), bg + 1), rfl, ⟨va_up own ra (a, 0), rfl, fun q hq => va_up_ne _ _ (Nat.ne_of_lt hq), hnew.1, fun _ => ⟨Nat.succ_pos _, fun q hq => by show va_up pg bg (some a) q ≠ va_up pg bg (some a) bg; rw [va_up_self]; exact hnew.2 q (Nat.lt_of_succ_lt_succ hq)⟩⟩, by rw [ht]; exact hP, hD⟩, hS.F ht⟩) hS.2.2 dX2_beginPage_31

set_option maxHeartbeats 1000000 in
set_option maxRecDepth 100000 in
theorem c_X2_moveBy (l : Launch) {D : va_G} {cI cP cR cJ : ClassId} {x aC aT aR aP L C rl bg st : Nat} {on : Bool} {mk rp sp sc sk fa : Int32} {ch tr rc : Nat → Int32} {pg : Nat → Option Nat} {pl : va_W} {own : Nat → Nat × Nat} {M : Nat → Nat → Nat → Int32} {sz : Nat} (hL0 : 0 < L) (hL : L ≤ 66) (hst : st < L) (hbg : bg ≤ 40) (hPI : PI cI cR pl own L C bg pg M) (hCS : CS on bg pg) (w : Nat) (hw : w ≤ 66) (hfit : (mvn L w (bg, st, on)).1 ≤ 40) : Met l yX2_moveBy wsX2_moveBy ({ frames := 3, cells := 132, slots := 4488, locals := 57 }) (mu [.ref x, .int (nI w)] D cI cP cR cJ (wX cI cP x aC aT aR aP (nI L) (nI C) (nI rl) (nI bg) (zb on) (nI st) mk rp sp sc sk fa ch tr rc pg pl) sz) (qv D (fun (u : va_W × (Nat → Option Nat) × Nat × Nat × Bool) => (u.2.2.1, u.2.2.2.1, u.2.2.2.2) = mvn L w (bg, st, on) ∧ (∀ q, q < bg → u.2.1 q = pg q) ∧ (∃ own' : Nat → Nat × Nat, PI cI cR u.1 own' L C u.2.2.1 u.2.1 (MB bg M)) ∧ CS u.2.2.2.2 u.2.2.1 u.2.1) (fun u : va_W × (Nat → Option Nat) × Nat × Nat × Bool => wX cI cP x aC aT aR aP (nI L) (nI C) (nI rl) (nI u.2.2.1) (zb u.2.2.2.2) (nI u.2.2.2.1) mk rp sp sc sk fa ch tr rc u.2.1 u.1) (va_A (wX cI cP x aC aT aR aP (nI L) (nI C) (nI rl) (nI bg) (zb on) (nI st) mk rp sp sc sk fa ch tr rc pg pl) sz)) 132 4488 (va_A (wX cI cP x aC aT aR aP (nI L) (nI C) (nI rl) (nI bg) (zb on) (nI st) mk rp sp sc sk fa ch tr rc pg pl) sz) := by
  refine Met.ofW (cc := cX2_moveBy) (maxL := 3) (ret := none) (by decide) rfl ?_
  intro p e s m args below meth c s₁ B hml hv
  obtain ⟨rfl, hsz, hP, hK, hD0⟩ := hv
  have hx := B.exec
  have hb := B.bytes
  have hr := B.returns
  have hts := atoms_spec (ws := wsX2_moveBy) B.pre
  have hown : s.vm.findClass RX2 = some m.cls := findClass_of_methodNamed B.named
  have hlocks := B.notSynchronized
  have hinX0 : ∀ w ∈ wsX00, w ∈ wsX2_moveBy := by decide +kernel
  have hinX2 : ∀ w ∈ wsX20, w ∈ wsX2_moveBy := by decide +kernel
  subst hsz
  have hD := hD0.self (sz := s.heap.size)
  generalize hAe : va_A (wX cI cP x aC aT aR aP (nI L) (nI C) (nI rl) (nI bg) (zb on) (nI st) mk rp sp sc sk fa ch tr rc pg pl) s.heap.size = A at hD ⊢
  have hA : ∀ q : Nat, s.heap.size ≤ q → A q := fun q h => by rw [← hAe]; exact Or.inr h
  have hS : va_S A s.heap s.heap [] := va_S.rf
  have hP : va_P D vwCl (wX cI cP x aC aT aR aP (nI L) (nI C) (nI rl) (nI bg) (zb on) (nI st) mk rp sp sc sk fa ch tr rc pg pl) s.heap := hP
  have hl := lv_entry ([.ref x, .int (nI w)]) (n := 3) (Nat.le_of_ble_eq_true rfl)
  rw [lg_entry_eq]
  generalize (lg_sl ([.ref x, .int (nI w)]) ++ List.replicate (3 - (lg_sl ([.ref x, .int (nI w)])).length) Slot.unset).toArray = ls at hl ⊢
  have hl : lv_has ls 3 [(0, .ref x), (1, .int (nI w))] := hl
  refine lv_iconst (v := 0) hx hb dX2_moveBy_0 (by decide +kernel) ?_
  refine lv_istore_n (lv' := [(2, .int 0), (0, .ref x), (1, .int (nI w))]) hx hb dX2_moveBy_1 rfl hl (by decide) rfl (fun ls hl => ?_)
  have loop : ∀ (n : Nat) (i bgv stv : Nat) (onv : Bool) (pgv : Nat → Option Nat) (plv : va_W) (H : Heap) (locs : List Loc) (ls : Array Slot), (i ≤ w) → (w - i < n) → ((bgv, stv, onv) = mvn L i (bg, st, on)) → (bg ≤ bgv) → (∀ q, q < bg → pgv q = pg q) → (∃ own' : Nat → Nat × Nat, PI cI cR plv own' L C bgv pgv (MB bg M)) → (CS onv bgv pgv) → va_P D vwCl (wX cI cP x aC aT aR aP (nI L) (nI C) (nI rl) (nI bgv) (zb onv) (nI stv) mk rp sp sc sk fa ch tr rc pgv plv) H → va_D A (wX cI cP x aC aT aR aP (nI L) (nI C) (nI rl) (nI bgv) (zb onv) (nI stv) mk rp sp sc sk fa ch tr rc pgv plv) → va_S A s.heap H locs → lv_has ls 3 [(0, .ref x), (1, .int (nI w)), (2, .int (nI i))] → W p l e (headSpec wsX2_moveBy ({ frames := 3, cells := 132, slots := 4488, locals := 57 })).room s m (([.ref x, .int (nI w)] : List Value).toArray) below meth c H locs (2 * i) (68 * i) (MQ below (qv D (fun (u : va_W × (Nat → Option Nat) × Nat × Nat × Bool) => (u.2.2.1, u.2.2.2.1, u.2.2.2.2) = mvn L w (bg, st, on) ∧ (∀ q, q < bg → u.2.1 q = pg q) ∧ (∃ own' : Nat → Nat × Nat, PI cI cR u.1 own' L C u.2.2.1 u.2.1 (MB bg M)) ∧ CS u.2.2.2.2 u.2.2.1 u.2.1) (fun u : va_W × (Nat → Option Nat) × Nat × Nat × Bool => wX cI cP x aC aT aR aP (nI L) (nI C) (nI rl) (nI u.2.2.1) (zb u.2.2.2.2) (nI u.2.2.2.1) mk rp sp sc sk fa ch tr rc u.2.1 u.1) (A)) (([.ref x, .int (nI w)] : List Value).toArray) s 132 4488 A) (F0 m 2 ls []) := by
    intro n
    induction n with
    | zero => intro i bgv stv onv pgv plv H locs ls hi hn hmv hbv hpg hPIv hCSv hP hD hS hl; exact absurd hn (Nat.not_lt_zero _)
    | succ n ih =>
      intro i bgv stv onv pgv plv H locs ls hi hn hmv hbv hpg hPIv hCSv hP hD hS hl
      refine lv_iload_n hx hb dX2_moveBy_2 rfl (lv_at hl 2 rfl) ?_
      refine lv_iload_n hx hb dX2_moveBy_3 rfl (lv_at hl 1 rfl) ?_
      refine lv_icmp_ge (tgt := 47) hx hb dX2_moveBy_4 (by decide) (fun c_4 => ?_) (fun c_4 => ?_)
      ·
        have hie : w = i := by have := (nI_leI (by omega) (by omega)).mp c_4; omega
        refine W.widen (k := 132) (n := 4488) (by omega) (by omega) ?_
        exact W.vret hx hb hr (fun t ht hW => ⟨⟨(plv, pgv, bgv, stv, onv), rfl, ⟨by rw [hie]; exact hmv, hpg, hPIv, hCSv⟩, by rw [ht]; exact hP, hD⟩, hS.F ht⟩) hS.2.2 dX2_moveBy_47
      ·
        have hlt : i < w := Nat.lt_of_not_le (fun h9 => c_4 (nI_le h9 (by omega)))
        have hsl : stv < L := by have h9 := mvn_st hL0 i (bg, st, on) hst; rw [← hmv] at h9; exact h9
        have hfi : (mvn L (i + 1) (bg, st, on)).1 ≤ 40 := Nat.le_trans (mvn_le (by omega) _) hfit
        refine lv_aload_n hx hb dX2_moveBy_7 rfl (lv_at hl 0 rfl) ?_
        refine va_get (D := D) (ci := 3) (v := .int (nI stv)) (C := RX2) (T := TX2) (N := 16) hx hb hts hinX2 hown hK.1 hP 0 rfl rfl 9 (by decide) (hts (.fieldLink RX2 125 "PrinterRows" "standLine" "I") (by decide +kernel)) (fun _ h9 => h9) rfl dX2_moveBy_8 ?_
        refine lv_iconst (v := 1) hx hb dX2_moveBy_11 (by decide +kernel) ?_
        refine lv_iadd hx hb dX2_moveBy_12 ?_
        refine lv_topi (fun x_12 ex_12 => ?_)
        obtain rfl : x_12 = nI (stv + 1) := ex_12.trans (nI_1 stv)
        refine lv_aload_n hx hb dX2_moveBy_13 rfl (lv_at hl 0 rfl) ?_
        refine va_get (D := D) (ci := 3) (v := .int (nI L)) (C := RX2) (T := TX2) (N := 16) hx hb hts hinX2 hown hK.1 hP 0 rfl rfl 0 (by decide) (hts (.fieldLink RX2 13 "PrinterRows" "lines" "I") (by decide +kernel)) (fun _ h9 => h9) rfl dX2_moveBy_14 ?_
        refine lv_icmp_ge (tgt := 33) hx hb dX2_moveBy_17 (by decide) (fun c_17 => ?_) (fun c_17 => ?_)
        ·
          have hs1 : ¬ stv + 1 < L := fun h9 => nI_ge h9 (by omega) c_17
          have hf2 : onv = false → bgv < 40 := fun h9 => by
            have h8 : mvn L (i + 1) (bg, st, on) = mv1 L (bgv, stv, onv) := by rw [hmv]; rfl
            rw [h8, mv1, if_neg hs1, h9] at hfi
            exact hfi
          obtain ⟨own9, hPI9⟩ := hPIv
          refine lv_aload_n hx hb dX2_moveBy_33 rfl (lv_at hl 0 rfl) ?_
          refine callQv (va_runV (As := []) (rest := []) ⟨hx, hb, hml, hown, hts⟩ (c_X2_beginPage l hf2 hL hPI9 hCSv) (cwV 0 hts gX2_moveBy_X2_beginPage rfl rfl rfl (by decide +kernel) ⟨(Nat.le_of_ble_eq_true rfl), (Nat.le_of_ble_eq_true rfl)⟩) (mu_pre hK hP hD rfl 0 rfl) rfl rfl hl.1 rfl (lv_room (Nat.le_of_ble_eq_true rfl)) dX2_moveBy_34 ⟨by show 2 * i + 2 ≤ 132; omega, by show 68 * i + 68 ≤ 4488; omega⟩) hD hS hA (fun u_34 H locs w_34 hP hD hS => ?_)
          obtain ⟨pl1, pg1, bg1⟩ := u_34
          obtain ⟨own1, hb1, hpg1, hPI1, hCS1⟩ := w_34
          dsimp only at hb1 hpg1 hPI1 hCS1
          have hP : va_P D vwCl (wX cI cP x aC aT aR aP (nI L) (nI C) (nI rl) (nI bg1) (zb true) (nI stv) mk rp sp sc sk fa ch tr rc pg1 pl1) H := hP
          have hD : va_D A (wX cI cP x aC aT aR aP (nI L) (nI C) (nI rl) (nI bg1) (zb true) (nI stv) mk rp sp sc sk fa ch tr rc pg1 pl1) := hD
          refine lv_aload_n hx hb dX2_moveBy_37 rfl (lv_at hl 0 rfl) ?_
          refine callQv (va_runV (As := []) (rest := []) ⟨hx, hb, hml, hown, hts⟩ (c_X2_standOnNewPage l) (cwV 0 hts gX2_moveBy_X2_standOnNewPage rfl rfl rfl (by decide +kernel) ⟨(Nat.le_of_ble_eq_true rfl), (Nat.le_of_ble_eq_true rfl)⟩) (mu_pre hK hP hD rfl 0 rfl) rfl rfl hl.1 rfl (lv_room (Nat.le_of_ble_eq_true rfl)) dX2_moveBy_38 ⟨by show 2 * i + 2 + 0 ≤ 132; omega, by show 68 * i + 68 + 0 ≤ 4488; omega⟩) hD hS hA (fun u_38 H locs w_38 hP hD hS => ?_)
          have hP : va_P D vwCl (wX cI cP x aC aT aR aP (nI L) (nI C) (nI rl) (nI bg1) (zb false) (nI 0) mk rp sp sc sk fa ch tr rc pg1 pl1) H := hP
          have hD : va_D A (wX cI cP x aC aT aR aP (nI L) (nI C) (nI rl) (nI bg1) (zb false) (nI 0) mk rp sp sc sk fa ch tr rc pg1 pl1) := hD
          refine lv_iinc (v := (nI (i + 1))) (lv' := [(2, .int (nI (i + 1))), (0, .ref x), (1, .int (nI w))]) hx hb dX2_moveBy_41 hl (k := 2) rfl (nI_1 i) (by decide) rfl (fun ls hl => ?_)
          refine W.widen (k := 2 * (i + 1)) (n := 68 * (i + 1)) (by omega) (by omega) ?_
          refine lv_goto (tgt := 2) hx hb dX2_moveBy_44 (by decide) ?_
          exact ih (i + 1) _ _ _ _ _ _ _ _ (by omega) (by omega) (by show _ = mv1 L (mvn L i (bg, st, on)); rw [← hmv, mv1, if_neg hs1, hb1]; rfl) (by rw [hb1]; unfold bgB; split <;> omega) (fun q hq => (hpg1 q (by omega)).trans (hpg q hq)) (⟨own1, by rw [MB_MB hbv] at hPI1; exact hPI1⟩) (fun h9 => by cases h9) hP hD hS (lv_sub hl [1, 2, 0] rfl)
        ·
          have hs1 : stv + 1 < L := Nat.lt_of_not_le (fun h9 => c_17 (nI_le h9 (by omega)))
          refine lv_aload_n hx hb dX2_moveBy_20 rfl (lv_at hl 0 rfl) ?_
          refine lv_dup hx hb dX2_moveBy_21 rfl ?_
          refine va_get (D := D) (ci := 3) (v := .int (nI stv)) (C := RX2) (T := TX2) (N := 16) hx hb hts hinX2 hown hK.1 hP 0 rfl rfl 9 (by decide) (hts (.fieldLink RX2 125 "PrinterRows" "standLine" "I") (by decide +kernel)) (fun _ h9 => h9) rfl dX2_moveBy_22 ?_
          refine lv_iconst (v := 1) hx hb dX2_moveBy_25 (by decide +kernel) ?_
          refine lv_iadd hx hb dX2_moveBy_26 ?_
          refine lv_topi (fun x_26 ex_26 => ?_)
          obtain rfl : x_26 = nI (stv + 1) := ex_26.trans (nI_1 stv)
          refine va_put (D := D) (ci := 3) (v := .int (nI (stv + 1))) (ty := .int) (C := RX2) (T := TX2) (N := 16) hx hb hts hinX2 tyX2 tyX2_ok nmX2 hown hK.1 hP hD hS 0 rfl rfl 9 (by decide) (hts (.fieldLink RX2 125 "PrinterRows" "standLine" "I") (by decide +kernel)) (fun _ h9 => h9) rfl (by decide +kernel) rfl rfl (Nat.le_of_ble_eq_true rfl) dX2_moveBy_27 (fun H locs hP hD hS => ?_)
          have hP : va_P D vwCl (wX cI cP x aC aT aR aP (nI L) (nI C) (nI rl) (nI bgv) (zb onv) (nI (stv + 1)) mk rp sp sc sk fa ch tr rc pgv plv) H := hP
          have hD : va_D A (wX cI cP x aC aT aR aP (nI L) (nI C) (nI rl) (nI bgv) (zb onv) (nI (stv + 1)) mk rp sp sc sk fa ch tr rc pgv plv) := hD
          refine lv_goto (tgt := 41) hx hb dX2_moveBy_30 (by decide) ?_
          refine lv_iinc (v := (nI (i + 1))) (lv' := [(2, .int (nI (i + 1))), (0, .ref x), (1, .int (nI w))]) hx hb dX2_moveBy_41 hl (k := 2) rfl (nI_1 i) (by decide) rfl (fun ls hl => ?_)
          refine W.widen (k := 2 * (i + 1)) (n := 68 * (i + 1)) (by omega) (by omega) ?_
          refine lv_goto (tgt := 2) hx hb dX2_moveBy_44 (by decide) ?_
          exact ih (i + 1) _ _ _ _ _ _ _ _ (by omega) (by omega) (by show _ = mv1 L (mvn L i (bg, st, on)); rw [← hmv, mv1, if_pos hs1]) (hbv) (hpg) (hPIv) (hCSv) hP hD hS (lv_sub hl [1, 2, 0] rfl)
  exact loop (w + 1) 0 bg st on pg pl _ _ _ (Nat.zero_le _) (by omega) (rfl) (Nat.le_refl _) (fun _ _ => rfl) (⟨own, PI.congr (Nat.le_refl _) (fun _ _ => rfl) (fun q i c hq _ _ => by unfold MB; rw [if_pos hq]) hPI⟩) (hCS) hP hD hS (lv_sub hl [1, 2, 0] rfl)
