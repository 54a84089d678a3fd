set_option maxHeartbeats 1000000 in
set_option maxRecDepth 100000 in
theorem c_X2_printSign (l : Launch) {D : va_G} {cI cP cR cJ : ClassId} {x aC aT aR aP L C rl bg st : Nat} {on : Bool} {mk rp sp sc sk fa : Int32} {ch tr rc : Nat → Int32} {pg : Nat → Option Nat} {pl : va_W} {own : Nat → Nat × Nat} {M : Nat → Nat → Nat → Int32} {sz : Nat} {a : Nat} (hL : L ≤ 66) (hC : C ≤ 132) (hst : st < L) (k : Nat) (hk : k < C) (s0 : Int32) (hs0 : isSg s0 = true) (hbg0 : 0 < bg) (hPI : PI cI cR pl own L C bg pg M) (hpa : pg (bg - 1) = some a) (hsep : ∀ q, q < bg → q ≠ bg - 1 → pg q ≠ some a) (z : Nat) (hz : z = 1 ∨ rowT cR pl L C a st ∨ tr s0.toNatClampNeg = 32) : Met l yX2_printSign wsX2_printSign ({ frames := 4, cells := (2 * z), slots := (133 * z), locals := 79 }) (mu [.ref x, .ref a, .int (nI k), .int s0] D cI cP cR cJ (wX cI cP x aC aT aR aP (nI L) (nI C) (nI rl) (nI bg) (zb on) (nI st) mk rp sp sc sk fa ch tr rc pg pl) sz) (qv D (fun (u : va_W × Int32) => ∃ own' : Nat → Nat × Nat, PI cI cR u.1 own' L C bg pg (MT M (bg - 1) st k (tr s0.toNatClampNeg)) ∧ u.2 = spN sp (tr s0.toNatClampNeg) ∧ (¬ (tr s0.toNatClampNeg) = 32 → rowT cR u.1 L C a st) ∧ (rowT cR pl L C a st → rowT cR u.1 L C a st)) (fun u : va_W × Int32 => wX cI cP x aC aT aR aP (nI L) (nI C) (nI rl) (nI bg) (zb on) (nI st) mk rp u.2 sc sk fa ch tr rc pg u.1) (va_A (wX cI cP x aC aT aR aP (nI L) (nI C) (nI rl) (nI bg) (zb on) (nI st) mk rp sp sc sk fa ch tr rc pg pl) sz)) (2 * z) (133 * z) (va_A (wX cI cP x aC aT aR aP (nI L) (nI C) (nI rl) (nI bg) (zb on) (nI st) mk rp sp sc sk fa ch tr rc pg pl) sz) := by
  refine Met.ofW (cc := cX2_printSign) (maxL := 5) (ret := none) (by decide) rfl ?_
  intro p e s m args below meth c s₁ B hml hv
  obtain ⟨rfl, hsz, hP, hK, hD0⟩ := hv
  have hx := B.exec
  have hb := B.bytes
  have hr := B.returns
  have hts := atoms_spec (ws := wsX2_printSign) B.pre
  have hown : s.vm.findClass RX2 = some m.cls := findClass_of_methodNamed B.named
  have hlocks := B.notSynchronized
  have hinX0 : ∀ w ∈ wsX00, w ∈ wsX2_printSign := by decide +kernel
  have hinX1 : ∀ w ∈ wsX10, w ∈ wsX2_printSign := by decide +kernel
  have hinX2 : ∀ w ∈ wsX20, w ∈ wsX2_printSign := by decide +kernel
  subst hsz
  have hD := hD0.self (sz := s.heap.size)
  generalize hAe : va_A (wX cI cP x aC aT aR aP (nI L) (nI C) (nI rl) (nI bg) (zb on) (nI st) mk rp sp sc sk fa ch tr rc pg pl) s.heap.size = A at hD ⊢
  have hA : ∀ q : Nat, s.heap.size ≤ q → A q := fun q h => by rw [← hAe]; exact Or.inr h
  have hS : va_S A s.heap s.heap [] := va_S.rf
  have hP : va_P D vwCl (wX cI cP x aC aT aR aP (nI L) (nI C) (nI rl) (nI bg) (zb on) (nI st) mk rp sp sc sk fa ch tr rc pg pl) s.heap := hP
  have hl := lv_entry ([.ref x, .ref a, .int (nI k), .int s0]) (n := 5) (Nat.le_of_ble_eq_true rfl)
  rw [lg_entry_eq]
  generalize (lg_sl ([.ref x, .ref a, .int (nI k), .int s0]) ++ List.replicate (5 - (lg_sl ([.ref x, .ref a, .int (nI k), .int s0])).length) Slot.unset).toArray = ls at hl ⊢
  have hl : lv_has ls 5 [(0, .ref x), (1, .ref a), (2, .int (nI k)), (3, .int s0)] := hl
  refine lv_iload_n hx hb dX2_printSign_0 rfl (lv_at hl 3 rfl) ?_
  refine vp_callSi (W.runS (As := [.int s0]) (rest := []) ⟨hx, hb, hml, hown, hts⟩ (c_X2_isSign l (s0)) (va_cwS 1 hts gX2_printSign_X2_isSign rfl rfl rfl (by decide +kernel) ⟨(Nat.le_of_ble_eq_true rfl), (Nat.le_of_ble_eq_true rfl)⟩) pu_pre rfl rfl hl.1 rfl (lv_room (Nat.le_of_ble_eq_true rfl)) dX2_printSign_1 ⟨(Nat.le_of_ble_eq_true rfl), (Nat.le_of_ble_eq_true rfl)⟩) (fun r_1 w_1 => ?_)
  subst w_1
  refine lv_if_eq (tgt := 16) hx hb dX2_printSign_4 (by decide) (fun c_4 => absurd c_4 (zb1.mpr hs0)) (fun c_4 => ?_)
  refine lv_aload_n hx hb dX2_printSign_7 rfl (lv_at hl 0 rfl) ?_
  refine va_get (D := D) (ci := 3) (v := .ref aT) (C := RX2) (T := TX2) (N := 16) hx hb hts hinX2 hown hK.1 hP 0 rfl rfl 3 (by decide) (hts (.fieldLink RX2 30 "PrinterRows" "printedAs" "[I") (by decide +kernel)) (fun _ h9 => h9) rfl dX2_printSign_8 ?_
  refine lv_iload_n hx hb dX2_printSign_11 rfl (lv_at hl 3 rfl) ?_
  refine va_iald hx hb hK.1 hP 2 0 rfl rfl (isSg_in (zb1.mpr hs0)) dX2_printSign_12 ?_
  refine lv_goto (tgt := 18) hx hb dX2_printSign_13 (by decide) ?_
  refine lv_istore (lv' := [(4, .int (tr (s0).toNatClampNeg)), (0, .ref x), (1, .ref a), (2, .int (nI k)), (3, .int s0)]) hx hb dX2_printSign_18 hl (by decide) rfl (fun ls hl => ?_)
  refine lv_iload hx hb dX2_printSign_20 (lv_at hl 0 rfl) ?_
  refine lv_bipush (v := 32) hx hb dX2_printSign_22 (by decide +kernel) ?_
  refine lv_icmp_eq (tgt := 48) hx hb dX2_printSign_24 (by decide) (fun c_24 => ?_) (fun c_24 => ?_)
  ·
    refine W.widen (k := (2 * z)) (n := (133 * z)) (by omega) (by omega) ?_
    exact W.vret hx hb hr (fun t ht hW => ⟨⟨(pl, sp), rfl, ⟨own, by rw [MT, if_pos c_24]; exact hPI, by rw [spN, if_pos c_24], fun h9 => absurd c_24 h9, fun h9 => h9⟩, by rw [ht]; exact hP, hD⟩, hS.F ht⟩) hS.2.2 dX2_printSign_48
  ·
    have hu := uqX hD
    obtain ⟨a9, hp9, ra, g, ka, kr, hka, hkr, hra, hln⟩ := hPI (bg - 1) (by omega)
    obtain rfl : a9 = a := Option.some.inj (hp9.symm.trans hpa)
    rcases hln st hst with ⟨hg, hbl⟩ | ⟨b, hg, hbo, sa, f, kb, ks, hkb, hks, hsa, hf⟩
    ·
      obtain rfl : z = 1 := by
        rcases hz with h9 | ⟨ra9, g9, ka9, kr9, b9, q1, q2, q3⟩ | h9
        · exact h9
        · have e1 := hu.same hka q1
          have e1 : ra = ra9 := by simpa [ePg] using e1
          subst e1
          have e2 := hu.same hkr q2
          have e2 : g = g9 := by simpa [eRs] using e2
          subst e2
          rw [hg] at q3; cases q3
        · exact absurd h9 c_24
      refine lv_aload_n hx hb dX2_printSign_27 rfl (lv_at hl 2 rfl) ?_
      refine lv_aload_n hx hb dX2_printSign_28 rfl (lv_at hl 1 rfl) ?_
      refine va_get (D := D) (ci := 3) (v := .int (nI st)) (C := RX2) (T := TX2) (N := 16) hx hb hts hinX2 hown hK.1 hP 0 rfl rfl 9 (by decide) (hts (.fieldLink RX2 125 "PrinterRows" "standLine" "I") (by decide +kernel)) (fun _ h9 => h9) rfl dX2_printSign_29 ?_
      refine lv_iload_n hx hb dX2_printSign_32 rfl (lv_at hl 3 rfl) ?_
      refine lv_iload hx hb dX2_printSign_33 (lv_at hl 0 rfl) ?_
      have hP : va_P D vwCl (wX cI cP x aC aT aR aP (nI L) (nI C) (nI rl) (nI bg) (zb on) (nI st) mk rp sp sc sk fa ch tr rc pg ([]) ++ pl) s.heap := hP
      have hD : va_D A (wX cI cP x aC aT aR aP (nI L) (nI C) (nI rl) (nI bg) (zb on) (nI st) mk rp sp sc sk fa ch tr rc pg ([]) ++ pl) := hD
      refine callSv (wr := wX cI cP x aC aT aR aP (nI L) (nI C) (nI rl) (nI bg) (zb on) (nI st) mk rp sp sc sk fa ch tr rc pg ([])) (wc := pl) (va_runV (As := [.int (nI st), .int (nI k), .int (tr (s0).toNatClampNeg)]) (rest := []) ⟨hx, hb, hml, hown, hts⟩ (c_X0_join_new l ka kr hka hkr hL hC st k hst hk (tr s0.toNatClampNeg) hg) (cwV 3 hts gX2_printSign_X0_join rfl rfl rfl (by decide +kernel) ⟨(Nat.le_of_ble_eq_true rfl), (Nat.le_of_ble_eq_true rfl)⟩) (mu_pre hK (sufP hP) (sufD hD) rfl ka hka) rfl rfl hl.1 rfl (lv_room (Nat.le_of_ble_eq_true rfl)) dX2_printSign_35 ⟨(Nat.le_of_ble_eq_true rfl), (Nat.le_of_ble_eq_true rfl)⟩) hP hD hS hA (fun u_35 H locs w_35 hP hD hS => ?_)
      obtain ⟨b, sa, f⟩ := u_35
      have w_35 : ∀ j, j < C → f j = if j = k then mx 32 (tr s0.toNatClampNeg) else 32 := w_35
      have hP : va_P D vwCl (wX cI cP x aC aT aR aP (nI L) (nI C) (nI rl) (nI bg) (zb on) (nI st) mk rp sp sc sk fa ch tr rc pg (pl.set kr (ra, eRs cR L (va_up g st (some b))) ++ [(b, eRow sa), (sa, eSg cI C f)])) H := hP
      have hD : va_D A (wX cI cP x aC aT aR aP (nI L) (nI C) (nI rl) (nI bg) (zb on) (nI st) mk rp sp sc sk fa ch tr rc pg (pl.set kr (ra, eRs cR L (va_up g st (some b))) ++ [(b, eRow sa), (sa, eSg cI C f)])) := hD
      have hPI2 := PI.joinNew (v := (tr s0.toNatClampNeg)) hu (uqX hD) hPI (by omega) hpa hsep hka hkr hg hra w_35 hst hk
      have hrt : rowT cR (pl.set kr (ra, eRs cR L (va_up g st (some b))) ++ [(b, eRow sa), (sa, eSg cI C f)]) L C a9 st := ⟨ra, va_up g st (some b), ka, kr, b, apL (setNe hka hkr (fun h9 => by cases h9)), apL (setSelf hkr), va_up_self _ _ _⟩
      refine lv_aload_n hx hb dX2_printSign_38 rfl (lv_at hl 1 rfl) ?_
      refine lv_dup hx hb dX2_printSign_39 rfl ?_
      refine va_get (D := D) (ci := 3) (v := .int sp) (C := RX2) (T := TX2) (N := 16) hx hb hts hinX2 hown hK.1 hP 0 rfl rfl 12 (by decide) (hts (.fieldLink RX2 131 "PrinterRows" "signsPrinted" "I") (by decide +kernel)) (fun _ h9 => h9) rfl dX2_printSign_40 ?_
      refine lv_iconst (v := 1) hx hb dX2_printSign_43 (by decide +kernel) ?_
      refine lv_iadd hx hb dX2_printSign_44 ?_
      refine va_put (D := D) (ci := 3) (v := .int (sp + 1)) (ty := .int) (C := RX2) (T := TX2) (N := 16) hx hb hts hinX2 tyX2 tyX2_ok nmX2 hown hK.1 hP hD hS 0 rfl rfl 12 (by decide) (hts (.fieldLink RX2 131 "PrinterRows" "signsPrinted" "I") (by decide +kernel)) (fun _ h9 => h9) rfl (by decide +kernel) rfl rfl (Nat.le_of_ble_eq_true rfl) dX2_printSign_45 (fun H locs hP hD hS => ?_)
      have hP : va_P D vwCl (wX cI cP x aC aT aR aP (nI L) (nI C) (nI rl) (nI bg) (zb on) (nI st) mk rp (sp + 1) sc sk fa ch tr rc pg (pl.set kr (ra, eRs cR L (va_up g st (some b))) ++ [(b, eRow sa), (sa, eSg cI C f)])) H := hP
      have hD : va_D A (wX cI cP x aC aT aR aP (nI L) (nI C) (nI rl) (nI bg) (zb on) (nI st) mk rp (sp + 1) sc sk fa ch tr rc pg (pl.set kr (ra, eRs cR L (va_up g st (some b))) ++ [(b, eRow sa), (sa, eSg cI C f)])) := hD
      refine W.widen (k := (2 * 1)) (n := (133 * 1)) (by omega) (by omega) ?_
      exact W.vret hx hb hr (fun t ht hW => ⟨⟨(_, sp + 1), rfl, ⟨_, by rw [MT, if_neg c_24]; exact hPI2, by rw [spN, if_neg c_24], fun _ => hrt, fun _ => hrt⟩, by rw [ht]; exact hP, hD⟩, hS.F ht⟩) hS.2.2 dX2_printSign_48
    ·
      refine lv_aload_n hx hb dX2_printSign_27 rfl (lv_at hl 2 rfl) ?_
      refine lv_aload_n hx hb dX2_printSign_28 rfl (lv_at hl 1 rfl) ?_
      refine va_get (D := D) (ci := 3) (v := .int (nI st)) (C := RX2) (T := TX2) (N := 16) hx hb hts hinX2 hown hK.1 hP 0 rfl rfl 9 (by decide) (hts (.fieldLink RX2 125 "PrinterRows" "standLine" "I") (by decide +kernel)) (fun _ h9 => h9) rfl dX2_printSign_29 ?_
      refine lv_iload_n hx hb dX2_printSign_32 rfl (lv_at hl 3 rfl) ?_
      refine lv_iload hx hb dX2_printSign_33 (lv_at hl 0 rfl) ?_
      have hP : va_P D vwCl (wX cI cP x aC aT aR aP (nI L) (nI C) (nI rl) (nI bg) (zb on) (nI st) mk rp sp sc sk fa ch tr rc pg ([]) ++ pl) s.heap := hP
      have hD : va_D A (wX cI cP x aC aT aR aP (nI L) (nI C) (nI rl) (nI bg) (zb on) (nI st) mk rp sp sc sk fa ch tr rc pg ([]) ++ pl) := hD
      refine callSv (wr := wX cI cP x aC aT aR aP (nI L) (nI C) (nI rl) (nI bg) (zb on) (nI st) mk rp sp sc sk fa ch tr rc pg ([])) (wc := pl) (va_runV (As := [.int (nI st), .int (nI k), .int (tr (s0).toNatClampNeg)]) (rest := []) ⟨hx, hb, hml, hown, hts⟩ (c_X0_join_old l ka kr hka hkr hL hC st k hst hk (tr s0.toNatClampNeg) hg kb ks hkb hks) (cwV 3 hts gX2_printSign_X0_join rfl rfl rfl (by decide +kernel) ⟨(Nat.le_of_ble_eq_true rfl), (Nat.le_of_ble_eq_true rfl)⟩) (mu_pre hK (sufP hP) (sufD hD) rfl ka hka) rfl rfl hl.1 rfl (lv_room (Nat.le_of_ble_eq_true rfl)) dX2_printSign_35 ⟨Nat.zero_le _, Nat.zero_le _⟩) hP hD hS hA (fun u_35 H locs _ hP hD hS => ?_)
      have hP : va_P D vwCl (wX cI cP x aC aT aR aP (nI L) (nI C) (nI rl) (nI bg) (zb on) (nI st) mk rp sp sc sk fa ch tr rc pg (pl.set ks (sa, eSg cI C (upd f k (mx (f k) (tr s0.toNatClampNeg)))))) H := hP
      have hD : va_D A (wX cI cP x aC aT aR aP (nI L) (nI C) (nI rl) (nI bg) (zb on) (nI st) mk rp sp sc sk fa ch tr rc pg (pl.set ks (sa, eSg cI C (upd f k (mx (f k) (tr s0.toNatClampNeg)))))) := hD
      have hPI2 := PI.joinOld (v := (tr s0.toNatClampNeg)) (k := k) hu hPI (by omega) hpa hsep hka hkr hg hkb hks hra hbo hsa hf hst hk
      have hrt : rowT cR (pl.set ks (sa, eSg cI C (upd f k (mx (f k) (tr s0.toNatClampNeg))))) L C a9 st := ⟨ra, g, ka, kr, b, setNe hka hks (fun h9 => by cases h9), setNe hkr hks (fun h9 => by cases h9), hg⟩
      refine lv_aload_n hx hb dX2_printSign_38 rfl (lv_at hl 1 rfl) ?_
      refine lv_dup hx hb dX2_printSign_39 rfl ?_
      refine va_get (D := D) (ci := 3) (v := .int sp) (C := RX2) (T := TX2) (N := 16) hx hb hts hinX2 hown hK.1 hP 0 rfl rfl 12 (by decide) (hts (.fieldLink RX2 131 "PrinterRows" "signsPrinted" "I") (by decide +kernel)) (fun _ h9 => h9) rfl dX2_printSign_40 ?_
      refine lv_iconst (v := 1) hx hb dX2_printSign_43 (by decide +kernel) ?_
      refine lv_iadd hx hb dX2_printSign_44 ?_
      refine va_put (D := D) (ci := 3) (v := .int (sp + 1)) (ty := .int) (C := RX2) (T := TX2) (N := 16) hx hb hts hinX2 tyX2 tyX2_ok nmX2 hown hK.1 hP hD hS 0 rfl rfl 12 (by decide) (hts (.fieldLink RX2 131 "PrinterRows" "signsPrinted" "I") (by decide +kernel)) (fun _ h9 => h9) rfl (by decide +kernel) rfl rfl (Nat.le_of_ble_eq_true rfl) dX2_printSign_45 (fun H locs hP hD hS => ?_)
      have hP : va_P D vwCl (wX cI cP x aC aT aR aP (nI L) (nI C) (nI rl) (nI bg) (zb on) (nI st) mk rp (sp + 1) sc sk fa ch tr rc pg (pl.set ks (sa, eSg cI C (upd f k (mx (f k) (tr s0.toNatClampNeg)))))) H := hP
      have hD : va_D A (wX cI cP x aC aT aR aP (nI L) (nI C) (nI rl) (nI bg) (zb on) (nI st) mk rp (sp + 1) sc sk fa ch tr rc pg (pl.set ks (sa, eSg cI C (upd f k (mx (f k) (tr s0.toNatClampNeg)))))) := hD
      refine W.widen (k := (2 * z)) (n := (133 * z)) (by omega) (by omega) ?_
      exact W.vret hx hb hr (fun t ht hW => ⟨⟨(_, sp + 1), rfl, ⟨_, by rw [MT, if_neg c_24]; exact hPI2, by rw [spN, if_neg c_24], fun _ => hrt, fun _ => hrt⟩, by rw [ht]; exact hP, hD⟩, hS.F ht⟩) hS.2.2 dX2_printSign_48

theorem sp_step {tr rc : Nat → Int32} {C i : Nat} {sp spv sp2 : Int32} (hiC : i < C) (h2 : sp2 = spN spv (tr (rc i).toNatClampNeg)) (h : spv = sp + cS tr rc C i) : sp2 = sp + cS tr rc C (i + 1) := by
  rw [h2, h]
  show spN _ _ = sp + (cS tr rc C i + _)
  rw [if_neg (Nat.not_le.mpr hiC)]
  unfold spN
  by_cases e : tr (rc i).toNatClampNeg = 32
  · rw [if_pos e, if_pos e, Int32.add_zero]
  · rw [if_neg e, if_neg e, Int32.add_assoc]
theorem bgB_le {bg : Nat} {on : Bool} (h1 : on = false → bg < 40) (h2 : bg ≤ 40) : bgB bg on ≤ 40 := by
  cases on
  · exact h1 rfl
  · exact h2

set_option maxHeartbeats 1000000 in
set_option maxRecDepth 100000 in
theorem c_X2_printRecord (l : Launch) {D : va_G} {cI cP cR cJ : ClassId} {x aC aT aR aP L C rl bg st : Nat} {on : Bool} {mk rp sp sc sk fa : Int32} {ch tr rc : Nat → Int32} {pg : Nat → Option Nat} {pl : va_W} {own : Nat → Nat × Nat} {M : Nat → Nat → Nat → Int32} {sz : Nat} (hL : L ≤ 66) (hC : C ≤ 132) (hst : st < L) (hbg : on = false → bg < 40) (hbg40 : bg ≤ 40) (hrl : rl ≤ 200) (hrc : ∀ j, j < rl → isSg (rc j) = true) (hPI : PI cI cR pl own L C bg pg M) (hCS : CS on bg pg) (hMG : MG L C bg M) : Met l yX2_printRecord wsX2_printRecord ({ frames := 5, cells := 4, slots := 201, locals := 103 }) (mu [.ref x] D cI cP cR cJ (wX cI cP x aC aT aR aP (nI L) (nI C) (nI rl) (nI bg) (zb on) (nI st) mk rp sp sc sk fa ch tr rc pg pl) sz) (qv D (fun (u : va_W × (Nat → Option Nat) × Nat × Int32 × Int32) => u.2.2.1 = bgB bg on ∧ (∀ q, q < bg → u.2.1 q = pg q) ∧ (∃ own' : Nat → Nat × Nat, PI cI cR u.1 own' L C u.2.2.1 u.2.1 (MP (MB bg M) (u.2.2.1 - 1) st tr rc rl)) ∧ CS true u.2.2.1 u.2.1 ∧ u.2.2.2.1 = sp + cS tr rc C rl ∧ u.2.2.2.2 = sc + cC C rl) (fun u : va_W × (Nat → Option Nat) × Nat × Int32 × Int32 => wX cI cP x aC aT aR aP (nI L) (nI C) (nI 0) (nI u.2.2.1) (zb true) (nI st) mk (rp + 1) u.2.2.2.1 u.2.2.2.2 sk fa ch tr rc u.2.1 u.1) (va_A (wX cI cP x aC aT aR aP (nI L) (nI C) (nI rl) (nI bg) (zb on) (nI st) mk rp sp sc sk fa ch tr rc pg pl) sz)) 4 201 (va_A (wX cI cP x aC aT aR aP (nI L) (nI C) (nI rl) (nI bg) (zb on) (nI st) mk rp sp sc sk fa ch tr rc pg pl) sz) := by
  refine Met.ofW (cc := cX2_printRecord) (maxL := 3) (ret := none) (by decide) rfl ?_
  intro p e s m args below meth c s₁ B hml hv
  obtain ⟨rfl, hsz, hP, hK, hD0⟩ := hv
  have hx := B.exec
  have hb := B.bytes
  have hr := B.returns
  have hts := atoms_spec (ws := wsX2_printRecord) B.pre
  have hown : s.vm.findClass RX2 = some m.cls := findClass_of_methodNamed B.named
  have hlocks := B.notSynchronized
  have hinX0 : ∀ w ∈ wsX00, w ∈ wsX2_printRecord := by decide +kernel
  have hinX1 : ∀ w ∈ wsX10, w ∈ wsX2_printRecord := by decide +kernel
  have hinX2 : ∀ w ∈ wsX20, w ∈ wsX2_printRecord := by decide +kernel
  subst hsz
  have hD := hD0.self (sz := s.heap.size)
  generalize hAe : va_A (wX cI cP x aC aT aR aP (nI L) (nI C) (nI rl) (nI bg) (zb on) (nI st) mk rp sp sc sk fa ch tr rc pg pl) s.heap.size = A at hD ⊢
  have hA : ∀ q : Nat, s.heap.size ≤ q → A q := fun q h => by rw [← hAe]; exact Or.inr h
  have hS : va_S A s.heap s.heap [] := va_S.rf
  have hP : va_P D vwCl (wX cI cP x aC aT aR aP (nI L) (nI C) (nI rl) (nI bg) (zb on) (nI st) mk rp sp sc sk fa ch tr rc pg pl) s.heap := hP
  have hl := lv_entry ([.ref x]) (n := 3) (Nat.le_of_ble_eq_true rfl)
  rw [lg_entry_eq]
  generalize (lg_sl ([.ref x]) ++ List.replicate (3 - (lg_sl ([.ref x])).length) Slot.unset).toArray = ls at hl ⊢
  have hl : lv_has ls 3 [(0, .ref x)] := hl
  refine lv_aload_n hx hb dX2_printRecord_0 rfl (lv_at hl 0 rfl) ?_
  refine callQv (va_runV (As := []) (rest := []) ⟨hx, hb, hml, hown, hts⟩ (c_X2_beginPage l hbg hL hPI hCS) (cwV 0 hts gX2_printRecord_X2_beginPage rfl rfl rfl (by decide +kernel) ⟨(Nat.le_of_ble_eq_true rfl), (Nat.le_of_ble_eq_true rfl)⟩) (mu_pre hK hP hD rfl 0 rfl) rfl rfl hl.1 rfl (lv_room (Nat.le_of_ble_eq_true rfl)) dX2_printRecord_1 ⟨(Nat.le_of_ble_eq_true rfl), (Nat.le_of_ble_eq_true rfl)⟩) hD hS hA (fun u_1 H locs w_1 hP hD hS => ?_)
  obtain ⟨pl1, pg1, bg1⟩ := u_1
  obtain ⟨own1, hb1, hpg1, hPI1, hCS1⟩ := w_1
  dsimp only at hb1 hpg1 hPI1 hCS1
  have hP : va_P D vwCl (wX cI cP x aC aT aR aP (nI L) (nI C) (nI rl) (nI bg1) (zb true) (nI st) mk rp sp sc sk fa ch tr rc pg1 pl1) H := hP
  have hD : va_D A (wX cI cP x aC aT aR aP (nI L) (nI C) (nI rl) (nI bg1) (zb true) (nI st) mk rp sp sc sk fa ch tr rc pg1 pl1) := hD
  obtain ⟨hb0, hsp0⟩ := hCS1 rfl
  have hb140 : bg1 ≤ 40 := by rw [hb1]; exact bgB_le hbg hbg40
  obtain ⟨a, hpa, -⟩ := hPI1 (bg1 - 1) (by omega)
  have hsep : ∀ q, q < bg1 → q ≠ bg1 - 1 → pg1 q ≠ some a := fun q h8 h9 => by rw [← hpa]; exact hsp0 q (by omega)
  have hMG1 : MG L C bg1 (MB bg M) := MG.blank hMG
  refine lv_aload_n hx hb dX2_printRecord_4 rfl (lv_at hl 0 rfl) ?_
  refine lv_aload_n hx hb dX2_printRecord_5 rfl (lv_at hl 0 rfl) ?_
  refine va_get (D := D) (ci := 3) (v := .int (nI bg1)) (C := RX2) (T := TX2) (N := 16) hx hb hts hinX2 hown hK.1 hP 0 rfl rfl 7 (by decide) (hts (.fieldLink RX2 86 "PrinterRows" "begun" "I") (by decide +kernel)) (fun _ h9 => h9) rfl dX2_printRecord_6 ?_
  refine lv_iconst (v := 1) hx hb dX2_printRecord_9 (by decide +kernel) ?_
  refine lv_isub hx hb dX2_printRecord_10 ?_
  refine lv_topi (fun x_10 ex_10 => ?_)
  obtain rfl : x_10 = nI (bg1 - 1) := ex_10.trans (sub1 hb0)
  refine va_csq (W.runV (As := [.int (nI (bg1 - 1))]) (rest := []) ⟨hx, hb, hml, hown, hts⟩ (c_X2_begunPage l hb140 (nI (bg1 - 1))) (cwV 1 hts gX2_printRecord_X2_begunPage rfl rfl rfl (by decide +kernel) ⟨(Nat.le_of_ble_eq_true rfl), (Nat.le_of_ble_eq_true rfl)⟩) (ro_pre hK hP rfl 0 rfl) rfl rfl hl.1 rfl (lv_room (Nat.le_of_ble_eq_true rfl)) dX2_printRecord_11 ⟨(Nat.le_of_ble_eq_true rfl), (Nat.le_of_ble_eq_true rfl)⟩) (fun r_11 w_11 => ?_)
  subst w_11
  refine W.eq (g2 := F0 m 14 ls [.ref a]) (by rw [bpR, if_pos ⟨nI_pos (by omega), nI_ge (by omega) (by omega)⟩, nI_clamp (by omega), hpa]; rfl) ?_
  refine lv_astore_n (lv' := [(1, .ref a), (0, .ref x)]) hx hb dX2_printRecord_14 rfl hl (by decide) rfl (fun ls hl => ?_)
  refine lv_iconst (v := 0) hx hb dX2_printRecord_15 (by decide +kernel) ?_
  refine lv_istore_n (lv' := [(2, .int 0), (1, .ref a), (0, .ref x)]) hx hb dX2_printRecord_16 rfl hl (by decide) rfl (fun ls hl => ?_)
  have loop : ∀ (n : Nat) (i : Nat) (plv : va_W) (spv scv : Int32) (y : Nat) (H : Heap) (locs : List Loc) (ls : Array Slot), (i ≤ rl) → (rl - i < n) → (∃ own' : Nat → Nat × Nat, PI cI cR plv own' L C bg1 pg1 (MP (MB bg M) (bg1 - 1) st tr rc i)) → (spv = sp + cS tr rc C i) → (scv = sc + cC C i) → (y ≤ 1) → (y = 0 ∨ rowT cR plv L C a st) → va_P D vwCl (wX cI cP x aC aT aR aP (nI L) (nI C) (nI rl) (nI bg1) (zb true) (nI st) mk rp spv scv sk fa ch tr rc pg1 plv) H → va_D A (wX cI cP x aC aT aR aP (nI L) (nI C) (nI rl) (nI bg1) (zb true) (nI st) mk rp spv scv sk fa ch tr rc pg1 plv) → va_S A s.heap H locs → lv_has ls 3 [(0, .ref x), (1, .ref a), (2, .int (nI i))] → W p l e (headSpec wsX2_printRecord ({ frames := 5, cells := 4, slots := 201, locals := 103 })).room s m (([.ref x] : List Value).toArray) below meth c H locs (2 + 2 * y) (68 + 133 * y) (MQ below (qv D (fun (u : va_W × (Nat → Option Nat) × Nat × Int32 × Int32) => u.2.2.1 = bgB bg on ∧ (∀ q, q < bg → u.2.1 q = pg q) ∧ (∃ own' : Nat → Nat × Nat, PI cI cR u.1 own' L C u.2.2.1 u.2.1 (MP (MB bg M) (u.2.2.1 - 1) st tr rc rl)) ∧ CS true u.2.2.1 u.2.1 ∧ u.2.2.2.1 = sp + cS tr rc C rl ∧ u.2.2.2.2 = sc + cC C rl) (fun u : va_W × (Nat → Option Nat) × Nat × Int32 × Int32 => wX cI cP x aC aT aR aP (nI L) (nI C) (nI 0) (nI u.2.2.1) (zb true) (nI st) mk (rp + 1) u.2.2.2.1 u.2.2.2.2 sk fa ch tr rc u.2.1 u.1) (A)) (([.ref x] : List Value).toArray) s 4 201 A) (F0 m 17 ls []) := by
    intro n
    induction n with
    | zero => intro i plv spv scv y H locs ls hi hn hPIv hsp hsc hy1 hy hP hD hS hl; exact absurd hn (Nat.not_lt_zero _)
    | succ n ih =>
      intro i plv spv scv y H locs ls hi hn hPIv hsp hsc hy1 hy hP hD hS hl
      refine lv_iload_n hx hb dX2_printRecord_17 rfl (lv_at hl 2 rfl) ?_
      refine lv_aload_n hx hb dX2_printRecord_18 rfl (lv_at hl 0 rfl) ?_
      refine va_get (D := D) (ci := 3) (v := .int (nI rl)) (C := RX2) (T := TX2) (N := 16) hx hb hts hinX2 hown hK.1 hP 0 rfl rfl 5 (by decide) (hts (.fieldLink RX2 46 "PrinterRows" "recordLength" "I") (by decide +kernel)) (fun _ h9 => h9) rfl dX2_printRecord_19 ?_
      refine lv_icmp_ge (tgt := 77) hx hb dX2_printRecord_22 (by decide) (fun c_22 => ?_) (fun c_22 => ?_)
      ·
        have hie : rl = i := by have := (nI_leI (by omega) (by omega)).mp c_22; omega
        refine lv_aload_n hx hb dX2_printRecord_77 rfl (lv_at hl 0 rfl) ?_
        refine lv_iconst (v := 0) hx hb dX2_printRecord_78 (by decide +kernel) ?_
        refine va_put (D := D) (ci := 3) (v := .int 0) (ty := .int) (C := RX2) (T := TX2) (N := 16) hx hb hts hinX2 tyX2 tyX2_ok nmX2 hown hK.1 hP hD hS 0 rfl rfl 5 (by decide) (hts (.fieldLink RX2 46 "PrinterRows" "recordLength" "I") (by decide +kernel)) (fun _ h9 => h9) rfl (by decide +kernel) rfl rfl (Nat.le_of_ble_eq_true rfl) dX2_printRecord_79 (fun H locs hP hD hS => ?_)
        have hP : va_P D vwCl (wX cI cP x aC aT aR aP (nI L) (nI C) 0 (nI bg1) (zb true) (nI st) mk rp spv scv sk fa ch tr rc pg1 plv) H := hP
        have hD : va_D A (wX cI cP x aC aT aR aP (nI L) (nI C) 0 (nI bg1) (zb true) (nI st) mk rp spv scv sk fa ch tr rc pg1 plv) := hD
        refine lv_aload_n hx hb dX2_printRecord_82 rfl (lv_at hl 0 rfl) ?_
        refine lv_dup hx hb dX2_printRecord_83 rfl ?_
        refine va_get (D := D) (ci := 3) (v := .int rp) (C := RX2) (T := TX2) (N := 16) hx hb hts hinX2 hown hK.1 hP 0 rfl rfl 11 (by decide) (hts (.fieldLink RX2 128 "PrinterRows" "recordsPrinted" "I") (by decide +kernel)) (fun _ h9 => h9) rfl dX2_printRecord_84 ?_
        refine lv_iconst (v := 1) hx hb dX2_printRecord_87 (by decide +kernel) ?_
        refine lv_iadd hx hb dX2_printRecord_88 ?_
        refine va_put (D := D) (ci := 3) (v := .int (rp + 1)) (ty := .int) (C := RX2) (T := TX2) (N := 16) hx hb hts hinX2 tyX2 tyX2_ok nmX2 hown hK.1 hP hD hS 0 rfl rfl 11 (by decide) (hts (.fieldLink RX2 128 "PrinterRows" "recordsPrinted" "I") (by decide +kernel)) (fun _ h9 => h9) rfl (by decide +kernel) rfl rfl (Nat.le_of_ble_eq_true rfl) dX2_printRecord_89 (fun H locs hP hD hS => ?_)
        have hP : va_P D vwCl (wX cI cP x aC aT aR aP (nI L) (nI C) 0 (nI bg1) (zb true) (nI st) mk (rp + 1) spv scv sk fa ch tr rc pg1 plv) H := hP
        have hD : va_D A (wX cI cP x aC aT aR aP (nI L) (nI C) 0 (nI bg1) (zb true) (nI st) mk (rp + 1) spv scv sk fa ch tr rc pg1 plv) := hD
        refine W.widen (k := 4) (n := 201) (by omega) (by omega) ?_
        exact W.vret hx hb hr (fun t ht hW => ⟨⟨(plv, pg1, bg1, spv, scv), rfl, ⟨hb1, hpg1, by rw [hie]; exact hPIv, hCS1, by rw [hie]; exact hsp, by rw [hie]; exact hsc⟩, by rw [ht]; exact hP, hD⟩, hS.F ht⟩) hS.2.2 dX2_printRecord_92
      ·
        have hlt : i < rl := Nat.lt_of_not_le (fun h9 => c_22 (nI_le h9 (by omega)))
        obtain ⟨own9, hPI9⟩ := hPIv
        refine lv_iload_n hx hb dX2_printRecord_25 rfl (lv_at hl 2 rfl) ?_
        refine lv_aload_n hx hb dX2_printRecord_26 rfl (lv_at hl 0 rfl) ?_
        refine va_get (D := D) (ci := 3) (v := .ref aR) (C := RX2) (T := TX2) (N := 16) hx hb hts hinX2 hown hK.1 hP 0 rfl rfl 4 (by decide) (hts (.fieldLink RX2 33 "PrinterRows" "record" "[I") (by decide +kernel)) (fun _ h9 => h9) rfl dX2_printRecord_27 ?_
        refine va_alen (v := 200) hx hb hK.1 hP 3 0 rfl rfl rfl dX2_printRecord_30 ?_
        refine lv_icmp_ge (tgt := 77) hx hb dX2_printRecord_31 (by decide) (fun c_31 => absurd c_31 (nI_ge (b := 200) (by omega) (by decide))) (fun c_31 => ?_)
        refine lv_iload_n hx hb dX2_printRecord_34 rfl (lv_at hl 2 rfl) ?_
        refine lv_aload_n hx hb dX2_printRecord_35 rfl (lv_at hl 0 rfl) ?_
        refine va_get (D := D) (ci := 3) (v := .int (nI C)) (C := RX2) (T := TX2) (N := 16) hx hb hts hinX2 hown hK.1 hP 0 rfl rfl 1 (by decide) (hts (.fieldLink RX2 17 "PrinterRows" "columns" "I") (by decide +kernel)) (fun _ h9 => h9) rfl dX2_printRecord_36 ?_
        refine lv_icmp_lt (tgt := 55) hx hb dX2_printRecord_39 (by decide) (fun c_39 => ?_) (fun c_39 => ?_)
        ·
          have hiC : i < C := (nI_ltI (by omega) (by omega)).mp c_39
          refine lv_aload_n hx hb dX2_printRecord_55 rfl (lv_at hl 1 rfl) ?_
          refine lv_ifnull hx hb dX2_printRecord_56 ?_
          refine lv_aload_n hx hb dX2_printRecord_59 rfl (lv_at hl 0 rfl) ?_
          refine lv_aload_n hx hb dX2_printRecord_60 rfl (lv_at hl 1 rfl) ?_
          refine lv_iload_n hx hb dX2_printRecord_61 rfl (lv_at hl 2 rfl) ?_
          refine lv_aload_n hx hb dX2_printRecord_62 rfl (lv_at hl 0 rfl) ?_
          refine va_get (D := D) (ci := 3) (v := .ref aR) (C := RX2) (T := TX2) (N := 16) hx hb hts hinX2 hown hK.1 hP 0 rfl rfl 4 (by decide) (hts (.fieldLink RX2 33 "PrinterRows" "record" "[I") (by decide +kernel)) (fun _ h9 => h9) rfl dX2_printRecord_63 ?_
          refine lv_iload_n hx hb dX2_printRecord_66 rfl (lv_at hl 2 rfl) ?_
          refine va_iald hx hb hK.1 hP 3 0 rfl rfl (vp_in_nI (by omega) (by decide)) dX2_printRecord_67 ?_
          refine lv_topi (fun x_67 ex_67 => ?_)
          obtain rfl : x_67 = rc i := ex_67.trans (by rw [nI_clamp (by omega)])
          obtain ⟨z, hz, hzy, hzv⟩ : ∃ z : Nat, (z = 1 ∨ rowT cR plv L C a st ∨ tr (rc i).toNatClampNeg = 32) ∧ y + z ≤ 1 ∧ (z = 1 → ¬ tr (rc i).toNatClampNeg = 32) := by
            by_cases h1 : tr (rc i).toNatClampNeg = 32
            · exact ⟨0, Or.inr (Or.inr h1), hy1, fun h => absurd h (by decide)⟩
            · by_cases h2 : rowT cR plv L C a st
              · exact ⟨0, Or.inr (Or.inl h2), hy1, fun h => absurd h (by decide)⟩
              · exact ⟨1, Or.inl rfl, by rcases hy with h3 | h3; (omega); (exact absurd h3 h2), fun _ => h1⟩
          refine callQv (va_runV (As := [.ref a, .int (nI i), .int (rc i)]) (rest := []) ⟨hx, hb, hml, hown, hts⟩ (c_X2_printSign l hL hC hst i hiC (rc i) (hrc i hlt) hb0 hPI9 hpa hsep z hz) (cwV 3 hts gX2_printRecord_X2_printSign rfl rfl rfl (by decide +kernel) ⟨(Nat.le_of_ble_eq_true rfl), (Nat.le_of_ble_eq_true rfl)⟩) (mu_pre hK hP hD rfl 0 rfl) rfl rfl hl.1 rfl (lv_room (Nat.le_of_ble_eq_true rfl)) dX2_printRecord_68 ⟨by show 2 + 2 * y + 2 * z ≤ 4; omega, by show 68 + 133 * y + 133 * z ≤ 201; omega⟩) hD hS hA (fun u_68 H locs w_68 hP hD hS => ?_)
          obtain ⟨pl2, sp2⟩ := u_68
          obtain ⟨own2, hPI2, hsp2, hrn, hrk⟩ := w_68
          dsimp only at hPI2 hsp2 hrn hrk
          have hP : va_P D vwCl (wX cI cP x aC aT aR aP (nI L) (nI C) (nI rl) (nI bg1) (zb true) (nI st) mk rp sp2 scv sk fa ch tr rc pg1 pl2) H := hP
          have hD : va_D A (wX cI cP x aC aT aR aP (nI L) (nI C) (nI rl) (nI bg1) (zb true) (nI st) mk rp sp2 scv sk fa ch tr rc pg1 pl2) := hD
          refine W.widen (k := 2 + 2 * (y + z)) (n := 68 + 133 * (y + z)) (by omega) (by omega) ?_
          refine lv_iinc (v := (nI (i + 1))) (lv' := [(2, .int (nI (i + 1))), (0, .ref x), (1, .ref a)]) hx hb dX2_printRecord_71 hl (k := 2) rfl (nI_1 i) (by decide) rfl (fun ls hl => ?_)
          refine lv_goto (tgt := 17) hx hb dX2_printRecord_74 (by decide) ?_
          exact ih (i + 1) pl2 sp2 scv (y + z) _ _ _ (by omega) (by omega) (⟨own2, PI.congr (Nat.le_refl _) (fun _ _ => rfl) (fun q l c h7 h8 h9 => MP_step hMG1 q l c h7 h8 h9) hPI2⟩) (sp_step hiC hsp2 hsp) (by rw [hsc]; show _ = sc + (cC C i + _); rw [if_neg (Nat.not_le.mpr hiC), Int32.add_zero]) (by omega) (by rcases Nat.eq_zero_or_pos z with h9 | h9; (rcases hy with h8 | h8; (left; omega); (right; exact hrk h8)); (right; exact hrn (hzv (by omega)))) hP hD hS (lv_sub hl [1, 2, 0] rfl)
        ·
          have hCi : C ≤ i := Nat.le_of_not_lt (fun h9 => c_39 (nI_lt h9 (by omega)))
          refine lv_aload_n hx hb dX2_printRecord_42 rfl (lv_at hl 0 rfl) ?_
          refine lv_dup hx hb dX2_printRecord_43 rfl ?_
          refine va_get (D := D) (ci := 3) (v := .int scv) (C := RX2) (T := TX2) (N := 16) hx hb hts hinX2 hown hK.1 hP 0 rfl rfl 13 (by decide) (hts (.fieldLink RX2 134 "PrinterRows" "signsCut" "I") (by decide +kernel)) (fun _ h9 => h9) rfl dX2_printRecord_44 ?_
          refine lv_iconst (v := 1) hx hb dX2_printRecord_47 (by decide +kernel) ?_
          refine lv_iadd hx hb dX2_printRecord_48 ?_
          refine va_put (D := D) (ci := 3) (v := .int (scv + 1)) (ty := .int) (C := RX2) (T := TX2) (N := 16) hx hb hts hinX2 tyX2 tyX2_ok nmX2 hown hK.1 hP hD hS 0 rfl rfl 13 (by decide) (hts (.fieldLink RX2 134 "PrinterRows" "signsCut" "I") (by decide +kernel)) (fun _ h9 => h9) rfl (by decide +kernel) rfl rfl (Nat.le_of_ble_eq_true rfl) dX2_printRecord_49 (fun H locs hP hD hS => ?_)
          have hP : va_P D vwCl (wX cI cP x aC aT aR aP (nI L) (nI C) (nI rl) (nI bg1) (zb true) (nI st) mk rp spv (scv + 1) sk fa ch tr rc pg1 plv) H := hP
          have hD : va_D A (wX cI cP x aC aT aR aP (nI L) (nI C) (nI rl) (nI bg1) (zb true) (nI st) mk rp spv (scv + 1) sk fa ch tr rc pg1 plv) := hD
          refine lv_goto (tgt := 71) hx hb dX2_printRecord_52 (by decide) ?_
          refine lv_iinc (v := (nI (i + 1))) (lv' := [(2, .int (nI (i + 1))), (0, .ref x), (1, .ref a)]) hx hb dX2_printRecord_71 hl (k := 2) rfl (nI_1 i) (by decide) rfl (fun ls hl => ?_)
          refine lv_goto (tgt := 17) hx hb dX2_printRecord_74 (by decide) ?_
          exact ih (i + 1) plv spv (scv + 1) y _ _ _ (by omega) (by omega) (⟨own9, PI.congr (Nat.le_refl _) (fun _ _ => rfl) (fun q l c _ _ h9 => MP_cut hCi q l c h9) hPI9⟩) (by rw [hsp]; show _ = sp + (cS tr rc C i + _); rw [if_pos hCi, Int32.add_zero]) (by rw [hsc, Int32.add_assoc]; show _ = sc + (cC C i + _); rw [if_pos hCi]) (hy1) (hy) hP hD hS (lv_sub hl [1, 2, 0] rfl)
  exact loop (rl + 1) 0 pl1 sp sc 0 _ _ _ (Nat.zero_le _) (by omega) (⟨own1, by rw [MP_0]; exact hPI1⟩) ((Int32.add_zero _).symm) ((Int32.add_zero _).symm) (Nat.zero_le _) (Or.inl rfl) hP hD hS (lv_sub hl [2, 1, 0] rfl)
