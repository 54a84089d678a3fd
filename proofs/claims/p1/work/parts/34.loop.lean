/-! the law's one call, and its end -/
def SG (L C bg : Nat) (sg : Nat → Int32) (M : Nat → Nat → Nat → Int32) : Prop := ∀ q i c, q < bg → i < L → c < C → sg (8712 * q + 132 * i + c) = M q i c
def TA (ta : Nat → Int32) (rp sp sc sk fa : Int32) : Prop := ta 2 = rp ∧ ta 3 = sp ∧ ta 4 = sc ∧ ta 5 = sk ∧ ta 6 = fa
theorem lg_self (x : Int64) : lg_cmp x x = 0 := by simp [lg_cmp]
theorem at_same {L C bg : Nat} {p0 l0 k0 r1 u2 r2 : Int32} {M : Nat → Nat → Nat → Int32} {u1 : Nat → Int64} {sg : Nat → Int32} (w1 : (atO L C bg p0 l0 k0 = true ∧ r1 = 0 ∧ u1 0 = (M p0.toNatClampNeg l0.toNatClampNeg k0.toNatClampNeg).toInt64) ∨ (atO L C bg p0 l0 k0 = false ∧ r1 = 1)) (w2 : (atO L C bg p0 l0 k0 = true ∧ u2 = 0 ∧ r2 = sg (atP p0 l0 k0)) ∨ (atO L C bg p0 l0 k0 = false ∧ u2 = 1)) : u2 = r1 := by
  rcases w1 with ⟨q1, q2, -⟩ | ⟨q1, q2⟩
  · rcases w2 with ⟨q3, q4, -⟩ | ⟨q3, q4⟩
    · rw [q2, q4]
    · rw [q1] at q3; cases q3
  · rcases w2 with ⟨q3, q4, -⟩ | ⟨q3, q4⟩
    · rw [q1] at q3; cases q3
    · rw [q2, q4]
theorem at_cmp {L C bg : Nat} {p0 l0 k0 r1 u2 r2 : Int32} {M : Nat → Nat → Nat → Int32} {u1 : Nat → Int64} {sg : Nat → Int32} (hL : L ≤ 66) (hC : C ≤ 132) (hbg : bg ≤ 40) (hSG : SG L C bg sg M) (w1 : (atO L C bg p0 l0 k0 = true ∧ r1 = 0 ∧ u1 0 = (M p0.toNatClampNeg l0.toNatClampNeg k0.toNatClampNeg).toInt64) ∨ (atO L C bg p0 l0 k0 = false ∧ r1 = 1)) (w2 : (atO L C bg p0 l0 k0 = true ∧ u2 = 0 ∧ r2 = sg (atP p0 l0 k0)) ∨ (atO L C bg p0 l0 k0 = false ∧ u2 = 1)) (hr : r1 = 0) : lg_cmp (u1 (0 : Int32).toNatClampNeg) r2.toInt64 = 0 := by
  rcases w1 with ⟨q1, q2, q5⟩ | ⟨q1, q2⟩
  · rcases w2 with ⟨q3, q4, q6⟩ | ⟨q3, q4⟩
    · obtain ⟨-, -, -, hp, hi, hk⟩ := atO_spec hL hC hbg q1
      have h9 : sg (atP p0 l0 k0) = M p0.toNatClampNeg l0.toNatClampNeg k0.toNatClampNeg := hSG _ _ _ hp hi hk
      rw [show u1 (0 : Int32).toNatClampNeg = u1 0 from rfl, q5, q6, h9]
      exact lg_self _
    · rw [q1] at q3; cases q3
  · rw [hr] at q2
    exact absurd q2 (by decide)
theorem sk_fresh {L : Nat} {ch : Nat → Int32} (hL0 : 0 < L) (hL : L ≤ 66) (hch : CHK L ch) (c : Int32) : skRx L 0 ch 0 false c = skR L 0 ch 0 false c := by
  unfold skRx skR
  by_cases h : zb (isCh c) = 0
  · rw [if_pos h, if_pos h]
  · rw [if_neg h, if_neg h]
    obtain ⟨k, h1, h2, h3⟩ := isCh_nI (zb1.mp h)
    have hk : c.toNatClampNeg = k := by rw [h3, nI_clamp (by omega)]
    have hw : wyN L 0 (ch c.toNatClampNeg) ≤ L := by rw [hk]; exact wyN_le hL0 hL (hch k h1 h2)
    have hd : (0 + wyN L 0 (ch c.toNatClampNeg)) / L ≤ 1 := by
      rw [Nat.zero_add]
      exact Nat.le_trans (Nat.div_le_div_right hw) (by rw [Nat.div_self hL0]; exact Nat.le_refl _)
    have hs : sP 0 false + (0 + wyN L 0 (ch c.toNatClampNeg)) / L < 40 := by
      have : sP 0 false = 0 := rfl
      omega
    have ht : (skT L 0 ch 0 false c).1 ≤ 40 := (fit_move (bg := 0) (on := false) hL0 hL0 (by omega) (fun q => (by cases q))).mp (Nat.le_of_lt hs)
    rw [if_pos hs, if_pos ht]
set_option maxHeartbeats 8000000 in
set_option maxRecDepth 100000 in
theorem law_end {p : Program} {e : Env} {s : State} {m : MethodId} {below : List Frame} {meth : Method} {c : Code} (l : Launch) {x m0 o : Nat} {b N : Nat} {xs : Nat → Int32} (hN : N ≤ 6) (C0 : lw_At p s m meth c b N xs) (i : Nat) (hi : 1 ≤ i) (hi2 : i ≤ 5) {H : Heap} {locs : List Loc} {ls : Array Slot} (hS : va_S (fun q : Nat => s.heap.size ≤ q) s.heap H locs) (hl : lv_has ls 7 [(0, .ref b), (1, .ref x), (2, .ref m0), (3, .ref o), (4, .int (nI (2 + 4 * i)))]) : W p l e room_1 s m #[Value.ref b] below meth c H locs (12 + 136) (349499 + 4689) (lw_Z below #[Value.ref b] s) (F0 m 43 ls []) := by
  obtain ⟨hx, hb, hr, hml, hown0, htl, hX, hbl, hlocks, hgv⟩ := id C0
  have hown : s.vm.findClass RL = some m.cls := hown0
  have hts : ∀ w ∈ wsL_law, w.before #[Value.ref b] s = true := fun w hw => htl w (lw_good w hw).1
  have hA : ∀ q : Nat, s.heap.size ≤ q → (fun q : Nat => s.heap.size ≤ q) q := fun _ h => h
  have hbA : ¬ (fun q : Nat => s.heap.size ≤ q) b := Nat.not_le.mpr hbl
  refine lv_iload hx hb dL_law_43 (lv_at hl 4 rfl) ?_
  refine lv_aload_n hx hb dL_law_45 rfl (lv_at hl 0 rfl) ?_
  refine va_slen hx hb hX hbl hbA hS dL_law_46 ?_
  refine W.eq (g2 := F0 m 47 ls [.int (nI N), .int (nI (2 + 4 * i))]) rfl ?_
  refine lv_iconst (v := 4) hx hb dL_law_47 (by decide +kernel) ?_
  refine lv_isub hx hb dL_law_48 ?_
  refine lv_icmp_gt (tgt := 527) hx hb dL_law_49 (by decide) (fun c_49 => ?_) (fun c_49 => absurd ((by have h9 := i32 (nI N - 4); have hN9 := nI_toInt (n := N) (by omega); have h4 : (4 : Int32).toInt = 4 := rfl; rw [i32_lt, nI_toInt (by omega)]; rcases i32_sub (nI N) 4 with e9 | e9 | e9 <;> omega)) c_49)
  refine lv_iconst (v := 1) hx hb dL_law_527 (by decide +kernel) ?_
  refine W.widen (k := 600002) (n := 7302198) (by omega) (by omega) ?_
  exact W.forget (locs := []) (L := locs) (fun q hq => hS.2.2 q hq) (lw_ret hx hb hr hlocks dL_law_528)
set_option maxHeartbeats 8000000 in
set_option maxRecDepth 100000 in
theorem law_first {p : Program} {e : Env} {s : State} {m : MethodId} {below : List Frame} {meth : Method} {c : Code} (l : Launch) (hl0 : l.stackTraces = false) {b N : Nat} {xs : Nat → Int32} (hN : N ≤ 6) (C0 : lw_At p s m meth c b N xs) {D : va_G} {cI cP cR cJ : ClassId} (hK : KK D cI cP cR cJ s) {sq : Nat} (hTX : TX sq s) {x aC aT aR aP m0 mS mC mT mR mA o L C : Nat} (hL0 : 0 < L) (hL : L ≤ 66) (hC : C ≤ 132) (i : Nat) (hi : i = 0) {rl bg st tp tl : Nat} {on tb : Bool} {th mk rp sp sc sk fa : Int32} {ch tr rc sg ta : Nat → Int32} {pg : Nat → Option Nat} {pl : va_W} {own : Nat → Nat × Nat} {M : Nat → Nat → Nat → Int32} {fo : Nat → Int64} {H : Heap} {locs : List Loc} {ls : Array Slot} (hbg0 : bg = 0) (hst0 : st = 0) (hon0 : on = false) (hI : INX cI cR L C rl bg st on ch rc pg pl own M) (hSG : SG L C bg sg M) (hTA : TA ta rp sp sc sk fa) (hP : va_P D vwCl (wM cI m0 mS mC mT mR mA th (nI L) (nI C) (nI rl) (nI bg) (nI st) mk (zb on) (nI tp) (nI tl) (zb tb) sg ch tr rc ta ++ ((o, .inl (cJ, 1, .inr (.inl fo))) :: wX cI cP x aC aT aR aP (nI L) (nI C) (nI rl) (nI bg) (zb on) (nI st) mk rp sp sc sk fa ch tr rc pg pl)) H) (hD : va_D (fun q : Nat => s.heap.size ≤ q) (wM cI m0 mS mC mT mR mA th (nI L) (nI C) (nI rl) (nI bg) (nI st) mk (zb on) (nI tp) (nI tl) (zb tb) sg ch tr rc ta ++ ((o, .inl (cJ, 1, .inr (.inl fo))) :: wX cI cP x aC aT aR aP (nI L) (nI C) (nI rl) (nI bg) (zb on) (nI st) mk rp sp sc sk fa ch tr rc pg pl))) (hS : va_S (fun q : Nat => s.heap.size ≤ q) s.heap H locs) (hl : lv_has ls 7 [(0, .ref b), (1, .ref x), (2, .ref m0), (3, .ref o), (4, .int (nI (2 + 4 * i)))]) : W p l e room_1 s m #[Value.ref b] below meth c H locs 12 349499 (lw_Z below #[Value.ref b] s) (F0 m 43 ls []) := by
  obtain ⟨hx, hb, hr, hml, hown0, htl, hX, hbl, hlocks, hgv⟩ := id C0
  have hown : s.vm.findClass RL = some m.cls := hown0
  have hts : ∀ w ∈ wsL_law, w.before #[Value.ref b] s = true := fun w hw => htl w (lw_good w hw).1
  have hA : ∀ q : Nat, s.heap.size ≤ q → (fun q : Nat => s.heap.size ≤ q) q := fun _ h => h
  have hbA : ¬ (fun q : Nat => s.heap.size ≤ q) b := Nat.not_le.mpr hbl
  have hon : on = true → 0 < bg := fun q => (hI.2.2.2.2.2.2.1 q).1
  refine lv_iload hx hb dL_law_43 (lv_at hl 4 rfl) ?_
  refine lv_aload_n hx hb dL_law_45 rfl (lv_at hl 0 rfl) ?_
  refine va_slen hx hb hX hbl hbA hS dL_law_46 ?_
  refine W.eq (g2 := F0 m 47 ls [.int (nI N), .int (nI (2 + 4 * i))]) rfl ?_
  refine lv_iconst (v := 4) hx hb dL_law_47 (by decide +kernel) ?_
  refine lv_isub hx hb dL_law_48 ?_
  refine lv_icmp_gt (tgt := 527) hx hb dL_law_49 (by decide) (fun c_49 => ?_) (fun c_49 => ?_)
  ·
    refine lv_iconst (v := 1) hx hb dL_law_527 (by decide +kernel) ?_
    refine W.widen (k := 600002) (n := 7302198) (by omega) (by omega) ?_
    exact W.forget (locs := []) (L := locs) (fun q hq => hS.2.2 q hq) (lw_ret hx hb hr hlocks dL_law_528)
  ·
    have hlt : 2 + 4 * i + 4 ≤ N := by
      have h9 := i32 (nI N - 4)
      have hN9 := nI_toInt (n := N) (by omega)
      have h4 : (4 : Int32).toInt = 4 := rfl
      rw [i32_lt, nI_toInt (by omega)] at c_49
      rcases i32_sub (nI N) 4 with e9 | e9 | e9 <;> omega
    refine lv_aload_n hx hb dL_law_52 rfl (lv_at hl 0 rfl) ?_
    refine lv_iload hx hb dL_law_53 (lv_at hl 4 rfl) ?_
    refine va_sld hx hb hX hbl hbA hS (vp_in_nI (by omega) (by omega)) dL_law_55 ?_
    refine W.eq (g2 := F0 m 56 ls [.int (xs (2 + 4 * i))]) (by rw [nI_clamp (by omega)]) ?_
    refine lv_bipush (v := 15) hx hb dL_law_56 (by decide +kernel) ?_
    refine lv_iand hx hb dL_law_58 ?_
    refine lv_topi (fun z ez => ?_)
    clear ez
    by_cases k_0 : z = 0
    ·
      refine lv_tableIn (off := 61) (tgt := 120) hx hb dL_law_59 (by rw [k_0]; decide +kernel) (by rw [k_0]; decide +kernel) (by rw [k_0]; decide +kernel) (by decide) ?_
      refine lv_aload_n hx hb dL_law_120 rfl (lv_at hl 1 rfl) ?_
      refine lv_aload_n hx hb dL_law_121 rfl (lv_at hl 0 rfl) ?_
      refine lv_iload hx hb dL_law_122 (lv_at hl 4 rfl) ?_
      refine lv_iconst (v := 1) hx hb dL_law_124 (by decide +kernel) ?_
      refine lv_iadd hx hb dL_law_125 ?_
      refine W.eq (g2 := F0 m 126 ls [.int (nI (2 + 4 * i + 1)), .ref b, .ref x]) (by rw [show (1 : Int32) = nI 1 from rfl, nI_add]) ?_
      refine va_sld hx hb hX hbl hbA hS (vp_in_nI (by omega) (by omega)) dL_law_126 ?_
      refine W.eq (g2 := F0 m 127 ls [.int (xs (2 + 4 * i + 1)), .ref x]) (by rw [nI_clamp (by omega)]) ?_
      refine lv_aload_n hx hb dL_law_127 rfl (lv_at hl 0 rfl) ?_
      refine lv_iload hx hb dL_law_128 (lv_at hl 4 rfl) ?_
      refine lv_iconst (v := 2) hx hb dL_law_130 (by decide +kernel) ?_
      refine lv_iadd hx hb dL_law_131 ?_
      refine W.eq (g2 := F0 m 132 ls [.int (nI (2 + 4 * i + 2)), .ref b, .int (xs (2 + 4 * i + 1)), .ref x]) (by rw [show (2 : Int32) = nI 2 from rfl, nI_add]) ?_
      refine va_sld hx hb hX hbl hbA hS (vp_in_nI (by omega) (by omega)) dL_law_132 ?_
      refine W.eq (g2 := F0 m 133 ls [.int (xs (2 + 4 * i + 2)), .int (xs (2 + 4 * i + 1)), .ref x]) (by rw [nI_clamp (by omega)]) ?_
      have hPs : va_P D vwCl ((wM cI m0 mS mC mT mR mA th (nI L) (nI C) (nI rl) (nI bg) (nI st) mk (zb on) (nI tp) (nI tl) (zb tb) sg ch tr rc ta ++ [(o, .inl (cJ, 1, .inr (.inl fo)))]) ++ wX cI cP x aC aT aR aP (nI L) (nI C) (nI rl) (nI bg) (zb on) (nI st) mk rp sp sc sk fa ch tr rc pg pl) H := hP
      have hDs : va_D (fun q : Nat => s.heap.size ≤ q) ((wM cI m0 mS mC mT mR mA th (nI L) (nI C) (nI rl) (nI bg) (nI st) mk (zb on) (nI tp) (nI tl) (zb tb) sg ch tr rc ta ++ [(o, .inl (cJ, 1, .inr (.inl fo)))]) ++ wX cI cP x aC aT aR aP (nI L) (nI C) (nI rl) (nI bg) (zb on) (nI st) mk rp sp sc sk fa ch tr rc pg pl) := hD
      refine callSi (wr := wM cI m0 mS mC mT mR mA th (nI L) (nI C) (nI rl) (nI bg) (nI st) mk (zb on) (nI tp) (nI tl) (zb tb) sg ch tr rc ta ++ [(o, .inl (cJ, 1, .inr (.inl fo)))]) (wc := wX cI cP x aC aT aR aP (nI L) (nI C) (nI rl) (nI bg) (zb on) (nI st) mk rp sp sc sk fa ch tr rc pg pl) (va_runV (As := [.int (xs (2 + 4 * i + 1)), .int (xs (2 + 4 * i + 2))]) (rest := []) ⟨hx, hb, hml, hown, hts⟩ (c_X2_channel l (xs (2 + 4 * i + 1)) (xs (2 + 4 * i + 2))) (cwV 2 hts gL_law_X2_channel rfl rfl rfl (by decide +kernel) ⟨(Nat.le_of_ble_eq_true rfl), (Nat.le_of_ble_eq_true rfl)⟩) (mu_pre hK (sufP hPs) (sufD hDs) rfl 0 rfl) rfl rfl hl.1 rfl (lv_room (Nat.le_of_ble_eq_true rfl)) dL_law_133 ⟨by show 12 + 0 + 0 ≤ 600002; omega, by show 349499 + 0 + 0 ≤ 7302198; omega⟩) hPs hDs hS hA (fun r_133 u_133 H locs w_133 hP hD hS => ?_)
      obtain ⟨rfl, rfl⟩ := w_133
      have hP : va_P D vwCl (wM cI m0 mS mC mT mR mA th (nI L) (nI C) (nI rl) (nI bg) (nI st) mk (zb on) (nI tp) (nI tl) (zb tb) sg ch tr rc ta ++ ((o, .inl (cJ, 1, .inr (.inl fo))) :: wX cI cP x aC aT aR aP (nI L) (nI C) (nI rl) (nI bg) (zb on) (nI st) mk rp sp sc sk fa (chN L ch (xs (2 + 4 * i + 1)) (xs (2 + 4 * i + 2))) tr rc pg pl)) H := hP
      have hD : va_D (fun q : Nat => s.heap.size ≤ q) (wM cI m0 mS mC mT mR mA th (nI L) (nI C) (nI rl) (nI bg) (nI st) mk (zb on) (nI tp) (nI tl) (zb tb) sg ch tr rc ta ++ ((o, .inl (cJ, 1, .inr (.inl fo))) :: wX cI cP x aC aT aR aP (nI L) (nI C) (nI rl) (nI bg) (zb on) (nI st) mk rp sp sc sk fa (chN L ch (xs (2 + 4 * i + 1)) (xs (2 + 4 * i + 2))) tr rc pg pl)) := hD
      refine lv_aload_n hx hb dL_law_136 rfl (lv_at hl 2 rfl) ?_
      refine lv_aload_n hx hb dL_law_137 rfl (lv_at hl 0 rfl) ?_
      refine lv_iload hx hb dL_law_138 (lv_at hl 4 rfl) ?_
      refine lv_iconst (v := 1) hx hb dL_law_140 (by decide +kernel) ?_
      refine lv_iadd hx hb dL_law_141 ?_
      refine W.eq (g2 := F0 m 142 ls [.int (nI (2 + 4 * i + 1)), .ref b, .ref m0, .int (chR L ch (xs (2 + 4 * i + 1)) (xs (2 + 4 * i + 2)))]) (by rw [show (1 : Int32) = nI 1 from rfl, nI_add]) ?_
      refine va_sld hx hb hX hbl hbA hS (vp_in_nI (by omega) (by omega)) dL_law_142 ?_
      refine W.eq (g2 := F0 m 143 ls [.int (xs (2 + 4 * i + 1)), .ref m0, .int (chR L ch (xs (2 + 4 * i + 1)) (xs (2 + 4 * i + 2)))]) (by rw [nI_clamp (by omega)]) ?_
      refine lv_aload_n hx hb dL_law_143 rfl (lv_at hl 0 rfl) ?_
      refine lv_iload hx hb dL_law_144 (lv_at hl 4 rfl) ?_
      refine lv_iconst (v := 2) hx hb dL_law_146 (by decide +kernel) ?_
      refine lv_iadd hx hb dL_law_147 ?_
      refine W.eq (g2 := F0 m 148 ls [.int (nI (2 + 4 * i + 2)), .ref b, .int (xs (2 + 4 * i + 1)), .ref m0, .int (chR L ch (xs (2 + 4 * i + 1)) (xs (2 + 4 * i + 2)))]) (by rw [show (2 : Int32) = nI 2 from rfl, nI_add]) ?_
      refine va_sld hx hb hX hbl hbA hS (vp_in_nI (by omega) (by omega)) dL_law_148 ?_
      refine W.eq (g2 := F0 m 149 ls [.int (xs (2 + 4 * i + 2)), .int (xs (2 + 4 * i + 1)), .ref m0, .int (chR L ch (xs (2 + 4 * i + 1)) (xs (2 + 4 * i + 2)))]) (by rw [nI_clamp (by omega)]) ?_
      refine callPi (wc := wM cI m0 mS mC mT mR mA th (nI L) (nI C) (nI rl) (nI bg) (nI st) mk (zb on) (nI tp) (nI tl) (zb tb) sg ch tr rc ta) (wr := (o, .inl (cJ, 1, .inr (.inl fo))) :: wX cI cP x aC aT aR aP (nI L) (nI C) (nI rl) (nI bg) (zb on) (nI st) mk rp sp sc sk fa (chN L ch (xs (2 + 4 * i + 1)) (xs (2 + 4 * i + 2))) tr rc pg pl) (va_runV (As := [.int (xs (2 + 4 * i + 1)), .int (xs (2 + 4 * i + 2))]) (rest := [.int (chR L ch (xs (2 + 4 * i + 1)) (xs (2 + 4 * i + 2)))]) ⟨hx, hb, hml, hown, hts⟩ (c_X3_channel l (xs (2 + 4 * i + 1)) (xs (2 + 4 * i + 2))) (cwV 2 hts gL_law_X3_channel rfl rfl rfl (by decide +kernel) ⟨(Nat.le_of_ble_eq_true rfl), (Nat.le_of_ble_eq_true rfl)⟩) (mu_pre hK (preP hP) (preD hD) rfl 0 rfl) rfl rfl hl.1 rfl (lv_room (Nat.le_of_ble_eq_true rfl)) dL_law_149 ⟨by show 12 + 0 + 0 ≤ 600002; omega, by show 349499 + 0 + 0 ≤ 7302198; omega⟩) hP hD hS hA (fun r_149 u_149 H locs w_149 hP hD hS => ?_)
      obtain ⟨rfl, rfl⟩ := w_149
      have hP : va_P D vwCl (wM cI m0 mS mC mT mR mA 0 (nI L) (nI C) (nI rl) (nI bg) (nI st) mk (zb on) (nI tp) (nI tl) (zb tb) sg (chN L ch (xs (2 + 4 * i + 1)) (xs (2 + 4 * i + 2))) tr rc ta ++ ((o, .inl (cJ, 1, .inr (.inl fo))) :: wX cI cP x aC aT aR aP (nI L) (nI C) (nI rl) (nI bg) (zb on) (nI st) mk rp sp sc sk fa (chN L ch (xs (2 + 4 * i + 1)) (xs (2 + 4 * i + 2))) tr rc pg pl)) H := hP
      have hD : va_D (fun q : Nat => s.heap.size ≤ q) (wM cI m0 mS mC mT mR mA 0 (nI L) (nI C) (nI rl) (nI bg) (nI st) mk (zb on) (nI tp) (nI tl) (zb tb) sg (chN L ch (xs (2 + 4 * i + 1)) (xs (2 + 4 * i + 2))) tr rc ta ++ ((o, .inl (cJ, 1, .inr (.inl fo))) :: wX cI cP x aC aT aR aP (nI L) (nI C) (nI rl) (nI bg) (zb on) (nI st) mk rp sp sc sk fa (chN L ch (xs (2 + 4 * i + 1)) (xs (2 + 4 * i + 2))) tr rc pg pl)) := hD
      refine lv_icmp_eq (tgt := 521) hx hb dL_law_152 (by decide) (fun c_152 => ?_) (fun c_152 => absurd (rfl) c_152)
      refine W.widen (k := 12 + 136) (n := 349499 + 4689) (by omega) (by omega) ?_
      refine lv_iinc (v := nI (2 + 4 * (i + 1))) (lv' := [(4, .int (nI (2 + 4 * (i + 1)))), (0, .ref b), (1, .ref x), (2, .ref m0), (3, .ref o)]) hx hb dL_law_521 hl (k := 4) rfl (by rw [show Int32.ofInt 4 = nI 4 from rfl, nI_add]; congr 1) (by decide) rfl (fun ls hl => ?_)
      refine lv_goto (tgt := 43) hx hb dL_law_524 (by decide) ?_
      exact law_end l hN C0 (i + 1) (by omega) (by omega) hS (lv_sub hl [1, 2, 3, 4, 0] rfl)
    by_cases k_1 : z = 1
    ·
      refine lv_tableIn (off := 98) (tgt := 157) hx hb dL_law_59 (by rw [k_1]; decide +kernel) (by rw [k_1]; decide +kernel) (by rw [k_1]; decide +kernel) (by decide) ?_
      refine lv_aload_n hx hb dL_law_157 rfl (lv_at hl 1 rfl) ?_
      refine lv_aload_n hx hb dL_law_158 rfl (lv_at hl 0 rfl) ?_
      refine lv_iload hx hb dL_law_159 (lv_at hl 4 rfl) ?_
      refine lv_iconst (v := 1) hx hb dL_law_161 (by decide +kernel) ?_
      refine lv_iadd hx hb dL_law_162 ?_
      refine W.eq (g2 := F0 m 163 ls [.int (nI (2 + 4 * i + 1)), .ref b, .ref x]) (by rw [show (1 : Int32) = nI 1 from rfl, nI_add]) ?_
      refine va_sld hx hb hX hbl hbA hS (vp_in_nI (by omega) (by omega)) dL_law_163 ?_
      refine W.eq (g2 := F0 m 164 ls [.int (xs (2 + 4 * i + 1)), .ref x]) (by rw [nI_clamp (by omega)]) ?_
      have hPs : va_P D vwCl ((wM cI m0 mS mC mT mR mA th (nI L) (nI C) (nI rl) (nI bg) (nI st) mk (zb on) (nI tp) (nI tl) (zb tb) sg ch tr rc ta ++ [(o, .inl (cJ, 1, .inr (.inl fo)))]) ++ wX cI cP x aC aT aR aP (nI L) (nI C) (nI rl) (nI bg) (zb on) (nI st) mk rp sp sc sk fa ch tr rc pg pl) H := hP
      have hDs : va_D (fun q : Nat => s.heap.size ≤ q) ((wM cI m0 mS mC mT mR mA th (nI L) (nI C) (nI rl) (nI bg) (nI st) mk (zb on) (nI tp) (nI tl) (zb tb) sg ch tr rc ta ++ [(o, .inl (cJ, 1, .inr (.inl fo)))]) ++ wX cI cP x aC aT aR aP (nI L) (nI C) (nI rl) (nI bg) (zb on) (nI st) mk rp sp sc sk fa ch tr rc pg pl) := hD
      refine callSv (wr := wM cI m0 mS mC mT mR mA th (nI L) (nI C) (nI rl) (nI bg) (nI st) mk (zb on) (nI tp) (nI tl) (zb tb) sg ch tr rc ta ++ [(o, .inl (cJ, 1, .inr (.inl fo)))]) (wc := wX cI cP x aC aT aR aP (nI L) (nI C) (nI rl) (nI bg) (zb on) (nI st) mk rp sp sc sk fa ch tr rc pg pl) (va_runV (As := [.int (xs (2 + 4 * i + 1))]) (rest := []) ⟨hx, hb, hml, hown, hts⟩ (c_X2_sign l hI.1 (xs (2 + 4 * i + 1))) (cwV 1 hts gL_law_X2_sign rfl rfl rfl (by decide +kernel) ⟨(Nat.le_of_ble_eq_true rfl), (Nat.le_of_ble_eq_true rfl)⟩) (mu_pre hK (sufP hPs) (sufD hDs) rfl 0 rfl) rfl rfl hl.1 rfl (lv_room (Nat.le_of_ble_eq_true rfl)) dL_law_164 ⟨by show 12 + 0 + 0 ≤ 600002; omega, by show 349499 + 0 + 0 ≤ 7302198; omega⟩) hPs hDs hS hA (fun u_164 H locs w_164 hP hD hS => ?_)
      obtain rfl := w_164
      have hP : va_P D vwCl (wM cI m0 mS mC mT mR mA th (nI L) (nI C) (nI rl) (nI bg) (nI st) mk (zb on) (nI tp) (nI tl) (zb tb) sg ch tr rc ta ++ ((o, .inl (cJ, 1, .inr (.inl fo))) :: wX cI cP x aC aT aR aP (nI L) (nI C) (nI (sgL rl)) (nI bg) (zb on) (nI st) mk rp sp sc sk fa ch tr (sgC rl rc (xs (2 + 4 * i + 1))) pg pl)) H := hP
      have hD : va_D (fun q : Nat => s.heap.size ≤ q) (wM cI m0 mS mC mT mR mA th (nI L) (nI C) (nI rl) (nI bg) (nI st) mk (zb on) (nI tp) (nI tl) (zb tb) sg ch tr rc ta ++ ((o, .inl (cJ, 1, .inr (.inl fo))) :: wX cI cP x aC aT aR aP (nI L) (nI C) (nI (sgL rl)) (nI bg) (zb on) (nI st) mk rp sp sc sk fa ch tr (sgC rl rc (xs (2 + 4 * i + 1))) pg pl)) := hD
      refine lv_aload_n hx hb dL_law_167 rfl (lv_at hl 2 rfl) ?_
      refine lv_aload_n hx hb dL_law_168 rfl (lv_at hl 0 rfl) ?_
      refine lv_iload hx hb dL_law_169 (lv_at hl 4 rfl) ?_
      refine lv_iconst (v := 1) hx hb dL_law_171 (by decide +kernel) ?_
      refine lv_iadd hx hb dL_law_172 ?_
      refine W.eq (g2 := F0 m 173 ls [.int (nI (2 + 4 * i + 1)), .ref b, .ref m0]) (by rw [show (1 : Int32) = nI 1 from rfl, nI_add]) ?_
      refine va_sld hx hb hX hbl hbA hS (vp_in_nI (by omega) (by omega)) dL_law_173 ?_
      refine W.eq (g2 := F0 m 174 ls [.int (xs (2 + 4 * i + 1)), .ref m0]) (by rw [nI_clamp (by omega)]) ?_
      refine callPv (wc := wM cI m0 mS mC mT mR mA th (nI L) (nI C) (nI rl) (nI bg) (nI st) mk (zb on) (nI tp) (nI tl) (zb tb) sg ch tr rc ta) (wr := (o, .inl (cJ, 1, .inr (.inl fo))) :: wX cI cP x aC aT aR aP (nI L) (nI C) (nI (sgL rl)) (nI bg) (zb on) (nI st) mk rp sp sc sk fa ch tr (sgC rl rc (xs (2 + 4 * i + 1))) pg pl) (va_runV (As := [.int (xs (2 + 4 * i + 1))]) (rest := []) ⟨hx, hb, hml, hown, hts⟩ (c_X3_sign l hI.1 (xs (2 + 4 * i + 1))) (cwV 1 hts gL_law_X3_sign rfl rfl rfl (by decide +kernel) ⟨(Nat.le_of_ble_eq_true rfl), (Nat.le_of_ble_eq_true rfl)⟩) (mu_pre hK (preP hP) (preD hD) rfl 0 rfl) rfl rfl hl.1 rfl (lv_room (Nat.le_of_ble_eq_true rfl)) dL_law_174 ⟨by show 12 + 0 + 0 ≤ 600002; omega, by show 349499 + 0 + 0 ≤ 7302198; omega⟩) hP hD hS hA (fun u_174 H locs w_174 hP hD hS => ?_)
      obtain rfl := w_174
      have hP : va_P D vwCl (wM cI m0 mS mC mT mR mA 0 (nI L) (nI C) (nI (sgL rl)) (nI bg) (nI st) mk (zb on) (nI tp) (nI tl) (zb tb) sg ch tr (sgC rl rc (xs (2 + 4 * i + 1))) ta ++ ((o, .inl (cJ, 1, .inr (.inl fo))) :: wX cI cP x aC aT aR aP (nI L) (nI C) (nI (sgL rl)) (nI bg) (zb on) (nI st) mk rp sp sc sk fa ch tr (sgC rl rc (xs (2 + 4 * i + 1))) pg pl)) H := hP
      have hD : va_D (fun q : Nat => s.heap.size ≤ q) (wM cI m0 mS mC mT mR mA 0 (nI L) (nI C) (nI (sgL rl)) (nI bg) (nI st) mk (zb on) (nI tp) (nI tl) (zb tb) sg ch tr (sgC rl rc (xs (2 + 4 * i + 1))) ta ++ ((o, .inl (cJ, 1, .inr (.inl fo))) :: wX cI cP x aC aT aR aP (nI L) (nI C) (nI (sgL rl)) (nI bg) (zb on) (nI st) mk rp sp sc sk fa ch tr (sgC rl rc (xs (2 + 4 * i + 1))) pg pl)) := hD
      refine lv_goto (tgt := 521) hx hb dL_law_177 (by decide) ?_
      refine W.widen (k := 12 + 136) (n := 349499 + 4689) (by omega) (by omega) ?_
      refine lv_iinc (v := nI (2 + 4 * (i + 1))) (lv' := [(4, .int (nI (2 + 4 * (i + 1)))), (0, .ref b), (1, .ref x), (2, .ref m0), (3, .ref o)]) hx hb dL_law_521 hl (k := 4) rfl (by rw [show Int32.ofInt 4 = nI 4 from rfl, nI_add]; congr 1) (by decide) rfl (fun ls hl => ?_)
      refine lv_goto (tgt := 43) hx hb dL_law_524 (by decide) ?_
      exact law_end l hN C0 (i + 1) (by omega) (by omega) hS (lv_sub hl [1, 2, 3, 4, 0] rfl)
    by_cases k_2 : z = 2
    ·
      refine lv_tableIn (off := 121) (tgt := 180) hx hb dL_law_59 (by rw [k_2]; decide +kernel) (by rw [k_2]; decide +kernel) (by rw [k_2]; decide +kernel) (by decide) ?_
      refine lv_aload_n hx hb dL_law_180 rfl (lv_at hl 1 rfl) ?_
      refine lv_aload_n hx hb dL_law_181 rfl (lv_at hl 0 rfl) ?_
      refine lv_iload hx hb dL_law_182 (lv_at hl 4 rfl) ?_
      refine lv_iconst (v := 1) hx hb dL_law_184 (by decide +kernel) ?_
      refine lv_iadd hx hb dL_law_185 ?_
      refine W.eq (g2 := F0 m 186 ls [.int (nI (2 + 4 * i + 1)), .ref b, .ref x]) (by rw [show (1 : Int32) = nI 1 from rfl, nI_add]) ?_
      refine va_sld hx hb hX hbl hbA hS (vp_in_nI (by omega) (by omega)) dL_law_186 ?_
      refine W.eq (g2 := F0 m 187 ls [.int (xs (2 + 4 * i + 1)), .ref x]) (by rw [nI_clamp (by omega)]) ?_
      obtain ⟨w0, hw0⟩ : ∃ w0, w0 = lwy L st ch (xs (2 + 4 * i + 1)) := ⟨_, rfl⟩
      have hPs : va_P D vwCl ((wM cI m0 mS mC mT mR mA th (nI L) (nI C) (nI rl) (nI bg) (nI st) mk (zb on) (nI tp) (nI tl) (zb tb) sg ch tr rc ta ++ [(o, .inl (cJ, 1, .inr (.inl fo)))]) ++ wX cI cP x aC aT aR aP (nI L) (nI C) (nI rl) (nI bg) (zb on) (nI st) mk rp sp sc sk fa ch tr rc pg pl) H := hP
      have hDs : va_D (fun q : Nat => s.heap.size ≤ q) ((wM cI m0 mS mC mT mR mA th (nI L) (nI C) (nI rl) (nI bg) (nI st) mk (zb on) (nI tp) (nI tl) (zb tb) sg ch tr rc ta ++ [(o, .inl (cJ, 1, .inr (.inl fo)))]) ++ wX cI cP x aC aT aR aP (nI L) (nI C) (nI rl) (nI bg) (zb on) (nI st) mk rp sp sc sk fa ch tr rc pg pl) := hD
      refine callSi (wr := wM cI m0 mS mC mT mR mA th (nI L) (nI C) (nI rl) (nI bg) (nI st) mk (zb on) (nI tp) (nI tl) (zb tb) sg ch tr rc ta ++ [(o, .inl (cJ, 1, .inr (.inl fo)))]) (wc := wX cI cP x aC aT aR aP (nI L) (nI C) (nI rl) (nI bg) (zb on) (nI st) mk rp sp sc sk fa ch tr rc pg pl) (va_runV (As := [.int (xs (2 + 4 * i + 1))]) (rest := []) ⟨hx, hb, hml, hown, hts⟩ (c_X2_line l hL0 hL hC hI.2.2.1 hI.2.1 hI.2.2.2.1 hI.2.2.2.2.2.1 hI.2.2.2.2.2.2.1 hI.1 hI.2.2.2.2.1 hI.2.2.2.2.2.2.2 (xs (2 + 4 * i + 1)) w0 hw0) (cwV 1 hts gL_law_X2_line rfl rfl rfl (by decide +kernel) ⟨(Nat.le_of_ble_eq_true rfl), (Nat.le_of_ble_eq_true rfl)⟩) (mu_pre hK (sufP hPs) (sufD hDs) rfl 0 rfl) rfl rfl hl.1 rfl (lv_room (Nat.le_of_ble_eq_true rfl)) dL_law_187 ⟨by show 12 + 0 + 136 ≤ 600002; omega, by show 349499 + 0 + 4689 ≤ 7302198; omega⟩) hPs hDs hS hA (fun r_187 u_187 H locs w_187 hP hD hS => ?_)
      obtain ⟨pl1, pg1, bg1, st1, on1, rl1, rp1, sp1, sc1, sk1⟩ := u_187
      dsimp only at hP hD
      have hP : va_P D vwCl (wM cI m0 mS mC mT mR mA th (nI L) (nI C) (nI rl) (nI bg) (nI st) mk (zb on) (nI tp) (nI tl) (zb tb) sg ch tr rc ta ++ ((o, .inl (cJ, 1, .inr (.inl fo))) :: wX cI cP x aC aT aR aP (nI L) (nI C) (nI rl1) (nI bg1) (zb on1) (nI st1) mk rp1 sp1 sc1 sk1 fa ch tr rc pg1 pl1)) H := hP
      have hD : va_D (fun q : Nat => s.heap.size ≤ q) (wM cI m0 mS mC mT mR mA th (nI L) (nI C) (nI rl) (nI bg) (nI st) mk (zb on) (nI tp) (nI tl) (zb tb) sg ch tr rc ta ++ ((o, .inl (cJ, 1, .inr (.inl fo))) :: wX cI cP x aC aT aR aP (nI L) (nI C) (nI rl1) (nI bg1) (zb on1) (nI st1) mk rp1 sp1 sc1 sk1 fa ch tr rc pg1 pl1)) := hD
      refine lv_aload_n hx hb dL_law_190 rfl (lv_at hl 2 rfl) ?_
      refine lv_aload_n hx hb dL_law_191 rfl (lv_at hl 0 rfl) ?_
      refine lv_iload hx hb dL_law_192 (lv_at hl 4 rfl) ?_
      refine lv_iconst (v := 1) hx hb dL_law_194 (by decide +kernel) ?_
      refine lv_iadd hx hb dL_law_195 ?_
      refine W.eq (g2 := F0 m 196 ls [.int (nI (2 + 4 * i + 1)), .ref b, .ref m0, .int r_187]) (by rw [show (1 : Int32) = nI 1 from rfl, nI_add]) ?_
      refine va_sld hx hb hX hbl hbA hS (vp_in_nI (by omega) (by omega)) dL_law_196 ?_
      refine W.eq (g2 := F0 m 197 ls [.int (xs (2 + 4 * i + 1)), .ref m0, .int r_187]) (by rw [nI_clamp (by omega)]) ?_
      refine callPi (wc := wM cI m0 mS mC mT mR mA th (nI L) (nI C) (nI rl) (nI bg) (nI st) mk (zb on) (nI tp) (nI tl) (zb tb) sg ch tr rc ta) (wr := (o, .inl (cJ, 1, .inr (.inl fo))) :: wX cI cP x aC aT aR aP (nI L) (nI C) (nI rl1) (nI bg1) (zb on1) (nI st1) mk rp1 sp1 sc1 sk1 fa ch tr rc pg1 pl1) (va_runV (As := [.int (xs (2 + 4 * i + 1))]) (rest := [.int r_187]) ⟨hx, hb, hml, hown, hts⟩ (c_X3_line l hL0 hL hC hI.2.2.1 hI.2.1 hon hI.2.2.2.1 hI.1 hI.2.2.2.2.1 (xs (2 + 4 * i + 1)) w0 hw0) (cwV 1 hts gL_law_X3_line rfl rfl rfl (by decide +kernel) ⟨(Nat.le_of_ble_eq_true rfl), (Nat.le_of_ble_eq_true rfl)⟩) (mu_pre hK (preP hP) (preD hD) rfl 0 rfl) rfl rfl hl.1 rfl (lv_room (Nat.le_of_ble_eq_true rfl)) dL_law_197 ⟨by show 12 + 0 + 136 + 0 ≤ 600002; omega, by show 349499 + 0 + 4689 + 0 ≤ 7302198; omega⟩) hP hD hS hA (fun r_197 u_197 H locs w_197 hP hD hS => ?_)
      obtain ⟨sg1, ta1, ⟨bg3, st3, on3⟩, rl3, tp1, tl1, tb1⟩ := u_197
      dsimp only at hP hD
      have heq : r_187 = r_197 := by
        rcases w_187 with ⟨h1, h2, -⟩ | ⟨h1, h2, -⟩
        · rcases w_197 with ⟨h3, h4, -⟩ | ⟨h3, h4, -⟩
          · rw [h2, h4]
          · exact absurd h1 h3
        · rcases w_197 with ⟨h3, h4, -⟩ | ⟨h3, h4, -⟩
          · exact absurd h3 h1
          · rw [h2, h4]
      have hP : va_P D vwCl (wM cI m0 mS mC mT mR mA 0 (nI L) (nI C) (nI rl3) (nI bg3) (nI st3) mk (zb on3) (nI tp1) (nI tl1) (zb tb1) sg1 ch tr rc ta1 ++ ((o, .inl (cJ, 1, .inr (.inl fo))) :: wX cI cP x aC aT aR aP (nI L) (nI C) (nI rl1) (nI bg1) (zb on1) (nI st1) mk rp1 sp1 sc1 sk1 fa ch tr rc pg1 pl1)) H := hP
      have hD : va_D (fun q : Nat => s.heap.size ≤ q) (wM cI m0 mS mC mT mR mA 0 (nI L) (nI C) (nI rl3) (nI bg3) (nI st3) mk (zb on3) (nI tp1) (nI tl1) (zb tb1) sg1 ch tr rc ta1 ++ ((o, .inl (cJ, 1, .inr (.inl fo))) :: wX cI cP x aC aT aR aP (nI L) (nI C) (nI rl1) (nI bg1) (zb on1) (nI st1) mk rp1 sp1 sc1 sk1 fa ch tr rc pg1 pl1)) := hD
      refine lv_icmp_eq (tgt := 521) hx hb dL_law_200 (by decide) (fun c_200 => ?_) (fun c_200 => absurd (heq) c_200)
      refine W.widen (k := 12 + 136) (n := 349499 + 4689) (by omega) (by omega) ?_
      refine lv_iinc (v := nI (2 + 4 * (i + 1))) (lv' := [(4, .int (nI (2 + 4 * (i + 1)))), (0, .ref b), (1, .ref x), (2, .ref m0), (3, .ref o)]) hx hb dL_law_521 hl (k := 4) rfl (by rw [show Int32.ofInt 4 = nI 4 from rfl, nI_add]; congr 1) (by decide) rfl (fun ls hl => ?_)
      refine lv_goto (tgt := 43) hx hb dL_law_524 (by decide) ?_
      exact law_end l hN C0 (i + 1) (by omega) (by omega) hS (lv_sub hl [1, 2, 3, 4, 0] rfl)
    by_cases k_3 : z = 3
    ·
      refine lv_tableIn (off := 146) (tgt := 205) hx hb dL_law_59 (by rw [k_3]; decide +kernel) (by rw [k_3]; decide +kernel) (by rw [k_3]; decide +kernel) (by decide) ?_
      refine lv_aload_n hx hb dL_law_205 rfl (lv_at hl 1 rfl) ?_
      refine lv_aload_n hx hb dL_law_206 rfl (lv_at hl 0 rfl) ?_
      refine lv_iload hx hb dL_law_207 (lv_at hl 4 rfl) ?_
      refine lv_iconst (v := 1) hx hb dL_law_209 (by decide +kernel) ?_
      refine lv_iadd hx hb dL_law_210 ?_
      refine W.eq (g2 := F0 m 211 ls [.int (nI (2 + 4 * i + 1)), .ref b, .ref x]) (by rw [show (1 : Int32) = nI 1 from rfl, nI_add]) ?_
      refine va_sld hx hb hX hbl hbA hS (vp_in_nI (by omega) (by omega)) dL_law_211 ?_
      refine W.eq (g2 := F0 m 212 ls [.int (xs (2 + 4 * i + 1)), .ref x]) (by rw [nI_clamp (by omega)]) ?_
      have hPs : va_P D vwCl ((wM cI m0 mS mC mT mR mA th (nI L) (nI C) (nI rl) (nI bg) (nI st) mk (zb on) (nI tp) (nI tl) (zb tb) sg ch tr rc ta ++ [(o, .inl (cJ, 1, .inr (.inl fo)))]) ++ wX cI cP x aC aT aR aP (nI L) (nI C) (nI rl) (nI bg) (zb on) (nI st) mk rp sp sc sk fa ch tr rc pg pl) H := hP
      have hDs : va_D (fun q : Nat => s.heap.size ≤ q) ((wM cI m0 mS mC mT mR mA th (nI L) (nI C) (nI rl) (nI bg) (nI st) mk (zb on) (nI tp) (nI tl) (zb tb) sg ch tr rc ta ++ [(o, .inl (cJ, 1, .inr (.inl fo)))]) ++ wX cI cP x aC aT aR aP (nI L) (nI C) (nI rl) (nI bg) (zb on) (nI st) mk rp sp sc sk fa ch tr rc pg pl) := hD
      refine callSi (wr := wM cI m0 mS mC mT mR mA th (nI L) (nI C) (nI rl) (nI bg) (nI st) mk (zb on) (nI tp) (nI tl) (zb tb) sg ch tr rc ta ++ [(o, .inl (cJ, 1, .inr (.inl fo)))]) (wc := wX cI cP x aC aT aR aP (nI L) (nI C) (nI rl) (nI bg) (zb on) (nI st) mk rp sp sc sk fa ch tr rc pg pl) (va_runV (As := [.int (xs (2 + 4 * i + 1))]) (rest := []) ⟨hx, hb, hml, hown, hts⟩ (c_X2_skip l hL0 hL hC hI.2.2.1 hI.2.1 hI.2.2.2.1 hI.2.2.2.2.2.1 hI.2.2.2.2.2.2.1 (xs (2 + 4 * i + 1))) (cwV 1 hts gL_law_X2_skip rfl rfl rfl (by decide +kernel) ⟨(Nat.le_of_ble_eq_true rfl), (Nat.le_of_ble_eq_true rfl)⟩) (mu_pre hK (sufP hPs) (sufD hDs) rfl 0 rfl) rfl rfl hl.1 rfl (lv_room (Nat.le_of_ble_eq_true rfl)) dL_law_212 ⟨by show 12 + 0 + 132 ≤ 600002; omega, by show 349499 + 0 + 4488 ≤ 7302198; omega⟩) hPs hDs hS hA (fun r_212 u_212 H locs w_212 hP hD hS => ?_)
      obtain ⟨pl1, pg1, bg1, st1, on1, sk1⟩ := u_212
      have hs1 := w_212.1
      dsimp only at hP hD
      have hP : va_P D vwCl (wM cI m0 mS mC mT mR mA th (nI L) (nI C) (nI rl) (nI bg) (nI st) mk (zb on) (nI tp) (nI tl) (zb tb) sg ch tr rc ta ++ ((o, .inl (cJ, 1, .inr (.inl fo))) :: wX cI cP x aC aT aR aP (nI L) (nI C) (nI rl) (nI bg1) (zb on1) (nI st1) mk rp sp sc sk1 fa ch tr rc pg1 pl1)) H := hP
      have hD : va_D (fun q : Nat => s.heap.size ≤ q) (wM cI m0 mS mC mT mR mA th (nI L) (nI C) (nI rl) (nI bg) (nI st) mk (zb on) (nI tp) (nI tl) (zb tb) sg ch tr rc ta ++ ((o, .inl (cJ, 1, .inr (.inl fo))) :: wX cI cP x aC aT aR aP (nI L) (nI C) (nI rl) (nI bg1) (zb on1) (nI st1) mk rp sp sc sk1 fa ch tr rc pg1 pl1)) := hD
      refine lv_aload_n hx hb dL_law_215 rfl (lv_at hl 2 rfl) ?_
      refine lv_aload_n hx hb dL_law_216 rfl (lv_at hl 0 rfl) ?_
      refine lv_iload hx hb dL_law_217 (lv_at hl 4 rfl) ?_
      refine lv_iconst (v := 1) hx hb dL_law_219 (by decide +kernel) ?_
      refine lv_iadd hx hb dL_law_220 ?_
      refine W.eq (g2 := F0 m 221 ls [.int (nI (2 + 4 * i + 1)), .ref b, .ref m0, .int r_212]) (by rw [show (1 : Int32) = nI 1 from rfl, nI_add]) ?_
      refine va_sld hx hb hX hbl hbA hS (vp_in_nI (by omega) (by omega)) dL_law_221 ?_
      refine W.eq (g2 := F0 m 222 ls [.int (xs (2 + 4 * i + 1)), .ref m0, .int r_212]) (by rw [nI_clamp (by omega)]) ?_
      refine callPi (wc := wM cI m0 mS mC mT mR mA th (nI L) (nI C) (nI rl) (nI bg) (nI st) mk (zb on) (nI tp) (nI tl) (zb tb) sg ch tr rc ta) (wr := (o, .inl (cJ, 1, .inr (.inl fo))) :: wX cI cP x aC aT aR aP (nI L) (nI C) (nI rl) (nI bg1) (zb on1) (nI st1) mk rp sp sc sk1 fa ch tr rc pg1 pl1) (va_runV (As := [.int (xs (2 + 4 * i + 1))]) (rest := [.int r_212]) ⟨hx, hb, hml, hown, hts⟩ (c_X3_skip l hL0 hL hC hI.2.2.1 hI.2.1 hon hI.2.2.2.1 (xs (2 + 4 * i + 1))) (cwV 1 hts gL_law_X3_skip rfl rfl rfl (by decide +kernel) ⟨(Nat.le_of_ble_eq_true rfl), (Nat.le_of_ble_eq_true rfl)⟩) (mu_pre hK (preP hP) (preD hD) rfl 0 rfl) rfl rfl hl.1 rfl (lv_room (Nat.le_of_ble_eq_true rfl)) dL_law_222 ⟨by show 12 + 0 + 132 + 0 ≤ 600002; omega, by show 349499 + 0 + 4488 + 0 ≤ 7302198; omega⟩) hP hD hS hA (fun r_222 u_222 H locs w_222 hP hD hS => ?_)
      obtain ⟨sg1, ta1, ⟨bg3, st3, on3⟩, tp1, tl1, tb1⟩ := u_222
      have hs2 := w_222.1
      dsimp only at hP hD
      have heq : r_212 = r_222 := by rw [hs1, hs2, hbg0, hst0, hon0]; exact sk_fresh hL0 hL hI.2.2.2.1 _
      have hP : va_P D vwCl (wM cI m0 mS mC mT mR mA 0 (nI L) (nI C) (nI rl) (nI bg3) (nI st3) mk (zb on3) (nI tp1) (nI tl1) (zb tb1) sg1 ch tr rc ta1 ++ ((o, .inl (cJ, 1, .inr (.inl fo))) :: wX cI cP x aC aT aR aP (nI L) (nI C) (nI rl) (nI bg1) (zb on1) (nI st1) mk rp sp sc sk1 fa ch tr rc pg1 pl1)) H := hP
      have hD : va_D (fun q : Nat => s.heap.size ≤ q) (wM cI m0 mS mC mT mR mA 0 (nI L) (nI C) (nI rl) (nI bg3) (nI st3) mk (zb on3) (nI tp1) (nI tl1) (zb tb1) sg1 ch tr rc ta1 ++ ((o, .inl (cJ, 1, .inr (.inl fo))) :: wX cI cP x aC aT aR aP (nI L) (nI C) (nI rl) (nI bg1) (zb on1) (nI st1) mk rp sp sc sk1 fa ch tr rc pg1 pl1)) := hD
      refine lv_icmp_eq (tgt := 521) hx hb dL_law_225 (by decide) (fun c_225 => ?_) (fun c_225 => absurd (heq) c_225)
      refine W.widen (k := 12 + 136) (n := 349499 + 4689) (by omega) (by omega) ?_
      refine lv_iinc (v := nI (2 + 4 * (i + 1))) (lv' := [(4, .int (nI (2 + 4 * (i + 1)))), (0, .ref b), (1, .ref x), (2, .ref m0), (3, .ref o)]) hx hb dL_law_521 hl (k := 4) rfl (by rw [show Int32.ofInt 4 = nI 4 from rfl, nI_add]; congr 1) (by decide) rfl (fun ls hl => ?_)
      refine lv_goto (tgt := 43) hx hb dL_law_524 (by decide) ?_
      exact law_end l hN C0 (i + 1) (by omega) (by omega) hS (lv_sub hl [1, 2, 3, 4, 0] rfl)
    by_cases k_4 : z = 4
    ·
      refine lv_tableIn (off := 171) (tgt := 230) hx hb dL_law_59 (by rw [k_4]; decide +kernel) (by rw [k_4]; decide +kernel) (by rw [k_4]; decide +kernel) (by decide) ?_
      refine lv_aload_n hx hb dL_law_230 rfl (lv_at hl 1 rfl) ?_
      have hPs : va_P D vwCl ((wM cI m0 mS mC mT mR mA th (nI L) (nI C) (nI rl) (nI bg) (nI st) mk (zb on) (nI tp) (nI tl) (zb tb) sg ch tr rc ta ++ [(o, .inl (cJ, 1, .inr (.inl fo)))]) ++ wX cI cP x aC aT aR aP (nI L) (nI C) (nI rl) (nI bg) (zb on) (nI st) mk rp sp sc sk fa ch tr rc pg pl) H := hP
      have hDs : va_D (fun q : Nat => s.heap.size ≤ q) ((wM cI m0 mS mC mT mR mA th (nI L) (nI C) (nI rl) (nI bg) (nI st) mk (zb on) (nI tp) (nI tl) (zb tb) sg ch tr rc ta ++ [(o, .inl (cJ, 1, .inr (.inl fo)))]) ++ wX cI cP x aC aT aR aP (nI L) (nI C) (nI rl) (nI bg) (zb on) (nI st) mk rp sp sc sk fa ch tr rc pg pl) := hD
      refine callSi (wr := wM cI m0 mS mC mT mR mA th (nI L) (nI C) (nI rl) (nI bg) (nI st) mk (zb on) (nI tp) (nI tl) (zb tb) sg ch tr rc ta ++ [(o, .inl (cJ, 1, .inr (.inl fo)))]) (wc := wX cI cP x aC aT aR aP (nI L) (nI C) (nI rl) (nI bg) (zb on) (nI st) mk rp sp sc sk fa ch tr rc pg pl) (va_runV (As := []) (rest := []) ⟨hx, hb, hml, hown, hts⟩ (c_X2_end l) (cwV 0 hts gL_law_X2_end rfl rfl rfl (by decide +kernel) ⟨(Nat.le_of_ble_eq_true rfl), (Nat.le_of_ble_eq_true rfl)⟩) (mu_pre hK (sufP hPs) (sufD hDs) rfl 0 rfl) rfl rfl hl.1 rfl (lv_room (Nat.le_of_ble_eq_true rfl)) dL_law_231 ⟨by show 12 + 0 + 0 ≤ 600002; omega, by show 349499 + 0 + 0 ≤ 7302198; omega⟩) hPs hDs hS hA (fun r_231 u_231 H locs w_231 hP hD hS => ?_)
      obtain rfl := w_231
      have hP : va_P D vwCl (wM cI m0 mS mC mT mR mA th (nI L) (nI C) (nI rl) (nI bg) (nI st) mk (zb on) (nI tp) (nI tl) (zb tb) sg ch tr rc ta ++ ((o, .inl (cJ, 1, .inr (.inl fo))) :: wX cI cP x aC aT aR aP (nI L) (nI C) (nI rl) (nI bg) (zb false) (nI 0) mk rp sp sc sk fa ch tr rc pg pl)) H := hP
      have hD : va_D (fun q : Nat => s.heap.size ≤ q) (wM cI m0 mS mC mT mR mA th (nI L) (nI C) (nI rl) (nI bg) (nI st) mk (zb on) (nI tp) (nI tl) (zb tb) sg ch tr rc ta ++ ((o, .inl (cJ, 1, .inr (.inl fo))) :: wX cI cP x aC aT aR aP (nI L) (nI C) (nI rl) (nI bg) (zb false) (nI 0) mk rp sp sc sk fa ch tr rc pg pl)) := hD
      refine lv_aload_n hx hb dL_law_234 rfl (lv_at hl 2 rfl) ?_
      refine callPi (wc := wM cI m0 mS mC mT mR mA th (nI L) (nI C) (nI rl) (nI bg) (nI st) mk (zb on) (nI tp) (nI tl) (zb tb) sg ch tr rc ta) (wr := (o, .inl (cJ, 1, .inr (.inl fo))) :: wX cI cP x aC aT aR aP (nI L) (nI C) (nI rl) (nI bg) (zb false) (nI 0) mk rp sp sc sk fa ch tr rc pg pl) (va_runV (As := []) (rest := [.int (nI bg)]) ⟨hx, hb, hml, hown, hts⟩ (c_X3_end l) (cwV 0 hts gL_law_X3_end rfl rfl rfl (by decide +kernel) ⟨(Nat.le_of_ble_eq_true rfl), (Nat.le_of_ble_eq_true rfl)⟩) (mu_pre hK (preP hP) (preD hD) rfl 0 rfl) rfl rfl hl.1 rfl (lv_room (Nat.le_of_ble_eq_true rfl)) dL_law_235 ⟨by show 12 + 0 + 0 ≤ 600002; omega, by show 349499 + 0 + 0 ≤ 7302198; omega⟩) hP hD hS hA (fun r_235 u_235 H locs w_235 hP hD hS => ?_)
      obtain rfl := w_235
      have hP : va_P D vwCl (wM cI m0 mS mC mT mR mA 0 (nI L) (nI C) (nI rl) (nI bg) (nI 0) mk (zb false) (nI tp) (nI tl) (zb tb) sg ch tr rc ta ++ ((o, .inl (cJ, 1, .inr (.inl fo))) :: wX cI cP x aC aT aR aP (nI L) (nI C) (nI rl) (nI bg) (zb false) (nI 0) mk rp sp sc sk fa ch tr rc pg pl)) H := hP
      have hD : va_D (fun q : Nat => s.heap.size ≤ q) (wM cI m0 mS mC mT mR mA 0 (nI L) (nI C) (nI rl) (nI bg) (nI 0) mk (zb false) (nI tp) (nI tl) (zb tb) sg ch tr rc ta ++ ((o, .inl (cJ, 1, .inr (.inl fo))) :: wX cI cP x aC aT aR aP (nI L) (nI C) (nI rl) (nI bg) (zb false) (nI 0) mk rp sp sc sk fa ch tr rc pg pl)) := hD
      refine lv_icmp_eq (tgt := 521) hx hb dL_law_238 (by decide) (fun c_238 => ?_) (fun c_238 => absurd (rfl) c_238)
      refine W.widen (k := 12 + 136) (n := 349499 + 4689) (by omega) (by omega) ?_
      refine lv_iinc (v := nI (2 + 4 * (i + 1))) (lv' := [(4, .int (nI (2 + 4 * (i + 1)))), (0, .ref b), (1, .ref x), (2, .ref m0), (3, .ref o)]) hx hb dL_law_521 hl (k := 4) rfl (by rw [show Int32.ofInt 4 = nI 4 from rfl, nI_add]; congr 1) (by decide) rfl (fun ls hl => ?_)
      refine lv_goto (tgt := 43) hx hb dL_law_524 (by decide) ?_
      exact law_end l hN C0 (i + 1) (by omega) (by omega) hS (lv_sub hl [1, 2, 3, 4, 0] rfl)
    by_cases k_5 : z = 5
    ·
      refine lv_tableIn (off := 184) (tgt := 243) hx hb dL_law_59 (by rw [k_5]; decide +kernel) (by rw [k_5]; decide +kernel) (by rw [k_5]; decide +kernel) (by decide) ?_
      refine lv_aload_n hx hb dL_law_243 rfl (lv_at hl 1 rfl) ?_
      refine lv_aload_n hx hb dL_law_244 rfl (lv_at hl 0 rfl) ?_
      refine lv_iload hx hb dL_law_245 (lv_at hl 4 rfl) ?_
      refine lv_iconst (v := 1) hx hb dL_law_247 (by decide +kernel) ?_
      refine lv_iadd hx hb dL_law_248 ?_
      refine W.eq (g2 := F0 m 249 ls [.int (nI (2 + 4 * i + 1)), .ref b, .ref x]) (by rw [show (1 : Int32) = nI 1 from rfl, nI_add]) ?_
      refine va_sld hx hb hX hbl hbA hS (vp_in_nI (by omega) (by omega)) dL_law_249 ?_
      refine W.eq (g2 := F0 m 250 ls [.int (xs (2 + 4 * i + 1)), .ref x]) (by rw [nI_clamp (by omega)]) ?_
      refine lv_aload_n hx hb dL_law_250 rfl (lv_at hl 0 rfl) ?_
      refine lv_iload hx hb dL_law_251 (lv_at hl 4 rfl) ?_
      refine lv_iconst (v := 2) hx hb dL_law_253 (by decide +kernel) ?_
      refine lv_iadd hx hb dL_law_254 ?_
      refine W.eq (g2 := F0 m 255 ls [.int (nI (2 + 4 * i + 2)), .ref b, .int (xs (2 + 4 * i + 1)), .ref x]) (by rw [show (2 : Int32) = nI 2 from rfl, nI_add]) ?_
      refine va_sld hx hb hX hbl hbA hS (vp_in_nI (by omega) (by omega)) dL_law_255 ?_
      refine W.eq (g2 := F0 m 256 ls [.int (xs (2 + 4 * i + 2)), .int (xs (2 + 4 * i + 1)), .ref x]) (by rw [nI_clamp (by omega)]) ?_
      refine lv_aload_n hx hb dL_law_256 rfl (lv_at hl 0 rfl) ?_
      refine lv_iload hx hb dL_law_257 (lv_at hl 4 rfl) ?_
      refine lv_iconst (v := 3) hx hb dL_law_259 (by decide +kernel) ?_
      refine lv_iadd hx hb dL_law_260 ?_
      refine W.eq (g2 := F0 m 261 ls [.int (nI (2 + 4 * i + 3)), .ref b, .int (xs (2 + 4 * i + 2)), .int (xs (2 + 4 * i + 1)), .ref x]) (by rw [show (3 : Int32) = nI 3 from rfl, nI_add]) ?_
      refine va_sld hx hb hX hbl hbA hS (vp_in_nI (by omega) (by omega)) dL_law_261 ?_
      refine W.eq (g2 := F0 m 262 ls [.int (xs (2 + 4 * i + 3)), .int (xs (2 + 4 * i + 2)), .int (xs (2 + 4 * i + 1)), .ref x]) (by rw [nI_clamp (by omega)]) ?_
      refine lv_aload_n hx hb dL_law_262 rfl (lv_at hl 3 rfl) ?_
      refine callSi (wr := wM cI m0 mS mC mT mR mA th (nI L) (nI C) (nI rl) (nI bg) (nI st) mk (zb on) (nI tp) (nI tl) (zb tb) sg ch tr rc ta) (wc := (o, .inl (cJ, 1, .inr (.inl fo))) :: wX cI cP x aC aT aR aP (nI L) (nI C) (nI rl) (nI bg) (zb on) (nI st) mk rp sp sc sk fa ch tr rc pg pl) (runSW (hh := [(0, 12, 15, 13)]) (bytes := cL_at) (maxL := 6) (ret := some .int) (n := 5) (As := [.ref x, .int (xs (2 + 4 * i + 1)), .int (xs (2 + 4 * i + 2)), .int (xs (2 + 4 * i + 3)), .ref o]) (rest := []) ⟨hx, hb, hml, hown, hts⟩ (c_L_at l hl0 hL hC hI.2.1 hI.2.2.2.2.2.1 (xs (2 + 4 * i + 1)) (xs (2 + 4 * i + 2)) (xs (2 + 4 * i + 3))) rfl rfl (Nat.le_of_ble_eq_true rfl) (Nat.le_of_ble_eq_true rfl) (pay_in htl lwT_good) List.mem_cons_self (hts _ (gL_law_L_at (.methodLink RL 51 yL_at) (by simp [va_wsS])).1) (hts _ (gL_law_L_at (.static yL_at) (by simp [va_wsS])).1) (hts _ (gL_law_L_at (.initialized RL) (by simp [va_wsS, yL_at])).1) (hts _ (gL_law_L_at (.codeWith yL_at cL_at 6 (some .int) [(0, 12, 15, 13)]) (by unfold va_wsS; exact List.mem_append_right _ List.mem_cons_self)).1) (by decide +kernel) (by decide +kernel) ⟨muT_blind, fun U hU hW => ⟨rfl, ⟨by rw [hU], by rw [hU]; exact sufP hP, KK.warm hW hK, (sufD hD).weaken (fun _ _ _ _ => trivial)⟩, TX.warm hW (fun a ha => by rw [hU]; exact hS.2.1 a ha (Nat.not_le.mpr ha)) hTX⟩⟩ rfl rfl hl.1 rfl (lv_room (Nat.le_of_ble_eq_true rfl)) dL_law_263 ⟨by show 12 + 0 + 1 ≤ 600002; omega, by show 349499 + 0 + 6 ≤ 7302198; omega⟩) hP hD hS hA (fun r_263 u_263 H locs w_263 hP hD hS => ?_)
      have hP : va_P D vwCl (wM cI m0 mS mC mT mR mA th (nI L) (nI C) (nI rl) (nI bg) (nI st) mk (zb on) (nI tp) (nI tl) (zb tb) sg ch tr rc ta ++ ((o, .inl (cJ, 1, .inr (.inl u_263))) :: wX cI cP x aC aT aR aP (nI L) (nI C) (nI rl) (nI bg) (zb on) (nI st) mk rp sp sc sk fa ch tr rc pg pl)) H := hP
      have hD : va_D (fun q : Nat => s.heap.size ≤ q) (wM cI m0 mS mC mT mR mA th (nI L) (nI C) (nI rl) (nI bg) (nI st) mk (zb on) (nI tp) (nI tl) (zb tb) sg ch tr rc ta ++ ((o, .inl (cJ, 1, .inr (.inl u_263))) :: wX cI cP x aC aT aR aP (nI L) (nI C) (nI rl) (nI bg) (zb on) (nI st) mk rp sp sc sk fa ch tr rc pg pl)) := hD
      refine lv_istore (lv' := [(5, .int r_263), (0, .ref b), (1, .ref x), (2, .ref m0), (3, .ref o), (4, .int (nI (2 + 4 * i)))]) hx hb dL_law_266 hl (by decide) rfl (fun ls hl => ?_)
      refine lv_aload_n hx hb dL_law_268 rfl (lv_at hl 3 rfl) ?_
      refine lv_aload_n hx hb dL_law_269 rfl (lv_at hl 1 rfl) ?_
      refine lv_iload hx hb dL_law_270 (lv_at hl 5 rfl) ?_
      refine lv_iconst (v := 1) hx hb dL_law_272 (by decide +kernel) ?_
      refine lv_iadd hx hb dL_law_273 ?_
      refine W.eq (g2 := F0 m 274 ls [.int (nI (2 + 4 * i + 1)), .ref b, .ref m0]) (by rw [show (1 : Int32) = nI 1 from rfl, nI_add]) ?_
      refine va_sld hx hb hX hbl hbA hS (vp_in_nI (by omega) (by omega)) dL_law_274 ?_
      refine W.eq (g2 := F0 m 275 ls [.int (xs (2 + 4 * i + 1)), .ref m0]) (by rw [nI_clamp (by omega)]) ?_
      refine lv_aload_n hx hb dL_law_275 rfl (lv_at hl 1 rfl) ?_
      refine lv_iload hx hb dL_law_276 (lv_at hl 5 rfl) ?_
      refine lv_iconst (v := 2) hx hb dL_law_278 (by decide +kernel) ?_
      refine lv_iadd hx hb dL_law_279 ?_
      refine W.eq (g2 := F0 m 280 ls [.int (nI (2 + 4 * i + 2)), .ref b, .int (xs (2 + 4 * i + 1)), .ref m0]) (by rw [show (2 : Int32) = nI 2 from rfl, nI_add]) ?_
      refine va_sld hx hb hX hbl hbA hS (vp_in_nI (by omega) (by omega)) dL_law_280 ?_
      refine W.eq (g2 := F0 m 281 ls [.int (xs (2 + 4 * i + 2)), .int (xs (2 + 4 * i + 1)), .ref m0]) (by rw [nI_clamp (by omega)]) ?_
      refine lv_aload_n hx hb dL_law_281 rfl (lv_at hl 1 rfl) ?_
      refine lv_iload hx hb dL_law_282 (lv_at hl 5 rfl) ?_
      refine lv_iconst (v := 3) hx hb dL_law_284 (by decide +kernel) ?_
      refine lv_iadd hx hb dL_law_285 ?_
      refine W.eq (g2 := F0 m 286 ls [.int (nI (2 + 4 * i + 3)), .ref b, .int (xs (2 + 4 * i + 2)), .int (xs (2 + 4 * i + 1)), .ref m0]) (by rw [show (3 : Int32) = nI 3 from rfl, nI_add]) ?_
      refine va_sld hx hb hX hbl hbA hS (vp_in_nI (by omega) (by omega)) dL_law_286 ?_
      refine W.eq (g2 := F0 m 287 ls [.int (xs (2 + 4 * i + 3)), .int (xs (2 + 4 * i + 2)), .int (xs (2 + 4 * i + 1)), .ref m0]) (by rw [nI_clamp (by omega)]) ?_
      refine callPi (wc := wM cI m0 mS mC mT mR mA th (nI L) (nI C) (nI rl) (nI bg) (nI st) mk (zb on) (nI tp) (nI tl) (zb tb) sg ch tr rc ta) (wr := (o, .inl (cJ, 1, .inr (.inl u_263))) :: wX cI cP x aC aT aR aP (nI L) (nI C) (nI rl) (nI bg) (zb on) (nI st) mk rp sp sc sk fa ch tr rc pg pl) (va_runV (As := [.int (xs (2 + 4 * i + 1)), .int (xs (2 + 4 * i + 2)), .int (xs (2 + 4 * i + 3))]) (rest := []) ⟨hx, hb, hml, hown, hts⟩ (c_X3_at l hL hC hI.2.1 (xs (2 + 4 * i + 1)) (xs (2 + 4 * i + 2)) (xs (2 + 4 * i + 3))) (cwV 3 hts gL_law_X3_at rfl rfl rfl (by decide +kernel) ⟨(Nat.le_of_ble_eq_true rfl), (Nat.le_of_ble_eq_true rfl)⟩) (mu_pre hK (preP hP) (preD hD) rfl 0 rfl) rfl rfl hl.1 rfl (lv_room (Nat.le_of_ble_eq_true rfl)) dL_law_287 ⟨by show 12 + 0 + 1 + 0 ≤ 600002; omega, by show 349499 + 0 + 6 + 0 ≤ 7302198; omega⟩) hP hD hS hA (fun r_287 u_287 H locs w_287 hP hD hS => ?_)
      have hP : va_P D vwCl (wM cI m0 mS mC mT mR mA u_287 (nI L) (nI C) (nI rl) (nI bg) (nI st) mk (zb on) (nI tp) (nI tl) (zb tb) sg ch tr rc ta ++ ((o, .inl (cJ, 1, .inr (.inl u_263))) :: wX cI cP x aC aT aR aP (nI L) (nI C) (nI rl) (nI bg) (zb on) (nI st) mk rp sp sc sk fa ch tr rc pg pl)) H := hP
      have hD : va_D (fun q : Nat => s.heap.size ≤ q) (wM cI m0 mS mC mT mR mA u_287 (nI L) (nI C) (nI rl) (nI bg) (nI st) mk (zb on) (nI tp) (nI tl) (zb tb) sg ch tr rc ta ++ ((o, .inl (cJ, 1, .inr (.inl u_263))) :: wX cI cP x aC aT aR aP (nI L) (nI C) (nI rl) (nI bg) (zb on) (nI st) mk rp sp sc sk fa ch tr rc pg pl)) := hD
      refine lv_istore (lv' := [(6, .int r_287), (5, .int r_263), (0, .ref b), (1, .ref x), (2, .ref m0), (3, .ref o), (4, .int (nI (2 + 4 * i)))]) hx hb dL_law_290 hl (by decide) rfl (fun ls hl => ?_)
      refine lv_aload_n hx hb dL_law_292 rfl (lv_at hl 4 rfl) ?_
      refine vp_callSi (W.runV (As := []) (rest := []) ⟨hx, hb, hml, hown, hts⟩ (c_X3_thrown l) (cwV 0 hts gL_law_X3_thrown rfl rfl rfl (by decide +kernel) ⟨(Nat.le_of_ble_eq_true rfl), (Nat.le_of_ble_eq_true rfl)⟩) (ro_pre hK (preP hP) rfl 0 rfl) rfl rfl hl.1 rfl (lv_room (Nat.le_of_ble_eq_true rfl)) dL_law_293 ⟨by show 12 + 0 + 1 + 0 ≤ 600002; omega, by show 349499 + 0 + 6 + 0 ≤ 7302198; omega⟩) (fun r_293 w_293 => ?_)
      obtain rfl : u_287 = r_293 := w_293.symm
      refine lv_iload hx hb dL_law_296 (lv_at hl 1 rfl) ?_
      refine lv_icmp_eq (tgt := 303) hx hb dL_law_298 (by decide) (fun c_298 => ?_) (fun c_298 => absurd (at_same w_263 w_287) c_298)
      refine lv_iload hx hb dL_law_303 (lv_at hl 1 rfl) ?_
      refine lv_if_ne (tgt := 320) hx hb dL_law_305 (by decide) (fun c_305 => ?_) (fun c_305 => ?_)
      ·
        refine lv_goto (tgt := 521) hx hb dL_law_320 (by decide) ?_
        refine W.widen (k := 12 + 136) (n := 349499 + 4689) (by omega) (by omega) ?_
        refine lv_iinc (v := nI (2 + 4 * (i + 1))) (lv' := [(4, .int (nI (2 + 4 * (i + 1)))), (6, .int r_287), (5, .int r_263), (0, .ref b), (1, .ref x), (2, .ref m0), (3, .ref o)]) hx hb dL_law_521 hl (k := 6) rfl (by rw [show Int32.ofInt 4 = nI 4 from rfl, nI_add]; congr 1) (by decide) rfl (fun ls hl => ?_)
        refine lv_goto (tgt := 43) hx hb dL_law_524 (by decide) ?_
        exact law_end l hN C0 (i + 1) (by omega) (by omega) hS (lv_sub hl [3, 4, 5, 6, 0] rfl)
      ·
        refine lv_aload_n hx hb dL_law_308 rfl (lv_at hl 5 rfl) ?_
        refine lv_iconst (v := 0) hx hb dL_law_309 (by decide +kernel) ?_
        refine va_lald hx hb hK.1 hP 6 3 rfl rfl (by rw [vp_in_iff]; decide) dL_law_310 ?_
        refine lv_iload hx hb dL_law_311 (lv_at hl 0 rfl) ?_
        refine lv_i2l hx hb dL_law_313 rfl ?_
        refine W.lcmp hx hb dL_law_314 ?_
        refine lv_if_eq (tgt := 320) hx hb dL_law_315 (by decide) (fun c_315 => ?_) (fun c_315 => absurd (at_cmp hL hC hI.2.1 hSG w_263 w_287 c_305) c_315)
        refine lv_goto (tgt := 521) hx hb dL_law_320 (by decide) ?_
        refine W.widen (k := 12 + 136) (n := 349499 + 4689) (by omega) (by omega) ?_
        refine lv_iinc (v := nI (2 + 4 * (i + 1))) (lv' := [(4, .int (nI (2 + 4 * (i + 1)))), (6, .int r_287), (5, .int r_263), (0, .ref b), (1, .ref x), (2, .ref m0), (3, .ref o)]) hx hb dL_law_521 hl (k := 6) rfl (by rw [show Int32.ofInt 4 = nI 4 from rfl, nI_add]; congr 1) (by decide) rfl (fun ls hl => ?_)
        refine lv_goto (tgt := 43) hx hb dL_law_524 (by decide) ?_
        exact law_end l hN C0 (i + 1) (by omega) (by omega) hS (lv_sub hl [3, 4, 5, 6, 0] rfl)
    by_cases k_6 : z = 6
    ·
      refine lv_tableIn (off := 264) (tgt := 323) hx hb dL_law_59 (by rw [k_6]; decide +kernel) (by rw [k_6]; decide +kernel) (by rw [k_6]; decide +kernel) (by decide) ?_
      refine lv_aload_n hx hb dL_law_323 rfl (lv_at hl 1 rfl) ?_
      refine lv_aload_n hx hb dL_law_324 rfl (lv_at hl 0 rfl) ?_
      refine lv_iload hx hb dL_law_325 (lv_at hl 4 rfl) ?_
      refine lv_iconst (v := 1) hx hb dL_law_327 (by decide +kernel) ?_
      refine lv_iadd hx hb dL_law_328 ?_
      refine W.eq (g2 := F0 m 329 ls [.int (nI (2 + 4 * i + 1)), .ref b, .ref x]) (by rw [show (1 : Int32) = nI 1 from rfl, nI_add]) ?_
      refine va_sld hx hb hX hbl hbA hS (vp_in_nI (by omega) (by omega)) dL_law_329 ?_
      refine W.eq (g2 := F0 m 330 ls [.int (xs (2 + 4 * i + 1)), .ref x]) (by rw [nI_clamp (by omega)]) ?_
      refine lv_aload_n hx hb dL_law_330 rfl (lv_at hl 0 rfl) ?_
      refine lv_iload hx hb dL_law_331 (lv_at hl 4 rfl) ?_
      refine lv_iconst (v := 2) hx hb dL_law_333 (by decide +kernel) ?_
      refine lv_iadd hx hb dL_law_334 ?_
      refine W.eq (g2 := F0 m 335 ls [.int (nI (2 + 4 * i + 2)), .ref b, .int (xs (2 + 4 * i + 1)), .ref x]) (by rw [show (2 : Int32) = nI 2 from rfl, nI_add]) ?_
      refine va_sld hx hb hX hbl hbA hS (vp_in_nI (by omega) (by omega)) dL_law_335 ?_
      refine W.eq (g2 := F0 m 336 ls [.int (xs (2 + 4 * i + 2)), .int (xs (2 + 4 * i + 1)), .ref x]) (by rw [nI_clamp (by omega)]) ?_
      have hPs : va_P D vwCl ((wM cI m0 mS mC mT mR mA th (nI L) (nI C) (nI rl) (nI bg) (nI st) mk (zb on) (nI tp) (nI tl) (zb tb) sg ch tr rc ta ++ [(o, .inl (cJ, 1, .inr (.inl fo)))]) ++ wX cI cP x aC aT aR aP (nI L) (nI C) (nI rl) (nI bg) (zb on) (nI st) mk rp sp sc sk fa ch tr rc pg pl) H := hP
      have hDs : va_D (fun q : Nat => s.heap.size ≤ q) ((wM cI m0 mS mC mT mR mA th (nI L) (nI C) (nI rl) (nI bg) (nI st) mk (zb on) (nI tp) (nI tl) (zb tb) sg ch tr rc ta ++ [(o, .inl (cJ, 1, .inr (.inl fo)))]) ++ wX cI cP x aC aT aR aP (nI L) (nI C) (nI rl) (nI bg) (zb on) (nI st) mk rp sp sc sk fa ch tr rc pg pl) := hD
      refine vp_callSi (W.runV (As := [.int (xs (2 + 4 * i + 1)), .int (xs (2 + 4 * i + 2))]) (rest := []) ⟨hx, hb, hml, hown, hts⟩ (c_X2_over l (xs (2 + 4 * i + 1)) (xs (2 + 4 * i + 2))) (cwV 2 hts gL_law_X2_over rfl rfl rfl (by decide +kernel) ⟨(Nat.le_of_ble_eq_true rfl), (Nat.le_of_ble_eq_true rfl)⟩) (ro_pre hK (sufP hPs) rfl 0 rfl) rfl rfl hl.1 rfl (lv_room (Nat.le_of_ble_eq_true rfl)) dL_law_336 ⟨by show 12 + 0 + 0 ≤ 600002; omega, by show 349499 + 0 + 0 ≤ 7302198; omega⟩) (fun r_336 w_336 => ?_)
      obtain rfl := w_336
      refine lv_aload_n hx hb dL_law_339 rfl (lv_at hl 2 rfl) ?_
      refine lv_aload_n hx hb dL_law_340 rfl (lv_at hl 0 rfl) ?_
      refine lv_iload hx hb dL_law_341 (lv_at hl 4 rfl) ?_
      refine lv_iconst (v := 1) hx hb dL_law_343 (by decide +kernel) ?_
      refine lv_iadd hx hb dL_law_344 ?_
      refine W.eq (g2 := F0 m 345 ls [.int (nI (2 + 4 * i + 1)), .ref b, .ref m0, .int (ovR (xs (2 + 4 * i + 1)) (xs (2 + 4 * i + 2)))]) (by rw [show (1 : Int32) = nI 1 from rfl, nI_add]) ?_
      refine va_sld hx hb hX hbl hbA hS (vp_in_nI (by omega) (by omega)) dL_law_345 ?_
      refine W.eq (g2 := F0 m 346 ls [.int (xs (2 + 4 * i + 1)), .ref m0, .int (ovR (xs (2 + 4 * i + 1)) (xs (2 + 4 * i + 2)))]) (by rw [nI_clamp (by omega)]) ?_
      refine lv_aload_n hx hb dL_law_346 rfl (lv_at hl 0 rfl) ?_
      refine lv_iload hx hb dL_law_347 (lv_at hl 4 rfl) ?_
      refine lv_iconst (v := 2) hx hb dL_law_349 (by decide +kernel) ?_
      refine lv_iadd hx hb dL_law_350 ?_
      refine W.eq (g2 := F0 m 351 ls [.int (nI (2 + 4 * i + 2)), .ref b, .int (xs (2 + 4 * i + 1)), .ref m0, .int (ovR (xs (2 + 4 * i + 1)) (xs (2 + 4 * i + 2)))]) (by rw [show (2 : Int32) = nI 2 from rfl, nI_add]) ?_
      refine va_sld hx hb hX hbl hbA hS (vp_in_nI (by omega) (by omega)) dL_law_351 ?_
      refine W.eq (g2 := F0 m 352 ls [.int (xs (2 + 4 * i + 2)), .int (xs (2 + 4 * i + 1)), .ref m0, .int (ovR (xs (2 + 4 * i + 1)) (xs (2 + 4 * i + 2)))]) (by rw [nI_clamp (by omega)]) ?_
      refine callPi (wc := wM cI m0 mS mC mT mR mA th (nI L) (nI C) (nI rl) (nI bg) (nI st) mk (zb on) (nI tp) (nI tl) (zb tb) sg ch tr rc ta) (wr := (o, .inl (cJ, 1, .inr (.inl fo))) :: wX cI cP x aC aT aR aP (nI L) (nI C) (nI rl) (nI bg) (zb on) (nI st) mk rp sp sc sk fa ch tr rc pg pl) (va_runV (As := [.int (xs (2 + 4 * i + 1)), .int (xs (2 + 4 * i + 2))]) (rest := [.int (ovR (xs (2 + 4 * i + 1)) (xs (2 + 4 * i + 2)))]) ⟨hx, hb, hml, hown, hts⟩ (c_X3_over l (xs (2 + 4 * i + 1)) (xs (2 + 4 * i + 2))) (cwV 2 hts gL_law_X3_over rfl rfl rfl (by decide +kernel) ⟨(Nat.le_of_ble_eq_true rfl), (Nat.le_of_ble_eq_true rfl)⟩) (mu_pre hK (preP hP) (preD hD) rfl 0 rfl) rfl rfl hl.1 rfl (lv_room (Nat.le_of_ble_eq_true rfl)) dL_law_352 ⟨by show 12 + 0 + 0 ≤ 600002; omega, by show 349499 + 0 + 0 ≤ 7302198; omega⟩) hP hD hS hA (fun r_352 u_352 H locs w_352 hP hD hS => ?_)
      obtain rfl := w_352
      have hP : va_P D vwCl (wM cI m0 mS mC mT mR mA 0 (nI L) (nI C) (nI rl) (nI bg) (nI st) mk (zb on) (nI tp) (nI tl) (zb tb) sg ch tr rc ta ++ ((o, .inl (cJ, 1, .inr (.inl fo))) :: wX cI cP x aC aT aR aP (nI L) (nI C) (nI rl) (nI bg) (zb on) (nI st) mk rp sp sc sk fa ch tr rc pg pl)) H := hP
      have hD : va_D (fun q : Nat => s.heap.size ≤ q) (wM cI m0 mS mC mT mR mA 0 (nI L) (nI C) (nI rl) (nI bg) (nI st) mk (zb on) (nI tp) (nI tl) (zb tb) sg ch tr rc ta ++ ((o, .inl (cJ, 1, .inr (.inl fo))) :: wX cI cP x aC aT aR aP (nI L) (nI C) (nI rl) (nI bg) (zb on) (nI st) mk rp sp sc sk fa ch tr rc pg pl)) := hD
      refine lv_icmp_eq (tgt := 521) hx hb dL_law_355 (by decide) (fun c_355 => ?_) (fun c_355 => absurd (rfl) c_355)
      refine W.widen (k := 12 + 136) (n := 349499 + 4689) (by omega) (by omega) ?_
      refine lv_iinc (v := nI (2 + 4 * (i + 1))) (lv' := [(4, .int (nI (2 + 4 * (i + 1)))), (0, .ref b), (1, .ref x), (2, .ref m0), (3, .ref o)]) hx hb dL_law_521 hl (k := 4) rfl (by rw [show Int32.ofInt 4 = nI 4 from rfl, nI_add]; congr 1) (by decide) rfl (fun ls hl => ?_)
      refine lv_goto (tgt := 43) hx hb dL_law_524 (by decide) ?_
      exact law_end l hN C0 (i + 1) (by omega) (by omega) hS (lv_sub hl [1, 2, 3, 4, 0] rfl)
    by_cases k_7 : z = 7
    ·
      refine lv_tableIn (off := 301) (tgt := 360) hx hb dL_law_59 (by rw [k_7]; decide +kernel) (by rw [k_7]; decide +kernel) (by rw [k_7]; decide +kernel) (by decide) ?_
      refine lv_aload_n hx hb dL_law_360 rfl (lv_at hl 1 rfl) ?_
      refine lv_aload_n hx hb dL_law_361 rfl (lv_at hl 0 rfl) ?_
      refine lv_iload hx hb dL_law_362 (lv_at hl 4 rfl) ?_
      refine lv_iconst (v := 1) hx hb dL_law_364 (by decide +kernel) ?_
      refine lv_iadd hx hb dL_law_365 ?_
      refine W.eq (g2 := F0 m 366 ls [.int (nI (2 + 4 * i + 1)), .ref b, .ref x]) (by rw [show (1 : Int32) = nI 1 from rfl, nI_add]) ?_
      refine va_sld hx hb hX hbl hbA hS (vp_in_nI (by omega) (by omega)) dL_law_366 ?_
      refine W.eq (g2 := F0 m 367 ls [.int (xs (2 + 4 * i + 1)), .ref x]) (by rw [nI_clamp (by omega)]) ?_
      refine lv_aload_n hx hb dL_law_367 rfl (lv_at hl 0 rfl) ?_
      refine lv_iload hx hb dL_law_368 (lv_at hl 4 rfl) ?_
      refine lv_iconst (v := 2) hx hb dL_law_370 (by decide +kernel) ?_
      refine lv_iadd hx hb dL_law_371 ?_
      refine W.eq (g2 := F0 m 372 ls [.int (nI (2 + 4 * i + 2)), .ref b, .int (xs (2 + 4 * i + 1)), .ref x]) (by rw [show (2 : Int32) = nI 2 from rfl, nI_add]) ?_
      refine va_sld hx hb hX hbl hbA hS (vp_in_nI (by omega) (by omega)) dL_law_372 ?_
      refine W.eq (g2 := F0 m 373 ls [.int (xs (2 + 4 * i + 2)), .int (xs (2 + 4 * i + 1)), .ref x]) (by rw [nI_clamp (by omega)]) ?_
      have hPs : va_P D vwCl ((wM cI m0 mS mC mT mR mA th (nI L) (nI C) (nI rl) (nI bg) (nI st) mk (zb on) (nI tp) (nI tl) (zb tb) sg ch tr rc ta ++ [(o, .inl (cJ, 1, .inr (.inl fo)))]) ++ wX cI cP x aC aT aR aP (nI L) (nI C) (nI rl) (nI bg) (zb on) (nI st) mk rp sp sc sk fa ch tr rc pg pl) H := hP
      have hDs : va_D (fun q : Nat => s.heap.size ≤ q) ((wM cI m0 mS mC mT mR mA th (nI L) (nI C) (nI rl) (nI bg) (nI st) mk (zb on) (nI tp) (nI tl) (zb tb) sg ch tr rc ta ++ [(o, .inl (cJ, 1, .inr (.inl fo)))]) ++ wX cI cP x aC aT aR aP (nI L) (nI C) (nI rl) (nI bg) (zb on) (nI st) mk rp sp sc sk fa ch tr rc pg pl) := hD
      refine callSi (wr := wM cI m0 mS mC mT mR mA th (nI L) (nI C) (nI rl) (nI bg) (nI st) mk (zb on) (nI tp) (nI tl) (zb tb) sg ch tr rc ta ++ [(o, .inl (cJ, 1, .inr (.inl fo)))]) (wc := wX cI cP x aC aT aR aP (nI L) (nI C) (nI rl) (nI bg) (zb on) (nI st) mk rp sp sc sk fa ch tr rc pg pl) (va_runV (As := [.int (xs (2 + 4 * i + 1)), .int (xs (2 + 4 * i + 2))]) (rest := []) ⟨hx, hb, hml, hown, hts⟩ (c_X2_translate l (xs (2 + 4 * i + 1)) (xs (2 + 4 * i + 2))) (cwV 2 hts gL_law_X2_translate rfl rfl rfl (by decide +kernel) ⟨(Nat.le_of_ble_eq_true rfl), (Nat.le_of_ble_eq_true rfl)⟩) (mu_pre hK (sufP hPs) (sufD hDs) rfl 0 rfl) rfl rfl hl.1 rfl (lv_room (Nat.le_of_ble_eq_true rfl)) dL_law_373 ⟨by show 12 + 0 + 0 ≤ 600002; omega, by show 349499 + 0 + 0 ≤ 7302198; omega⟩) hPs hDs hS hA (fun r_373 u_373 H locs w_373 hP hD hS => ?_)
      obtain ⟨rfl, rfl⟩ := w_373
      have hP : va_P D vwCl (wM cI m0 mS mC mT mR mA th (nI L) (nI C) (nI rl) (nI bg) (nI st) mk (zb on) (nI tp) (nI tl) (zb tb) sg ch tr rc ta ++ ((o, .inl (cJ, 1, .inr (.inl fo))) :: wX cI cP x aC aT aR aP (nI L) (nI C) (nI rl) (nI bg) (zb on) (nI st) mk rp sp sc sk fa ch (trN tr (xs (2 + 4 * i + 1)) (xs (2 + 4 * i + 2))) rc pg pl)) H := hP
      have hD : va_D (fun q : Nat => s.heap.size ≤ q) (wM cI m0 mS mC mT mR mA th (nI L) (nI C) (nI rl) (nI bg) (nI st) mk (zb on) (nI tp) (nI tl) (zb tb) sg ch tr rc ta ++ ((o, .inl (cJ, 1, .inr (.inl fo))) :: wX cI cP x aC aT aR aP (nI L) (nI C) (nI rl) (nI bg) (zb on) (nI st) mk rp sp sc sk fa ch (trN tr (xs (2 + 4 * i + 1)) (xs (2 + 4 * i + 2))) rc pg pl)) := hD
      refine lv_aload_n hx hb dL_law_376 rfl (lv_at hl 2 rfl) ?_
      refine lv_aload_n hx hb dL_law_377 rfl (lv_at hl 0 rfl) ?_
      refine lv_iload hx hb dL_law_378 (lv_at hl 4 rfl) ?_
      refine lv_iconst (v := 1) hx hb dL_law_380 (by decide +kernel) ?_
      refine lv_iadd hx hb dL_law_381 ?_
      refine W.eq (g2 := F0 m 382 ls [.int (nI (2 + 4 * i + 1)), .ref b, .ref m0, .int (trR tr (xs (2 + 4 * i + 1)) (xs (2 + 4 * i + 2)))]) (by rw [show (1 : Int32) = nI 1 from rfl, nI_add]) ?_
      refine va_sld hx hb hX hbl hbA hS (vp_in_nI (by omega) (by omega)) dL_law_382 ?_
      refine W.eq (g2 := F0 m 383 ls [.int (xs (2 + 4 * i + 1)), .ref m0, .int (trR tr (xs (2 + 4 * i + 1)) (xs (2 + 4 * i + 2)))]) (by rw [nI_clamp (by omega)]) ?_
      refine lv_aload_n hx hb dL_law_383 rfl (lv_at hl 0 rfl) ?_
      refine lv_iload hx hb dL_law_384 (lv_at hl 4 rfl) ?_
      refine lv_iconst (v := 2) hx hb dL_law_386 (by decide +kernel) ?_
      refine lv_iadd hx hb dL_law_387 ?_
      refine W.eq (g2 := F0 m 388 ls [.int (nI (2 + 4 * i + 2)), .ref b, .int (xs (2 + 4 * i + 1)), .ref m0, .int (trR tr (xs (2 + 4 * i + 1)) (xs (2 + 4 * i + 2)))]) (by rw [show (2 : Int32) = nI 2 from rfl, nI_add]) ?_
      refine va_sld hx hb hX hbl hbA hS (vp_in_nI (by omega) (by omega)) dL_law_388 ?_
      refine W.eq (g2 := F0 m 389 ls [.int (xs (2 + 4 * i + 2)), .int (xs (2 + 4 * i + 1)), .ref m0, .int (trR tr (xs (2 + 4 * i + 1)) (xs (2 + 4 * i + 2)))]) (by rw [nI_clamp (by omega)]) ?_
      refine callPi (wc := wM cI m0 mS mC mT mR mA th (nI L) (nI C) (nI rl) (nI bg) (nI st) mk (zb on) (nI tp) (nI tl) (zb tb) sg ch tr rc ta) (wr := (o, .inl (cJ, 1, .inr (.inl fo))) :: wX cI cP x aC aT aR aP (nI L) (nI C) (nI rl) (nI bg) (zb on) (nI st) mk rp sp sc sk fa ch (trN tr (xs (2 + 4 * i + 1)) (xs (2 + 4 * i + 2))) rc pg pl) (va_runV (As := [.int (xs (2 + 4 * i + 1)), .int (xs (2 + 4 * i + 2))]) (rest := [.int (trR tr (xs (2 + 4 * i + 1)) (xs (2 + 4 * i + 2)))]) ⟨hx, hb, hml, hown, hts⟩ (c_X3_translate l (xs (2 + 4 * i + 1)) (xs (2 + 4 * i + 2))) (cwV 2 hts gL_law_X3_translate rfl rfl rfl (by decide +kernel) ⟨(Nat.le_of_ble_eq_true rfl), (Nat.le_of_ble_eq_true rfl)⟩) (mu_pre hK (preP hP) (preD hD) rfl 0 rfl) rfl rfl hl.1 rfl (lv_room (Nat.le_of_ble_eq_true rfl)) dL_law_389 ⟨by show 12 + 0 + 0 ≤ 600002; omega, by show 349499 + 0 + 0 ≤ 7302198; omega⟩) hP hD hS hA (fun r_389 u_389 H locs w_389 hP hD hS => ?_)
      obtain ⟨rfl, rfl⟩ := w_389
      have hP : va_P D vwCl (wM cI m0 mS mC mT mR mA 0 (nI L) (nI C) (nI rl) (nI bg) (nI st) mk (zb on) (nI tp) (nI tl) (zb tb) sg ch (trN tr (xs (2 + 4 * i + 1)) (xs (2 + 4 * i + 2))) rc ta ++ ((o, .inl (cJ, 1, .inr (.inl fo))) :: wX cI cP x aC aT aR aP (nI L) (nI C) (nI rl) (nI bg) (zb on) (nI st) mk rp sp sc sk fa ch (trN tr (xs (2 + 4 * i + 1)) (xs (2 + 4 * i + 2))) rc pg pl)) H := hP
      have hD : va_D (fun q : Nat => s.heap.size ≤ q) (wM cI m0 mS mC mT mR mA 0 (nI L) (nI C) (nI rl) (nI bg) (nI st) mk (zb on) (nI tp) (nI tl) (zb tb) sg ch (trN tr (xs (2 + 4 * i + 1)) (xs (2 + 4 * i + 2))) rc ta ++ ((o, .inl (cJ, 1, .inr (.inl fo))) :: wX cI cP x aC aT aR aP (nI L) (nI C) (nI rl) (nI bg) (zb on) (nI st) mk rp sp sc sk fa ch (trN tr (xs (2 + 4 * i + 1)) (xs (2 + 4 * i + 2))) rc pg pl)) := hD
      refine lv_icmp_eq (tgt := 521) hx hb dL_law_392 (by decide) (fun c_392 => ?_) (fun c_392 => absurd (rfl) c_392)
      refine W.widen (k := 12 + 136) (n := 349499 + 4689) (by omega) (by omega) ?_
      refine lv_iinc (v := nI (2 + 4 * (i + 1))) (lv' := [(4, .int (nI (2 + 4 * (i + 1)))), (0, .ref b), (1, .ref x), (2, .ref m0), (3, .ref o)]) hx hb dL_law_521 hl (k := 4) rfl (by rw [show Int32.ofInt 4 = nI 4 from rfl, nI_add]; congr 1) (by decide) rfl (fun ls hl => ?_)
      refine lv_goto (tgt := 43) hx hb dL_law_524 (by decide) ?_
      exact law_end l hN C0 (i + 1) (by omega) (by omega) hS (lv_sub hl [1, 2, 3, 4, 0] rfl)
    by_cases k_8 : z = 8
    ·
      refine lv_tableIn (off := 338) (tgt := 397) hx hb dL_law_59 (by rw [k_8]; decide +kernel) (by rw [k_8]; decide +kernel) (by rw [k_8]; decide +kernel) (by decide) ?_
      refine lv_aload_n hx hb dL_law_397 rfl (lv_at hl 1 rfl) ?_
      refine lv_aload_n hx hb dL_law_398 rfl (lv_at hl 0 rfl) ?_
      refine lv_iload hx hb dL_law_399 (lv_at hl 4 rfl) ?_
      refine lv_iconst (v := 1) hx hb dL_law_401 (by decide +kernel) ?_
      refine lv_iadd hx hb dL_law_402 ?_
      refine W.eq (g2 := F0 m 403 ls [.int (nI (2 + 4 * i + 1)), .ref b, .ref x]) (by rw [show (1 : Int32) = nI 1 from rfl, nI_add]) ?_
      refine va_sld hx hb hX hbl hbA hS (vp_in_nI (by omega) (by omega)) dL_law_403 ?_
      refine W.eq (g2 := F0 m 404 ls [.int (xs (2 + 4 * i + 1)), .ref x]) (by rw [nI_clamp (by omega)]) ?_
      refine lv_aload_n hx hb dL_law_404 rfl (lv_at hl 0 rfl) ?_
      refine lv_iload hx hb dL_law_405 (lv_at hl 4 rfl) ?_
      refine lv_iconst (v := 2) hx hb dL_law_407 (by decide +kernel) ?_
      refine lv_iadd hx hb dL_law_408 ?_
      refine W.eq (g2 := F0 m 409 ls [.int (nI (2 + 4 * i + 2)), .ref b, .int (xs (2 + 4 * i + 1)), .ref x]) (by rw [show (2 : Int32) = nI 2 from rfl, nI_add]) ?_
      refine va_sld hx hb hX hbl hbA hS (vp_in_nI (by omega) (by omega)) dL_law_409 ?_
      refine W.eq (g2 := F0 m 410 ls [.int (xs (2 + 4 * i + 2)), .int (xs (2 + 4 * i + 1)), .ref x]) (by rw [nI_clamp (by omega)]) ?_
      refine lv_aload_n hx hb dL_law_410 rfl (lv_at hl 0 rfl) ?_
      refine lv_iload hx hb dL_law_411 (lv_at hl 4 rfl) ?_
      refine lv_iconst (v := 3) hx hb dL_law_413 (by decide +kernel) ?_
      refine lv_iadd hx hb dL_law_414 ?_
      refine W.eq (g2 := F0 m 415 ls [.int (nI (2 + 4 * i + 3)), .ref b, .int (xs (2 + 4 * i + 2)), .int (xs (2 + 4 * i + 1)), .ref x]) (by rw [show (3 : Int32) = nI 3 from rfl, nI_add]) ?_
      refine va_sld hx hb hX hbl hbA hS (vp_in_nI (by omega) (by omega)) dL_law_415 ?_
      refine W.eq (g2 := F0 m 416 ls [.int (xs (2 + 4 * i + 3)), .int (xs (2 + 4 * i + 2)), .int (xs (2 + 4 * i + 1)), .ref x]) (by rw [nI_clamp (by omega)]) ?_
      have hPs : va_P D vwCl ((wM cI m0 mS mC mT mR mA th (nI L) (nI C) (nI rl) (nI bg) (nI st) mk (zb on) (nI tp) (nI tl) (zb tb) sg ch tr rc ta ++ [(o, .inl (cJ, 1, .inr (.inl fo)))]) ++ wX cI cP x aC aT aR aP (nI L) (nI C) (nI rl) (nI bg) (zb on) (nI st) mk rp sp sc sk fa ch tr rc pg pl) H := hP
      have hDs : va_D (fun q : Nat => s.heap.size ≤ q) ((wM cI m0 mS mC mT mR mA th (nI L) (nI C) (nI rl) (nI bg) (nI st) mk (zb on) (nI tp) (nI tl) (zb tb) sg ch tr rc ta ++ [(o, .inl (cJ, 1, .inr (.inl fo)))]) ++ wX cI cP x aC aT aR aP (nI L) (nI C) (nI rl) (nI bg) (zb on) (nI st) mk rp sp sc sk fa ch tr rc pg pl) := hD
      refine callSi (wr := wM cI m0 mS mC mT mR mA th (nI L) (nI C) (nI rl) (nI bg) (nI st) mk (zb on) (nI tp) (nI tl) (zb tb) sg ch tr rc ta ++ [(o, .inl (cJ, 1, .inr (.inl fo)))]) (wc := wX cI cP x aC aT aR aP (nI L) (nI C) (nI rl) (nI bg) (zb on) (nI st) mk rp sp sc sk fa ch tr rc pg pl) (va_runV (As := [.int (xs (2 + 4 * i + 1)), .int (xs (2 + 4 * i + 2)), .int (xs (2 + 4 * i + 3))]) (rest := []) ⟨hx, hb, hml, hown, hts⟩ (c_X2_copies l hI.2.1 hI.2.2.2.2.2.1 hI.2.2.2.2.2.2.1 (xs (2 + 4 * i + 1)) (xs (2 + 4 * i + 2)) (xs (2 + 4 * i + 3))) (cwV 3 hts gL_law_X2_copies rfl rfl rfl (by decide +kernel) ⟨(Nat.le_of_ble_eq_true rfl), (Nat.le_of_ble_eq_true rfl)⟩) (mu_pre hK (sufP hPs) (sufD hDs) rfl 0 rfl) rfl rfl hl.1 rfl (lv_room (Nat.le_of_ble_eq_true rfl)) dL_law_416 ⟨by show 12 + 0 + 0 ≤ 600002; omega, by show 349499 + 0 + 0 ≤ 7302198; omega⟩) hPs hDs hS hA (fun r_416 u_416 H locs w_416 hP hD hS => ?_)
      obtain ⟨pg1, bg1, st1, on1⟩ := u_416
      obtain ⟨rfl, -⟩ := w_416
      dsimp only at hP hD
      have hP : va_P D vwCl (wM cI m0 mS mC mT mR mA th (nI L) (nI C) (nI rl) (nI bg) (nI st) mk (zb on) (nI tp) (nI tl) (zb tb) sg ch tr rc ta ++ ((o, .inl (cJ, 1, .inr (.inl fo))) :: wX cI cP x aC aT aR aP (nI L) (nI C) (nI rl) (nI bg1) (zb on1) (nI st1) mk rp sp sc sk fa ch tr rc pg1 pl)) H := hP
      have hD : va_D (fun q : Nat => s.heap.size ≤ q) (wM cI m0 mS mC mT mR mA th (nI L) (nI C) (nI rl) (nI bg) (nI st) mk (zb on) (nI tp) (nI tl) (zb tb) sg ch tr rc ta ++ ((o, .inl (cJ, 1, .inr (.inl fo))) :: wX cI cP x aC aT aR aP (nI L) (nI C) (nI rl) (nI bg1) (zb on1) (nI st1) mk rp sp sc sk fa ch tr rc pg1 pl)) := hD
      refine lv_aload_n hx hb dL_law_419 rfl (lv_at hl 2 rfl) ?_
      refine lv_aload_n hx hb dL_law_420 rfl (lv_at hl 0 rfl) ?_
      refine lv_iload hx hb dL_law_421 (lv_at hl 4 rfl) ?_
      refine lv_iconst (v := 1) hx hb dL_law_423 (by decide +kernel) ?_
      refine lv_iadd hx hb dL_law_424 ?_
      refine W.eq (g2 := F0 m 425 ls [.int (nI (2 + 4 * i + 1)), .ref b, .ref m0, .int (cpR bg (xs (2 + 4 * i + 1)) (xs (2 + 4 * i + 2)) (xs (2 + 4 * i + 3)))]) (by rw [show (1 : Int32) = nI 1 from rfl, nI_add]) ?_
      refine va_sld hx hb hX hbl hbA hS (vp_in_nI (by omega) (by omega)) dL_law_425 ?_
      refine W.eq (g2 := F0 m 426 ls [.int (xs (2 + 4 * i + 1)), .ref m0, .int (cpR bg (xs (2 + 4 * i + 1)) (xs (2 + 4 * i + 2)) (xs (2 + 4 * i + 3)))]) (by rw [nI_clamp (by omega)]) ?_
      refine lv_aload_n hx hb dL_law_426 rfl (lv_at hl 0 rfl) ?_
      refine lv_iload hx hb dL_law_427 (lv_at hl 4 rfl) ?_
      refine lv_iconst (v := 2) hx hb dL_law_429 (by decide +kernel) ?_
      refine lv_iadd hx hb dL_law_430 ?_
      refine W.eq (g2 := F0 m 431 ls [.int (nI (2 + 4 * i + 2)), .ref b, .int (xs (2 + 4 * i + 1)), .ref m0, .int (cpR bg (xs (2 + 4 * i + 1)) (xs (2 + 4 * i + 2)) (xs (2 + 4 * i + 3)))]) (by rw [show (2 : Int32) = nI 2 from rfl, nI_add]) ?_
      refine va_sld hx hb hX hbl hbA hS (vp_in_nI (by omega) (by omega)) dL_law_431 ?_
      refine W.eq (g2 := F0 m 432 ls [.int (xs (2 + 4 * i + 2)), .int (xs (2 + 4 * i + 1)), .ref m0, .int (cpR bg (xs (2 + 4 * i + 1)) (xs (2 + 4 * i + 2)) (xs (2 + 4 * i + 3)))]) (by rw [nI_clamp (by omega)]) ?_
      refine lv_aload_n hx hb dL_law_432 rfl (lv_at hl 0 rfl) ?_
      refine lv_iload hx hb dL_law_433 (lv_at hl 4 rfl) ?_
      refine lv_iconst (v := 3) hx hb dL_law_435 (by decide +kernel) ?_
      refine lv_iadd hx hb dL_law_436 ?_
      refine W.eq (g2 := F0 m 437 ls [.int (nI (2 + 4 * i + 3)), .ref b, .int (xs (2 + 4 * i + 2)), .int (xs (2 + 4 * i + 1)), .ref m0, .int (cpR bg (xs (2 + 4 * i + 1)) (xs (2 + 4 * i + 2)) (xs (2 + 4 * i + 3)))]) (by rw [show (3 : Int32) = nI 3 from rfl, nI_add]) ?_
      refine va_sld hx hb hX hbl hbA hS (vp_in_nI (by omega) (by omega)) dL_law_437 ?_
      refine W.eq (g2 := F0 m 438 ls [.int (xs (2 + 4 * i + 3)), .int (xs (2 + 4 * i + 2)), .int (xs (2 + 4 * i + 1)), .ref m0, .int (cpR bg (xs (2 + 4 * i + 1)) (xs (2 + 4 * i + 2)) (xs (2 + 4 * i + 3)))]) (by rw [nI_clamp (by omega)]) ?_
      refine callPi (wc := wM cI m0 mS mC mT mR mA th (nI L) (nI C) (nI rl) (nI bg) (nI st) mk (zb on) (nI tp) (nI tl) (zb tb) sg ch tr rc ta) (wr := (o, .inl (cJ, 1, .inr (.inl fo))) :: wX cI cP x aC aT aR aP (nI L) (nI C) (nI rl) (nI bg1) (zb on1) (nI st1) mk rp sp sc sk fa ch tr rc pg1 pl) (va_runV (As := [.int (xs (2 + 4 * i + 1)), .int (xs (2 + 4 * i + 2)), .int (xs (2 + 4 * i + 3))]) (rest := [.int (cpR bg (xs (2 + 4 * i + 1)) (xs (2 + 4 * i + 2)) (xs (2 + 4 * i + 3)))]) ⟨hx, hb, hml, hown, hts⟩ (c_X3_copies l hI.2.1 (xs (2 + 4 * i + 1)) (xs (2 + 4 * i + 2)) (xs (2 + 4 * i + 3))) (cwV 3 hts gL_law_X3_copies rfl rfl rfl (by decide +kernel) ⟨(Nat.le_of_ble_eq_true rfl), (Nat.le_of_ble_eq_true rfl)⟩) (mu_pre hK (preP hP) (preD hD) rfl 0 rfl) rfl rfl hl.1 rfl (lv_room (Nat.le_of_ble_eq_true rfl)) dL_law_438 ⟨by show 12 + 0 + 0 ≤ 600002; omega, by show 349499 + 0 + 0 ≤ 7302198; omega⟩) hP hD hS hA (fun r_438 u_438 H locs w_438 hP hD hS => ?_)
      obtain ⟨sg1, ⟨bg3, st3, on3⟩⟩ := u_438
      obtain ⟨rfl, -⟩ := w_438
      dsimp only at hP hD
      have hP : va_P D vwCl (wM cI m0 mS mC mT mR mA 0 (nI L) (nI C) (nI rl) (nI bg3) (nI st3) mk (zb on3) (nI tp) (nI tl) (zb tb) sg1 ch tr rc ta ++ ((o, .inl (cJ, 1, .inr (.inl fo))) :: wX cI cP x aC aT aR aP (nI L) (nI C) (nI rl) (nI bg1) (zb on1) (nI st1) mk rp sp sc sk fa ch tr rc pg1 pl)) H := hP
      have hD : va_D (fun q : Nat => s.heap.size ≤ q) (wM cI m0 mS mC mT mR mA 0 (nI L) (nI C) (nI rl) (nI bg3) (nI st3) mk (zb on3) (nI tp) (nI tl) (zb tb) sg1 ch tr rc ta ++ ((o, .inl (cJ, 1, .inr (.inl fo))) :: wX cI cP x aC aT aR aP (nI L) (nI C) (nI rl) (nI bg1) (zb on1) (nI st1) mk rp sp sc sk fa ch tr rc pg1 pl)) := hD
      refine lv_icmp_eq (tgt := 521) hx hb dL_law_441 (by decide) (fun c_441 => ?_) (fun c_441 => absurd (rfl) c_441)
      refine W.widen (k := 12 + 136) (n := 349499 + 4689) (by omega) (by omega) ?_
      refine lv_iinc (v := nI (2 + 4 * (i + 1))) (lv' := [(4, .int (nI (2 + 4 * (i + 1)))), (0, .ref b), (1, .ref x), (2, .ref m0), (3, .ref o)]) hx hb dL_law_521 hl (k := 4) rfl (by rw [show Int32.ofInt 4 = nI 4 from rfl, nI_add]; congr 1) (by decide) rfl (fun ls hl => ?_)
      refine lv_goto (tgt := 43) hx hb dL_law_524 (by decide) ?_
      exact law_end l hN C0 (i + 1) (by omega) (by omega) hS (lv_sub hl [1, 2, 3, 4, 0] rfl)
    by_cases k_9 : z = 9
    ·
      refine lv_tableIn (off := 387) (tgt := 446) hx hb dL_law_59 (by rw [k_9]; decide +kernel) (by rw [k_9]; decide +kernel) (by rw [k_9]; decide +kernel) (by decide) ?_
      refine lv_aload_n hx hb dL_law_446 rfl (lv_at hl 1 rfl) ?_
      refine lv_aload_n hx hb dL_law_447 rfl (lv_at hl 0 rfl) ?_
      refine lv_iload hx hb dL_law_448 (lv_at hl 4 rfl) ?_
      refine lv_iconst (v := 1) hx hb dL_law_450 (by decide +kernel) ?_
      refine lv_iadd hx hb dL_law_451 ?_
      refine W.eq (g2 := F0 m 452 ls [.int (nI (2 + 4 * i + 1)), .ref b, .ref x]) (by rw [show (1 : Int32) = nI 1 from rfl, nI_add]) ?_
      refine va_sld hx hb hX hbl hbA hS (vp_in_nI (by omega) (by omega)) dL_law_452 ?_
      refine W.eq (g2 := F0 m 453 ls [.int (xs (2 + 4 * i + 1)), .ref x]) (by rw [nI_clamp (by omega)]) ?_
      have hPs : va_P D vwCl ((wM cI m0 mS mC mT mR mA th (nI L) (nI C) (nI rl) (nI bg) (nI st) mk (zb on) (nI tp) (nI tl) (zb tb) sg ch tr rc ta ++ [(o, .inl (cJ, 1, .inr (.inl fo)))]) ++ wX cI cP x aC aT aR aP (nI L) (nI C) (nI rl) (nI bg) (zb on) (nI st) mk rp sp sc sk fa ch tr rc pg pl) H := hP
      have hDs : va_D (fun q : Nat => s.heap.size ≤ q) ((wM cI m0 mS mC mT mR mA th (nI L) (nI C) (nI rl) (nI bg) (nI st) mk (zb on) (nI tp) (nI tl) (zb tb) sg ch tr rc ta ++ [(o, .inl (cJ, 1, .inr (.inl fo)))]) ++ wX cI cP x aC aT aR aP (nI L) (nI C) (nI rl) (nI bg) (zb on) (nI st) mk rp sp sc sk fa ch tr rc pg pl) := hD
      refine callSi (wr := wM cI m0 mS mC mT mR mA th (nI L) (nI C) (nI rl) (nI bg) (nI st) mk (zb on) (nI tp) (nI tl) (zb tb) sg ch tr rc ta ++ [(o, .inl (cJ, 1, .inr (.inl fo)))]) (wc := wX cI cP x aC aT aR aP (nI L) (nI C) (nI rl) (nI bg) (zb on) (nI st) mk rp sp sc sk fa ch tr rc pg pl) (va_runV (As := [.int (xs (2 + 4 * i + 1))]) (rest := []) ⟨hx, hb, hml, hown, hts⟩ (c_X2_back l hI.2.1 (xs (2 + 4 * i + 1))) (cwV 1 hts gL_law_X2_back rfl rfl rfl (by decide +kernel) ⟨(Nat.le_of_ble_eq_true rfl), (Nat.le_of_ble_eq_true rfl)⟩) (mu_pre hK (sufP hPs) (sufD hDs) rfl 0 rfl) rfl rfl hl.1 rfl (lv_room (Nat.le_of_ble_eq_true rfl)) dL_law_453 ⟨by show 12 + 0 + 0 ≤ 600002; omega, by show 349499 + 0 + 0 ≤ 7302198; omega⟩) hPs hDs hS hA (fun r_453 u_453 H locs w_453 hP hD hS => ?_)
      obtain ⟨bg1, on1, st1, pg1⟩ := u_453
      obtain ⟨rfl, -⟩ := w_453
      dsimp only at hP hD
      have hP : va_P D vwCl (wM cI m0 mS mC mT mR mA th (nI L) (nI C) (nI rl) (nI bg) (nI st) mk (zb on) (nI tp) (nI tl) (zb tb) sg ch tr rc ta ++ ((o, .inl (cJ, 1, .inr (.inl fo))) :: wX cI cP x aC aT aR aP (nI L) (nI C) (nI rl) (nI bg1) (zb on1) (nI st1) mk rp sp sc sk fa ch tr rc pg1 pl)) H := hP
      have hD : va_D (fun q : Nat => s.heap.size ≤ q) (wM cI m0 mS mC mT mR mA th (nI L) (nI C) (nI rl) (nI bg) (nI st) mk (zb on) (nI tp) (nI tl) (zb tb) sg ch tr rc ta ++ ((o, .inl (cJ, 1, .inr (.inl fo))) :: wX cI cP x aC aT aR aP (nI L) (nI C) (nI rl) (nI bg1) (zb on1) (nI st1) mk rp sp sc sk fa ch tr rc pg1 pl)) := hD
      refine lv_aload_n hx hb dL_law_456 rfl (lv_at hl 2 rfl) ?_
      refine lv_aload_n hx hb dL_law_457 rfl (lv_at hl 0 rfl) ?_
      refine lv_iload hx hb dL_law_458 (lv_at hl 4 rfl) ?_
      refine lv_iconst (v := 1) hx hb dL_law_460 (by decide +kernel) ?_
      refine lv_iadd hx hb dL_law_461 ?_
      refine W.eq (g2 := F0 m 462 ls [.int (nI (2 + 4 * i + 1)), .ref b, .ref m0, .int (bkR bg (xs (2 + 4 * i + 1)))]) (by rw [show (1 : Int32) = nI 1 from rfl, nI_add]) ?_
      refine va_sld hx hb hX hbl hbA hS (vp_in_nI (by omega) (by omega)) dL_law_462 ?_
      refine W.eq (g2 := F0 m 463 ls [.int (xs (2 + 4 * i + 1)), .ref m0, .int (bkR bg (xs (2 + 4 * i + 1)))]) (by rw [nI_clamp (by omega)]) ?_
      refine callPi (wc := wM cI m0 mS mC mT mR mA th (nI L) (nI C) (nI rl) (nI bg) (nI st) mk (zb on) (nI tp) (nI tl) (zb tb) sg ch tr rc ta) (wr := (o, .inl (cJ, 1, .inr (.inl fo))) :: wX cI cP x aC aT aR aP (nI L) (nI C) (nI rl) (nI bg1) (zb on1) (nI st1) mk rp sp sc sk fa ch tr rc pg1 pl) (va_runV (As := [.int (xs (2 + 4 * i + 1))]) (rest := [.int (bkR bg (xs (2 + 4 * i + 1)))]) ⟨hx, hb, hml, hown, hts⟩ (c_X3_back l hI.2.1 (xs (2 + 4 * i + 1))) (cwV 1 hts gL_law_X3_back rfl rfl rfl (by decide +kernel) ⟨(Nat.le_of_ble_eq_true rfl), (Nat.le_of_ble_eq_true rfl)⟩) (mu_pre hK (preP hP) (preD hD) rfl 0 rfl) rfl rfl hl.1 rfl (lv_room (Nat.le_of_ble_eq_true rfl)) dL_law_463 ⟨by show 12 + 0 + 0 ≤ 600002; omega, by show 349499 + 0 + 0 ≤ 7302198; omega⟩) hP hD hS hA (fun r_463 u_463 H locs w_463 hP hD hS => ?_)
      obtain ⟨bg3, on3, st3⟩ := u_463
      obtain ⟨rfl, -⟩ := w_463
      dsimp only at hP hD
      have hP : va_P D vwCl (wM cI m0 mS mC mT mR mA 0 (nI L) (nI C) (nI rl) (nI bg3) (nI st3) mk (zb on3) (nI tp) (nI tl) (zb tb) sg ch tr rc ta ++ ((o, .inl (cJ, 1, .inr (.inl fo))) :: wX cI cP x aC aT aR aP (nI L) (nI C) (nI rl) (nI bg1) (zb on1) (nI st1) mk rp sp sc sk fa ch tr rc pg1 pl)) H := hP
      have hD : va_D (fun q : Nat => s.heap.size ≤ q) (wM cI m0 mS mC mT mR mA 0 (nI L) (nI C) (nI rl) (nI bg3) (nI st3) mk (zb on3) (nI tp) (nI tl) (zb tb) sg ch tr rc ta ++ ((o, .inl (cJ, 1, .inr (.inl fo))) :: wX cI cP x aC aT aR aP (nI L) (nI C) (nI rl) (nI bg1) (zb on1) (nI st1) mk rp sp sc sk fa ch tr rc pg1 pl)) := hD
      refine lv_icmp_eq (tgt := 521) hx hb dL_law_466 (by decide) (fun c_466 => ?_) (fun c_466 => absurd (rfl) c_466)
      refine W.widen (k := 12 + 136) (n := 349499 + 4689) (by omega) (by omega) ?_
      refine lv_iinc (v := nI (2 + 4 * (i + 1))) (lv' := [(4, .int (nI (2 + 4 * (i + 1)))), (0, .ref b), (1, .ref x), (2, .ref m0), (3, .ref o)]) hx hb dL_law_521 hl (k := 4) rfl (by rw [show Int32.ofInt 4 = nI 4 from rfl, nI_add]; congr 1) (by decide) rfl (fun ls hl => ?_)
      refine lv_goto (tgt := 43) hx hb dL_law_524 (by decide) ?_
      exact law_end l hN C0 (i + 1) (by omega) (by omega) hS (lv_sub hl [1, 2, 3, 4, 0] rfl)
    by_cases k_10 : z = 10
    ·
      refine lv_tableIn (off := 412) (tgt := 471) hx hb dL_law_59 (by rw [k_10]; decide +kernel) (by rw [k_10]; decide +kernel) (by rw [k_10]; decide +kernel) (by decide) ?_
      refine lv_aload_n hx hb dL_law_471 rfl (lv_at hl 1 rfl) ?_
      refine lv_aload_n hx hb dL_law_472 rfl (lv_at hl 0 rfl) ?_
      refine lv_iload hx hb dL_law_473 (lv_at hl 4 rfl) ?_
      refine lv_iconst (v := 1) hx hb dL_law_475 (by decide +kernel) ?_
      refine lv_iadd hx hb dL_law_476 ?_
      refine W.eq (g2 := F0 m 477 ls [.int (nI (2 + 4 * i + 1)), .ref b, .ref x]) (by rw [show (1 : Int32) = nI 1 from rfl, nI_add]) ?_
      refine va_sld hx hb hX hbl hbA hS (vp_in_nI (by omega) (by omega)) dL_law_477 ?_
      refine W.eq (g2 := F0 m 478 ls [.int (xs (2 + 4 * i + 1)), .ref x]) (by rw [nI_clamp (by omega)]) ?_
      have hPs : va_P D vwCl ((wM cI m0 mS mC mT mR mA th (nI L) (nI C) (nI rl) (nI bg) (nI st) mk (zb on) (nI tp) (nI tl) (zb tb) sg ch tr rc ta ++ [(o, .inl (cJ, 1, .inr (.inl fo)))]) ++ wX cI cP x aC aT aR aP (nI L) (nI C) (nI rl) (nI bg) (zb on) (nI st) mk rp sp sc sk fa ch tr rc pg pl) H := hP
      have hDs : va_D (fun q : Nat => s.heap.size ≤ q) ((wM cI m0 mS mC mT mR mA th (nI L) (nI C) (nI rl) (nI bg) (nI st) mk (zb on) (nI tp) (nI tl) (zb tb) sg ch tr rc ta ++ [(o, .inl (cJ, 1, .inr (.inl fo)))]) ++ wX cI cP x aC aT aR aP (nI L) (nI C) (nI rl) (nI bg) (zb on) (nI st) mk rp sp sc sk fa ch tr rc pg pl) := hD
      refine callSi (wr := wM cI m0 mS mC mT mR mA th (nI L) (nI C) (nI rl) (nI bg) (nI st) mk (zb on) (nI tp) (nI tl) (zb tb) sg ch tr rc ta ++ [(o, .inl (cJ, 1, .inr (.inl fo)))]) (wc := wX cI cP x aC aT aR aP (nI L) (nI C) (nI rl) (nI bg) (zb on) (nI st) mk rp sp sc sk fa ch tr rc pg pl) (va_runV (As := [.int (xs (2 + 4 * i + 1))]) (rest := []) ⟨hx, hb, hml, hown, hts⟩ (c_X2_forms l (xs (2 + 4 * i + 1))) (cwV 1 hts gL_law_X2_forms rfl rfl rfl (by decide +kernel) ⟨(Nat.le_of_ble_eq_true rfl), (Nat.le_of_ble_eq_true rfl)⟩) (mu_pre hK (sufP hPs) (sufD hDs) rfl 0 rfl) rfl rfl hl.1 rfl (lv_room (Nat.le_of_ble_eq_true rfl)) dL_law_478 ⟨by show 12 + 0 + 0 ≤ 600002; omega, by show 349499 + 0 + 0 ≤ 7302198; omega⟩) hPs hDs hS hA (fun r_478 u_478 H locs w_478 hP hD hS => ?_)
      obtain ⟨mk1, fa1, on1, st1⟩ := u_478
      obtain ⟨rfl, -⟩ := w_478
      dsimp only at hP hD
      have hP : va_P D vwCl (wM cI m0 mS mC mT mR mA th (nI L) (nI C) (nI rl) (nI bg) (nI st) mk (zb on) (nI tp) (nI tl) (zb tb) sg ch tr rc ta ++ ((o, .inl (cJ, 1, .inr (.inl fo))) :: wX cI cP x aC aT aR aP (nI L) (nI C) (nI rl) (nI bg) (zb on1) (nI st1) mk1 rp sp sc sk fa1 ch tr rc pg pl)) H := hP
      have hD : va_D (fun q : Nat => s.heap.size ≤ q) (wM cI m0 mS mC mT mR mA th (nI L) (nI C) (nI rl) (nI bg) (nI st) mk (zb on) (nI tp) (nI tl) (zb tb) sg ch tr rc ta ++ ((o, .inl (cJ, 1, .inr (.inl fo))) :: wX cI cP x aC aT aR aP (nI L) (nI C) (nI rl) (nI bg) (zb on1) (nI st1) mk1 rp sp sc sk fa1 ch tr rc pg pl)) := hD
      refine lv_aload_n hx hb dL_law_481 rfl (lv_at hl 2 rfl) ?_
      refine lv_aload_n hx hb dL_law_482 rfl (lv_at hl 0 rfl) ?_
      refine lv_iload hx hb dL_law_483 (lv_at hl 4 rfl) ?_
      refine lv_iconst (v := 1) hx hb dL_law_485 (by decide +kernel) ?_
      refine lv_iadd hx hb dL_law_486 ?_
      refine W.eq (g2 := F0 m 487 ls [.int (nI (2 + 4 * i + 1)), .ref b, .ref m0, .int (fmR mk (xs (2 + 4 * i + 1)))]) (by rw [show (1 : Int32) = nI 1 from rfl, nI_add]) ?_
      refine va_sld hx hb hX hbl hbA hS (vp_in_nI (by omega) (by omega)) dL_law_487 ?_
      refine W.eq (g2 := F0 m 488 ls [.int (xs (2 + 4 * i + 1)), .ref m0, .int (fmR mk (xs (2 + 4 * i + 1)))]) (by rw [nI_clamp (by omega)]) ?_
      refine callPi (wc := wM cI m0 mS mC mT mR mA th (nI L) (nI C) (nI rl) (nI bg) (nI st) mk (zb on) (nI tp) (nI tl) (zb tb) sg ch tr rc ta) (wr := (o, .inl (cJ, 1, .inr (.inl fo))) :: wX cI cP x aC aT aR aP (nI L) (nI C) (nI rl) (nI bg) (zb on1) (nI st1) mk1 rp sp sc sk fa1 ch tr rc pg pl) (va_runV (As := [.int (xs (2 + 4 * i + 1))]) (rest := [.int (fmR mk (xs (2 + 4 * i + 1)))]) ⟨hx, hb, hml, hown, hts⟩ (c_X3_forms l (xs (2 + 4 * i + 1))) (cwV 1 hts gL_law_X3_forms rfl rfl rfl (by decide +kernel) ⟨(Nat.le_of_ble_eq_true rfl), (Nat.le_of_ble_eq_true rfl)⟩) (mu_pre hK (preP hP) (preD hD) rfl 0 rfl) rfl rfl hl.1 rfl (lv_room (Nat.le_of_ble_eq_true rfl)) dL_law_488 ⟨by show 12 + 0 + 0 ≤ 600002; omega, by show 349499 + 0 + 0 ≤ 7302198; omega⟩) hP hD hS hA (fun r_488 u_488 H locs w_488 hP hD hS => ?_)
      obtain ⟨mk2, ta2, on3, st3⟩ := u_488
      obtain ⟨rfl, -⟩ := w_488
      dsimp only at hP hD
      have hP : va_P D vwCl (wM cI m0 mS mC mT mR mA 0 (nI L) (nI C) (nI rl) (nI bg) (nI st3) mk2 (zb on3) (nI tp) (nI tl) (zb tb) sg ch tr rc ta2 ++ ((o, .inl (cJ, 1, .inr (.inl fo))) :: wX cI cP x aC aT aR aP (nI L) (nI C) (nI rl) (nI bg) (zb on1) (nI st1) mk1 rp sp sc sk fa1 ch tr rc pg pl)) H := hP
      have hD : va_D (fun q : Nat => s.heap.size ≤ q) (wM cI m0 mS mC mT mR mA 0 (nI L) (nI C) (nI rl) (nI bg) (nI st3) mk2 (zb on3) (nI tp) (nI tl) (zb tb) sg ch tr rc ta2 ++ ((o, .inl (cJ, 1, .inr (.inl fo))) :: wX cI cP x aC aT aR aP (nI L) (nI C) (nI rl) (nI bg) (zb on1) (nI st1) mk1 rp sp sc sk fa1 ch tr rc pg pl)) := hD
      refine lv_icmp_eq (tgt := 521) hx hb dL_law_491 (by decide) (fun c_491 => ?_) (fun c_491 => absurd (rfl) c_491)
      refine W.widen (k := 12 + 136) (n := 349499 + 4689) (by omega) (by omega) ?_
      refine lv_iinc (v := nI (2 + 4 * (i + 1))) (lv' := [(4, .int (nI (2 + 4 * (i + 1)))), (0, .ref b), (1, .ref x), (2, .ref m0), (3, .ref o)]) hx hb dL_law_521 hl (k := 4) rfl (by rw [show Int32.ofInt 4 = nI 4 from rfl, nI_add]; congr 1) (by decide) rfl (fun ls hl => ?_)
      refine lv_goto (tgt := 43) hx hb dL_law_524 (by decide) ?_
      exact law_end l hN C0 (i + 1) (by omega) (by omega) hS (lv_sub hl [1, 2, 3, 4, 0] rfl)
    by_cases k_11 : z = 11
    ·
      refine lv_tableIn (off := 437) (tgt := 496) hx hb dL_law_59 (by rw [k_11]; decide +kernel) (by rw [k_11]; decide +kernel) (by rw [k_11]; decide +kernel) (by decide) ?_
      refine lv_aload_n hx hb dL_law_496 rfl (lv_at hl 1 rfl) ?_
      refine lv_aload_n hx hb dL_law_497 rfl (lv_at hl 0 rfl) ?_
      refine lv_iload hx hb dL_law_498 (lv_at hl 4 rfl) ?_
      refine lv_iconst (v := 1) hx hb dL_law_500 (by decide +kernel) ?_
      refine lv_iadd hx hb dL_law_501 ?_
      refine W.eq (g2 := F0 m 502 ls [.int (nI (2 + 4 * i + 1)), .ref b, .ref x]) (by rw [show (1 : Int32) = nI 1 from rfl, nI_add]) ?_
      refine va_sld hx hb hX hbl hbA hS (vp_in_nI (by omega) (by omega)) dL_law_502 ?_
      refine W.eq (g2 := F0 m 503 ls [.int (xs (2 + 4 * i + 1)), .ref x]) (by rw [nI_clamp (by omega)]) ?_
      have hPs : va_P D vwCl ((wM cI m0 mS mC mT mR mA th (nI L) (nI C) (nI rl) (nI bg) (nI st) mk (zb on) (nI tp) (nI tl) (zb tb) sg ch tr rc ta ++ [(o, .inl (cJ, 1, .inr (.inl fo)))]) ++ wX cI cP x aC aT aR aP (nI L) (nI C) (nI rl) (nI bg) (zb on) (nI st) mk rp sp sc sk fa ch tr rc pg pl) H := hP
      have hDs : va_D (fun q : Nat => s.heap.size ≤ q) ((wM cI m0 mS mC mT mR mA th (nI L) (nI C) (nI rl) (nI bg) (nI st) mk (zb on) (nI tp) (nI tl) (zb tb) sg ch tr rc ta ++ [(o, .inl (cJ, 1, .inr (.inl fo)))]) ++ wX cI cP x aC aT aR aP (nI L) (nI C) (nI rl) (nI bg) (zb on) (nI st) mk rp sp sc sk fa ch tr rc pg pl) := hD
      refine vp_callSi (W.runV (As := [.int (xs (2 + 4 * i + 1))]) (rest := []) ⟨hx, hb, hml, hown, hts⟩ (c_X2_tally l (xs (2 + 4 * i + 1))) (cwV 1 hts gL_law_X2_tally rfl rfl rfl (by decide +kernel) ⟨(Nat.le_of_ble_eq_true rfl), (Nat.le_of_ble_eq_true rfl)⟩) (ro_pre hK (sufP hPs) rfl 0 rfl) rfl rfl hl.1 rfl (lv_room (Nat.le_of_ble_eq_true rfl)) dL_law_503 ⟨by show 12 + 0 + 0 ≤ 600002; omega, by show 349499 + 0 + 0 ≤ 7302198; omega⟩) (fun r_503 w_503 => ?_)
      obtain rfl := w_503
      refine lv_aload_n hx hb dL_law_506 rfl (lv_at hl 2 rfl) ?_
      refine lv_aload_n hx hb dL_law_507 rfl (lv_at hl 0 rfl) ?_
      refine lv_iload hx hb dL_law_508 (lv_at hl 4 rfl) ?_
      refine lv_iconst (v := 1) hx hb dL_law_510 (by decide +kernel) ?_
      refine lv_iadd hx hb dL_law_511 ?_
      refine W.eq (g2 := F0 m 512 ls [.int (nI (2 + 4 * i + 1)), .ref b, .ref m0, .int (tlR bg st rp sp sc sk fa rl (xs (2 + 4 * i + 1)))]) (by rw [show (1 : Int32) = nI 1 from rfl, nI_add]) ?_
      refine va_sld hx hb hX hbl hbA hS (vp_in_nI (by omega) (by omega)) dL_law_512 ?_
      refine W.eq (g2 := F0 m 513 ls [.int (xs (2 + 4 * i + 1)), .ref m0, .int (tlR bg st rp sp sc sk fa rl (xs (2 + 4 * i + 1)))]) (by rw [nI_clamp (by omega)]) ?_
      refine callPi (wc := wM cI m0 mS mC mT mR mA th (nI L) (nI C) (nI rl) (nI bg) (nI st) mk (zb on) (nI tp) (nI tl) (zb tb) sg ch tr rc ta) (wr := (o, .inl (cJ, 1, .inr (.inl fo))) :: wX cI cP x aC aT aR aP (nI L) (nI C) (nI rl) (nI bg) (zb on) (nI st) mk rp sp sc sk fa ch tr rc pg pl) (va_runV (As := [.int (xs (2 + 4 * i + 1))]) (rest := [.int (tlR bg st rp sp sc sk fa rl (xs (2 + 4 * i + 1)))]) ⟨hx, hb, hml, hown, hts⟩ (c_X3_tally l (xs (2 + 4 * i + 1))) (cwV 1 hts gL_law_X3_tally rfl rfl rfl (by decide +kernel) ⟨(Nat.le_of_ble_eq_true rfl), (Nat.le_of_ble_eq_true rfl)⟩) (mu_pre hK (preP hP) (preD hD) rfl 0 rfl) rfl rfl hl.1 rfl (lv_room (Nat.le_of_ble_eq_true rfl)) dL_law_513 ⟨by show 12 + 0 + 0 ≤ 600002; omega, by show 349499 + 0 + 0 ≤ 7302198; omega⟩) hP hD hS hA (fun r_513 u_513 H locs w_513 hP hD hS => ?_)
      obtain rfl := w_513
      have hP : va_P D vwCl (wM cI m0 mS mC mT mR mA 0 (nI L) (nI C) (nI rl) (nI bg) (nI st) mk (zb on) (nI tp) (nI tl) (zb tb) sg ch tr rc ta ++ ((o, .inl (cJ, 1, .inr (.inl fo))) :: wX cI cP x aC aT aR aP (nI L) (nI C) (nI rl) (nI bg) (zb on) (nI st) mk rp sp sc sk fa ch tr rc pg pl)) H := hP
      have hD : va_D (fun q : Nat => s.heap.size ≤ q) (wM cI m0 mS mC mT mR mA 0 (nI L) (nI C) (nI rl) (nI bg) (nI st) mk (zb on) (nI tp) (nI tl) (zb tb) sg ch tr rc ta ++ ((o, .inl (cJ, 1, .inr (.inl fo))) :: wX cI cP x aC aT aR aP (nI L) (nI C) (nI rl) (nI bg) (zb on) (nI st) mk rp sp sc sk fa ch tr rc pg pl)) := hD
      refine lv_icmp_eq (tgt := 521) hx hb dL_law_516 (by decide) (fun c_516 => ?_) (fun c_516 => absurd (by { obtain ⟨g1, g2, g3, g4, g5⟩ := hTA; rw [g1, g2, g3, g4, g5] }) c_516)
      refine W.widen (k := 12 + 136) (n := 349499 + 4689) (by omega) (by omega) ?_
      refine lv_iinc (v := nI (2 + 4 * (i + 1))) (lv' := [(4, .int (nI (2 + 4 * (i + 1)))), (0, .ref b), (1, .ref x), (2, .ref m0), (3, .ref o)]) hx hb dL_law_521 hl (k := 4) rfl (by rw [show Int32.ofInt 4 = nI 4 from rfl, nI_add]; congr 1) (by decide) rfl (fun ls hl => ?_)
      refine lv_goto (tgt := 43) hx hb dL_law_524 (by decide) ?_
      exact law_end l hN C0 (i + 1) (by omega) (by omega) hS (lv_sub hl [1, 2, 3, 4, 0] rfl)
    refine lv_tableOut (tgt := 521) hx hb dL_law_59 (by have q_k_0 := lv_neT (a := 0) k_0 (by decide +kernel); have q_k_1 := lv_neT (a := 1) k_1 (by decide +kernel); have q_k_2 := lv_neT (a := 2) k_2 (by decide +kernel); have q_k_3 := lv_neT (a := 3) k_3 (by decide +kernel); have q_k_4 := lv_neT (a := 4) k_4 (by decide +kernel); have q_k_5 := lv_neT (a := 5) k_5 (by decide +kernel); have q_k_6 := lv_neT (a := 6) k_6 (by decide +kernel); have q_k_7 := lv_neT (a := 7) k_7 (by decide +kernel); have q_k_8 := lv_neT (a := 8) k_8 (by decide +kernel); have q_k_9 := lv_neT (a := 9) k_9 (by decide +kernel); have q_k_10 := lv_neT (a := 10) k_10 (by decide +kernel); have q_k_11 := lv_neT (a := 11) k_11 (by decide +kernel); omega) (by decide) ?_
    refine W.widen (k := 12 + 136) (n := 349499 + 4689) (by omega) (by omega) ?_
    refine lv_iinc (v := nI (2 + 4 * (i + 1))) (lv' := [(4, .int (nI (2 + 4 * (i + 1)))), (0, .ref b), (1, .ref x), (2, .ref m0), (3, .ref o)]) hx hb dL_law_521 hl (k := 4) rfl (by rw [show Int32.ofInt 4 = nI 4 from rfl, nI_add]; congr 1) (by decide) rfl (fun ls hl => ?_)
    refine lv_goto (tgt := 43) hx hb dL_law_524 (by decide) ?_
    exact law_end l hN C0 (i + 1) (by omega) (by omega) hS (lv_sub hl [1, 2, 3, 4, 0] rfl)
