/-! the law's loop -/
set_option maxHeartbeats 8000000 in
set_option maxRecDepth 100000 in
theorem law_loop {p : Program} {e : Env} {s : State} {m : MethodId} {below : List Frame} {meth : Method} {c : Code} (l : Launch) (hl0 : l.stackTraces = false) {b N : Nat} {xs : Nat → Int32} (hN : N ≤ 2050) (C0 : lw_At p s m meth c b N xs) {D : va_G} {cI cP cR cJ : ClassId} (hK : KK D cI cP cR cJ s) {sq : Nat} (hTX : TX sq s) {x aC aT aR aP m0 mS mC mT mR mA o L C : Nat} (hL0 : 0 < L) (hL : L ≤ 66) (hC : C ≤ 132) :
    ∀ (n i : Nat) (rl bg st rl2 bg2 st2 tp tl : Nat) (on on2 tb : Bool) (th mk rp sp sc sk fa : Int32) (ch tr rc rc2 sg ta : Nat → Int32) (pg : Nat → Option Nat) (pl : va_W) (own : Nat → Nat × Nat) (M : Nat → Nat → Nat → Int32) (fo : Nat → Int64) (H : Heap) (locs : List Loc) (ls : Array Slot), i ≤ 512 → 513 - i ≤ n → INX cI cR L C rl bg st on ch rc pg pl own M → INM L rl2 bg2 st2 on2 ch rc2 → va_P D vwCl (wM cI m0 mS mC mT mR mA th (nI L) (nI C) (nI rl2) (nI bg2) (nI st2) mk (zb on2) (nI tp) (nI tl) (zb tb) sg ch tr rc2 ta ++ ((o, .inl (cJ, 1, .inr (.inl fo))) :: wX cI cP x aC aT aR aP (nI L) (nI C) (nI rl) (nI bg) (zb on) (nI st) mk rp sp sc sk fa ch tr rc pg pl)) H → va_D (fun q : Nat => s.heap.size ≤ q) (wM cI m0 mS mC mT mR mA th (nI L) (nI C) (nI rl2) (nI bg2) (nI st2) mk (zb on2) (nI tp) (nI tl) (zb tb) sg ch tr rc2 ta ++ ((o, .inl (cJ, 1, .inr (.inl fo))) :: wX cI cP x aC aT aR aP (nI L) (nI C) (nI rl) (nI bg) (zb on) (nI st) mk rp sp sc sk fa ch tr rc pg pl)) → va_S (fun q : Nat => s.heap.size ≤ q) s.heap H locs → lv_has ls 7 [(0, .ref b), (1, .ref x), (2, .ref m0), (3, .ref o), (4, .int (nI (2 + 4 * i)))] → W p l e room_1 s m #[Value.ref b] below meth c H locs (12 + 136 * i) (349499 + 4689 * i) (lw_Z below #[Value.ref b] s) (F0 m 43 ls []) := by
  obtain ⟨hx, hb, hr, hml, hown0, htl, hX, hbl, hlocks, hgv⟩ := id C0
  have hown : s.vm.findClass RL = some m.cls := hown0
  have hts : ∀ w ∈ wsL_law, w.before #[Value.ref b] s = true := fun w hw => htl w (lw_good w hw).1
  have hA : ∀ q : Nat, s.heap.size ≤ q → (fun q : Nat => s.heap.size ≤ q) q := fun _ h => h
  have hbA : ¬ (fun q : Nat => s.heap.size ≤ q) b := Nat.not_le.mpr hbl
  intro n
  induction n with
  | zero => intro i rl bg st rl2 bg2 st2 tp tl on on2 tb th mk rp sp sc sk fa ch tr rc rc2 sg ta pg pl own M fo H locs ls hi hn; omega
  | succ n ih =>
    intro i rl bg st rl2 bg2 st2 tp tl on on2 tb th mk rp sp sc sk fa ch tr rc rc2 sg ta pg pl own M fo H locs ls hi hn hI hJ hP hD hS hl
    refine lv_iload hx hb dL_law_43 (lv_at hl 4 rfl) ?_
    refine lv_aload_n hx hb dL_law_45 rfl (lv_at hl 0 rfl) ?_
    refine va_slen hx hb hX hbl hbA hS dL_law_46 ?_
    refine W.eq (g2 := F0 m 47 ls [.int (nI N), .int (nI (2 + 4 * i))]) rfl ?_
    refine lv_iconst (v := 4) hx hb dL_law_47 (by decide +kernel) ?_
    refine lv_isub hx hb dL_law_48 ?_
    refine lv_icmp_gt (tgt := 499) hx hb dL_law_49 (by decide) (fun c_49 => ?_) (fun c_49 => ?_)
    ·
      refine lv_iconst (v := 1) hx hb dL_law_499 (by decide +kernel) ?_
      refine W.widen (k := 601024) (n := 7293000) (by omega) (by omega) ?_
      exact W.forget (locs := []) (L := locs) (fun q hq => hS.2.2 q hq) (lw_ret hx hb hr hlocks dL_law_500)
    ·
      have hlt : 2 + 4 * i + 4 ≤ N := by
        have h9 := i32 (nI N - 4)
        have hN9 := nI_toInt (n := N) (by omega)
        have h4 : (4 : Int32).toInt = 4 := rfl
        rw [i32_lt, nI_toInt (by omega)] at c_49
        rcases i32_sub (nI N) 4 with e9 | e9 | e9 <;> omega
      refine lv_aload_n hx hb dL_law_52 rfl (lv_at hl 0 rfl) ?_
      refine lv_iload hx hb dL_law_53 (lv_at hl 4 rfl) ?_
      refine va_sld hx hb hX hbl hbA hS (vp_in_nI (by omega) (by omega)) dL_law_55 ?_
      refine W.eq (g2 := F0 m 56 ls [.int (xs (2 + 4 * i))]) (by rw [nI_clamp (by omega)]) ?_
      refine lv_bipush (v := 15) hx hb dL_law_56 (by decide +kernel) ?_
      refine lv_iand hx hb dL_law_58 ?_
      refine lv_topi (fun z ez => ?_)
      clear ez
      by_cases k_0 : z = 0
      ·
        refine lv_tableIn (off := 61) (tgt := 120) hx hb dL_law_59 (by rw [k_0]; decide +kernel) (by rw [k_0]; decide +kernel) (by rw [k_0]; decide +kernel) (by decide) ?_
        refine lv_aload_n hx hb dL_law_120 rfl (lv_at hl 1 rfl) ?_
        refine lv_aload_n hx hb dL_law_121 rfl (lv_at hl 0 rfl) ?_
        refine lv_iload hx hb dL_law_122 (lv_at hl 4 rfl) ?_
        refine lv_iconst (v := 1) hx hb dL_law_124 (by decide +kernel) ?_
        refine lv_iadd hx hb dL_law_125 ?_
        refine W.eq (g2 := F0 m 126 ls [.int (nI (2 + 4 * i + 1)), .ref b, .ref x]) (by rw [show (1 : Int32) = nI 1 from rfl, nI_add]) ?_
        refine va_sld hx hb hX hbl hbA hS (vp_in_nI (by omega) (by omega)) dL_law_126 ?_
        refine W.eq (g2 := F0 m 127 ls [.int (xs (2 + 4 * i + 1)), .ref x]) (by rw [nI_clamp (by omega)]) ?_
        refine lv_aload_n hx hb dL_law_127 rfl (lv_at hl 0 rfl) ?_
        refine lv_iload hx hb dL_law_128 (lv_at hl 4 rfl) ?_
        refine lv_iconst (v := 2) hx hb dL_law_130 (by decide +kernel) ?_
        refine lv_iadd hx hb dL_law_131 ?_
        refine W.eq (g2 := F0 m 132 ls [.int (nI (2 + 4 * i + 2)), .ref b, .int (xs (2 + 4 * i + 1)), .ref x]) (by rw [show (2 : Int32) = nI 2 from rfl, nI_add]) ?_
        refine va_sld hx hb hX hbl hbA hS (vp_in_nI (by omega) (by omega)) dL_law_132 ?_
        refine W.eq (g2 := F0 m 133 ls [.int (xs (2 + 4 * i + 2)), .int (xs (2 + 4 * i + 1)), .ref x]) (by rw [nI_clamp (by omega)]) ?_
        have hPs : va_P D vwCl ((wM cI m0 mS mC mT mR mA th (nI L) (nI C) (nI rl2) (nI bg2) (nI st2) mk (zb on2) (nI tp) (nI tl) (zb tb) sg ch tr rc2 ta ++ [(o, .inl (cJ, 1, .inr (.inl fo)))]) ++ wX cI cP x aC aT aR aP (nI L) (nI C) (nI rl) (nI bg) (zb on) (nI st) mk rp sp sc sk fa ch tr rc pg pl) H := hP
        have hDs : va_D (fun q : Nat => s.heap.size ≤ q) ((wM cI m0 mS mC mT mR mA th (nI L) (nI C) (nI rl2) (nI bg2) (nI st2) mk (zb on2) (nI tp) (nI tl) (zb tb) sg ch tr rc2 ta ++ [(o, .inl (cJ, 1, .inr (.inl fo)))]) ++ wX cI cP x aC aT aR aP (nI L) (nI C) (nI rl) (nI bg) (zb on) (nI st) mk rp sp sc sk fa ch tr rc pg pl) := hD
        refine callSi (wr := wM cI m0 mS mC mT mR mA th (nI L) (nI C) (nI rl2) (nI bg2) (nI st2) mk (zb on2) (nI tp) (nI tl) (zb tb) sg ch tr rc2 ta ++ [(o, .inl (cJ, 1, .inr (.inl fo)))]) (wc := wX cI cP x aC aT aR aP (nI L) (nI C) (nI rl) (nI bg) (zb on) (nI st) mk rp sp sc sk fa ch tr rc pg pl) (va_runV (As := [.int (xs (2 + 4 * i + 1)), .int (xs (2 + 4 * i + 2))]) (rest := []) ⟨hx, hb, hml, hown, hts⟩ (c_X2_channel l (xs (2 + 4 * i + 1)) (xs (2 + 4 * i + 2))) (cwV 2 hts gL_law_X2_channel rfl rfl rfl (by decide +kernel) ⟨(Nat.le_of_ble_eq_true rfl), (Nat.le_of_ble_eq_true rfl)⟩) (mu_pre hK (sufP hPs) (sufD hDs) rfl 0 rfl) rfl rfl hl.1 rfl (lv_room (Nat.le_of_ble_eq_true rfl)) dL_law_133 ⟨by show 12 + 136 * i + 0 + 0 ≤ 601024; omega, by show 349499 + 4689 * i + 0 + 0 ≤ 7293000; omega⟩) hPs hDs hS hA (fun r_133 u_133 H locs w_133 hP hD hS => ?_)
        obtain ⟨rfl, rfl⟩ := w_133
        have hP : va_P D vwCl (wM cI m0 mS mC mT mR mA th (nI L) (nI C) (nI rl2) (nI bg2) (nI st2) mk (zb on2) (nI tp) (nI tl) (zb tb) sg ch tr rc2 ta ++ ((o, .inl (cJ, 1, .inr (.inl fo))) :: wX cI cP x aC aT aR aP (nI L) (nI C) (nI rl) (nI bg) (zb on) (nI st) mk rp sp sc sk fa (chN L ch (xs (2 + 4 * i + 1)) (xs (2 + 4 * i + 2))) tr rc pg pl)) H := hP
        have hD : va_D (fun q : Nat => s.heap.size ≤ q) (wM cI m0 mS mC mT mR mA th (nI L) (nI C) (nI rl2) (nI bg2) (nI st2) mk (zb on2) (nI tp) (nI tl) (zb tb) sg ch tr rc2 ta ++ ((o, .inl (cJ, 1, .inr (.inl fo))) :: wX cI cP x aC aT aR aP (nI L) (nI C) (nI rl) (nI bg) (zb on) (nI st) mk rp sp sc sk fa (chN L ch (xs (2 + 4 * i + 1)) (xs (2 + 4 * i + 2))) tr rc pg pl)) := hD
        refine lv_pop hx hb dL_law_136 rfl ?_
        refine lv_aload_n hx hb dL_law_137 rfl (lv_at hl 2 rfl) ?_
        refine lv_aload_n hx hb dL_law_138 rfl (lv_at hl 0 rfl) ?_
        refine lv_iload hx hb dL_law_139 (lv_at hl 4 rfl) ?_
        refine lv_iconst (v := 1) hx hb dL_law_141 (by decide +kernel) ?_
        refine lv_iadd hx hb dL_law_142 ?_
        refine W.eq (g2 := F0 m 143 ls [.int (nI (2 + 4 * i + 1)), .ref b, .ref m0]) (by rw [show (1 : Int32) = nI 1 from rfl, nI_add]) ?_
        refine va_sld hx hb hX hbl hbA hS (vp_in_nI (by omega) (by omega)) dL_law_143 ?_
        refine W.eq (g2 := F0 m 144 ls [.int (xs (2 + 4 * i + 1)), .ref m0]) (by rw [nI_clamp (by omega)]) ?_
        refine lv_aload_n hx hb dL_law_144 rfl (lv_at hl 0 rfl) ?_
        refine lv_iload hx hb dL_law_145 (lv_at hl 4 rfl) ?_
        refine lv_iconst (v := 2) hx hb dL_law_147 (by decide +kernel) ?_
        refine lv_iadd hx hb dL_law_148 ?_
        refine W.eq (g2 := F0 m 149 ls [.int (nI (2 + 4 * i + 2)), .ref b, .int (xs (2 + 4 * i + 1)), .ref m0]) (by rw [show (2 : Int32) = nI 2 from rfl, nI_add]) ?_
        refine va_sld hx hb hX hbl hbA hS (vp_in_nI (by omega) (by omega)) dL_law_149 ?_
        refine W.eq (g2 := F0 m 150 ls [.int (xs (2 + 4 * i + 2)), .int (xs (2 + 4 * i + 1)), .ref m0]) (by rw [nI_clamp (by omega)]) ?_
        refine callPi (wc := wM cI m0 mS mC mT mR mA th (nI L) (nI C) (nI rl2) (nI bg2) (nI st2) mk (zb on2) (nI tp) (nI tl) (zb tb) sg ch tr rc2 ta) (wr := (o, .inl (cJ, 1, .inr (.inl fo))) :: wX cI cP x aC aT aR aP (nI L) (nI C) (nI rl) (nI bg) (zb on) (nI st) mk rp sp sc sk fa (chN L ch (xs (2 + 4 * i + 1)) (xs (2 + 4 * i + 2))) tr rc pg pl) (va_runV (As := [.int (xs (2 + 4 * i + 1)), .int (xs (2 + 4 * i + 2))]) (rest := []) ⟨hx, hb, hml, hown, hts⟩ (c_X3_channel l (xs (2 + 4 * i + 1)) (xs (2 + 4 * i + 2))) (cwV 2 hts gL_law_X3_channel rfl rfl rfl (by decide +kernel) ⟨(Nat.le_of_ble_eq_true rfl), (Nat.le_of_ble_eq_true rfl)⟩) (mu_pre hK (preP hP) (preD hD) rfl 0 rfl) rfl rfl hl.1 rfl (lv_room (Nat.le_of_ble_eq_true rfl)) dL_law_150 ⟨by show 12 + 136 * i + 0 + 0 ≤ 601024; omega, by show 349499 + 4689 * i + 0 + 0 ≤ 7293000; omega⟩) hP hD hS hA (fun r_150 u_150 H locs w_150 hP hD hS => ?_)
        obtain ⟨rfl, rfl⟩ := w_150
        have hP : va_P D vwCl (wM cI m0 mS mC mT mR mA 0 (nI L) (nI C) (nI rl2) (nI bg2) (nI st2) mk (zb on2) (nI tp) (nI tl) (zb tb) sg (chN L ch (xs (2 + 4 * i + 1)) (xs (2 + 4 * i + 2))) tr rc2 ta ++ ((o, .inl (cJ, 1, .inr (.inl fo))) :: wX cI cP x aC aT aR aP (nI L) (nI C) (nI rl) (nI bg) (zb on) (nI st) mk rp sp sc sk fa (chN L ch (xs (2 + 4 * i + 1)) (xs (2 + 4 * i + 2))) tr rc pg pl)) H := hP
        have hD : va_D (fun q : Nat => s.heap.size ≤ q) (wM cI m0 mS mC mT mR mA 0 (nI L) (nI C) (nI rl2) (nI bg2) (nI st2) mk (zb on2) (nI tp) (nI tl) (zb tb) sg (chN L ch (xs (2 + 4 * i + 1)) (xs (2 + 4 * i + 2))) tr rc2 ta ++ ((o, .inl (cJ, 1, .inr (.inl fo))) :: wX cI cP x aC aT aR aP (nI L) (nI C) (nI rl) (nI bg) (zb on) (nI st) mk rp sp sc sk fa (chN L ch (xs (2 + 4 * i + 1)) (xs (2 + 4 * i + 2))) tr rc pg pl)) := hD
        refine lv_pop hx hb dL_law_153 rfl ?_
        refine lv_goto (tgt := 493) hx hb dL_law_154 (by decide) ?_
        refine W.widen (k := 12 + 136 * (i + 1)) (n := 349499 + 4689 * (i + 1)) (by omega) (by omega) ?_
        refine lv_iinc (v := nI (2 + 4 * (i + 1))) (lv' := [(4, .int (nI (2 + 4 * (i + 1)))), (0, .ref b), (1, .ref x), (2, .ref m0), (3, .ref o)]) hx hb dL_law_493 hl (k := 4) rfl (by rw [show Int32.ofInt 4 = nI 4 from rfl, nI_add]; congr 1) (by decide) rfl (fun ls hl => ?_)
        refine lv_goto (tgt := 43) hx hb dL_law_496 (by decide) ?_
        exact ih (i + 1) _ _ _ _ _ _ _ _ _ _ _ _ _ _ _ _ _ _ _ _ _ _ _ _ _ _ _ _ _ _ _ _ (by omega) (by omega) (hI.channel hL (xs (2 + 4 * i + 1)) (xs (2 + 4 * i + 2))) (hJ.channel hL (xs (2 + 4 * i + 1)) (xs (2 + 4 * i + 2))) hP hD hS (lv_sub hl [1, 2, 3, 4, 0] rfl)
      by_cases k_1 : z = 1
      ·
        refine lv_tableIn (off := 98) (tgt := 157) hx hb dL_law_59 (by rw [k_1]; decide +kernel) (by rw [k_1]; decide +kernel) (by rw [k_1]; decide +kernel) (by decide) ?_
        refine lv_aload_n hx hb dL_law_157 rfl (lv_at hl 1 rfl) ?_
        refine lv_aload_n hx hb dL_law_158 rfl (lv_at hl 0 rfl) ?_
        refine lv_iload hx hb dL_law_159 (lv_at hl 4 rfl) ?_
        refine lv_iconst (v := 1) hx hb dL_law_161 (by decide +kernel) ?_
        refine lv_iadd hx hb dL_law_162 ?_
        refine W.eq (g2 := F0 m 163 ls [.int (nI (2 + 4 * i + 1)), .ref b, .ref x]) (by rw [show (1 : Int32) = nI 1 from rfl, nI_add]) ?_
        refine va_sld hx hb hX hbl hbA hS (vp_in_nI (by omega) (by omega)) dL_law_163 ?_
        refine W.eq (g2 := F0 m 164 ls [.int (xs (2 + 4 * i + 1)), .ref x]) (by rw [nI_clamp (by omega)]) ?_
        have hPs : va_P D vwCl ((wM cI m0 mS mC mT mR mA th (nI L) (nI C) (nI rl2) (nI bg2) (nI st2) mk (zb on2) (nI tp) (nI tl) (zb tb) sg ch tr rc2 ta ++ [(o, .inl (cJ, 1, .inr (.inl fo)))]) ++ wX cI cP x aC aT aR aP (nI L) (nI C) (nI rl) (nI bg) (zb on) (nI st) mk rp sp sc sk fa ch tr rc pg pl) H := hP
        have hDs : va_D (fun q : Nat => s.heap.size ≤ q) ((wM cI m0 mS mC mT mR mA th (nI L) (nI C) (nI rl2) (nI bg2) (nI st2) mk (zb on2) (nI tp) (nI tl) (zb tb) sg ch tr rc2 ta ++ [(o, .inl (cJ, 1, .inr (.inl fo)))]) ++ wX cI cP x aC aT aR aP (nI L) (nI C) (nI rl) (nI bg) (zb on) (nI st) mk rp sp sc sk fa ch tr rc pg pl) := hD
        refine callSv (wr := wM cI m0 mS mC mT mR mA th (nI L) (nI C) (nI rl2) (nI bg2) (nI st2) mk (zb on2) (nI tp) (nI tl) (zb tb) sg ch tr rc2 ta ++ [(o, .inl (cJ, 1, .inr (.inl fo)))]) (wc := wX cI cP x aC aT aR aP (nI L) (nI C) (nI rl) (nI bg) (zb on) (nI st) mk rp sp sc sk fa ch tr rc pg pl) (va_runV (As := [.int (xs (2 + 4 * i + 1))]) (rest := []) ⟨hx, hb, hml, hown, hts⟩ (c_X2_sign l hI.1 (xs (2 + 4 * i + 1))) (cwV 1 hts gL_law_X2_sign rfl rfl rfl (by decide +kernel) ⟨(Nat.le_of_ble_eq_true rfl), (Nat.le_of_ble_eq_true rfl)⟩) (mu_pre hK (sufP hPs) (sufD hDs) rfl 0 rfl) rfl rfl hl.1 rfl (lv_room (Nat.le_of_ble_eq_true rfl)) dL_law_164 ⟨by show 12 + 136 * i + 0 + 0 ≤ 601024; omega, by show 349499 + 4689 * i + 0 + 0 ≤ 7293000; omega⟩) hPs hDs hS hA (fun u_164 H locs w_164 hP hD hS => ?_)
        obtain rfl := w_164
        have hP : va_P D vwCl (wM cI m0 mS mC mT mR mA th (nI L) (nI C) (nI rl2) (nI bg2) (nI st2) mk (zb on2) (nI tp) (nI tl) (zb tb) sg ch tr rc2 ta ++ ((o, .inl (cJ, 1, .inr (.inl fo))) :: wX cI cP x aC aT aR aP (nI L) (nI C) (nI (sgL rl)) (nI bg) (zb on) (nI st) mk rp sp sc sk fa ch tr (sgC rl rc (xs (2 + 4 * i + 1))) pg pl)) H := hP
        have hD : va_D (fun q : Nat => s.heap.size ≤ q) (wM cI m0 mS mC mT mR mA th (nI L) (nI C) (nI rl2) (nI bg2) (nI st2) mk (zb on2) (nI tp) (nI tl) (zb tb) sg ch tr rc2 ta ++ ((o, .inl (cJ, 1, .inr (.inl fo))) :: wX cI cP x aC aT aR aP (nI L) (nI C) (nI (sgL rl)) (nI bg) (zb on) (nI st) mk rp sp sc sk fa ch tr (sgC rl rc (xs (2 + 4 * i + 1))) pg pl)) := hD
        refine lv_aload_n hx hb dL_law_167 rfl (lv_at hl 2 rfl) ?_
        refine lv_aload_n hx hb dL_law_168 rfl (lv_at hl 0 rfl) ?_
        refine lv_iload hx hb dL_law_169 (lv_at hl 4 rfl) ?_
        refine lv_iconst (v := 1) hx hb dL_law_171 (by decide +kernel) ?_
        refine lv_iadd hx hb dL_law_172 ?_
        refine W.eq (g2 := F0 m 173 ls [.int (nI (2 + 4 * i + 1)), .ref b, .ref m0]) (by rw [show (1 : Int32) = nI 1 from rfl, nI_add]) ?_
        refine va_sld hx hb hX hbl hbA hS (vp_in_nI (by omega) (by omega)) dL_law_173 ?_
        refine W.eq (g2 := F0 m 174 ls [.int (xs (2 + 4 * i + 1)), .ref m0]) (by rw [nI_clamp (by omega)]) ?_
        refine callPv (wc := wM cI m0 mS mC mT mR mA th (nI L) (nI C) (nI rl2) (nI bg2) (nI st2) mk (zb on2) (nI tp) (nI tl) (zb tb) sg ch tr rc2 ta) (wr := (o, .inl (cJ, 1, .inr (.inl fo))) :: wX cI cP x aC aT aR aP (nI L) (nI C) (nI (sgL rl)) (nI bg) (zb on) (nI st) mk rp sp sc sk fa ch tr (sgC rl rc (xs (2 + 4 * i + 1))) pg pl) (va_runV (As := [.int (xs (2 + 4 * i + 1))]) (rest := []) ⟨hx, hb, hml, hown, hts⟩ (c_X3_sign l hJ.1 (xs (2 + 4 * i + 1))) (cwV 1 hts gL_law_X3_sign rfl rfl rfl (by decide +kernel) ⟨(Nat.le_of_ble_eq_true rfl), (Nat.le_of_ble_eq_true rfl)⟩) (mu_pre hK (preP hP) (preD hD) rfl 0 rfl) rfl rfl hl.1 rfl (lv_room (Nat.le_of_ble_eq_true rfl)) dL_law_174 ⟨by show 12 + 136 * i + 0 + 0 ≤ 601024; omega, by show 349499 + 4689 * i + 0 + 0 ≤ 7293000; omega⟩) hP hD hS hA (fun u_174 H locs w_174 hP hD hS => ?_)
        obtain rfl := w_174
        have hP : va_P D vwCl (wM cI m0 mS mC mT mR mA 0 (nI L) (nI C) (nI (sgL rl2)) (nI bg2) (nI st2) mk (zb on2) (nI tp) (nI tl) (zb tb) sg ch tr (sgC rl2 rc2 (xs (2 + 4 * i + 1))) ta ++ ((o, .inl (cJ, 1, .inr (.inl fo))) :: wX cI cP x aC aT aR aP (nI L) (nI C) (nI (sgL rl)) (nI bg) (zb on) (nI st) mk rp sp sc sk fa ch tr (sgC rl rc (xs (2 + 4 * i + 1))) pg pl)) H := hP
        have hD : va_D (fun q : Nat => s.heap.size ≤ q) (wM cI m0 mS mC mT mR mA 0 (nI L) (nI C) (nI (sgL rl2)) (nI bg2) (nI st2) mk (zb on2) (nI tp) (nI tl) (zb tb) sg ch tr (sgC rl2 rc2 (xs (2 + 4 * i + 1))) ta ++ ((o, .inl (cJ, 1, .inr (.inl fo))) :: wX cI cP x aC aT aR aP (nI L) (nI C) (nI (sgL rl)) (nI bg) (zb on) (nI st) mk rp sp sc sk fa ch tr (sgC rl rc (xs (2 + 4 * i + 1))) pg pl)) := hD
        refine lv_goto (tgt := 493) hx hb dL_law_177 (by decide) ?_
        refine W.widen (k := 12 + 136 * (i + 1)) (n := 349499 + 4689 * (i + 1)) (by omega) (by omega) ?_
        refine lv_iinc (v := nI (2 + 4 * (i + 1))) (lv' := [(4, .int (nI (2 + 4 * (i + 1)))), (0, .ref b), (1, .ref x), (2, .ref m0), (3, .ref o)]) hx hb dL_law_493 hl (k := 4) rfl (by rw [show Int32.ofInt 4 = nI 4 from rfl, nI_add]; congr 1) (by decide) rfl (fun ls hl => ?_)
        refine lv_goto (tgt := 43) hx hb dL_law_496 (by decide) ?_
        exact ih (i + 1) _ _ _ _ _ _ _ _ _ _ _ _ _ _ _ _ _ _ _ _ _ _ _ _ _ _ _ _ _ _ _ _ (by omega) (by omega) (hI.sign (xs (2 + 4 * i + 1))) (hJ.sign (xs (2 + 4 * i + 1))) hP hD hS (lv_sub hl [1, 2, 3, 4, 0] rfl)
      by_cases k_2 : z = 2
      ·
        refine lv_tableIn (off := 121) (tgt := 180) hx hb dL_law_59 (by rw [k_2]; decide +kernel) (by rw [k_2]; decide +kernel) (by rw [k_2]; decide +kernel) (by decide) ?_
        refine lv_aload_n hx hb dL_law_180 rfl (lv_at hl 1 rfl) ?_
        refine lv_aload_n hx hb dL_law_181 rfl (lv_at hl 0 rfl) ?_
        refine lv_iload hx hb dL_law_182 (lv_at hl 4 rfl) ?_
        refine lv_iconst (v := 1) hx hb dL_law_184 (by decide +kernel) ?_
        refine lv_iadd hx hb dL_law_185 ?_
        refine W.eq (g2 := F0 m 186 ls [.int (nI (2 + 4 * i + 1)), .ref b, .ref x]) (by rw [show (1 : Int32) = nI 1 from rfl, nI_add]) ?_
        refine va_sld hx hb hX hbl hbA hS (vp_in_nI (by omega) (by omega)) dL_law_186 ?_
        refine W.eq (g2 := F0 m 187 ls [.int (xs (2 + 4 * i + 1)), .ref x]) (by rw [nI_clamp (by omega)]) ?_
        obtain ⟨w0, hw0⟩ : ∃ w0, w0 = lwy L st ch (xs (2 + 4 * i + 1)) := ⟨_, rfl⟩
        have hPs : va_P D vwCl ((wM cI m0 mS mC mT mR mA th (nI L) (nI C) (nI rl2) (nI bg2) (nI st2) mk (zb on2) (nI tp) (nI tl) (zb tb) sg ch tr rc2 ta ++ [(o, .inl (cJ, 1, .inr (.inl fo)))]) ++ wX cI cP x aC aT aR aP (nI L) (nI C) (nI rl) (nI bg) (zb on) (nI st) mk rp sp sc sk fa ch tr rc pg pl) H := hP
        have hDs : va_D (fun q : Nat => s.heap.size ≤ q) ((wM cI m0 mS mC mT mR mA th (nI L) (nI C) (nI rl2) (nI bg2) (nI st2) mk (zb on2) (nI tp) (nI tl) (zb tb) sg ch tr rc2 ta ++ [(o, .inl (cJ, 1, .inr (.inl fo)))]) ++ wX cI cP x aC aT aR aP (nI L) (nI C) (nI rl) (nI bg) (zb on) (nI st) mk rp sp sc sk fa ch tr rc pg pl) := hD
        refine callSi (wr := wM cI m0 mS mC mT mR mA th (nI L) (nI C) (nI rl2) (nI bg2) (nI st2) mk (zb on2) (nI tp) (nI tl) (zb tb) sg ch tr rc2 ta ++ [(o, .inl (cJ, 1, .inr (.inl fo)))]) (wc := wX cI cP x aC aT aR aP (nI L) (nI C) (nI rl) (nI bg) (zb on) (nI st) mk rp sp sc sk fa ch tr rc pg pl) (va_runV (As := [.int (xs (2 + 4 * i + 1))]) (rest := []) ⟨hx, hb, hml, hown, hts⟩ (c_X2_line l hL0 hL hC hI.2.2.1 hI.2.1 hI.2.2.2.1 hI.2.2.2.2.2.1 hI.2.2.2.2.2.2.1 hI.1 hI.2.2.2.2.1 hI.2.2.2.2.2.2.2 (xs (2 + 4 * i + 1)) w0 hw0) (cwV 1 hts gL_law_X2_line rfl rfl rfl (by decide +kernel) ⟨(Nat.le_of_ble_eq_true rfl), (Nat.le_of_ble_eq_true rfl)⟩) (mu_pre hK (sufP hPs) (sufD hDs) rfl 0 rfl) rfl rfl hl.1 rfl (lv_room (Nat.le_of_ble_eq_true rfl)) dL_law_187 ⟨by show 12 + 136 * i + 0 + 136 ≤ 601024; omega, by show 349499 + 4689 * i + 0 + 4689 ≤ 7293000; omega⟩) hPs hDs hS hA (fun r_187 u_187 H locs w_187 hP hD hS => ?_)
        obtain ⟨pl1, pg1, bg1, st1, on1, rl1, rp1, sp1, sc1, sk1⟩ := u_187
        have hI2 : ∃ (own1 : Nat → Nat × Nat) (M1 : Nat → Nat → Nat → Int32), INX cI cR L C rl1 bg1 st1 on1 ch rc pg1 pl1 own1 M1 := by
          rcases w_187 with ⟨hb40, -, ht3, e4, -, -, -, -, ⟨own1, hPI1⟩, hCS1⟩ | ⟨hb40, -, e4, hPI1, hCS1⟩
          · dsimp only at ht3 e4 hPI1 hCS1
            obtain rfl : bg1 = (lnT L bg st on (isSk (xs (2 + 4 * i + 1))) w0).1 := congrArg (fun z => z.1) ht3
            obtain rfl : st1 = (lnT L bg st on (isSk (xs (2 + 4 * i + 1))) w0).2.1 := congrArg (fun z => z.2.1) ht3
            obtain rfl : on1 = (lnT L bg st on (isSk (xs (2 + 4 * i + 1))) w0).2.2 := congrArg (fun z => z.2.2) ht3
            subst e4
            exact ⟨own1, _, hI.line hL0 (xs (2 + 4 * i + 1)) w0 tr hb40 hPI1 hCS1⟩
          · dsimp only at e4 hPI1 hCS1
            obtain ⟨rfl, rfl, rfl, rfl, -⟩ : bg = bg1 ∧ st = st1 ∧ on = on1 ∧ rl = rl1 ∧ True := by simp at e4; simp [e4]
            exact ⟨own, M, hI.1, hI.2.1, hI.2.2.1, hI.2.2.2.1, hI.2.2.2.2.1, hPI1, hCS1, hI.2.2.2.2.2.2.2⟩
        obtain ⟨own1, M1, hI2⟩ := hI2
        dsimp only at hP hD
        clear w_187
        have hP : va_P D vwCl (wM cI m0 mS mC mT mR mA th (nI L) (nI C) (nI rl2) (nI bg2) (nI st2) mk (zb on2) (nI tp) (nI tl) (zb tb) sg ch tr rc2 ta ++ ((o, .inl (cJ, 1, .inr (.inl fo))) :: wX cI cP x aC aT aR aP (nI L) (nI C) (nI rl1) (nI bg1) (zb on1) (nI st1) mk rp1 sp1 sc1 sk1 fa ch tr rc pg1 pl1)) H := hP
        have hD : va_D (fun q : Nat => s.heap.size ≤ q) (wM cI m0 mS mC mT mR mA th (nI L) (nI C) (nI rl2) (nI bg2) (nI st2) mk (zb on2) (nI tp) (nI tl) (zb tb) sg ch tr rc2 ta ++ ((o, .inl (cJ, 1, .inr (.inl fo))) :: wX cI cP x aC aT aR aP (nI L) (nI C) (nI rl1) (nI bg1) (zb on1) (nI st1) mk rp1 sp1 sc1 sk1 fa ch tr rc pg1 pl1)) := hD
        refine lv_pop hx hb dL_law_190 rfl ?_
        refine lv_aload_n hx hb dL_law_191 rfl (lv_at hl 2 rfl) ?_
        refine lv_aload_n hx hb dL_law_192 rfl (lv_at hl 0 rfl) ?_
        refine lv_iload hx hb dL_law_193 (lv_at hl 4 rfl) ?_
        refine lv_iconst (v := 1) hx hb dL_law_195 (by decide +kernel) ?_
        refine lv_iadd hx hb dL_law_196 ?_
        refine W.eq (g2 := F0 m 197 ls [.int (nI (2 + 4 * i + 1)), .ref b, .ref m0]) (by rw [show (1 : Int32) = nI 1 from rfl, nI_add]) ?_
        refine va_sld hx hb hX hbl hbA hS (vp_in_nI (by omega) (by omega)) dL_law_197 ?_
        refine W.eq (g2 := F0 m 198 ls [.int (xs (2 + 4 * i + 1)), .ref m0]) (by rw [nI_clamp (by omega)]) ?_
        obtain ⟨w1, hw1⟩ : ∃ w1, w1 = lwy L st2 ch (xs (2 + 4 * i + 1)) := ⟨_, rfl⟩
        refine callPi (wc := wM cI m0 mS mC mT mR mA th (nI L) (nI C) (nI rl2) (nI bg2) (nI st2) mk (zb on2) (nI tp) (nI tl) (zb tb) sg ch tr rc2 ta) (wr := (o, .inl (cJ, 1, .inr (.inl fo))) :: wX cI cP x aC aT aR aP (nI L) (nI C) (nI rl1) (nI bg1) (zb on1) (nI st1) mk rp1 sp1 sc1 sk1 fa ch tr rc pg1 pl1) (va_runV (As := [.int (xs (2 + 4 * i + 1))]) (rest := []) ⟨hx, hb, hml, hown, hts⟩ (c_X3_line l hL0 hL hC hJ.2.2.1 hJ.2.1 hJ.2.2.2.2.2 hJ.2.2.2.1 hJ.1 hJ.2.2.2.2.1 (xs (2 + 4 * i + 1)) w1 hw1) (cwV 1 hts gL_law_X3_line rfl rfl rfl (by decide +kernel) ⟨(Nat.le_of_ble_eq_true rfl), (Nat.le_of_ble_eq_true rfl)⟩) (mu_pre hK (preP hP) (preD hD) rfl 0 rfl) rfl rfl hl.1 rfl (lv_room (Nat.le_of_ble_eq_true rfl)) dL_law_198 ⟨by show 12 + 136 * i + 0 + 136 + 0 ≤ 601024; omega, by show 349499 + 4689 * i + 0 + 4689 + 0 ≤ 7293000; omega⟩) hP hD hS hA (fun r_198 u_198 H locs w_198 hP hD hS => ?_)
        obtain ⟨sg1, ta1, ⟨bg3, st3, on3⟩, rl3, tp1, tl1, tb1⟩ := u_198
        have hJ2 : INM L rl3 bg3 st3 on3 ch rc2 := by
          rcases w_198 with ⟨hb40, -, ht3, e4, -, -⟩ | ⟨hb40, -, e4⟩
          · dsimp only at ht3 e4
            obtain rfl : bg3 = (lnT L bg2 st2 on2 (isSk (xs (2 + 4 * i + 1))) w1).1 := congrArg (fun z => z.1) ht3
            obtain rfl : st3 = (lnT L bg2 st2 on2 (isSk (xs (2 + 4 * i + 1))) w1).2.1 := congrArg (fun z => z.2.1) ht3
            obtain rfl : on3 = (lnT L bg2 st2 on2 (isSk (xs (2 + 4 * i + 1))) w1).2.2 := congrArg (fun z => z.2.2) ht3
            subst e4
            exact hJ.line hL0 (isSk (xs (2 + 4 * i + 1))) w1 hb40
          · dsimp only at e4
            obtain ⟨-, -, ⟨rfl, rfl, rfl⟩, rfl⟩ : sg1 = sg ∧ ta1 = ta ∧ (bg2 = bg3 ∧ st2 = st3 ∧ on2 = on3) ∧ rl2 = rl3 := by simp at e4; simp [e4]
            exact hJ
        dsimp only at hP hD
        clear w_198
        have hP : va_P D vwCl (wM cI m0 mS mC mT mR mA 0 (nI L) (nI C) (nI rl3) (nI bg3) (nI st3) mk (zb on3) (nI tp1) (nI tl1) (zb tb1) sg1 ch tr rc2 ta1 ++ ((o, .inl (cJ, 1, .inr (.inl fo))) :: wX cI cP x aC aT aR aP (nI L) (nI C) (nI rl1) (nI bg1) (zb on1) (nI st1) mk rp1 sp1 sc1 sk1 fa ch tr rc pg1 pl1)) H := hP
        have hD : va_D (fun q : Nat => s.heap.size ≤ q) (wM cI m0 mS mC mT mR mA 0 (nI L) (nI C) (nI rl3) (nI bg3) (nI st3) mk (zb on3) (nI tp1) (nI tl1) (zb tb1) sg1 ch tr rc2 ta1 ++ ((o, .inl (cJ, 1, .inr (.inl fo))) :: wX cI cP x aC aT aR aP (nI L) (nI C) (nI rl1) (nI bg1) (zb on1) (nI st1) mk rp1 sp1 sc1 sk1 fa ch tr rc pg1 pl1)) := hD
        refine lv_pop hx hb dL_law_201 rfl ?_
        refine lv_goto (tgt := 493) hx hb dL_law_202 (by decide) ?_
        refine W.widen (k := 12 + 136 * (i + 1)) (n := 349499 + 4689 * (i + 1)) (by omega) (by omega) ?_
        refine lv_iinc (v := nI (2 + 4 * (i + 1))) (lv' := [(4, .int (nI (2 + 4 * (i + 1)))), (0, .ref b), (1, .ref x), (2, .ref m0), (3, .ref o)]) hx hb dL_law_493 hl (k := 4) rfl (by rw [show Int32.ofInt 4 = nI 4 from rfl, nI_add]; congr 1) (by decide) rfl (fun ls hl => ?_)
        refine lv_goto (tgt := 43) hx hb dL_law_496 (by decide) ?_
        exact ih (i + 1) _ _ _ _ _ _ _ _ _ _ _ _ _ _ _ _ _ _ _ _ _ _ _ _ _ _ _ _ _ _ _ _ (by omega) (by omega) hI2 hJ2 hP hD hS (lv_sub hl [1, 2, 3, 4, 0] rfl)
      by_cases k_3 : z = 3
      ·
        refine lv_tableIn (off := 146) (tgt := 205) hx hb dL_law_59 (by rw [k_3]; decide +kernel) (by rw [k_3]; decide +kernel) (by rw [k_3]; decide +kernel) (by decide) ?_
        refine lv_aload_n hx hb dL_law_205 rfl (lv_at hl 1 rfl) ?_
        refine lv_aload_n hx hb dL_law_206 rfl (lv_at hl 0 rfl) ?_
        refine lv_iload hx hb dL_law_207 (lv_at hl 4 rfl) ?_
        refine lv_iconst (v := 1) hx hb dL_law_209 (by decide +kernel) ?_
        refine lv_iadd hx hb dL_law_210 ?_
        refine W.eq (g2 := F0 m 211 ls [.int (nI (2 + 4 * i + 1)), .ref b, .ref x]) (by rw [show (1 : Int32) = nI 1 from rfl, nI_add]) ?_
        refine va_sld hx hb hX hbl hbA hS (vp_in_nI (by omega) (by omega)) dL_law_211 ?_
        refine W.eq (g2 := F0 m 212 ls [.int (xs (2 + 4 * i + 1)), .ref x]) (by rw [nI_clamp (by omega)]) ?_
        have hPs : va_P D vwCl ((wM cI m0 mS mC mT mR mA th (nI L) (nI C) (nI rl2) (nI bg2) (nI st2) mk (zb on2) (nI tp) (nI tl) (zb tb) sg ch tr rc2 ta ++ [(o, .inl (cJ, 1, .inr (.inl fo)))]) ++ wX cI cP x aC aT aR aP (nI L) (nI C) (nI rl) (nI bg) (zb on) (nI st) mk rp sp sc sk fa ch tr rc pg pl) H := hP
        have hDs : va_D (fun q : Nat => s.heap.size ≤ q) ((wM cI m0 mS mC mT mR mA th (nI L) (nI C) (nI rl2) (nI bg2) (nI st2) mk (zb on2) (nI tp) (nI tl) (zb tb) sg ch tr rc2 ta ++ [(o, .inl (cJ, 1, .inr (.inl fo)))]) ++ wX cI cP x aC aT aR aP (nI L) (nI C) (nI rl) (nI bg) (zb on) (nI st) mk rp sp sc sk fa ch tr rc pg pl) := hD
        refine callSi (wr := wM cI m0 mS mC mT mR mA th (nI L) (nI C) (nI rl2) (nI bg2) (nI st2) mk (zb on2) (nI tp) (nI tl) (zb tb) sg ch tr rc2 ta ++ [(o, .inl (cJ, 1, .inr (.inl fo)))]) (wc := wX cI cP x aC aT aR aP (nI L) (nI C) (nI rl) (nI bg) (zb on) (nI st) mk rp sp sc sk fa ch tr rc pg pl) (va_runV (As := [.int (xs (2 + 4 * i + 1))]) (rest := []) ⟨hx, hb, hml, hown, hts⟩ (c_X2_skip l hL0 hL hC hI.2.2.1 hI.2.1 hI.2.2.2.1 hI.2.2.2.2.2.1 hI.2.2.2.2.2.2.1 (xs (2 + 4 * i + 1))) (cwV 1 hts gL_law_X2_skip rfl rfl rfl (by decide +kernel) ⟨(Nat.le_of_ble_eq_true rfl), (Nat.le_of_ble_eq_true rfl)⟩) (mu_pre hK (sufP hPs) (sufD hDs) rfl 0 rfl) rfl rfl hl.1 rfl (lv_room (Nat.le_of_ble_eq_true rfl)) dL_law_212 ⟨by show 12 + 136 * i + 0 + 132 ≤ 601024; omega, by show 349499 + 4689 * i + 0 + 4488 ≤ 7293000; omega⟩) hPs hDs hS hA (fun r_212 u_212 H locs w_212 hP hD hS => ?_)
        obtain ⟨pl1, pg1, bg1, st1, on1, sk1⟩ := u_212
        obtain ⟨-, ht3, -, ⟨own1, hPI1⟩, hCS1⟩ := w_212
        dsimp only at ht3 hPI1 hCS1 hP hD
        have hI2 : INX cI cR L C rl bg1 st1 on1 ch rc pg1 pl1 own1 (MB bg M) := hI.skip hL0 (xs (2 + 4 * i + 1)) (t := (bg1, st1, on1)) ht3 hPI1 hCS1
        have hP : va_P D vwCl (wM cI m0 mS mC mT mR mA th (nI L) (nI C) (nI rl2) (nI bg2) (nI st2) mk (zb on2) (nI tp) (nI tl) (zb tb) sg ch tr rc2 ta ++ ((o, .inl (cJ, 1, .inr (.inl fo))) :: wX cI cP x aC aT aR aP (nI L) (nI C) (nI rl) (nI bg1) (zb on1) (nI st1) mk rp sp sc sk1 fa ch tr rc pg1 pl1)) H := hP
        have hD : va_D (fun q : Nat => s.heap.size ≤ q) (wM cI m0 mS mC mT mR mA th (nI L) (nI C) (nI rl2) (nI bg2) (nI st2) mk (zb on2) (nI tp) (nI tl) (zb tb) sg ch tr rc2 ta ++ ((o, .inl (cJ, 1, .inr (.inl fo))) :: wX cI cP x aC aT aR aP (nI L) (nI C) (nI rl) (nI bg1) (zb on1) (nI st1) mk rp sp sc sk1 fa ch tr rc pg1 pl1)) := hD
        refine lv_pop hx hb dL_law_215 rfl ?_
        refine lv_aload_n hx hb dL_law_216 rfl (lv_at hl 2 rfl) ?_
        refine lv_aload_n hx hb dL_law_217 rfl (lv_at hl 0 rfl) ?_
        refine lv_iload hx hb dL_law_218 (lv_at hl 4 rfl) ?_
        refine lv_iconst (v := 1) hx hb dL_law_220 (by decide +kernel) ?_
        refine lv_iadd hx hb dL_law_221 ?_
        refine W.eq (g2 := F0 m 222 ls [.int (nI (2 + 4 * i + 1)), .ref b, .ref m0]) (by rw [show (1 : Int32) = nI 1 from rfl, nI_add]) ?_
        refine va_sld hx hb hX hbl hbA hS (vp_in_nI (by omega) (by omega)) dL_law_222 ?_
        refine W.eq (g2 := F0 m 223 ls [.int (xs (2 + 4 * i + 1)), .ref m0]) (by rw [nI_clamp (by omega)]) ?_
        refine callPi (wc := wM cI m0 mS mC mT mR mA th (nI L) (nI C) (nI rl2) (nI bg2) (nI st2) mk (zb on2) (nI tp) (nI tl) (zb tb) sg ch tr rc2 ta) (wr := (o, .inl (cJ, 1, .inr (.inl fo))) :: wX cI cP x aC aT aR aP (nI L) (nI C) (nI rl) (nI bg1) (zb on1) (nI st1) mk rp sp sc sk1 fa ch tr rc pg1 pl1) (va_runV (As := [.int (xs (2 + 4 * i + 1))]) (rest := []) ⟨hx, hb, hml, hown, hts⟩ (c_X3_skip l hL0 hL hC hJ.2.2.1 hJ.2.1 hJ.2.2.2.2.2 hJ.2.2.2.1 (xs (2 + 4 * i + 1))) (cwV 1 hts gL_law_X3_skip rfl rfl rfl (by decide +kernel) ⟨(Nat.le_of_ble_eq_true rfl), (Nat.le_of_ble_eq_true rfl)⟩) (mu_pre hK (preP hP) (preD hD) rfl 0 rfl) rfl rfl hl.1 rfl (lv_room (Nat.le_of_ble_eq_true rfl)) dL_law_223 ⟨by show 12 + 136 * i + 0 + 132 + 0 ≤ 601024; omega, by show 349499 + 4689 * i + 0 + 4488 + 0 ≤ 7293000; omega⟩) hP hD hS hA (fun r_223 u_223 H locs w_223 hP hD hS => ?_)
        obtain ⟨sg1, ta1, ⟨bg3, st3, on3⟩, tp1, tl1, tb1⟩ := u_223
        obtain ⟨-, e9, -, -⟩ := w_223
        dsimp only at e9 hP hD
        have hJ2 : INM L rl2 bg3 st3 on3 ch rc2 := hJ.skip hL0 (xs (2 + 4 * i + 1)) (t := (bg3, st3, on3)) e9
        have hP : va_P D vwCl (wM cI m0 mS mC mT mR mA 0 (nI L) (nI C) (nI rl2) (nI bg3) (nI st3) mk (zb on3) (nI tp1) (nI tl1) (zb tb1) sg1 ch tr rc2 ta1 ++ ((o, .inl (cJ, 1, .inr (.inl fo))) :: wX cI cP x aC aT aR aP (nI L) (nI C) (nI rl) (nI bg1) (zb on1) (nI st1) mk rp sp sc sk1 fa ch tr rc pg1 pl1)) H := hP
        have hD : va_D (fun q : Nat => s.heap.size ≤ q) (wM cI m0 mS mC mT mR mA 0 (nI L) (nI C) (nI rl2) (nI bg3) (nI st3) mk (zb on3) (nI tp1) (nI tl1) (zb tb1) sg1 ch tr rc2 ta1 ++ ((o, .inl (cJ, 1, .inr (.inl fo))) :: wX cI cP x aC aT aR aP (nI L) (nI C) (nI rl) (nI bg1) (zb on1) (nI st1) mk rp sp sc sk1 fa ch tr rc pg1 pl1)) := hD
        refine lv_pop hx hb dL_law_226 rfl ?_
        refine lv_goto (tgt := 493) hx hb dL_law_227 (by decide) ?_
        refine W.widen (k := 12 + 136 * (i + 1)) (n := 349499 + 4689 * (i + 1)) (by omega) (by omega) ?_
        refine lv_iinc (v := nI (2 + 4 * (i + 1))) (lv' := [(4, .int (nI (2 + 4 * (i + 1)))), (0, .ref b), (1, .ref x), (2, .ref m0), (3, .ref o)]) hx hb dL_law_493 hl (k := 4) rfl (by rw [show Int32.ofInt 4 = nI 4 from rfl, nI_add]; congr 1) (by decide) rfl (fun ls hl => ?_)
        refine lv_goto (tgt := 43) hx hb dL_law_496 (by decide) ?_
        exact ih (i + 1) _ _ _ _ _ _ _ _ _ _ _ _ _ _ _ _ _ _ _ _ _ _ _ _ _ _ _ _ _ _ _ _ (by omega) (by omega) hI2 hJ2 hP hD hS (lv_sub hl [1, 2, 3, 4, 0] rfl)
      by_cases k_4 : z = 4
      ·
        refine lv_tableIn (off := 171) (tgt := 230) hx hb dL_law_59 (by rw [k_4]; decide +kernel) (by rw [k_4]; decide +kernel) (by rw [k_4]; decide +kernel) (by decide) ?_
        refine lv_aload_n hx hb dL_law_230 rfl (lv_at hl 1 rfl) ?_
        have hPs : va_P D vwCl ((wM cI m0 mS mC mT mR mA th (nI L) (nI C) (nI rl2) (nI bg2) (nI st2) mk (zb on2) (nI tp) (nI tl) (zb tb) sg ch tr rc2 ta ++ [(o, .inl (cJ, 1, .inr (.inl fo)))]) ++ wX cI cP x aC aT aR aP (nI L) (nI C) (nI rl) (nI bg) (zb on) (nI st) mk rp sp sc sk fa ch tr rc pg pl) H := hP
        have hDs : va_D (fun q : Nat => s.heap.size ≤ q) ((wM cI m0 mS mC mT mR mA th (nI L) (nI C) (nI rl2) (nI bg2) (nI st2) mk (zb on2) (nI tp) (nI tl) (zb tb) sg ch tr rc2 ta ++ [(o, .inl (cJ, 1, .inr (.inl fo)))]) ++ wX cI cP x aC aT aR aP (nI L) (nI C) (nI rl) (nI bg) (zb on) (nI st) mk rp sp sc sk fa ch tr rc pg pl) := hD
        refine callSi (wr := wM cI m0 mS mC mT mR mA th (nI L) (nI C) (nI rl2) (nI bg2) (nI st2) mk (zb on2) (nI tp) (nI tl) (zb tb) sg ch tr rc2 ta ++ [(o, .inl (cJ, 1, .inr (.inl fo)))]) (wc := wX cI cP x aC aT aR aP (nI L) (nI C) (nI rl) (nI bg) (zb on) (nI st) mk rp sp sc sk fa ch tr rc pg pl) (va_runV (As := []) (rest := []) ⟨hx, hb, hml, hown, hts⟩ (c_X2_end l) (cwV 0 hts gL_law_X2_end rfl rfl rfl (by decide +kernel) ⟨(Nat.le_of_ble_eq_true rfl), (Nat.le_of_ble_eq_true rfl)⟩) (mu_pre hK (sufP hPs) (sufD hDs) rfl 0 rfl) rfl rfl hl.1 rfl (lv_room (Nat.le_of_ble_eq_true rfl)) dL_law_231 ⟨by show 12 + 136 * i + 0 + 0 ≤ 601024; omega, by show 349499 + 4689 * i + 0 + 0 ≤ 7293000; omega⟩) hPs hDs hS hA (fun r_231 u_231 H locs w_231 hP hD hS => ?_)
        have hP : va_P D vwCl (wM cI m0 mS mC mT mR mA th (nI L) (nI C) (nI rl2) (nI bg2) (nI st2) mk (zb on2) (nI tp) (nI tl) (zb tb) sg ch tr rc2 ta ++ ((o, .inl (cJ, 1, .inr (.inl fo))) :: wX cI cP x aC aT aR aP (nI L) (nI C) (nI rl) (nI bg) (zb false) (nI 0) mk rp sp sc sk fa ch tr rc pg pl)) H := hP
        have hD : va_D (fun q : Nat => s.heap.size ≤ q) (wM cI m0 mS mC mT mR mA th (nI L) (nI C) (nI rl2) (nI bg2) (nI st2) mk (zb on2) (nI tp) (nI tl) (zb tb) sg ch tr rc2 ta ++ ((o, .inl (cJ, 1, .inr (.inl fo))) :: wX cI cP x aC aT aR aP (nI L) (nI C) (nI rl) (nI bg) (zb false) (nI 0) mk rp sp sc sk fa ch tr rc pg pl)) := hD
        refine lv_pop hx hb dL_law_234 rfl ?_
        refine lv_aload_n hx hb dL_law_235 rfl (lv_at hl 2 rfl) ?_
        refine callPi (wc := wM cI m0 mS mC mT mR mA th (nI L) (nI C) (nI rl2) (nI bg2) (nI st2) mk (zb on2) (nI tp) (nI tl) (zb tb) sg ch tr rc2 ta) (wr := (o, .inl (cJ, 1, .inr (.inl fo))) :: wX cI cP x aC aT aR aP (nI L) (nI C) (nI rl) (nI bg) (zb false) (nI 0) mk rp sp sc sk fa ch tr rc pg pl) (va_runV (As := []) (rest := []) ⟨hx, hb, hml, hown, hts⟩ (c_X3_end l) (cwV 0 hts gL_law_X3_end rfl rfl rfl (by decide +kernel) ⟨(Nat.le_of_ble_eq_true rfl), (Nat.le_of_ble_eq_true rfl)⟩) (mu_pre hK (preP hP) (preD hD) rfl 0 rfl) rfl rfl hl.1 rfl (lv_room (Nat.le_of_ble_eq_true rfl)) dL_law_236 ⟨by show 12 + 136 * i + 0 + 0 ≤ 601024; omega, by show 349499 + 4689 * i + 0 + 0 ≤ 7293000; omega⟩) hP hD hS hA (fun r_236 u_236 H locs w_236 hP hD hS => ?_)
        have hP : va_P D vwCl (wM cI m0 mS mC mT mR mA 0 (nI L) (nI C) (nI rl2) (nI bg2) (nI 0) mk (zb false) (nI tp) (nI tl) (zb tb) sg ch tr rc2 ta ++ ((o, .inl (cJ, 1, .inr (.inl fo))) :: wX cI cP x aC aT aR aP (nI L) (nI C) (nI rl) (nI bg) (zb false) (nI 0) mk rp sp sc sk fa ch tr rc pg pl)) H := hP
        have hD : va_D (fun q : Nat => s.heap.size ≤ q) (wM cI m0 mS mC mT mR mA 0 (nI L) (nI C) (nI rl2) (nI bg2) (nI 0) mk (zb false) (nI tp) (nI tl) (zb tb) sg ch tr rc2 ta ++ ((o, .inl (cJ, 1, .inr (.inl fo))) :: wX cI cP x aC aT aR aP (nI L) (nI C) (nI rl) (nI bg) (zb false) (nI 0) mk rp sp sc sk fa ch tr rc pg pl)) := hD
        refine lv_pop hx hb dL_law_239 rfl ?_
        refine lv_goto (tgt := 493) hx hb dL_law_240 (by decide) ?_
        refine W.widen (k := 12 + 136 * (i + 1)) (n := 349499 + 4689 * (i + 1)) (by omega) (by omega) ?_
        refine lv_iinc (v := nI (2 + 4 * (i + 1))) (lv' := [(4, .int (nI (2 + 4 * (i + 1)))), (0, .ref b), (1, .ref x), (2, .ref m0), (3, .ref o)]) hx hb dL_law_493 hl (k := 4) rfl (by rw [show Int32.ofInt 4 = nI 4 from rfl, nI_add]; congr 1) (by decide) rfl (fun ls hl => ?_)
        refine lv_goto (tgt := 43) hx hb dL_law_496 (by decide) ?_
        exact ih (i + 1) _ _ _ _ _ _ _ _ _ _ _ _ _ _ _ _ _ _ _ _ _ _ _ _ _ _ _ _ _ _ _ _ (by omega) (by omega) (hI.fresh hL0) (hJ.fresh hL0) hP hD hS (lv_sub hl [1, 2, 3, 4, 0] rfl)
      by_cases k_5 : z = 5
      ·
        refine lv_tableIn (off := 184) (tgt := 243) hx hb dL_law_59 (by rw [k_5]; decide +kernel) (by rw [k_5]; decide +kernel) (by rw [k_5]; decide +kernel) (by decide) ?_
        refine lv_aload_n hx hb dL_law_243 rfl (lv_at hl 1 rfl) ?_
        refine lv_aload_n hx hb dL_law_244 rfl (lv_at hl 0 rfl) ?_
        refine lv_iload hx hb dL_law_245 (lv_at hl 4 rfl) ?_
        refine lv_iconst (v := 1) hx hb dL_law_247 (by decide +kernel) ?_
        refine lv_iadd hx hb dL_law_248 ?_
        refine W.eq (g2 := F0 m 249 ls [.int (nI (2 + 4 * i + 1)), .ref b, .ref x]) (by rw [show (1 : Int32) = nI 1 from rfl, nI_add]) ?_
        refine va_sld hx hb hX hbl hbA hS (vp_in_nI (by omega) (by omega)) dL_law_249 ?_
        refine W.eq (g2 := F0 m 250 ls [.int (xs (2 + 4 * i + 1)), .ref x]) (by rw [nI_clamp (by omega)]) ?_
        refine lv_aload_n hx hb dL_law_250 rfl (lv_at hl 0 rfl) ?_
        refine lv_iload hx hb dL_law_251 (lv_at hl 4 rfl) ?_
        refine lv_iconst (v := 2) hx hb dL_law_253 (by decide +kernel) ?_
        refine lv_iadd hx hb dL_law_254 ?_
        refine W.eq (g2 := F0 m 255 ls [.int (nI (2 + 4 * i + 2)), .ref b, .int (xs (2 + 4 * i + 1)), .ref x]) (by rw [show (2 : Int32) = nI 2 from rfl, nI_add]) ?_
        refine va_sld hx hb hX hbl hbA hS (vp_in_nI (by omega) (by omega)) dL_law_255 ?_
        refine W.eq (g2 := F0 m 256 ls [.int (xs (2 + 4 * i + 2)), .int (xs (2 + 4 * i + 1)), .ref x]) (by rw [nI_clamp (by omega)]) ?_
        refine lv_aload_n hx hb dL_law_256 rfl (lv_at hl 0 rfl) ?_
        refine lv_iload hx hb dL_law_257 (lv_at hl 4 rfl) ?_
        refine lv_iconst (v := 3) hx hb dL_law_259 (by decide +kernel) ?_
        refine lv_iadd hx hb dL_law_260 ?_
        refine W.eq (g2 := F0 m 261 ls [.int (nI (2 + 4 * i + 3)), .ref b, .int (xs (2 + 4 * i + 2)), .int (xs (2 + 4 * i + 1)), .ref x]) (by rw [show (3 : Int32) = nI 3 from rfl, nI_add]) ?_
        refine va_sld hx hb hX hbl hbA hS (vp_in_nI (by omega) (by omega)) dL_law_261 ?_
        refine W.eq (g2 := F0 m 262 ls [.int (xs (2 + 4 * i + 3)), .int (xs (2 + 4 * i + 2)), .int (xs (2 + 4 * i + 1)), .ref x]) (by rw [nI_clamp (by omega)]) ?_
        refine lv_aload_n hx hb dL_law_262 rfl (lv_at hl 3 rfl) ?_
        refine callSi (wr := wM cI m0 mS mC mT mR mA th (nI L) (nI C) (nI rl2) (nI bg2) (nI st2) mk (zb on2) (nI tp) (nI tl) (zb tb) sg ch tr rc2 ta) (wc := (o, .inl (cJ, 1, .inr (.inl fo))) :: wX cI cP x aC aT aR aP (nI L) (nI C) (nI rl) (nI bg) (zb on) (nI st) mk rp sp sc sk fa ch tr rc pg pl) (runSW (hh := [(0, 12, 15, 13)]) (bytes := cL_at) (maxL := 6) (ret := some .int) (n := 5) (As := [.ref x, .int (xs (2 + 4 * i + 1)), .int (xs (2 + 4 * i + 2)), .int (xs (2 + 4 * i + 3)), .ref o]) (rest := []) ⟨hx, hb, hml, hown, hts⟩ (c_L_at l hl0 hL hC hI.2.1 hI.2.2.2.2.2.1 (xs (2 + 4 * i + 1)) (xs (2 + 4 * i + 2)) (xs (2 + 4 * i + 3))) rfl rfl (Nat.le_of_ble_eq_true rfl) (Nat.le_of_ble_eq_true rfl) (pay_in htl lwT_good) List.mem_cons_self (hts _ (gL_law_L_at (.methodLink RL 51 yL_at) (by simp [va_wsS])).1) (hts _ (gL_law_L_at (.static yL_at) (by simp [va_wsS])).1) (hts _ (gL_law_L_at (.initialized RL) (by simp [va_wsS, yL_at])).1) (hts _ (gL_law_L_at (.codeWith yL_at cL_at 6 (some .int) [(0, 12, 15, 13)]) (by unfold va_wsS; exact List.mem_append_right _ List.mem_cons_self)).1) (by decide +kernel) (by decide +kernel) ⟨muT_blind, fun U hU hW => ⟨rfl, ⟨by rw [hU], by rw [hU]; exact sufP hP, KK.warm hW hK, (sufD hD).weaken (fun _ _ _ _ => trivial)⟩, TX.warm hW (fun a ha => by rw [hU]; exact hS.2.1 a ha (Nat.not_le.mpr ha)) hTX⟩⟩ rfl rfl hl.1 rfl (lv_room (Nat.le_of_ble_eq_true rfl)) dL_law_263 ⟨by show 12 + 136 * i + 0 + 1 ≤ 601024; omega, by show 349499 + 4689 * i + 0 + 6 ≤ 7293000; omega⟩) hP hD hS hA (fun r_263 u_263 H locs w_263 hP hD hS => ?_)
        have hP : va_P D vwCl (wM cI m0 mS mC mT mR mA th (nI L) (nI C) (nI rl2) (nI bg2) (nI st2) mk (zb on2) (nI tp) (nI tl) (zb tb) sg ch tr rc2 ta ++ ((o, .inl (cJ, 1, .inr (.inl u_263))) :: wX cI cP x aC aT aR aP (nI L) (nI C) (nI rl) (nI bg) (zb on) (nI st) mk rp sp sc sk fa ch tr rc pg pl)) H := hP
        have hD : va_D (fun q : Nat => s.heap.size ≤ q) (wM cI m0 mS mC mT mR mA th (nI L) (nI C) (nI rl2) (nI bg2) (nI st2) mk (zb on2) (nI tp) (nI tl) (zb tb) sg ch tr rc2 ta ++ ((o, .inl (cJ, 1, .inr (.inl u_263))) :: wX cI cP x aC aT aR aP (nI L) (nI C) (nI rl) (nI bg) (zb on) (nI st) mk rp sp sc sk fa ch tr rc pg pl)) := hD
        refine lv_istore (lv' := [(5, .int r_263), (0, .ref b), (1, .ref x), (2, .ref m0), (3, .ref o), (4, .int (nI (2 + 4 * i)))]) hx hb dL_law_266 hl (by decide) rfl (fun ls hl => ?_)
        refine lv_aload_n hx hb dL_law_268 rfl (lv_at hl 3 rfl) ?_
        refine lv_aload_n hx hb dL_law_269 rfl (lv_at hl 1 rfl) ?_
        refine lv_iload hx hb dL_law_270 (lv_at hl 5 rfl) ?_
        refine lv_iconst (v := 1) hx hb dL_law_272 (by decide +kernel) ?_
        refine lv_iadd hx hb dL_law_273 ?_
        refine W.eq (g2 := F0 m 274 ls [.int (nI (2 + 4 * i + 1)), .ref b, .ref m0]) (by rw [show (1 : Int32) = nI 1 from rfl, nI_add]) ?_
        refine va_sld hx hb hX hbl hbA hS (vp_in_nI (by omega) (by omega)) dL_law_274 ?_
        refine W.eq (g2 := F0 m 275 ls [.int (xs (2 + 4 * i + 1)), .ref m0]) (by rw [nI_clamp (by omega)]) ?_
        refine lv_aload_n hx hb dL_law_275 rfl (lv_at hl 1 rfl) ?_
        refine lv_iload hx hb dL_law_276 (lv_at hl 5 rfl) ?_
        refine lv_iconst (v := 2) hx hb dL_law_278 (by decide +kernel) ?_
        refine lv_iadd hx hb dL_law_279 ?_
        refine W.eq (g2 := F0 m 280 ls [.int (nI (2 + 4 * i + 2)), .ref b, .int (xs (2 + 4 * i + 1)), .ref m0]) (by rw [show (2 : Int32) = nI 2 from rfl, nI_add]) ?_
        refine va_sld hx hb hX hbl hbA hS (vp_in_nI (by omega) (by omega)) dL_law_280 ?_
        refine W.eq (g2 := F0 m 281 ls [.int (xs (2 + 4 * i + 2)), .int (xs (2 + 4 * i + 1)), .ref m0]) (by rw [nI_clamp (by omega)]) ?_
        refine lv_aload_n hx hb dL_law_281 rfl (lv_at hl 1 rfl) ?_
        refine lv_iload hx hb dL_law_282 (lv_at hl 5 rfl) ?_
        refine lv_iconst (v := 3) hx hb dL_law_284 (by decide +kernel) ?_
        refine lv_iadd hx hb dL_law_285 ?_
        refine W.eq (g2 := F0 m 286 ls [.int (nI (2 + 4 * i + 3)), .ref b, .int (xs (2 + 4 * i + 2)), .int (xs (2 + 4 * i + 1)), .ref m0]) (by rw [show (3 : Int32) = nI 3 from rfl, nI_add]) ?_
        refine va_sld hx hb hX hbl hbA hS (vp_in_nI (by omega) (by omega)) dL_law_286 ?_
        refine W.eq (g2 := F0 m 287 ls [.int (xs (2 + 4 * i + 3)), .int (xs (2 + 4 * i + 2)), .int (xs (2 + 4 * i + 1)), .ref m0]) (by rw [nI_clamp (by omega)]) ?_
        refine callPi (wc := wM cI m0 mS mC mT mR mA th (nI L) (nI C) (nI rl2) (nI bg2) (nI st2) mk (zb on2) (nI tp) (nI tl) (zb tb) sg ch tr rc2 ta) (wr := (o, .inl (cJ, 1, .inr (.inl u_263))) :: wX cI cP x aC aT aR aP (nI L) (nI C) (nI rl) (nI bg) (zb on) (nI st) mk rp sp sc sk fa ch tr rc pg pl) (va_runV (As := [.int (xs (2 + 4 * i + 1)), .int (xs (2 + 4 * i + 2)), .int (xs (2 + 4 * i + 3))]) (rest := []) ⟨hx, hb, hml, hown, hts⟩ (c_X3_at l hL hC hJ.2.1 (xs (2 + 4 * i + 1)) (xs (2 + 4 * i + 2)) (xs (2 + 4 * i + 3))) (cwV 3 hts gL_law_X3_at rfl rfl rfl (by decide +kernel) ⟨(Nat.le_of_ble_eq_true rfl), (Nat.le_of_ble_eq_true rfl)⟩) (mu_pre hK (preP hP) (preD hD) rfl 0 rfl) rfl rfl hl.1 rfl (lv_room (Nat.le_of_ble_eq_true rfl)) dL_law_287 ⟨by show 12 + 136 * i + 0 + 1 + 0 ≤ 601024; omega, by show 349499 + 4689 * i + 0 + 6 + 0 ≤ 7293000; omega⟩) hP hD hS hA (fun r_287 u_287 H locs w_287 hP hD hS => ?_)
        have hP : va_P D vwCl (wM cI m0 mS mC mT mR mA u_287 (nI L) (nI C) (nI rl2) (nI bg2) (nI st2) mk (zb on2) (nI tp) (nI tl) (zb tb) sg ch tr rc2 ta ++ ((o, .inl (cJ, 1, .inr (.inl u_263))) :: wX cI cP x aC aT aR aP (nI L) (nI C) (nI rl) (nI bg) (zb on) (nI st) mk rp sp sc sk fa ch tr rc pg pl)) H := hP
        have hD : va_D (fun q : Nat => s.heap.size ≤ q) (wM cI m0 mS mC mT mR mA u_287 (nI L) (nI C) (nI rl2) (nI bg2) (nI st2) mk (zb on2) (nI tp) (nI tl) (zb tb) sg ch tr rc2 ta ++ ((o, .inl (cJ, 1, .inr (.inl u_263))) :: wX cI cP x aC aT aR aP (nI L) (nI C) (nI rl) (nI bg) (zb on) (nI st) mk rp sp sc sk fa ch tr rc pg pl)) := hD
        refine lv_istore (lv' := [(6, .int r_287), (5, .int r_263), (0, .ref b), (1, .ref x), (2, .ref m0), (3, .ref o), (4, .int (nI (2 + 4 * i)))]) hx hb dL_law_290 hl (by decide) rfl (fun ls hl => ?_)
        refine lv_goto (tgt := 493) hx hb dL_law_292 (by decide) ?_
        refine W.widen (k := 12 + 136 * (i + 1)) (n := 349499 + 4689 * (i + 1)) (by omega) (by omega) ?_
        refine lv_iinc (v := nI (2 + 4 * (i + 1))) (lv' := [(4, .int (nI (2 + 4 * (i + 1)))), (6, .int r_287), (5, .int r_263), (0, .ref b), (1, .ref x), (2, .ref m0), (3, .ref o)]) hx hb dL_law_493 hl (k := 6) rfl (by rw [show Int32.ofInt 4 = nI 4 from rfl, nI_add]; congr 1) (by decide) rfl (fun ls hl => ?_)
        refine lv_goto (tgt := 43) hx hb dL_law_496 (by decide) ?_
        exact ih (i + 1) _ _ _ _ _ _ _ _ _ _ _ _ _ _ _ _ _ _ _ _ _ _ _ _ _ _ _ _ _ _ _ _ (by omega) (by omega) hI hJ hP hD hS (lv_sub hl [3, 4, 5, 6, 0] rfl)
      by_cases k_6 : z = 6
      ·
        refine lv_tableIn (off := 236) (tgt := 295) hx hb dL_law_59 (by rw [k_6]; decide +kernel) (by rw [k_6]; decide +kernel) (by rw [k_6]; decide +kernel) (by decide) ?_
        refine lv_aload_n hx hb dL_law_295 rfl (lv_at hl 1 rfl) ?_
        refine lv_aload_n hx hb dL_law_296 rfl (lv_at hl 0 rfl) ?_
        refine lv_iload hx hb dL_law_297 (lv_at hl 4 rfl) ?_
        refine lv_iconst (v := 1) hx hb dL_law_299 (by decide +kernel) ?_
        refine lv_iadd hx hb dL_law_300 ?_
        refine W.eq (g2 := F0 m 301 ls [.int (nI (2 + 4 * i + 1)), .ref b, .ref x]) (by rw [show (1 : Int32) = nI 1 from rfl, nI_add]) ?_
        refine va_sld hx hb hX hbl hbA hS (vp_in_nI (by omega) (by omega)) dL_law_301 ?_
        refine W.eq (g2 := F0 m 302 ls [.int (xs (2 + 4 * i + 1)), .ref x]) (by rw [nI_clamp (by omega)]) ?_
        refine lv_aload_n hx hb dL_law_302 rfl (lv_at hl 0 rfl) ?_
        refine lv_iload hx hb dL_law_303 (lv_at hl 4 rfl) ?_
        refine lv_iconst (v := 2) hx hb dL_law_305 (by decide +kernel) ?_
        refine lv_iadd hx hb dL_law_306 ?_
        refine W.eq (g2 := F0 m 307 ls [.int (nI (2 + 4 * i + 2)), .ref b, .int (xs (2 + 4 * i + 1)), .ref x]) (by rw [show (2 : Int32) = nI 2 from rfl, nI_add]) ?_
        refine va_sld hx hb hX hbl hbA hS (vp_in_nI (by omega) (by omega)) dL_law_307 ?_
        refine W.eq (g2 := F0 m 308 ls [.int (xs (2 + 4 * i + 2)), .int (xs (2 + 4 * i + 1)), .ref x]) (by rw [nI_clamp (by omega)]) ?_
        have hPs : va_P D vwCl ((wM cI m0 mS mC mT mR mA th (nI L) (nI C) (nI rl2) (nI bg2) (nI st2) mk (zb on2) (nI tp) (nI tl) (zb tb) sg ch tr rc2 ta ++ [(o, .inl (cJ, 1, .inr (.inl fo)))]) ++ wX cI cP x aC aT aR aP (nI L) (nI C) (nI rl) (nI bg) (zb on) (nI st) mk rp sp sc sk fa ch tr rc pg pl) H := hP
        have hDs : va_D (fun q : Nat => s.heap.size ≤ q) ((wM cI m0 mS mC mT mR mA th (nI L) (nI C) (nI rl2) (nI bg2) (nI st2) mk (zb on2) (nI tp) (nI tl) (zb tb) sg ch tr rc2 ta ++ [(o, .inl (cJ, 1, .inr (.inl fo)))]) ++ wX cI cP x aC aT aR aP (nI L) (nI C) (nI rl) (nI bg) (zb on) (nI st) mk rp sp sc sk fa ch tr rc pg pl) := hD
        refine vp_callSi (W.runV (As := [.int (xs (2 + 4 * i + 1)), .int (xs (2 + 4 * i + 2))]) (rest := []) ⟨hx, hb, hml, hown, hts⟩ (c_X2_over l (xs (2 + 4 * i + 1)) (xs (2 + 4 * i + 2))) (cwV 2 hts gL_law_X2_over rfl rfl rfl (by decide +kernel) ⟨(Nat.le_of_ble_eq_true rfl), (Nat.le_of_ble_eq_true rfl)⟩) (ro_pre hK (sufP hPs) rfl 0 rfl) rfl rfl hl.1 rfl (lv_room (Nat.le_of_ble_eq_true rfl)) dL_law_308 ⟨by show 12 + 136 * i + 0 + 0 ≤ 601024; omega, by show 349499 + 4689 * i + 0 + 0 ≤ 7293000; omega⟩) (fun r_308 w_308 => ?_)
        obtain rfl := w_308
        refine lv_pop hx hb dL_law_311 rfl ?_
        refine lv_aload_n hx hb dL_law_312 rfl (lv_at hl 2 rfl) ?_
        refine lv_aload_n hx hb dL_law_313 rfl (lv_at hl 0 rfl) ?_
        refine lv_iload hx hb dL_law_314 (lv_at hl 4 rfl) ?_
        refine lv_iconst (v := 1) hx hb dL_law_316 (by decide +kernel) ?_
        refine lv_iadd hx hb dL_law_317 ?_
        refine W.eq (g2 := F0 m 318 ls [.int (nI (2 + 4 * i + 1)), .ref b, .ref m0]) (by rw [show (1 : Int32) = nI 1 from rfl, nI_add]) ?_
        refine va_sld hx hb hX hbl hbA hS (vp_in_nI (by omega) (by omega)) dL_law_318 ?_
        refine W.eq (g2 := F0 m 319 ls [.int (xs (2 + 4 * i + 1)), .ref m0]) (by rw [nI_clamp (by omega)]) ?_
        refine lv_aload_n hx hb dL_law_319 rfl (lv_at hl 0 rfl) ?_
        refine lv_iload hx hb dL_law_320 (lv_at hl 4 rfl) ?_
        refine lv_iconst (v := 2) hx hb dL_law_322 (by decide +kernel) ?_
        refine lv_iadd hx hb dL_law_323 ?_
        refine W.eq (g2 := F0 m 324 ls [.int (nI (2 + 4 * i + 2)), .ref b, .int (xs (2 + 4 * i + 1)), .ref m0]) (by rw [show (2 : Int32) = nI 2 from rfl, nI_add]) ?_
        refine va_sld hx hb hX hbl hbA hS (vp_in_nI (by omega) (by omega)) dL_law_324 ?_
        refine W.eq (g2 := F0 m 325 ls [.int (xs (2 + 4 * i + 2)), .int (xs (2 + 4 * i + 1)), .ref m0]) (by rw [nI_clamp (by omega)]) ?_
        refine callPi (wc := wM cI m0 mS mC mT mR mA th (nI L) (nI C) (nI rl2) (nI bg2) (nI st2) mk (zb on2) (nI tp) (nI tl) (zb tb) sg ch tr rc2 ta) (wr := (o, .inl (cJ, 1, .inr (.inl fo))) :: wX cI cP x aC aT aR aP (nI L) (nI C) (nI rl) (nI bg) (zb on) (nI st) mk rp sp sc sk fa ch tr rc pg pl) (va_runV (As := [.int (xs (2 + 4 * i + 1)), .int (xs (2 + 4 * i + 2))]) (rest := []) ⟨hx, hb, hml, hown, hts⟩ (c_X3_over l (xs (2 + 4 * i + 1)) (xs (2 + 4 * i + 2))) (cwV 2 hts gL_law_X3_over rfl rfl rfl (by decide +kernel) ⟨(Nat.le_of_ble_eq_true rfl), (Nat.le_of_ble_eq_true rfl)⟩) (mu_pre hK (preP hP) (preD hD) rfl 0 rfl) rfl rfl hl.1 rfl (lv_room (Nat.le_of_ble_eq_true rfl)) dL_law_325 ⟨by show 12 + 136 * i + 0 + 0 ≤ 601024; omega, by show 349499 + 4689 * i + 0 + 0 ≤ 7293000; omega⟩) hP hD hS hA (fun r_325 u_325 H locs w_325 hP hD hS => ?_)
        obtain rfl := w_325
        have hP : va_P D vwCl (wM cI m0 mS mC mT mR mA 0 (nI L) (nI C) (nI rl2) (nI bg2) (nI st2) mk (zb on2) (nI tp) (nI tl) (zb tb) sg ch tr rc2 ta ++ ((o, .inl (cJ, 1, .inr (.inl fo))) :: wX cI cP x aC aT aR aP (nI L) (nI C) (nI rl) (nI bg) (zb on) (nI st) mk rp sp sc sk fa ch tr rc pg pl)) H := hP
        have hD : va_D (fun q : Nat => s.heap.size ≤ q) (wM cI m0 mS mC mT mR mA 0 (nI L) (nI C) (nI rl2) (nI bg2) (nI st2) mk (zb on2) (nI tp) (nI tl) (zb tb) sg ch tr rc2 ta ++ ((o, .inl (cJ, 1, .inr (.inl fo))) :: wX cI cP x aC aT aR aP (nI L) (nI C) (nI rl) (nI bg) (zb on) (nI st) mk rp sp sc sk fa ch tr rc pg pl)) := hD
        refine lv_pop hx hb dL_law_328 rfl ?_
        refine lv_goto (tgt := 493) hx hb dL_law_329 (by decide) ?_
        refine W.widen (k := 12 + 136 * (i + 1)) (n := 349499 + 4689 * (i + 1)) (by omega) (by omega) ?_
        refine lv_iinc (v := nI (2 + 4 * (i + 1))) (lv' := [(4, .int (nI (2 + 4 * (i + 1)))), (0, .ref b), (1, .ref x), (2, .ref m0), (3, .ref o)]) hx hb dL_law_493 hl (k := 4) rfl (by rw [show Int32.ofInt 4 = nI 4 from rfl, nI_add]; congr 1) (by decide) rfl (fun ls hl => ?_)
        refine lv_goto (tgt := 43) hx hb dL_law_496 (by decide) ?_
        exact ih (i + 1) _ _ _ _ _ _ _ _ _ _ _ _ _ _ _ _ _ _ _ _ _ _ _ _ _ _ _ _ _ _ _ _ (by omega) (by omega) hI hJ hP hD hS (lv_sub hl [1, 2, 3, 4, 0] rfl)
      by_cases k_7 : z = 7
      ·
        refine lv_tableIn (off := 273) (tgt := 332) hx hb dL_law_59 (by rw [k_7]; decide +kernel) (by rw [k_7]; decide +kernel) (by rw [k_7]; decide +kernel) (by decide) ?_
        refine lv_aload_n hx hb dL_law_332 rfl (lv_at hl 1 rfl) ?_
        refine lv_aload_n hx hb dL_law_333 rfl (lv_at hl 0 rfl) ?_
        refine lv_iload hx hb dL_law_334 (lv_at hl 4 rfl) ?_
        refine lv_iconst (v := 1) hx hb dL_law_336 (by decide +kernel) ?_
        refine lv_iadd hx hb dL_law_337 ?_
        refine W.eq (g2 := F0 m 338 ls [.int (nI (2 + 4 * i + 1)), .ref b, .ref x]) (by rw [show (1 : Int32) = nI 1 from rfl, nI_add]) ?_
        refine va_sld hx hb hX hbl hbA hS (vp_in_nI (by omega) (by omega)) dL_law_338 ?_
        refine W.eq (g2 := F0 m 339 ls [.int (xs (2 + 4 * i + 1)), .ref x]) (by rw [nI_clamp (by omega)]) ?_
        refine lv_aload_n hx hb dL_law_339 rfl (lv_at hl 0 rfl) ?_
        refine lv_iload hx hb dL_law_340 (lv_at hl 4 rfl) ?_
        refine lv_iconst (v := 2) hx hb dL_law_342 (by decide +kernel) ?_
        refine lv_iadd hx hb dL_law_343 ?_
        refine W.eq (g2 := F0 m 344 ls [.int (nI (2 + 4 * i + 2)), .ref b, .int (xs (2 + 4 * i + 1)), .ref x]) (by rw [show (2 : Int32) = nI 2 from rfl, nI_add]) ?_
        refine va_sld hx hb hX hbl hbA hS (vp_in_nI (by omega) (by omega)) dL_law_344 ?_
        refine W.eq (g2 := F0 m 345 ls [.int (xs (2 + 4 * i + 2)), .int (xs (2 + 4 * i + 1)), .ref x]) (by rw [nI_clamp (by omega)]) ?_
        have hPs : va_P D vwCl ((wM cI m0 mS mC mT mR mA th (nI L) (nI C) (nI rl2) (nI bg2) (nI st2) mk (zb on2) (nI tp) (nI tl) (zb tb) sg ch tr rc2 ta ++ [(o, .inl (cJ, 1, .inr (.inl fo)))]) ++ wX cI cP x aC aT aR aP (nI L) (nI C) (nI rl) (nI bg) (zb on) (nI st) mk rp sp sc sk fa ch tr rc pg pl) H := hP
        have hDs : va_D (fun q : Nat => s.heap.size ≤ q) ((wM cI m0 mS mC mT mR mA th (nI L) (nI C) (nI rl2) (nI bg2) (nI st2) mk (zb on2) (nI tp) (nI tl) (zb tb) sg ch tr rc2 ta ++ [(o, .inl (cJ, 1, .inr (.inl fo)))]) ++ wX cI cP x aC aT aR aP (nI L) (nI C) (nI rl) (nI bg) (zb on) (nI st) mk rp sp sc sk fa ch tr rc pg pl) := hD
        refine callSi (wr := wM cI m0 mS mC mT mR mA th (nI L) (nI C) (nI rl2) (nI bg2) (nI st2) mk (zb on2) (nI tp) (nI tl) (zb tb) sg ch tr rc2 ta ++ [(o, .inl (cJ, 1, .inr (.inl fo)))]) (wc := wX cI cP x aC aT aR aP (nI L) (nI C) (nI rl) (nI bg) (zb on) (nI st) mk rp sp sc sk fa ch tr rc pg pl) (va_runV (As := [.int (xs (2 + 4 * i + 1)), .int (xs (2 + 4 * i + 2))]) (rest := []) ⟨hx, hb, hml, hown, hts⟩ (c_X2_translate l (xs (2 + 4 * i + 1)) (xs (2 + 4 * i + 2))) (cwV 2 hts gL_law_X2_translate rfl rfl rfl (by decide +kernel) ⟨(Nat.le_of_ble_eq_true rfl), (Nat.le_of_ble_eq_true rfl)⟩) (mu_pre hK (sufP hPs) (sufD hDs) rfl 0 rfl) rfl rfl hl.1 rfl (lv_room (Nat.le_of_ble_eq_true rfl)) dL_law_345 ⟨by show 12 + 136 * i + 0 + 0 ≤ 601024; omega, by show 349499 + 4689 * i + 0 + 0 ≤ 7293000; omega⟩) hPs hDs hS hA (fun r_345 u_345 H locs w_345 hP hD hS => ?_)
        obtain ⟨rfl, rfl⟩ := w_345
        have hP : va_P D vwCl (wM cI m0 mS mC mT mR mA th (nI L) (nI C) (nI rl2) (nI bg2) (nI st2) mk (zb on2) (nI tp) (nI tl) (zb tb) sg ch tr rc2 ta ++ ((o, .inl (cJ, 1, .inr (.inl fo))) :: wX cI cP x aC aT aR aP (nI L) (nI C) (nI rl) (nI bg) (zb on) (nI st) mk rp sp sc sk fa ch (trN tr (xs (2 + 4 * i + 1)) (xs (2 + 4 * i + 2))) rc pg pl)) H := hP
        have hD : va_D (fun q : Nat => s.heap.size ≤ q) (wM cI m0 mS mC mT mR mA th (nI L) (nI C) (nI rl2) (nI bg2) (nI st2) mk (zb on2) (nI tp) (nI tl) (zb tb) sg ch tr rc2 ta ++ ((o, .inl (cJ, 1, .inr (.inl fo))) :: wX cI cP x aC aT aR aP (nI L) (nI C) (nI rl) (nI bg) (zb on) (nI st) mk rp sp sc sk fa ch (trN tr (xs (2 + 4 * i + 1)) (xs (2 + 4 * i + 2))) rc pg pl)) := hD
        refine lv_pop hx hb dL_law_348 rfl ?_
        refine lv_aload_n hx hb dL_law_349 rfl (lv_at hl 2 rfl) ?_
        refine lv_aload_n hx hb dL_law_350 rfl (lv_at hl 0 rfl) ?_
        refine lv_iload hx hb dL_law_351 (lv_at hl 4 rfl) ?_
        refine lv_iconst (v := 1) hx hb dL_law_353 (by decide +kernel) ?_
        refine lv_iadd hx hb dL_law_354 ?_
        refine W.eq (g2 := F0 m 355 ls [.int (nI (2 + 4 * i + 1)), .ref b, .ref m0]) (by rw [show (1 : Int32) = nI 1 from rfl, nI_add]) ?_
        refine va_sld hx hb hX hbl hbA hS (vp_in_nI (by omega) (by omega)) dL_law_355 ?_
        refine W.eq (g2 := F0 m 356 ls [.int (xs (2 + 4 * i + 1)), .ref m0]) (by rw [nI_clamp (by omega)]) ?_
        refine lv_aload_n hx hb dL_law_356 rfl (lv_at hl 0 rfl) ?_
        refine lv_iload hx hb dL_law_357 (lv_at hl 4 rfl) ?_
        refine lv_iconst (v := 2) hx hb dL_law_359 (by decide +kernel) ?_
        refine lv_iadd hx hb dL_law_360 ?_
        refine W.eq (g2 := F0 m 361 ls [.int (nI (2 + 4 * i + 2)), .ref b, .int (xs (2 + 4 * i + 1)), .ref m0]) (by rw [show (2 : Int32) = nI 2 from rfl, nI_add]) ?_
        refine va_sld hx hb hX hbl hbA hS (vp_in_nI (by omega) (by omega)) dL_law_361 ?_
        refine W.eq (g2 := F0 m 362 ls [.int (xs (2 + 4 * i + 2)), .int (xs (2 + 4 * i + 1)), .ref m0]) (by rw [nI_clamp (by omega)]) ?_
        refine callPi (wc := wM cI m0 mS mC mT mR mA th (nI L) (nI C) (nI rl2) (nI bg2) (nI st2) mk (zb on2) (nI tp) (nI tl) (zb tb) sg ch tr rc2 ta) (wr := (o, .inl (cJ, 1, .inr (.inl fo))) :: wX cI cP x aC aT aR aP (nI L) (nI C) (nI rl) (nI bg) (zb on) (nI st) mk rp sp sc sk fa ch (trN tr (xs (2 + 4 * i + 1)) (xs (2 + 4 * i + 2))) rc pg pl) (va_runV (As := [.int (xs (2 + 4 * i + 1)), .int (xs (2 + 4 * i + 2))]) (rest := []) ⟨hx, hb, hml, hown, hts⟩ (c_X3_translate l (xs (2 + 4 * i + 1)) (xs (2 + 4 * i + 2))) (cwV 2 hts gL_law_X3_translate rfl rfl rfl (by decide +kernel) ⟨(Nat.le_of_ble_eq_true rfl), (Nat.le_of_ble_eq_true rfl)⟩) (mu_pre hK (preP hP) (preD hD) rfl 0 rfl) rfl rfl hl.1 rfl (lv_room (Nat.le_of_ble_eq_true rfl)) dL_law_362 ⟨by show 12 + 136 * i + 0 + 0 ≤ 601024; omega, by show 349499 + 4689 * i + 0 + 0 ≤ 7293000; omega⟩) hP hD hS hA (fun r_362 u_362 H locs w_362 hP hD hS => ?_)
        obtain ⟨rfl, rfl⟩ := w_362
        have hP : va_P D vwCl (wM cI m0 mS mC mT mR mA 0 (nI L) (nI C) (nI rl2) (nI bg2) (nI st2) mk (zb on2) (nI tp) (nI tl) (zb tb) sg ch (trN tr (xs (2 + 4 * i + 1)) (xs (2 + 4 * i + 2))) rc2 ta ++ ((o, .inl (cJ, 1, .inr (.inl fo))) :: wX cI cP x aC aT aR aP (nI L) (nI C) (nI rl) (nI bg) (zb on) (nI st) mk rp sp sc sk fa ch (trN tr (xs (2 + 4 * i + 1)) (xs (2 + 4 * i + 2))) rc pg pl)) H := hP
        have hD : va_D (fun q : Nat => s.heap.size ≤ q) (wM cI m0 mS mC mT mR mA 0 (nI L) (nI C) (nI rl2) (nI bg2) (nI st2) mk (zb on2) (nI tp) (nI tl) (zb tb) sg ch (trN tr (xs (2 + 4 * i + 1)) (xs (2 + 4 * i + 2))) rc2 ta ++ ((o, .inl (cJ, 1, .inr (.inl fo))) :: wX cI cP x aC aT aR aP (nI L) (nI C) (nI rl) (nI bg) (zb on) (nI st) mk rp sp sc sk fa ch (trN tr (xs (2 + 4 * i + 1)) (xs (2 + 4 * i + 2))) rc pg pl)) := hD
        refine lv_pop hx hb dL_law_365 rfl ?_
        refine lv_goto (tgt := 493) hx hb dL_law_366 (by decide) ?_
        refine W.widen (k := 12 + 136 * (i + 1)) (n := 349499 + 4689 * (i + 1)) (by omega) (by omega) ?_
        refine lv_iinc (v := nI (2 + 4 * (i + 1))) (lv' := [(4, .int (nI (2 + 4 * (i + 1)))), (0, .ref b), (1, .ref x), (2, .ref m0), (3, .ref o)]) hx hb dL_law_493 hl (k := 4) rfl (by rw [show Int32.ofInt 4 = nI 4 from rfl, nI_add]; congr 1) (by decide) rfl (fun ls hl => ?_)
        refine lv_goto (tgt := 43) hx hb dL_law_496 (by decide) ?_
        exact ih (i + 1) _ _ _ _ _ _ _ _ _ _ _ _ _ _ _ _ _ _ _ _ _ _ _ _ _ _ _ _ _ _ _ _ (by omega) (by omega) hI hJ hP hD hS (lv_sub hl [1, 2, 3, 4, 0] rfl)
      by_cases k_8 : z = 8
      ·
        refine lv_tableIn (off := 310) (tgt := 369) hx hb dL_law_59 (by rw [k_8]; decide +kernel) (by rw [k_8]; decide +kernel) (by rw [k_8]; decide +kernel) (by decide) ?_
        refine lv_aload_n hx hb dL_law_369 rfl (lv_at hl 1 rfl) ?_
        refine lv_aload_n hx hb dL_law_370 rfl (lv_at hl 0 rfl) ?_
        refine lv_iload hx hb dL_law_371 (lv_at hl 4 rfl) ?_
        refine lv_iconst (v := 1) hx hb dL_law_373 (by decide +kernel) ?_
        refine lv_iadd hx hb dL_law_374 ?_
        refine W.eq (g2 := F0 m 375 ls [.int (nI (2 + 4 * i + 1)), .ref b, .ref x]) (by rw [show (1 : Int32) = nI 1 from rfl, nI_add]) ?_
        refine va_sld hx hb hX hbl hbA hS (vp_in_nI (by omega) (by omega)) dL_law_375 ?_
        refine W.eq (g2 := F0 m 376 ls [.int (xs (2 + 4 * i + 1)), .ref x]) (by rw [nI_clamp (by omega)]) ?_
        refine lv_aload_n hx hb dL_law_376 rfl (lv_at hl 0 rfl) ?_
        refine lv_iload hx hb dL_law_377 (lv_at hl 4 rfl) ?_
        refine lv_iconst (v := 2) hx hb dL_law_379 (by decide +kernel) ?_
        refine lv_iadd hx hb dL_law_380 ?_
        refine W.eq (g2 := F0 m 381 ls [.int (nI (2 + 4 * i + 2)), .ref b, .int (xs (2 + 4 * i + 1)), .ref x]) (by rw [show (2 : Int32) = nI 2 from rfl, nI_add]) ?_
        refine va_sld hx hb hX hbl hbA hS (vp_in_nI (by omega) (by omega)) dL_law_381 ?_
        refine W.eq (g2 := F0 m 382 ls [.int (xs (2 + 4 * i + 2)), .int (xs (2 + 4 * i + 1)), .ref x]) (by rw [nI_clamp (by omega)]) ?_
        refine lv_aload_n hx hb dL_law_382 rfl (lv_at hl 0 rfl) ?_
        refine lv_iload hx hb dL_law_383 (lv_at hl 4 rfl) ?_
        refine lv_iconst (v := 3) hx hb dL_law_385 (by decide +kernel) ?_
        refine lv_iadd hx hb dL_law_386 ?_
        refine W.eq (g2 := F0 m 387 ls [.int (nI (2 + 4 * i + 3)), .ref b, .int (xs (2 + 4 * i + 2)), .int (xs (2 + 4 * i + 1)), .ref x]) (by rw [show (3 : Int32) = nI 3 from rfl, nI_add]) ?_
        refine va_sld hx hb hX hbl hbA hS (vp_in_nI (by omega) (by omega)) dL_law_387 ?_
        refine W.eq (g2 := F0 m 388 ls [.int (xs (2 + 4 * i + 3)), .int (xs (2 + 4 * i + 2)), .int (xs (2 + 4 * i + 1)), .ref x]) (by rw [nI_clamp (by omega)]) ?_
        have hPs : va_P D vwCl ((wM cI m0 mS mC mT mR mA th (nI L) (nI C) (nI rl2) (nI bg2) (nI st2) mk (zb on2) (nI tp) (nI tl) (zb tb) sg ch tr rc2 ta ++ [(o, .inl (cJ, 1, .inr (.inl fo)))]) ++ wX cI cP x aC aT aR aP (nI L) (nI C) (nI rl) (nI bg) (zb on) (nI st) mk rp sp sc sk fa ch tr rc pg pl) H := hP
        have hDs : va_D (fun q : Nat => s.heap.size ≤ q) ((wM cI m0 mS mC mT mR mA th (nI L) (nI C) (nI rl2) (nI bg2) (nI st2) mk (zb on2) (nI tp) (nI tl) (zb tb) sg ch tr rc2 ta ++ [(o, .inl (cJ, 1, .inr (.inl fo)))]) ++ wX cI cP x aC aT aR aP (nI L) (nI C) (nI rl) (nI bg) (zb on) (nI st) mk rp sp sc sk fa ch tr rc pg pl) := hD
        refine callSi (wr := wM cI m0 mS mC mT mR mA th (nI L) (nI C) (nI rl2) (nI bg2) (nI st2) mk (zb on2) (nI tp) (nI tl) (zb tb) sg ch tr rc2 ta ++ [(o, .inl (cJ, 1, .inr (.inl fo)))]) (wc := wX cI cP x aC aT aR aP (nI L) (nI C) (nI rl) (nI bg) (zb on) (nI st) mk rp sp sc sk fa ch tr rc pg pl) (va_runV (As := [.int (xs (2 + 4 * i + 1)), .int (xs (2 + 4 * i + 2)), .int (xs (2 + 4 * i + 3))]) (rest := []) ⟨hx, hb, hml, hown, hts⟩ (c_X2_copies l hI.2.1 hI.2.2.2.2.2.1 hI.2.2.2.2.2.2.1 (xs (2 + 4 * i + 1)) (xs (2 + 4 * i + 2)) (xs (2 + 4 * i + 3))) (cwV 3 hts gL_law_X2_copies rfl rfl rfl (by decide +kernel) ⟨(Nat.le_of_ble_eq_true rfl), (Nat.le_of_ble_eq_true rfl)⟩) (mu_pre hK (sufP hPs) (sufD hDs) rfl 0 rfl) rfl rfl hl.1 rfl (lv_room (Nat.le_of_ble_eq_true rfl)) dL_law_388 ⟨by show 12 + 136 * i + 0 + 0 ≤ 601024; omega, by show 349499 + 4689 * i + 0 + 0 ≤ 7293000; omega⟩) hPs hDs hS hA (fun r_388 u_388 H locs w_388 hP hD hS => ?_)
        obtain ⟨pg1, bg1, st1, on1⟩ := u_388
        obtain ⟨-, ht3, hPI1, hCS1⟩ := w_388
        dsimp only at ht3 hPI1 hCS1 hP hD
        have hI2 : INX cI cR L C rl bg1 st1 on1 ch rc pg1 pl own (CPM bg (xs (2 + 4 * i + 2)).toNatClampNeg ((xs (2 + 4 * i + 3)).toNatClampNeg - (xs (2 + 4 * i + 2)).toNatClampNeg + 1) M) := hI.copies hL0 (xs (2 + 4 * i + 1)) (xs (2 + 4 * i + 2)) (xs (2 + 4 * i + 3)) (t := (bg1, st1, on1)) ht3 hPI1 hCS1
        have hP : va_P D vwCl (wM cI m0 mS mC mT mR mA th (nI L) (nI C) (nI rl2) (nI bg2) (nI st2) mk (zb on2) (nI tp) (nI tl) (zb tb) sg ch tr rc2 ta ++ ((o, .inl (cJ, 1, .inr (.inl fo))) :: wX cI cP x aC aT aR aP (nI L) (nI C) (nI rl) (nI bg1) (zb on1) (nI st1) mk rp sp sc sk fa ch tr rc pg1 pl)) H := hP
        have hD : va_D (fun q : Nat => s.heap.size ≤ q) (wM cI m0 mS mC mT mR mA th (nI L) (nI C) (nI rl2) (nI bg2) (nI st2) mk (zb on2) (nI tp) (nI tl) (zb tb) sg ch tr rc2 ta ++ ((o, .inl (cJ, 1, .inr (.inl fo))) :: wX cI cP x aC aT aR aP (nI L) (nI C) (nI rl) (nI bg1) (zb on1) (nI st1) mk rp sp sc sk fa ch tr rc pg1 pl)) := hD
        refine lv_pop hx hb dL_law_391 rfl ?_
        refine lv_aload_n hx hb dL_law_392 rfl (lv_at hl 2 rfl) ?_
        refine lv_aload_n hx hb dL_law_393 rfl (lv_at hl 0 rfl) ?_
        refine lv_iload hx hb dL_law_394 (lv_at hl 4 rfl) ?_
        refine lv_iconst (v := 1) hx hb dL_law_396 (by decide +kernel) ?_
        refine lv_iadd hx hb dL_law_397 ?_
        refine W.eq (g2 := F0 m 398 ls [.int (nI (2 + 4 * i + 1)), .ref b, .ref m0]) (by rw [show (1 : Int32) = nI 1 from rfl, nI_add]) ?_
        refine va_sld hx hb hX hbl hbA hS (vp_in_nI (by omega) (by omega)) dL_law_398 ?_
        refine W.eq (g2 := F0 m 399 ls [.int (xs (2 + 4 * i + 1)), .ref m0]) (by rw [nI_clamp (by omega)]) ?_
        refine lv_aload_n hx hb dL_law_399 rfl (lv_at hl 0 rfl) ?_
        refine lv_iload hx hb dL_law_400 (lv_at hl 4 rfl) ?_
        refine lv_iconst (v := 2) hx hb dL_law_402 (by decide +kernel) ?_
        refine lv_iadd hx hb dL_law_403 ?_
        refine W.eq (g2 := F0 m 404 ls [.int (nI (2 + 4 * i + 2)), .ref b, .int (xs (2 + 4 * i + 1)), .ref m0]) (by rw [show (2 : Int32) = nI 2 from rfl, nI_add]) ?_
        refine va_sld hx hb hX hbl hbA hS (vp_in_nI (by omega) (by omega)) dL_law_404 ?_
        refine W.eq (g2 := F0 m 405 ls [.int (xs (2 + 4 * i + 2)), .int (xs (2 + 4 * i + 1)), .ref m0]) (by rw [nI_clamp (by omega)]) ?_
        refine lv_aload_n hx hb dL_law_405 rfl (lv_at hl 0 rfl) ?_
        refine lv_iload hx hb dL_law_406 (lv_at hl 4 rfl) ?_
        refine lv_iconst (v := 3) hx hb dL_law_408 (by decide +kernel) ?_
        refine lv_iadd hx hb dL_law_409 ?_
        refine W.eq (g2 := F0 m 410 ls [.int (nI (2 + 4 * i + 3)), .ref b, .int (xs (2 + 4 * i + 2)), .int (xs (2 + 4 * i + 1)), .ref m0]) (by rw [show (3 : Int32) = nI 3 from rfl, nI_add]) ?_
        refine va_sld hx hb hX hbl hbA hS (vp_in_nI (by omega) (by omega)) dL_law_410 ?_
        refine W.eq (g2 := F0 m 411 ls [.int (xs (2 + 4 * i + 3)), .int (xs (2 + 4 * i + 2)), .int (xs (2 + 4 * i + 1)), .ref m0]) (by rw [nI_clamp (by omega)]) ?_
        refine callPi (wc := wM cI m0 mS mC mT mR mA th (nI L) (nI C) (nI rl2) (nI bg2) (nI st2) mk (zb on2) (nI tp) (nI tl) (zb tb) sg ch tr rc2 ta) (wr := (o, .inl (cJ, 1, .inr (.inl fo))) :: wX cI cP x aC aT aR aP (nI L) (nI C) (nI rl) (nI bg1) (zb on1) (nI st1) mk rp sp sc sk fa ch tr rc pg1 pl) (va_runV (As := [.int (xs (2 + 4 * i + 1)), .int (xs (2 + 4 * i + 2)), .int (xs (2 + 4 * i + 3))]) (rest := []) ⟨hx, hb, hml, hown, hts⟩ (c_X3_copies l hJ.2.1 (xs (2 + 4 * i + 1)) (xs (2 + 4 * i + 2)) (xs (2 + 4 * i + 3))) (cwV 3 hts gL_law_X3_copies rfl rfl rfl (by decide +kernel) ⟨(Nat.le_of_ble_eq_true rfl), (Nat.le_of_ble_eq_true rfl)⟩) (mu_pre hK (preP hP) (preD hD) rfl 0 rfl) rfl rfl hl.1 rfl (lv_room (Nat.le_of_ble_eq_true rfl)) dL_law_411 ⟨by show 12 + 136 * i + 0 + 0 ≤ 601024; omega, by show 349499 + 4689 * i + 0 + 0 ≤ 7293000; omega⟩) hP hD hS hA (fun r_411 u_411 H locs w_411 hP hD hS => ?_)
        obtain ⟨sg1, ⟨bg3, st3, on3⟩⟩ := u_411
        obtain ⟨-, e9, -⟩ := w_411
        dsimp only at e9 hP hD
        have hJ2 : INM L rl2 bg3 st3 on3 ch rc2 := hJ.copies hL0 (xs (2 + 4 * i + 1)) (xs (2 + 4 * i + 2)) (xs (2 + 4 * i + 3)) (t := (bg3, st3, on3)) e9
        have hP : va_P D vwCl (wM cI m0 mS mC mT mR mA 0 (nI L) (nI C) (nI rl2) (nI bg3) (nI st3) mk (zb on3) (nI tp) (nI tl) (zb tb) sg1 ch tr rc2 ta ++ ((o, .inl (cJ, 1, .inr (.inl fo))) :: wX cI cP x aC aT aR aP (nI L) (nI C) (nI rl) (nI bg1) (zb on1) (nI st1) mk rp sp sc sk fa ch tr rc pg1 pl)) H := hP
        have hD : va_D (fun q : Nat => s.heap.size ≤ q) (wM cI m0 mS mC mT mR mA 0 (nI L) (nI C) (nI rl2) (nI bg3) (nI st3) mk (zb on3) (nI tp) (nI tl) (zb tb) sg1 ch tr rc2 ta ++ ((o, .inl (cJ, 1, .inr (.inl fo))) :: wX cI cP x aC aT aR aP (nI L) (nI C) (nI rl) (nI bg1) (zb on1) (nI st1) mk rp sp sc sk fa ch tr rc pg1 pl)) := hD
        refine lv_pop hx hb dL_law_414 rfl ?_
        refine lv_goto (tgt := 493) hx hb dL_law_415 (by decide) ?_
        refine W.widen (k := 12 + 136 * (i + 1)) (n := 349499 + 4689 * (i + 1)) (by omega) (by omega) ?_
        refine lv_iinc (v := nI (2 + 4 * (i + 1))) (lv' := [(4, .int (nI (2 + 4 * (i + 1)))), (0, .ref b), (1, .ref x), (2, .ref m0), (3, .ref o)]) hx hb dL_law_493 hl (k := 4) rfl (by rw [show Int32.ofInt 4 = nI 4 from rfl, nI_add]; congr 1) (by decide) rfl (fun ls hl => ?_)
        refine lv_goto (tgt := 43) hx hb dL_law_496 (by decide) ?_
        exact ih (i + 1) _ _ _ _ _ _ _ _ _ _ _ _ _ _ _ _ _ _ _ _ _ _ _ _ _ _ _ _ _ _ _ _ (by omega) (by omega) hI2 hJ2 hP hD hS (lv_sub hl [1, 2, 3, 4, 0] rfl)
      by_cases k_9 : z = 9
      ·
        refine lv_tableIn (off := 359) (tgt := 418) hx hb dL_law_59 (by rw [k_9]; decide +kernel) (by rw [k_9]; decide +kernel) (by rw [k_9]; decide +kernel) (by decide) ?_
        refine lv_aload_n hx hb dL_law_418 rfl (lv_at hl 1 rfl) ?_
        refine lv_aload_n hx hb dL_law_419 rfl (lv_at hl 0 rfl) ?_
        refine lv_iload hx hb dL_law_420 (lv_at hl 4 rfl) ?_
        refine lv_iconst (v := 1) hx hb dL_law_422 (by decide +kernel) ?_
        refine lv_iadd hx hb dL_law_423 ?_
        refine W.eq (g2 := F0 m 424 ls [.int (nI (2 + 4 * i + 1)), .ref b, .ref x]) (by rw [show (1 : Int32) = nI 1 from rfl, nI_add]) ?_
        refine va_sld hx hb hX hbl hbA hS (vp_in_nI (by omega) (by omega)) dL_law_424 ?_
        refine W.eq (g2 := F0 m 425 ls [.int (xs (2 + 4 * i + 1)), .ref x]) (by rw [nI_clamp (by omega)]) ?_
        have hPs : va_P D vwCl ((wM cI m0 mS mC mT mR mA th (nI L) (nI C) (nI rl2) (nI bg2) (nI st2) mk (zb on2) (nI tp) (nI tl) (zb tb) sg ch tr rc2 ta ++ [(o, .inl (cJ, 1, .inr (.inl fo)))]) ++ wX cI cP x aC aT aR aP (nI L) (nI C) (nI rl) (nI bg) (zb on) (nI st) mk rp sp sc sk fa ch tr rc pg pl) H := hP
        have hDs : va_D (fun q : Nat => s.heap.size ≤ q) ((wM cI m0 mS mC mT mR mA th (nI L) (nI C) (nI rl2) (nI bg2) (nI st2) mk (zb on2) (nI tp) (nI tl) (zb tb) sg ch tr rc2 ta ++ [(o, .inl (cJ, 1, .inr (.inl fo)))]) ++ wX cI cP x aC aT aR aP (nI L) (nI C) (nI rl) (nI bg) (zb on) (nI st) mk rp sp sc sk fa ch tr rc pg pl) := hD
        refine callSi (wr := wM cI m0 mS mC mT mR mA th (nI L) (nI C) (nI rl2) (nI bg2) (nI st2) mk (zb on2) (nI tp) (nI tl) (zb tb) sg ch tr rc2 ta ++ [(o, .inl (cJ, 1, .inr (.inl fo)))]) (wc := wX cI cP x aC aT aR aP (nI L) (nI C) (nI rl) (nI bg) (zb on) (nI st) mk rp sp sc sk fa ch tr rc pg pl) (va_runV (As := [.int (xs (2 + 4 * i + 1))]) (rest := []) ⟨hx, hb, hml, hown, hts⟩ (c_X2_back l hI.2.1 (xs (2 + 4 * i + 1))) (cwV 1 hts gL_law_X2_back rfl rfl rfl (by decide +kernel) ⟨(Nat.le_of_ble_eq_true rfl), (Nat.le_of_ble_eq_true rfl)⟩) (mu_pre hK (sufP hPs) (sufD hDs) rfl 0 rfl) rfl rfl hl.1 rfl (lv_room (Nat.le_of_ble_eq_true rfl)) dL_law_425 ⟨by show 12 + 136 * i + 0 + 0 ≤ 601024; omega, by show 349499 + 4689 * i + 0 + 0 ≤ 7293000; omega⟩) hPs hDs hS hA (fun r_425 u_425 H locs w_425 hP hD hS => ?_)
        obtain ⟨bg1, on1, st1, pg1⟩ := u_425
        obtain ⟨-, e1, ht3, hpg1⟩ := w_425
        dsimp only at e1 ht3 hpg1 hP hD
        subst e1
        have hI2 : INX cI cR L C rl (bkB bg (xs (2 + 4 * i + 1))) st1 on1 ch rc pg1 pl own M := hI.back hL0 (xs (2 + 4 * i + 1)) (t := (on1, st1)) ht3 hpg1
        have hP : va_P D vwCl (wM cI m0 mS mC mT mR mA th (nI L) (nI C) (nI rl2) (nI bg2) (nI st2) mk (zb on2) (nI tp) (nI tl) (zb tb) sg ch tr rc2 ta ++ ((o, .inl (cJ, 1, .inr (.inl fo))) :: wX cI cP x aC aT aR aP (nI L) (nI C) (nI rl) (nI (bkB bg (xs (2 + 4 * i + 1)))) (zb on1) (nI st1) mk rp sp sc sk fa ch tr rc pg1 pl)) H := hP
        have hD : va_D (fun q : Nat => s.heap.size ≤ q) (wM cI m0 mS mC mT mR mA th (nI L) (nI C) (nI rl2) (nI bg2) (nI st2) mk (zb on2) (nI tp) (nI tl) (zb tb) sg ch tr rc2 ta ++ ((o, .inl (cJ, 1, .inr (.inl fo))) :: wX cI cP x aC aT aR aP (nI L) (nI C) (nI rl) (nI (bkB bg (xs (2 + 4 * i + 1)))) (zb on1) (nI st1) mk rp sp sc sk fa ch tr rc pg1 pl)) := hD
        refine lv_pop hx hb dL_law_428 rfl ?_
        refine lv_aload_n hx hb dL_law_429 rfl (lv_at hl 2 rfl) ?_
        refine lv_aload_n hx hb dL_law_430 rfl (lv_at hl 0 rfl) ?_
        refine lv_iload hx hb dL_law_431 (lv_at hl 4 rfl) ?_
        refine lv_iconst (v := 1) hx hb dL_law_433 (by decide +kernel) ?_
        refine lv_iadd hx hb dL_law_434 ?_
        refine W.eq (g2 := F0 m 435 ls [.int (nI (2 + 4 * i + 1)), .ref b, .ref m0]) (by rw [show (1 : Int32) = nI 1 from rfl, nI_add]) ?_
        refine va_sld hx hb hX hbl hbA hS (vp_in_nI (by omega) (by omega)) dL_law_435 ?_
        refine W.eq (g2 := F0 m 436 ls [.int (xs (2 + 4 * i + 1)), .ref m0]) (by rw [nI_clamp (by omega)]) ?_
        refine callPi (wc := wM cI m0 mS mC mT mR mA th (nI L) (nI C) (nI rl2) (nI bg2) (nI st2) mk (zb on2) (nI tp) (nI tl) (zb tb) sg ch tr rc2 ta) (wr := (o, .inl (cJ, 1, .inr (.inl fo))) :: wX cI cP x aC aT aR aP (nI L) (nI C) (nI rl) (nI (bkB bg (xs (2 + 4 * i + 1)))) (zb on1) (nI st1) mk rp sp sc sk fa ch tr rc pg1 pl) (va_runV (As := [.int (xs (2 + 4 * i + 1))]) (rest := []) ⟨hx, hb, hml, hown, hts⟩ (c_X3_back l hJ.2.1 (xs (2 + 4 * i + 1))) (cwV 1 hts gL_law_X3_back rfl rfl rfl (by decide +kernel) ⟨(Nat.le_of_ble_eq_true rfl), (Nat.le_of_ble_eq_true rfl)⟩) (mu_pre hK (preP hP) (preD hD) rfl 0 rfl) rfl rfl hl.1 rfl (lv_room (Nat.le_of_ble_eq_true rfl)) dL_law_436 ⟨by show 12 + 136 * i + 0 + 0 ≤ 601024; omega, by show 349499 + 4689 * i + 0 + 0 ≤ 7293000; omega⟩) hP hD hS hA (fun r_436 u_436 H locs w_436 hP hD hS => ?_)
        obtain ⟨bg3, on3, st3⟩ := u_436
        obtain ⟨-, e2, e3⟩ := w_436
        dsimp only at e2 e3 hP hD
        subst e2
        have hJ2 : INM L rl2 (bkB bg2 (xs (2 + 4 * i + 1))) st3 on3 ch rc2 := hJ.back hL0 (xs (2 + 4 * i + 1)) (t := (on3, st3)) e3
        have hP : va_P D vwCl (wM cI m0 mS mC mT mR mA 0 (nI L) (nI C) (nI rl2) (nI (bkB bg2 (xs (2 + 4 * i + 1)))) (nI st3) mk (zb on3) (nI tp) (nI tl) (zb tb) sg ch tr rc2 ta ++ ((o, .inl (cJ, 1, .inr (.inl fo))) :: wX cI cP x aC aT aR aP (nI L) (nI C) (nI rl) (nI (bkB bg (xs (2 + 4 * i + 1)))) (zb on1) (nI st1) mk rp sp sc sk fa ch tr rc pg1 pl)) H := hP
        have hD : va_D (fun q : Nat => s.heap.size ≤ q) (wM cI m0 mS mC mT mR mA 0 (nI L) (nI C) (nI rl2) (nI (bkB bg2 (xs (2 + 4 * i + 1)))) (nI st3) mk (zb on3) (nI tp) (nI tl) (zb tb) sg ch tr rc2 ta ++ ((o, .inl (cJ, 1, .inr (.inl fo))) :: wX cI cP x aC aT aR aP (nI L) (nI C) (nI rl) (nI (bkB bg (xs (2 + 4 * i + 1)))) (zb on1) (nI st1) mk rp sp sc sk fa ch tr rc pg1 pl)) := hD
        refine lv_pop hx hb dL_law_439 rfl ?_
        refine lv_goto (tgt := 493) hx hb dL_law_440 (by decide) ?_
        refine W.widen (k := 12 + 136 * (i + 1)) (n := 349499 + 4689 * (i + 1)) (by omega) (by omega) ?_
        refine lv_iinc (v := nI (2 + 4 * (i + 1))) (lv' := [(4, .int (nI (2 + 4 * (i + 1)))), (0, .ref b), (1, .ref x), (2, .ref m0), (3, .ref o)]) hx hb dL_law_493 hl (k := 4) rfl (by rw [show Int32.ofInt 4 = nI 4 from rfl, nI_add]; congr 1) (by decide) rfl (fun ls hl => ?_)
        refine lv_goto (tgt := 43) hx hb dL_law_496 (by decide) ?_
        exact ih (i + 1) _ _ _ _ _ _ _ _ _ _ _ _ _ _ _ _ _ _ _ _ _ _ _ _ _ _ _ _ _ _ _ _ (by omega) (by omega) hI2 hJ2 hP hD hS (lv_sub hl [1, 2, 3, 4, 0] rfl)
      by_cases k_10 : z = 10
      ·
        refine lv_tableIn (off := 384) (tgt := 443) hx hb dL_law_59 (by rw [k_10]; decide +kernel) (by rw [k_10]; decide +kernel) (by rw [k_10]; decide +kernel) (by decide) ?_
        refine lv_aload_n hx hb dL_law_443 rfl (lv_at hl 1 rfl) ?_
        refine lv_aload_n hx hb dL_law_444 rfl (lv_at hl 0 rfl) ?_
        refine lv_iload hx hb dL_law_445 (lv_at hl 4 rfl) ?_
        refine lv_iconst (v := 1) hx hb dL_law_447 (by decide +kernel) ?_
        refine lv_iadd hx hb dL_law_448 ?_
        refine W.eq (g2 := F0 m 449 ls [.int (nI (2 + 4 * i + 1)), .ref b, .ref x]) (by rw [show (1 : Int32) = nI 1 from rfl, nI_add]) ?_
        refine va_sld hx hb hX hbl hbA hS (vp_in_nI (by omega) (by omega)) dL_law_449 ?_
        refine W.eq (g2 := F0 m 450 ls [.int (xs (2 + 4 * i + 1)), .ref x]) (by rw [nI_clamp (by omega)]) ?_
        have hPs : va_P D vwCl ((wM cI m0 mS mC mT mR mA th (nI L) (nI C) (nI rl2) (nI bg2) (nI st2) mk (zb on2) (nI tp) (nI tl) (zb tb) sg ch tr rc2 ta ++ [(o, .inl (cJ, 1, .inr (.inl fo)))]) ++ wX cI cP x aC aT aR aP (nI L) (nI C) (nI rl) (nI bg) (zb on) (nI st) mk rp sp sc sk fa ch tr rc pg pl) H := hP
        have hDs : va_D (fun q : Nat => s.heap.size ≤ q) ((wM cI m0 mS mC mT mR mA th (nI L) (nI C) (nI rl2) (nI bg2) (nI st2) mk (zb on2) (nI tp) (nI tl) (zb tb) sg ch tr rc2 ta ++ [(o, .inl (cJ, 1, .inr (.inl fo)))]) ++ wX cI cP x aC aT aR aP (nI L) (nI C) (nI rl) (nI bg) (zb on) (nI st) mk rp sp sc sk fa ch tr rc pg pl) := hD
        refine callSi (wr := wM cI m0 mS mC mT mR mA th (nI L) (nI C) (nI rl2) (nI bg2) (nI st2) mk (zb on2) (nI tp) (nI tl) (zb tb) sg ch tr rc2 ta ++ [(o, .inl (cJ, 1, .inr (.inl fo)))]) (wc := wX cI cP x aC aT aR aP (nI L) (nI C) (nI rl) (nI bg) (zb on) (nI st) mk rp sp sc sk fa ch tr rc pg pl) (va_runV (As := [.int (xs (2 + 4 * i + 1))]) (rest := []) ⟨hx, hb, hml, hown, hts⟩ (c_X2_forms l (xs (2 + 4 * i + 1))) (cwV 1 hts gL_law_X2_forms rfl rfl rfl (by decide +kernel) ⟨(Nat.le_of_ble_eq_true rfl), (Nat.le_of_ble_eq_true rfl)⟩) (mu_pre hK (sufP hPs) (sufD hDs) rfl 0 rfl) rfl rfl hl.1 rfl (lv_room (Nat.le_of_ble_eq_true rfl)) dL_law_450 ⟨by show 12 + 136 * i + 0 + 0 ≤ 601024; omega, by show 349499 + 4689 * i + 0 + 0 ≤ 7293000; omega⟩) hPs hDs hS hA (fun r_450 u_450 H locs w_450 hP hD hS => ?_)
        obtain ⟨mk1, fa1, on1, st1⟩ := u_450
        obtain ⟨rfl, e1⟩ := w_450
        dsimp only at hP hD
        have hP : va_P D vwCl (wM cI m0 mS mC mT mR mA th (nI L) (nI C) (nI rl2) (nI bg2) (nI st2) mk (zb on2) (nI tp) (nI tl) (zb tb) sg ch tr rc2 ta ++ ((o, .inl (cJ, 1, .inr (.inl fo))) :: wX cI cP x aC aT aR aP (nI L) (nI C) (nI rl) (nI bg) (zb on1) (nI st1) mk1 rp sp sc sk fa1 ch tr rc pg pl)) H := hP
        have hD : va_D (fun q : Nat => s.heap.size ≤ q) (wM cI m0 mS mC mT mR mA th (nI L) (nI C) (nI rl2) (nI bg2) (nI st2) mk (zb on2) (nI tp) (nI tl) (zb tb) sg ch tr rc2 ta ++ ((o, .inl (cJ, 1, .inr (.inl fo))) :: wX cI cP x aC aT aR aP (nI L) (nI C) (nI rl) (nI bg) (zb on1) (nI st1) mk1 rp sp sc sk fa1 ch tr rc pg pl)) := hD
        refine lv_aload_n hx hb dL_law_453 rfl (lv_at hl 2 rfl) ?_
        refine lv_aload_n hx hb dL_law_454 rfl (lv_at hl 0 rfl) ?_
        refine lv_iload hx hb dL_law_455 (lv_at hl 4 rfl) ?_
        refine lv_iconst (v := 1) hx hb dL_law_457 (by decide +kernel) ?_
        refine lv_iadd hx hb dL_law_458 ?_
        refine W.eq (g2 := F0 m 459 ls [.int (nI (2 + 4 * i + 1)), .ref b, .ref m0, .int (fmR mk (xs (2 + 4 * i + 1)))]) (by rw [show (1 : Int32) = nI 1 from rfl, nI_add]) ?_
        refine va_sld hx hb hX hbl hbA hS (vp_in_nI (by omega) (by omega)) dL_law_459 ?_
        refine W.eq (g2 := F0 m 460 ls [.int (xs (2 + 4 * i + 1)), .ref m0, .int (fmR mk (xs (2 + 4 * i + 1)))]) (by rw [nI_clamp (by omega)]) ?_
        refine callPi (wc := wM cI m0 mS mC mT mR mA th (nI L) (nI C) (nI rl2) (nI bg2) (nI st2) mk (zb on2) (nI tp) (nI tl) (zb tb) sg ch tr rc2 ta) (wr := (o, .inl (cJ, 1, .inr (.inl fo))) :: wX cI cP x aC aT aR aP (nI L) (nI C) (nI rl) (nI bg) (zb on1) (nI st1) mk1 rp sp sc sk fa1 ch tr rc pg pl) (va_runV (As := [.int (xs (2 + 4 * i + 1))]) (rest := [.int (fmR mk (xs (2 + 4 * i + 1)))]) ⟨hx, hb, hml, hown, hts⟩ (c_X3_forms l (xs (2 + 4 * i + 1))) (cwV 1 hts gL_law_X3_forms rfl rfl rfl (by decide +kernel) ⟨(Nat.le_of_ble_eq_true rfl), (Nat.le_of_ble_eq_true rfl)⟩) (mu_pre hK (preP hP) (preD hD) rfl 0 rfl) rfl rfl hl.1 rfl (lv_room (Nat.le_of_ble_eq_true rfl)) dL_law_460 ⟨by show 12 + 136 * i + 0 + 0 ≤ 601024; omega, by show 349499 + 4689 * i + 0 + 0 ≤ 7293000; omega⟩) hP hD hS hA (fun r_460 u_460 H locs w_460 hP hD hS => ?_)
        obtain ⟨mk2, ta2, on3, st3⟩ := u_460
        obtain ⟨rfl, e2⟩ := w_460
        dsimp only at hP hD
        obtain ⟨e5, hI2, hJ2⟩ := forms_join e1 e2 hI hJ hL0
        dsimp only at e5 hI2 hJ2
        obtain rfl := e5
        have hP : va_P D vwCl (wM cI m0 mS mC mT mR mA 0 (nI L) (nI C) (nI rl2) (nI bg2) (nI st3) mk1 (zb on3) (nI tp) (nI tl) (zb tb) sg ch tr rc2 ta2 ++ ((o, .inl (cJ, 1, .inr (.inl fo))) :: wX cI cP x aC aT aR aP (nI L) (nI C) (nI rl) (nI bg) (zb on1) (nI st1) mk1 rp sp sc sk fa1 ch tr rc pg pl)) H := hP
        have hD : va_D (fun q : Nat => s.heap.size ≤ q) (wM cI m0 mS mC mT mR mA 0 (nI L) (nI C) (nI rl2) (nI bg2) (nI st3) mk1 (zb on3) (nI tp) (nI tl) (zb tb) sg ch tr rc2 ta2 ++ ((o, .inl (cJ, 1, .inr (.inl fo))) :: wX cI cP x aC aT aR aP (nI L) (nI C) (nI rl) (nI bg) (zb on1) (nI st1) mk1 rp sp sc sk fa1 ch tr rc pg pl)) := hD
        refine lv_icmp_eq (tgt := 493) hx hb dL_law_463 (by decide) (fun c_463 => ?_) (fun c_463 => absurd (rfl) c_463)
        refine W.widen (k := 12 + 136 * (i + 1)) (n := 349499 + 4689 * (i + 1)) (by omega) (by omega) ?_
        refine lv_iinc (v := nI (2 + 4 * (i + 1))) (lv' := [(4, .int (nI (2 + 4 * (i + 1)))), (0, .ref b), (1, .ref x), (2, .ref m0), (3, .ref o)]) hx hb dL_law_493 hl (k := 4) rfl (by rw [show Int32.ofInt 4 = nI 4 from rfl, nI_add]; congr 1) (by decide) rfl (fun ls hl => ?_)
        refine lv_goto (tgt := 43) hx hb dL_law_496 (by decide) ?_
        exact ih (i + 1) _ _ _ _ _ _ _ _ _ _ _ _ _ _ _ _ _ _ _ _ _ _ _ _ _ _ _ _ _ _ _ _ (by omega) (by omega) hI2 hJ2 hP hD hS (lv_sub hl [1, 2, 3, 4, 0] rfl)
      by_cases k_11 : z = 11
      ·
        refine lv_tableIn (off := 409) (tgt := 468) hx hb dL_law_59 (by rw [k_11]; decide +kernel) (by rw [k_11]; decide +kernel) (by rw [k_11]; decide +kernel) (by decide) ?_
        refine lv_aload_n hx hb dL_law_468 rfl (lv_at hl 1 rfl) ?_
        refine lv_aload_n hx hb dL_law_469 rfl (lv_at hl 0 rfl) ?_
        refine lv_iload hx hb dL_law_470 (lv_at hl 4 rfl) ?_
        refine lv_iconst (v := 1) hx hb dL_law_472 (by decide +kernel) ?_
        refine lv_iadd hx hb dL_law_473 ?_
        refine W.eq (g2 := F0 m 474 ls [.int (nI (2 + 4 * i + 1)), .ref b, .ref x]) (by rw [show (1 : Int32) = nI 1 from rfl, nI_add]) ?_
        refine va_sld hx hb hX hbl hbA hS (vp_in_nI (by omega) (by omega)) dL_law_474 ?_
        refine W.eq (g2 := F0 m 475 ls [.int (xs (2 + 4 * i + 1)), .ref x]) (by rw [nI_clamp (by omega)]) ?_
        have hPs : va_P D vwCl ((wM cI m0 mS mC mT mR mA th (nI L) (nI C) (nI rl2) (nI bg2) (nI st2) mk (zb on2) (nI tp) (nI tl) (zb tb) sg ch tr rc2 ta ++ [(o, .inl (cJ, 1, .inr (.inl fo)))]) ++ wX cI cP x aC aT aR aP (nI L) (nI C) (nI rl) (nI bg) (zb on) (nI st) mk rp sp sc sk fa ch tr rc pg pl) H := hP
        have hDs : va_D (fun q : Nat => s.heap.size ≤ q) ((wM cI m0 mS mC mT mR mA th (nI L) (nI C) (nI rl2) (nI bg2) (nI st2) mk (zb on2) (nI tp) (nI tl) (zb tb) sg ch tr rc2 ta ++ [(o, .inl (cJ, 1, .inr (.inl fo)))]) ++ wX cI cP x aC aT aR aP (nI L) (nI C) (nI rl) (nI bg) (zb on) (nI st) mk rp sp sc sk fa ch tr rc pg pl) := hD
        refine vp_callSi (W.runV (As := [.int (xs (2 + 4 * i + 1))]) (rest := []) ⟨hx, hb, hml, hown, hts⟩ (c_X2_tally l (xs (2 + 4 * i + 1))) (cwV 1 hts gL_law_X2_tally rfl rfl rfl (by decide +kernel) ⟨(Nat.le_of_ble_eq_true rfl), (Nat.le_of_ble_eq_true rfl)⟩) (ro_pre hK (sufP hPs) rfl 0 rfl) rfl rfl hl.1 rfl (lv_room (Nat.le_of_ble_eq_true rfl)) dL_law_475 ⟨by show 12 + 136 * i + 0 + 0 ≤ 601024; omega, by show 349499 + 4689 * i + 0 + 0 ≤ 7293000; omega⟩) (fun r_475 w_475 => ?_)
        refine lv_pop hx hb dL_law_478 rfl ?_
        refine lv_aload_n hx hb dL_law_479 rfl (lv_at hl 2 rfl) ?_
        refine lv_aload_n hx hb dL_law_480 rfl (lv_at hl 0 rfl) ?_
        refine lv_iload hx hb dL_law_481 (lv_at hl 4 rfl) ?_
        refine lv_iconst (v := 1) hx hb dL_law_483 (by decide +kernel) ?_
        refine lv_iadd hx hb dL_law_484 ?_
        refine W.eq (g2 := F0 m 485 ls [.int (nI (2 + 4 * i + 1)), .ref b, .ref m0]) (by rw [show (1 : Int32) = nI 1 from rfl, nI_add]) ?_
        refine va_sld hx hb hX hbl hbA hS (vp_in_nI (by omega) (by omega)) dL_law_485 ?_
        refine W.eq (g2 := F0 m 486 ls [.int (xs (2 + 4 * i + 1)), .ref m0]) (by rw [nI_clamp (by omega)]) ?_
        refine callPi (wc := wM cI m0 mS mC mT mR mA th (nI L) (nI C) (nI rl2) (nI bg2) (nI st2) mk (zb on2) (nI tp) (nI tl) (zb tb) sg ch tr rc2 ta) (wr := (o, .inl (cJ, 1, .inr (.inl fo))) :: wX cI cP x aC aT aR aP (nI L) (nI C) (nI rl) (nI bg) (zb on) (nI st) mk rp sp sc sk fa ch tr rc pg pl) (va_runV (As := [.int (xs (2 + 4 * i + 1))]) (rest := []) ⟨hx, hb, hml, hown, hts⟩ (c_X3_tally l (xs (2 + 4 * i + 1))) (cwV 1 hts gL_law_X3_tally rfl rfl rfl (by decide +kernel) ⟨(Nat.le_of_ble_eq_true rfl), (Nat.le_of_ble_eq_true rfl)⟩) (mu_pre hK (preP hP) (preD hD) rfl 0 rfl) rfl rfl hl.1 rfl (lv_room (Nat.le_of_ble_eq_true rfl)) dL_law_486 ⟨by show 12 + 136 * i + 0 + 0 ≤ 601024; omega, by show 349499 + 4689 * i + 0 + 0 ≤ 7293000; omega⟩) hP hD hS hA (fun r_486 u_486 H locs w_486 hP hD hS => ?_)
        have hP : va_P D vwCl (wM cI m0 mS mC mT mR mA 0 (nI L) (nI C) (nI rl2) (nI bg2) (nI st2) mk (zb on2) (nI tp) (nI tl) (zb tb) sg ch tr rc2 ta ++ ((o, .inl (cJ, 1, .inr (.inl fo))) :: wX cI cP x aC aT aR aP (nI L) (nI C) (nI rl) (nI bg) (zb on) (nI st) mk rp sp sc sk fa ch tr rc pg pl)) H := hP
        have hD : va_D (fun q : Nat => s.heap.size ≤ q) (wM cI m0 mS mC mT mR mA 0 (nI L) (nI C) (nI rl2) (nI bg2) (nI st2) mk (zb on2) (nI tp) (nI tl) (zb tb) sg ch tr rc2 ta ++ ((o, .inl (cJ, 1, .inr (.inl fo))) :: wX cI cP x aC aT aR aP (nI L) (nI C) (nI rl) (nI bg) (zb on) (nI st) mk rp sp sc sk fa ch tr rc pg pl)) := hD
        refine lv_pop hx hb dL_law_489 rfl ?_
        refine lv_goto (tgt := 493) hx hb dL_law_490 (by decide) ?_
        refine W.widen (k := 12 + 136 * (i + 1)) (n := 349499 + 4689 * (i + 1)) (by omega) (by omega) ?_
        refine lv_iinc (v := nI (2 + 4 * (i + 1))) (lv' := [(4, .int (nI (2 + 4 * (i + 1)))), (0, .ref b), (1, .ref x), (2, .ref m0), (3, .ref o)]) hx hb dL_law_493 hl (k := 4) rfl (by rw [show Int32.ofInt 4 = nI 4 from rfl, nI_add]; congr 1) (by decide) rfl (fun ls hl => ?_)
        refine lv_goto (tgt := 43) hx hb dL_law_496 (by decide) ?_
        exact ih (i + 1) _ _ _ _ _ _ _ _ _ _ _ _ _ _ _ _ _ _ _ _ _ _ _ _ _ _ _ _ _ _ _ _ (by omega) (by omega) hI hJ hP hD hS (lv_sub hl [1, 2, 3, 4, 0] rfl)
      refine lv_tableOut (tgt := 493) hx hb dL_law_59 (by have q_k_0 := lv_neT (a := 0) k_0 (by decide +kernel); have q_k_1 := lv_neT (a := 1) k_1 (by decide +kernel); have q_k_2 := lv_neT (a := 2) k_2 (by decide +kernel); have q_k_3 := lv_neT (a := 3) k_3 (by decide +kernel); have q_k_4 := lv_neT (a := 4) k_4 (by decide +kernel); have q_k_5 := lv_neT (a := 5) k_5 (by decide +kernel); have q_k_6 := lv_neT (a := 6) k_6 (by decide +kernel); have q_k_7 := lv_neT (a := 7) k_7 (by decide +kernel); have q_k_8 := lv_neT (a := 8) k_8 (by decide +kernel); have q_k_9 := lv_neT (a := 9) k_9 (by decide +kernel); have q_k_10 := lv_neT (a := 10) k_10 (by decide +kernel); have q_k_11 := lv_neT (a := 11) k_11 (by decide +kernel); omega) (by decide) ?_
      refine W.widen (k := 12 + 136 * (i + 1)) (n := 349499 + 4689 * (i + 1)) (by omega) (by omega) ?_
      refine lv_iinc (v := nI (2 + 4 * (i + 1))) (lv' := [(4, .int (nI (2 + 4 * (i + 1)))), (0, .ref b), (1, .ref x), (2, .ref m0), (3, .ref o)]) hx hb dL_law_493 hl (k := 4) rfl (by rw [show Int32.ofInt 4 = nI 4 from rfl, nI_add]; congr 1) (by decide) rfl (fun ls hl => ?_)
      refine lv_goto (tgt := 43) hx hb dL_law_496 (by decide) ?_
      exact ih (i + 1) _ _ _ _ _ _ _ _ _ _ _ _ _ _ _ _ _ _ _ _ _ _ _ _ _ _ _ _ _ _ _ _ (by omega) (by omega) hI hJ hP hD hS (lv_sub hl [1, 2, 3, 4, 0] rfl)
