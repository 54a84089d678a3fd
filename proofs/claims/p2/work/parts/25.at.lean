/-! at, where there is such a place -/
set_option maxHeartbeats 1000000 in
set_option maxRecDepth 100000 in
theorem c_X2_at_ok (l : Launch) {D : va_G} {cI cP cR cJ : ClassId} {x aC aT aR aP L C rl bg st : Nat} {on : Bool} {mk rp sp sc sk fa : Int32} {ch tr rc : Nat → Int32} {pg : Nat → Option Nat} {pl : va_W} {own : Nat → Nat × Nat} {M : Nat → Nat → Nat → Int32} (hL : L ≤ 66) (hC : C ≤ 132) (hbg : bg ≤ 40) (hPI : PI cI cR pl own L C bg pg M) (q i k : Nat) (hq : q < bg) (hi : i < L) (hk : k < C) : Met l yX2_at wsX2_at ({ frames := 2, cells := 0, slots := 0, locals := 43 }) (ro [.ref x, .int (nI q), .int (nI i), .int (nI k)] D cI cP cR cJ (wX cI cP x aC aT aR aP (nI L) (nI C) (nI rl) (nI bg) (zb on) (nI st) mk rp sp sc sk fa ch tr rc pg pl)) (vp_Si (fun r => r = M q i k)) 0 0 (fun _ => False) := by
  refine Met.ofW (cc := cX2_at) (maxL := 5) (ret := (some .int)) (by decide) rfl ?_
  intro p e s m args below meth c s₁ B hml hv
  obtain ⟨rfl, hP, hK⟩ := hv
  have hx := B.exec
  have hb := B.bytes
  have hr := B.returns
  have hts := atoms_spec (ws := wsX2_at) B.pre
  have hown : s.vm.findClass RX2 = some m.cls := findClass_of_methodNamed B.named
  have hlocks := B.notSynchronized
  have hinX0 : ∀ w ∈ wsX00, w ∈ wsX2_at := by decide +kernel
  have hinX1 : ∀ w ∈ wsX10, w ∈ wsX2_at := by decide +kernel
  have hinX2 : ∀ w ∈ wsX20, w ∈ wsX2_at := by decide +kernel
  have hl := lv_entry ([.ref x, .int (nI q), .int (nI i), .int (nI k)]) (n := 5) (Nat.le_of_ble_eq_true rfl)
  rw [lg_entry_eq]
  generalize (lg_sl ([.ref x, .int (nI q), .int (nI i), .int (nI k)]) ++ List.replicate (5 - (lg_sl ([.ref x, .int (nI q), .int (nI i), .int (nI k)])).length) Slot.unset).toArray = ls at hl ⊢
  have hl : lv_has ls 5 [(0, .ref x), (1, .int (nI q)), (2, .int (nI i)), (3, .int (nI k))] := hl
  refine lv_aload_n hx hb dX2_at_0 rfl (lv_at hl 0 rfl) ?_
  refine lv_iload_n hx hb dX2_at_1 rfl (lv_at hl 1 rfl) ?_
  obtain ⟨a, hpa, ra, g, ka, kr, hka, hkr, -, hln⟩ := hPI q hq
  refine va_csq (W.runV (As := [.int (nI q)]) (rest := []) ⟨hx, hb, hml, hown, hts⟩ (c_X2_begunPage l hbg (nI q)) (cwV 1 hts gX2_at_X2_begunPage rfl rfl rfl (by decide +kernel) ⟨(Nat.le_of_ble_eq_true rfl), (Nat.le_of_ble_eq_true rfl)⟩) (ro_pre hK hP rfl 0 rfl) rfl rfl hl.1 rfl (lv_room (Nat.le_of_ble_eq_true rfl)) dX2_at_2 ⟨(Nat.le_of_ble_eq_true rfl), (Nat.le_of_ble_eq_true rfl)⟩) (fun r_2 w_2 => ?_)
  subst w_2
  refine W.eq (g2 := F0 m 5 ls [.ref a]) (by rw [bpR, if_pos ⟨nI_pos (by omega), nI_ge (by omega) (by omega)⟩, nI_clamp (by omega), hpa]; rfl) ?_
  refine lv_astore (lv' := [(4, .ref a), (0, .ref x), (1, .int (nI q)), (2, .int (nI i)), (3, .int (nI k))]) hx hb dX2_at_5 hl (by decide) rfl (fun ls hl => ?_)
  refine lv_aload hx hb dX2_at_7 (lv_at hl 0 rfl) ?_
  refine lv_ifnull hx hb dX2_at_9 ?_
  refine lv_iload_n hx hb dX2_at_12 rfl (lv_at hl 3 rfl) ?_
  refine lv_if_lt (tgt := 36) hx hb dX2_at_13 (by decide) (fun c_13 => absurd c_13 (nI_pos (by omega))) (fun c_13 => ?_)
  refine lv_iload_n hx hb dX2_at_16 rfl (lv_at hl 3 rfl) ?_
  refine lv_aload_n hx hb dX2_at_17 rfl (lv_at hl 1 rfl) ?_
  refine va_get (D := D) (ci := 3) (v := .int (nI L)) (C := RX2) (T := TX2) (N := 16) hx hb hts hinX2 hown hK.1 hP 0 rfl rfl 0 (by decide) (hts (.fieldLink RX2 13 "PrinterRows" "lines" "I") (by decide +kernel)) (fun _ h9 => h9) rfl dX2_at_18 ?_
  refine lv_icmp_ge (tgt := 36) hx hb dX2_at_21 (by decide) (fun c_21 => absurd c_21 (nI_ge hi (by omega))) (fun c_21 => ?_)
  refine lv_iload_n hx hb dX2_at_24 rfl (lv_at hl 4 rfl) ?_
  refine lv_if_lt (tgt := 36) hx hb dX2_at_25 (by decide) (fun c_25 => absurd c_25 (nI_pos (by omega))) (fun c_25 => ?_)
  refine lv_iload_n hx hb dX2_at_28 rfl (lv_at hl 4 rfl) ?_
  refine lv_aload_n hx hb dX2_at_29 rfl (lv_at hl 1 rfl) ?_
  refine va_get (D := D) (ci := 3) (v := .int (nI C)) (C := RX2) (T := TX2) (N := 16) hx hb hts hinX2 hown hK.1 hP 0 rfl rfl 1 (by decide) (hts (.fieldLink RX2 17 "PrinterRows" "columns" "I") (by decide +kernel)) (fun _ h9 => h9) rfl dX2_at_30 ?_
  refine lv_icmp_lt (tgt := 46) hx hb dX2_at_33 (by decide) (fun c_33 => ?_) (fun c_33 => absurd (nI_lt hk (by omega)) c_33)
  refine lv_aload hx hb dX2_at_46 (lv_at hl 0 rfl) ?_
  refine lv_iload_n hx hb dX2_at_48 rfl (lv_at hl 3 rfl) ?_
  refine lv_iload_n hx hb dX2_at_49 rfl (lv_at hl 4 rfl) ?_
  have hrow : (g i = none ∧ M q i k = 32) ∨ ∃ (b sa : Nat) (f : Nat → Int32) (kb ks : Nat), g i = some b ∧ pl[kb]? = some (b, .inr (2, [.ref sa])) ∧ pl[ks]? = some (sa, .inl (cI, C, .inl f)) ∧ M q i k = f k := by
    rcases hln i hi with ⟨h1, h2⟩ | ⟨b, h1, -, sa, f, kb, ks, h3, h4, -, h5⟩
    · exact Or.inl ⟨h1, h2 k hk⟩
    · exact Or.inr ⟨b, sa, f, kb, ks, h1, h3, h4, (h5 k hk).symm⟩
  have hP5 : va_P D vwCl pl s.heap := sufP (wr := [_, _, _, _, _]) hP
  refine vp_callSi (W.runV (As := [.int (nI i), .int (nI k)]) (rest := []) ⟨hx, hb, hml, hown, hts⟩ (c_X0_signIn l ka kr hka hkr hL hC i k hi hk (M q i k) hrow) (cwV 2 hts gX2_at_X0_signIn rfl rfl rfl (by decide +kernel) ⟨(Nat.le_of_ble_eq_true rfl), (Nat.le_of_ble_eq_true rfl)⟩) (ro_pre hK hP5 rfl ka hka) rfl rfl hl.1 rfl (lv_room (Nat.le_of_ble_eq_true rfl)) dX2_at_50 ⟨(Nat.le_of_ble_eq_true rfl), (Nat.le_of_ble_eq_true rfl)⟩) (fun r_50 w_50 => ?_)
  subst w_50
  exact W.iret (v := M q i k) hx hb hr (fun t ht hW => ⟨_, rfl, rfl, ht⟩) (fun q h => by cases h) dX2_at_53
