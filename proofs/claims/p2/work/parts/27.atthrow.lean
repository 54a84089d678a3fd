/-! at, where there is no such place -/
theorem gAT_begunPage : GoodIn wsAT (wsV RX2 92 RX2 yX2_begunPage wsX2_begunPage) := fun w hw => ⟨List.mem_append_left _ (gX2_at_X2_begunPage w hw).1, (gX2_at_X2_begunPage w hw).2⟩
set_option maxHeartbeats 1000000 in
set_option maxRecDepth 100000 in
theorem c_X2_at_thr (l : Launch) (hl0 : l.stackTraces = false) {D : va_G} {cI cP cR cJ : ClassId} {x aC aT aR aP L C rl bg st : Nat} {on : Bool} {mk rp sp sc sk fa : Int32} {ch tr rc : Nat → Int32} {pg : Nat → Option Nat} {pl : va_W} {sq : Nat} (hbg : bg ≤ 40) (p0 l0 k0 : Int32) (hno : atO L C bg p0 l0 k0 = false) : MetFree l yX2_at (headSpec wsAT ({ frames := 7, cells := 1, slots := 6, locals := 95 })) (PT [.ref x, .int p0, .int l0, .int k0] D cI cP cR cJ (wX cI cP x aC aT aR aP (nI L) (nI C) (nI rl) (nI bg) (zb on) (nI st) mk rp sp sc sk fa ch tr rc pg pl) sq) (fun _ _ _ _ _ => True) QT := by
  refine MetFree.of_bodyS (code := cX2_at) (maxLocals := 5) (ret := some .int) (by decide) ?_ ?_
  · intro args s m h hn
    obtain ⟨meth, c, h1, h2, h3, h4, h5, h6, -, -⟩ := Cond.code_spec hn (atoms_spec (ws := wsAT) h _ List.mem_cons_self)
    exact ⟨meth, c, h1, h2, h3, h4, h5, h6⟩
  intro p e s m args below meth c s₁ B hml hv _
  obtain ⟨rfl, ⟨hP, hK⟩, hTX⟩ := hv
  have hx := B.exec
  have hb := B.bytes
  have hts := atoms_spec (ws := wsAT) B.pre
  have hown : s.vm.findClass RX2 = some m.cls := findClass_of_methodNamed B.named
  have hlocks := B.notSynchronized
  have hinX2 : ∀ w ∈ wsX20, w ∈ wsAT := by decide +kernel
  have hoA : ∀ w ∈ oA, w.before ([.ref x, .int p0, .int l0, .int k0] : List Value).toArray s = true := oA_ok hTX (fun w hw => hts w (List.mem_append_right _ hw))
  have hcodeV := hts (.code yX2_at cX2_at 5 (some .int)) List.mem_cons_self
  have htr : e.platform.stackTraces = false := by rw [show e.platform.stackTraces = l.stackTraces by rw [B.admits.platform]]; exact hl0
  have key : W p l e (headSpec wsAT ({ frames := 7, cells := 1, slots := 6, locals := 95 })).room s m ([.ref x, .int p0, .int l0, .int k0] : List Value).toArray below meth c s.heap [] 0 0 (fun t => ∃ o, t.status = .running ∧ Ended t below o ∧ QT ([.ref x, .int p0, .int l0, .int k0] : List Value).toArray s o t) (entryFrame m ([.ref x, .int p0, .int l0, .int k0] : List Value).toArray 5) := by
    have hl := lv_entry ([.ref x, .int p0, .int l0, .int k0]) (n := 5) (Nat.le_of_ble_eq_true rfl)
    rw [lg_entry_eq]
    generalize (lg_sl ([.ref x, .int p0, .int l0, .int k0]) ++ List.replicate (5 - (lg_sl ([.ref x, .int p0, .int l0, .int k0])).length) Slot.unset).toArray = ls at hl ⊢
    have hl : lv_has ls 5 [(0, .ref x), (1, .int p0), (2, .int l0), (3, .int k0)] := hl
    have thr : ∀ ls : Array Slot, lv_has ls 5 [(0, .ref x), (1, .int p0), (2, .int l0), (3, .int k0)] → W p l e (headSpec wsAT ({ frames := 7, cells := 1, slots := 6, locals := 95 })).room s m ([.ref x, .int p0, .int l0, .int k0] : List Value).toArray below meth c s.heap [] 0 0 (fun t => ∃ o, t.status = .running ∧ Ended t below o ∧ QT ([.ref x, .int p0, .int l0, .int k0] : List Value).toArray s o t) (F0 m 36 ls []) := by
      intro ls hl
      refine W.newc hx hb hown (hts (.classLink RX2 96 RJx00060) (by decide +kernel)) (hts (.instantiable RJx00060 6) (by decide +kernel)) (hts (.initialized RJx00060) (by decide +kernel)) rfl dX2_at_36 (by show 0 + 1 ≤ 1; omega) (by show 0 + 6 ≤ 6; omega) (fun cX kX hfX hkX _ _ => ?_)
      refine W.eq (g2 := F0 m 39 ls [.ref s.heap.size]) rfl ?_
      refine lv_dup hx hb dX2_at_39 rfl ?_
      refine va_ldcS hx hb hown hTX.2.2.1 dX2_at_40 ?_
      intro T hT X
      have hcellA : T.heap[s.heap.size]? = some (freshCell cX kX) := by rw [hT]; simp [freshCell]
      obtain ⟨U, hsteps, hrun, hend, hW, hsame, ce, hce, K⟩ := X.ctorThrowS hx htr (own := RX2) (cls := RJx00060) (names := ["java/lang/IndexOutOfBoundsException", "java/lang/RuntimeException", "java/lang/Exception"]) (ic := 100) hown (by decide +kernel) (by decide +kernel)
        hoA (fun y hy => by cases hy) hfX hkX hcellA (Nat.le_refl _) (msg := .ref sq) rfl
        (g := F0 m 42 ls [.ref sq, .ref s.heap.size, .ref s.heap.size]) rfl (by rw [hml]; exact hl.1) rfl rfl (rest := []) rfl
        (by rw [hb]; exact dX2_at_42) (by rw [hb]; exact dX2_at_45) (covers_of_empty (B.noHandlers hcodeV) _) (Nat.le_of_ble_eq_true rfl) (Nat.le_of_ble_eq_true rfl)
      exact ⟨U, hsteps, .threw s.heap.size, hrun, hend, s.heap.size, ce, rfl, Nat.le_refl _, hce, K.vm, K.cls, hW, hsame⟩
    refine lv_aload_n hx hb dX2_at_0 rfl (lv_at hl 0 rfl) ?_
    refine lv_iload_n hx hb dX2_at_1 rfl (lv_at hl 1 rfl) ?_
    refine va_csq (W.runV (As := [.int p0]) (rest := []) ⟨hx, hb, hml, hown, hts⟩ (c_X2_begunPage l hbg p0) (cwV 1 hts gAT_begunPage rfl rfl rfl (by decide +kernel) ⟨(Nat.le_of_ble_eq_true rfl), (Nat.le_of_ble_eq_true rfl)⟩) (ro_pre hK hP rfl 0 rfl) rfl rfl hl.1 rfl (lv_room (Nat.le_of_ble_eq_true rfl)) dX2_at_2 ⟨(Nat.le_of_ble_eq_true rfl), (Nat.le_of_ble_eq_true rfl)⟩) (fun r_2 w_2 => ?_)
    cases hbp : bpR bg pg p0 with
    | none =>
      rw [hbp] at w_2
      subst w_2
      refine W.eq (g2 := F0 m 5 ls [.null]) rfl ?_
      refine lv_astoreN (lv' := [(4, .null), (0, .ref x), (1, .int p0), (2, .int l0), (3, .int k0)]) hx hb dX2_at_5 hl (by decide) rfl (fun ls hl => ?_)
      refine lv_aloadN hx hb dX2_at_7 (lv_at hl 0 rfl) ?_
      refine lv_ifnullN (tgt := 36) hx hb dX2_at_9 (by decide) ?_
      exact thr _ (lv_sub hl [1, 2, 3, 4] rfl)
    | some a =>
      rw [hbp] at w_2
      subst w_2
      refine W.eq (g2 := F0 m 5 ls [.ref a]) rfl ?_
      refine lv_astore (lv' := [(4, .ref a), (0, .ref x), (1, .int p0), (2, .int l0), (3, .int k0)]) hx hb dX2_at_5 hl (by decide) rfl (fun ls hl => ?_)
      refine lv_aload hx hb dX2_at_7 (lv_at hl 0 rfl) ?_
      refine lv_ifnull hx hb dX2_at_9 ?_
      refine lv_iload_n hx hb dX2_at_12 rfl (lv_at hl 3 rfl) ?_
      refine lv_if_lt (tgt := 36) hx hb dX2_at_13 (by decide) (fun c_13 => ?_) (fun c_13 => ?_)
      ·
        exact thr _ (lv_sub hl [1, 2, 3, 4] rfl)
      ·
        refine lv_iload_n hx hb dX2_at_16 rfl (lv_at hl 3 rfl) ?_
        refine lv_aload_n hx hb dX2_at_17 rfl (lv_at hl 1 rfl) ?_
        refine va_get (D := D) (ci := 3) (v := .int (nI L)) (C := RX2) (T := TX2) (N := 16) hx hb hts hinX2 hown hK.1 hP 0 rfl rfl 0 (by decide) (hts (.fieldLink RX2 13 "PrinterRows" "lines" "I") (by decide +kernel)) (fun _ h9 => h9) rfl dX2_at_18 ?_
        refine lv_icmp_ge (tgt := 36) hx hb dX2_at_21 (by decide) (fun c_21 => ?_) (fun c_21 => ?_)
        ·
          exact thr _ (lv_sub hl [1, 2, 3, 4] rfl)
        ·
          refine lv_iload_n hx hb dX2_at_24 rfl (lv_at hl 4 rfl) ?_
          refine lv_if_lt (tgt := 36) hx hb dX2_at_25 (by decide) (fun c_25 => ?_) (fun c_25 => ?_)
          ·
            exact thr _ (lv_sub hl [1, 2, 3, 4] rfl)
          ·
            refine lv_iload_n hx hb dX2_at_28 rfl (lv_at hl 4 rfl) ?_
            refine lv_aload_n hx hb dX2_at_29 rfl (lv_at hl 1 rfl) ?_
            refine va_get (D := D) (ci := 3) (v := .int (nI C)) (C := RX2) (T := TX2) (N := 16) hx hb hts hinX2 hown hK.1 hP 0 rfl rfl 1 (by decide) (hts (.fieldLink RX2 17 "PrinterRows" "columns" "I") (by decide +kernel)) (fun _ h9 => h9) rfl dX2_at_30 ?_
            refine lv_icmp_lt (tgt := 46) hx hb dX2_at_33 (by decide) (fun c_33 => ?_) (fun c_33 => ?_)
            ·
              refine absurd hno ?_
              rw [bpR] at hbp
              split at hbp
              · rename_i hc
                rw [atO, if_neg hc.1, if_neg hc.2, if_neg c_13, if_neg c_21, if_neg c_25, if_neg (Int32.not_le.mpr c_33)]
                decide
              · cases hbp
            ·
              exact thr _ (lv_sub hl [1, 2, 3, 4] rfl)
  have hh0 : s₁.heap = s.heap := by rw [B.state]; rfl
  obtain ⟨t, a1, o, b1, b2, b3⟩ := key s₁ hh0 (Stand.of_body B)
  exact ⟨t, o, a1, b1, b2, b3⟩
