/-! the class's methods that write its own fields and rows -/
def okc (L : Nat) (c ln : Int32) : Bool := if zb (isCh c) = 0 then false else if ln < -1 then false else if ln < nI L then true else false
def chR (L : Nat) (ch : Nat → Int32) (c ln : Int32) : Int32 := if okc L c ln then ch c.toNatClampNeg else -2
def chN (L : Nat) (ch : Nat → Int32) (c ln : Int32) : Nat → Int32 := if okc L c ln then upd ch c.toNatClampNeg ln else ch
def sgV (c : Int32) : Int32 := mx 32 (fMod c 256)
def sgC (rl : Nat) (rc : Nat → Int32) (c : Int32) : Nat → Int32 := if rl < 200 then upd rc rl (sgV c) else rc
def sgL (rl : Nat) : Nat := if rl < 200 then rl + 1 else rl
def skN (ch : Nat → Int32) (sk c : Int32) : Int32 := if zb (isCh c) = 0 then sk else if ¬ ch c.toNatClampNeg = -1 then sk else sk + 1
def okt (c to : Int32) : Bool := if zb (isSg c) = 0 then false else if ¬ zb (isSg to) = 0 then true else false
def trR (tr : Nat → Int32) (c to : Int32) : Int32 := if okt c to then tr c.toNatClampNeg else -1
def trN (tr : Nat → Int32) (c to : Int32) : Nat → Int32 := if okt c to then upd tr c.toNatClampNeg to else tr
def fmR (mk k : Int32) : Int32 := if 0 ≤ k then (if k = mk then 1 else 2) else -2
def fmD (mk k : Int32) : Bool := if 0 ≤ k then (if k = mk then false else true) else false
def bkO (bg : Nat) (n : Int32) : Bool := if n < 0 then false else if n ≤ nI bg then true else false
def bkB (bg : Nat) (n : Int32) : Nat := if bkO bg n then bg - n.toNatClampNeg else bg
def bkR (bg : Nat) (n : Int32) : Int32 := if bkO bg n then nI (bg - n.toNatClampNeg) else -2

set_option maxHeartbeats 1000000 in
set_option maxRecDepth 100000 in
theorem c_X2_channel (l : Launch) {D : va_G} {cI cP cR cJ : ClassId} {x aC aT aR aP L C rl bg st : Nat} {on : Bool} {mk rp sp sc sk fa : Int32} {ch tr rc : Nat → Int32} {pg : Nat → Option Nat} {pl : va_W} {sz : Nat} (c0 l0 : Int32) : Met l yX2_channel wsX2_channel ({ frames := 1, cells := 0, slots := 0, locals := 20 }) (mu [.ref x, .int c0, .int l0] D cI cP cR cJ (wX cI cP x aC aT aR aP (nI L) (nI C) (nI rl) (nI bg) (zb on) (nI st) mk rp sp sc sk fa ch tr rc pg pl) sz) (qi D (fun (r : Int32) (u : Nat → Int32) => r = chR L ch c0 l0 ∧ u = chN L ch c0 l0) (fun u : Nat → Int32 => wX cI cP x aC aT aR aP (nI L) (nI C) (nI rl) (nI bg) (zb on) (nI st) mk rp sp sc sk fa u tr rc pg pl) (va_A (wX cI cP x aC aT aR aP (nI L) (nI C) (nI rl) (nI bg) (zb on) (nI st) mk rp sp sc sk fa ch tr rc pg pl) sz)) 0 0 (va_A (wX cI cP x aC aT aR aP (nI L) (nI C) (nI rl) (nI bg) (zb on) (nI st) mk rp sp sc sk fa ch tr rc pg pl) sz) := by
  refine Met.ofW (cc := cX2_channel) (maxL := 4) (ret := (some .int)) (by decide) rfl ?_
  intro p e s m args below meth c s₁ B hml hv
  obtain ⟨rfl, hsz, hP, hK, hD0⟩ := hv
  have hx := B.exec
  have hb := B.bytes
  have hr := B.returns
  have hts := atoms_spec (ws := wsX2_channel) B.pre
  have hown : s.vm.findClass RX2 = some m.cls := findClass_of_methodNamed B.named
  have hlocks := B.notSynchronized
  have hinX2 : ∀ w ∈ wsX20, w ∈ wsX2_channel := by decide +kernel
  subst hsz
  have hD := hD0.self (sz := s.heap.size)
  generalize hAe : va_A (wX cI cP x aC aT aR aP (nI L) (nI C) (nI rl) (nI bg) (zb on) (nI st) mk rp sp sc sk fa ch tr rc pg pl) s.heap.size = A at hD ⊢
  have hA : ∀ q : Nat, s.heap.size ≤ q → A q := fun q h => by rw [← hAe]; exact Or.inr h
  have hS : va_S A s.heap s.heap [] := va_S.rf
  have hP : va_P D vwCl (wX cI cP x aC aT aR aP (nI L) (nI C) (nI rl) (nI bg) (zb on) (nI st) mk rp sp sc sk fa ch tr rc pg pl) s.heap := hP
  have hl := lv_entry ([.ref x, .int c0, .int l0]) (n := 4) (Nat.le_of_ble_eq_true rfl)
  rw [lg_entry_eq]
  generalize (lg_sl ([.ref x, .int c0, .int l0]) ++ List.replicate (4 - (lg_sl ([.ref x, .int c0, .int l0])).length) Slot.unset).toArray = ls at hl ⊢
  have hl : lv_has ls 4 [(0, .ref x), (1, .int c0), (2, .int l0)] := hl
  refine lv_iload_n hx hb dX2_channel_0 rfl (lv_at hl 1 rfl) ?_
  refine vp_callSi (W.runS (As := [.int c0]) (rest := []) ⟨hx, hb, hml, hown, hts⟩ (c_X2_isChannel l (c0)) (va_cwS 1 hts gX2_channel_X2_isChannel rfl rfl rfl (by decide +kernel) ⟨(Nat.le_of_ble_eq_true rfl), (Nat.le_of_ble_eq_true rfl)⟩) pu_pre rfl rfl hl.1 rfl (lv_room (Nat.le_of_ble_eq_true rfl)) dX2_channel_1 ⟨(Nat.le_of_ble_eq_true rfl), (Nat.le_of_ble_eq_true rfl)⟩) (fun r_1 w_1 => ?_)
  subst w_1
  refine lv_if_eq (tgt := 20) hx hb dX2_channel_4 (by decide) (fun c_4 => ?_) (fun c_4 => ?_)
  ·
    refine lv_bipush (v := (-2)) hx hb dX2_channel_20 (by decide +kernel) ?_
    exact W.iret (v := (-2)) hx hb hr (fun t ht hW => ⟨⟨_, ch, rfl, ⟨by simp [chR, okc, c_4], by simp [chN, okc, c_4]⟩, by rw [ht]; exact hP, hD⟩, hS.F ht⟩) hS.2.2 dX2_channel_22
  ·
    refine lv_iload_n hx hb dX2_channel_7 rfl (lv_at hl 2 rfl) ?_
    refine lv_iconst (v := (-1)) hx hb dX2_channel_8 (by decide +kernel) ?_
    refine lv_icmp_lt (tgt := 20) hx hb dX2_channel_9 (by decide) (fun c_9 => ?_) (fun c_9 => ?_)
    ·
      refine lv_bipush (v := (-2)) hx hb dX2_channel_20 (by decide +kernel) ?_
      exact W.iret (v := (-2)) hx hb hr (fun t ht hW => ⟨⟨_, ch, rfl, ⟨by simp [chR, okc, c_4, c_9], by simp [chN, okc, c_4, c_9]⟩, by rw [ht]; exact hP, hD⟩, hS.F ht⟩) hS.2.2 dX2_channel_22
    ·
      refine lv_iload_n hx hb dX2_channel_12 rfl (lv_at hl 2 rfl) ?_
      refine lv_aload_n hx hb dX2_channel_13 rfl (lv_at hl 0 rfl) ?_
      refine va_get (D := D) (ci := 3) (v := .int (nI L)) (C := RX2) (T := TX2) (N := 16) hx hb hts hinX2 hown hK.1 hP 0 rfl rfl 0 (by decide) (hts (.fieldLink RX2 13 "PrinterRows" "lines" "I") (by decide +kernel)) (fun _ h9 => h9) rfl dX2_channel_14 ?_
      refine lv_icmp_lt (tgt := 23) hx hb dX2_channel_17 (by decide) (fun c_17 => ?_) (fun c_17 => ?_)
      ·
        refine lv_aload_n hx hb dX2_channel_23 rfl (lv_at hl 0 rfl) ?_
        refine va_get (D := D) (ci := 3) (v := .ref aC) (C := RX2) (T := TX2) (N := 16) hx hb hts hinX2 hown hK.1 hP 0 rfl rfl 2 (by decide) (hts (.fieldLink RX2 20 "PrinterRows" "channelLines" "[I") (by decide +kernel)) (fun _ h9 => h9) rfl dX2_channel_24 ?_
        refine lv_iload_n hx hb dX2_channel_27 rfl (lv_at hl 1 rfl) ?_
        refine va_iald hx hb hK.1 hP 1 0 rfl rfl (isCh_in c_4) dX2_channel_28 ?_
        refine lv_istore_n (lv' := [(3, .int (ch (c0).toNatClampNeg)), (0, .ref x), (1, .int c0), (2, .int l0)]) hx hb dX2_channel_29 rfl hl (by decide) rfl (fun ls hl => ?_)
        refine lv_aload_n hx hb dX2_channel_30 rfl (lv_at hl 1 rfl) ?_
        refine va_get (D := D) (ci := 3) (v := .ref aC) (C := RX2) (T := TX2) (N := 16) hx hb hts hinX2 hown hK.1 hP 0 rfl rfl 2 (by decide) (hts (.fieldLink RX2 20 "PrinterRows" "channelLines" "[I") (by decide +kernel)) (fun _ h9 => h9) rfl dX2_channel_31 ?_
        refine lv_iload_n hx hb dX2_channel_34 rfl (lv_at hl 2 rfl) ?_
        refine lv_iload_n hx hb dX2_channel_35 rfl (lv_at hl 3 rfl) ?_
        refine va_iast hx hb hK.1 hP hD hS 1 0 rfl rfl (isCh_in c_4) dX2_channel_36 (fun H locs hP hD hS => ?_)
        have hP : va_P D vwCl (wX cI cP x aC aT aR aP (nI L) (nI C) (nI rl) (nI bg) (zb on) (nI st) mk rp sp sc sk fa (upd ch (c0).toNatClampNeg l0) tr rc pg pl) H := hP
        have hD : va_D A (wX cI cP x aC aT aR aP (nI L) (nI C) (nI rl) (nI bg) (zb on) (nI st) mk rp sp sc sk fa (upd ch (c0).toNatClampNeg l0) tr rc pg pl) := hD
        refine lv_iload_n hx hb dX2_channel_37 rfl (lv_at hl 0 rfl) ?_
        exact W.iret (v := (ch (c0).toNatClampNeg)) hx hb hr (fun t ht hW => ⟨⟨_, _, rfl, ⟨by simp [chR, okc, c_4, c_9, c_17], by simp [chN, okc, c_4, c_9, c_17]⟩, by rw [ht]; exact hP, hD⟩, hS.F ht⟩) hS.2.2 dX2_channel_38
      ·
        refine lv_bipush (v := (-2)) hx hb dX2_channel_20 (by decide +kernel) ?_
        exact W.iret (v := (-2)) hx hb hr (fun t ht hW => ⟨⟨_, ch, rfl, ⟨by simp [chR, okc, c_4, c_9, c_17], by simp [chN, okc, c_4, c_9, c_17]⟩, by rw [ht]; exact hP, hD⟩, hS.F ht⟩) hS.2.2 dX2_channel_22

set_option maxHeartbeats 1000000 in
set_option maxRecDepth 100000 in
theorem c_X2_sign (l : Launch) {D : va_G} {cI cP cR cJ : ClassId} {x aC aT aR aP L C rl bg st : Nat} {on : Bool} {mk rp sp sc sk fa : Int32} {ch tr rc : Nat → Int32} {pg : Nat → Option Nat} {pl : va_W} {sz : Nat} (hrl : rl ≤ 200) (c0 : Int32) : Met l yX2_sign wsX2_sign ({ frames := 1, cells := 0, slots := 0, locals := 22 }) (mu [.ref x, .int c0] D cI cP cR cJ (wX cI cP x aC aT aR aP (nI L) (nI C) (nI rl) (nI bg) (zb on) (nI st) mk rp sp sc sk fa ch tr rc pg pl) sz) (qv D (fun (u : (Nat → Int32) × Nat) => u = (sgC rl rc c0, sgL rl)) (fun u : (Nat → Int32) × Nat => wX cI cP x aC aT aR aP (nI L) (nI C) (nI u.2) (nI bg) (zb on) (nI st) mk rp sp sc sk fa ch tr u.1 pg pl) (va_A (wX cI cP x aC aT aR aP (nI L) (nI C) (nI rl) (nI bg) (zb on) (nI st) mk rp sp sc sk fa ch tr rc pg pl) sz)) 0 0 (va_A (wX cI cP x aC aT aR aP (nI L) (nI C) (nI rl) (nI bg) (zb on) (nI st) mk rp sp sc sk fa ch tr rc pg pl) sz) := by
  refine Met.ofW (cc := cX2_sign) (maxL := 2) (ret := none) (by decide) rfl ?_
  intro p e s m args below meth c s₁ B hml hv
  obtain ⟨rfl, hsz, hP, hK, hD0⟩ := hv
  have hx := B.exec
  have hb := B.bytes
  have hr := B.returns
  have hts := atoms_spec (ws := wsX2_sign) B.pre
  have hown : s.vm.findClass RX2 = some m.cls := findClass_of_methodNamed B.named
  have hlocks := B.notSynchronized
  have hinX2 : ∀ w ∈ wsX20, w ∈ wsX2_sign := by decide +kernel
  subst hsz
  have hD := hD0.self (sz := s.heap.size)
  generalize hAe : va_A (wX cI cP x aC aT aR aP (nI L) (nI C) (nI rl) (nI bg) (zb on) (nI st) mk rp sp sc sk fa ch tr rc pg pl) s.heap.size = A at hD ⊢
  have hA : ∀ q : Nat, s.heap.size ≤ q → A q := fun q h => by rw [← hAe]; exact Or.inr h
  have hS : va_S A s.heap s.heap [] := va_S.rf
  have hP : va_P D vwCl (wX cI cP x aC aT aR aP (nI L) (nI C) (nI rl) (nI bg) (zb on) (nI st) mk rp sp sc sk fa ch tr rc pg pl) s.heap := hP
  have hl := lv_entry ([.ref x, .int c0]) (n := 2) (Nat.le_of_ble_eq_true rfl)
  rw [lg_entry_eq]
  generalize (lg_sl ([.ref x, .int c0]) ++ List.replicate (2 - (lg_sl ([.ref x, .int c0])).length) Slot.unset).toArray = ls at hl ⊢
  have hl : lv_has ls 2 [(0, .ref x), (1, .int c0)] := hl
  refine lv_aload_n hx hb dX2_sign_0 rfl (lv_at hl 0 rfl) ?_
  refine va_get (D := D) (ci := 3) (v := .int (nI rl)) (C := RX2) (T := TX2) (N := 16) hx hb hts hinX2 hown hK.1 hP 0 rfl rfl 5 (by decide) (hts (.fieldLink RX2 46 "PrinterRows" "recordLength" "I") (by decide +kernel)) (fun _ h9 => h9) rfl dX2_sign_1 ?_
  refine lv_if_lt (tgt := 19) hx hb dX2_sign_4 (by decide) (fun c_4 => absurd c_4 (nI_pos (by omega))) (fun c_4 => ?_)
  refine lv_aload_n hx hb dX2_sign_7 rfl (lv_at hl 0 rfl) ?_
  refine va_get (D := D) (ci := 3) (v := .int (nI rl)) (C := RX2) (T := TX2) (N := 16) hx hb hts hinX2 hown hK.1 hP 0 rfl rfl 5 (by decide) (hts (.fieldLink RX2 46 "PrinterRows" "recordLength" "I") (by decide +kernel)) (fun _ h9 => h9) rfl dX2_sign_8 ?_
  refine lv_aload_n hx hb dX2_sign_11 rfl (lv_at hl 0 rfl) ?_
  refine va_get (D := D) (ci := 3) (v := .ref aR) (C := RX2) (T := TX2) (N := 16) hx hb hts hinX2 hown hK.1 hP 0 rfl rfl 4 (by decide) (hts (.fieldLink RX2 33 "PrinterRows" "record" "[I") (by decide +kernel)) (fun _ h9 => h9) rfl dX2_sign_12 ?_
  refine va_alen (v := 200) hx hb hK.1 hP 3 0 rfl rfl rfl dX2_sign_15 ?_
  refine lv_icmp_lt (tgt := 20) hx hb dX2_sign_16 (by decide) (fun c_16 => ?_) (fun c_16 => ?_)
  ·
    refine lv_aload_n hx hb dX2_sign_20 rfl (lv_at hl 0 rfl) ?_
    refine va_get (D := D) (ci := 3) (v := .ref aR) (C := RX2) (T := TX2) (N := 16) hx hb hts hinX2 hown hK.1 hP 0 rfl rfl 4 (by decide) (hts (.fieldLink RX2 33 "PrinterRows" "record" "[I") (by decide +kernel)) (fun _ h9 => h9) rfl dX2_sign_21 ?_
    refine lv_aload_n hx hb dX2_sign_24 rfl (lv_at hl 0 rfl) ?_
    refine va_get (D := D) (ci := 3) (v := .int (nI rl)) (C := RX2) (T := TX2) (N := 16) hx hb hts hinX2 hown hK.1 hP 0 rfl rfl 5 (by decide) (hts (.fieldLink RX2 46 "PrinterRows" "recordLength" "I") (by decide +kernel)) (fun _ h9 => h9) rfl dX2_sign_25 ?_
    refine lv_bipush (v := 32) hx hb dX2_sign_28 (by decide +kernel) ?_
    refine lv_iload_n hx hb dX2_sign_30 rfl (lv_at hl 1 rfl) ?_
    refine lv_sipush (v := 256) hx hb dX2_sign_31 (by decide +kernel) ?_
    refine vp_callSi (W.runS (As := [.int c0, .int 256]) (rest := [.int 32, .int (nI rl), .ref aR]) ⟨hx, hb, hml, hown, hts⟩ (c_J9_floorMod_7cf53 l c0 256 (by decide)) (va_cwS 2 hts gX2_sign_J9_floorMod_7cf53 rfl rfl rfl (by decide +kernel) ⟨(Nat.le_of_ble_eq_true rfl), (Nat.le_of_ble_eq_true rfl)⟩) pu_pre rfl rfl hl.1 rfl (lv_room (Nat.le_of_ble_eq_true rfl)) dX2_sign_34 ⟨(Nat.le_of_ble_eq_true rfl), (Nat.le_of_ble_eq_true rfl)⟩) (fun r_34 w_34 => ?_)
    subst w_34
    refine va_mmax hx hb (by rw [hml]; exact hl.1.symm) hown (hts (.methodLink RX2 54 Lib.Math.max.name) (by decide +kernel)) (hts (.static Lib.Math.max.name) (by decide +kernel)) (hts (.initialized "java/lang/Math") (by decide +kernel)) (hts (.code Lib.Math.max.name Lib.Math.max.code 2 (some .int)) (by decide +kernel)) (Nat.le_of_ble_eq_true rfl) (Nat.le_of_ble_eq_true rfl) (Nat.le_of_ble_eq_true rfl) (Nat.le_of_ble_eq_true rfl) dX2_sign_37 ?_
    refine va_iast hx hb hK.1 hP hD hS 3 0 rfl rfl (vp_in_nI (nI_ltI (a := rl) (b := 200) (by omega) (by decide) |>.mp c_16) (by decide)) dX2_sign_40 (fun H locs hP hD hS => ?_)
    rw [show (upd rc ((nI rl)).toNatClampNeg (if 32 < (fMod c0 256) then (fMod c0 256) else 32)) = (upd rc rl (sgV c0)) from by rw [nI_clamp (by omega)]; rfl] at hP hD
    have hP : va_P D vwCl (wX cI cP x aC aT aR aP (nI L) (nI C) (nI rl) (nI bg) (zb on) (nI st) mk rp sp sc sk fa ch tr (upd rc rl (sgV c0)) pg pl) H := hP
    have hD : va_D A (wX cI cP x aC aT aR aP (nI L) (nI C) (nI rl) (nI bg) (zb on) (nI st) mk rp sp sc sk fa ch tr (upd rc rl (sgV c0)) pg pl) := hD
    refine lv_aload_n hx hb dX2_sign_41 rfl (lv_at hl 0 rfl) ?_
    refine lv_dup hx hb dX2_sign_42 rfl ?_
    refine va_get (D := D) (ci := 3) (v := .int (nI rl)) (C := RX2) (T := TX2) (N := 16) hx hb hts hinX2 hown hK.1 hP 0 rfl rfl 5 (by decide) (hts (.fieldLink RX2 46 "PrinterRows" "recordLength" "I") (by decide +kernel)) (fun _ h9 => h9) rfl dX2_sign_43 ?_
    refine lv_iconst (v := 1) hx hb dX2_sign_46 (by decide +kernel) ?_
    refine lv_iadd hx hb dX2_sign_47 ?_
    refine lv_topi (fun x_47 ex_47 => ?_)
    obtain rfl : x_47 = nI (rl + 1) := ex_47.trans (nI_1 rl)
    refine va_put (D := D) (ci := 3) (v := .int (nI (rl + 1))) (ty := .int) (C := RX2) (T := TX2) (N := 16) hx hb hts hinX2 tyX2 tyX2_ok nmX2 hown hK.1 hP hD hS 0 rfl rfl 5 (by decide) (hts (.fieldLink RX2 46 "PrinterRows" "recordLength" "I") (by decide +kernel)) (fun _ h9 => h9) rfl (by decide +kernel) rfl rfl (Nat.le_of_ble_eq_true rfl) dX2_sign_48 (fun H locs hP hD hS => ?_)
    have hP : va_P D vwCl (wX cI cP x aC aT aR aP (nI L) (nI C) (nI (rl + 1)) (nI bg) (zb on) (nI st) mk rp sp sc sk fa ch tr (upd rc rl (sgV c0)) pg pl) H := hP
    have hD : va_D A (wX cI cP x aC aT aR aP (nI L) (nI C) (nI (rl + 1)) (nI bg) (zb on) (nI st) mk rp sp sc sk fa ch tr (upd rc rl (sgV c0)) pg pl) := hD
    exact W.vret hx hb hr (fun t ht hW => ⟨⟨(upd rc rl (sgV c0), rl + 1), rfl, by rw [sgC, sgL, if_pos ((nI_ltI (a := rl) (b := 200) (by omega) (by decide)).mp c_16), if_pos ((nI_ltI (a := rl) (b := 200) (by omega) (by decide)).mp c_16)], by rw [ht]; exact hP, hD⟩, hS.F ht⟩) hS.2.2 dX2_sign_51
  ·
    exact W.vret hx hb hr (fun t ht hW => ⟨⟨(rc, rl), rfl, by rw [sgC, sgL, if_neg (fun h9 => c_16 (nI_lt (b := 200) h9 (by decide))), if_neg (fun h9 => c_16 (nI_lt (b := 200) h9 (by decide)))], by rw [ht]; exact hP, hD⟩, hS.F ht⟩) hS.2.2 dX2_sign_19

set_option maxHeartbeats 1000000 in
set_option maxRecDepth 100000 in
theorem c_X2_countSkip (l : Launch) {D : va_G} {cI cP cR cJ : ClassId} {x aC aT aR aP L C rl bg st : Nat} {on : Bool} {mk rp sp sc sk fa : Int32} {ch tr rc : Nat → Int32} {pg : Nat → Option Nat} {pl : va_W} {sz : Nat} (c0 : Int32) : Met l yX2_countSkip wsX2_countSkip ({ frames := 1, cells := 0, slots := 0, locals := 20 }) (mu [.ref x, .int c0] D cI cP cR cJ (wX cI cP x aC aT aR aP (nI L) (nI C) (nI rl) (nI bg) (zb on) (nI st) mk rp sp sc sk fa ch tr rc pg pl) sz) (qv D (fun (u : Int32) => u = skN ch sk c0) (fun u : Int32 => wX cI cP x aC aT aR aP (nI L) (nI C) (nI rl) (nI bg) (zb on) (nI st) mk rp sp sc u fa ch tr rc pg pl) (va_A (wX cI cP x aC aT aR aP (nI L) (nI C) (nI rl) (nI bg) (zb on) (nI st) mk rp sp sc sk fa ch tr rc pg pl) sz)) 0 0 (va_A (wX cI cP x aC aT aR aP (nI L) (nI C) (nI rl) (nI bg) (zb on) (nI st) mk rp sp sc sk fa ch tr rc pg pl) sz) := by
  refine Met.ofW (cc := cX2_countSkip) (maxL := 2) (ret := none) (by decide) rfl ?_
  intro p e s m args below meth c s₁ B hml hv
  obtain ⟨rfl, hsz, hP, hK, hD0⟩ := hv
  have hx := B.exec
  have hb := B.bytes
  have hr := B.returns
  have hts := atoms_spec (ws := wsX2_countSkip) B.pre
  have hown : s.vm.findClass RX2 = some m.cls := findClass_of_methodNamed B.named
  have hlocks := B.notSynchronized
  have hinX2 : ∀ w ∈ wsX20, w ∈ wsX2_countSkip := by decide +kernel
  subst hsz
  have hD := hD0.self (sz := s.heap.size)
  generalize hAe : va_A (wX cI cP x aC aT aR aP (nI L) (nI C) (nI rl) (nI bg) (zb on) (nI st) mk rp sp sc sk fa ch tr rc pg pl) s.heap.size = A at hD ⊢
  have hA : ∀ q : Nat, s.heap.size ≤ q → A q := fun q h => by rw [← hAe]; exact Or.inr h
  have hS : va_S A s.heap s.heap [] := va_S.rf
  have hP : va_P D vwCl (wX cI cP x aC aT aR aP (nI L) (nI C) (nI rl) (nI bg) (zb on) (nI st) mk rp sp sc sk fa ch tr rc pg pl) s.heap := hP
  have hl := lv_entry ([.ref x, .int c0]) (n := 2) (Nat.le_of_ble_eq_true rfl)
  rw [lg_entry_eq]
  generalize (lg_sl ([.ref x, .int c0]) ++ List.replicate (2 - (lg_sl ([.ref x, .int c0])).length) Slot.unset).toArray = ls at hl ⊢
  have hl : lv_has ls 2 [(0, .ref x), (1, .int c0)] := hl
  refine lv_iload_n hx hb dX2_countSkip_0 rfl (lv_at hl 1 rfl) ?_
  refine vp_callSi (W.runS (As := [.int c0]) (rest := []) ⟨hx, hb, hml, hown, hts⟩ (c_X2_isChannel l (c0)) (va_cwS 1 hts gX2_countSkip_X2_isChannel rfl rfl rfl (by decide +kernel) ⟨(Nat.le_of_ble_eq_true rfl), (Nat.le_of_ble_eq_true rfl)⟩) pu_pre rfl rfl hl.1 rfl (lv_room (Nat.le_of_ble_eq_true rfl)) dX2_countSkip_1 ⟨(Nat.le_of_ble_eq_true rfl), (Nat.le_of_ble_eq_true rfl)⟩) (fun r_1 w_1 => ?_)
  subst w_1
  refine lv_if_eq (tgt := 27) hx hb dX2_countSkip_4 (by decide) (fun c_4 => ?_) (fun c_4 => ?_)
  ·
    exact W.vret hx hb hr (fun t ht hW => ⟨⟨sk, rfl, by rw [skN, if_pos c_4], by rw [ht]; exact hP, hD⟩, hS.F ht⟩) hS.2.2 dX2_countSkip_27
  ·
    refine lv_aload_n hx hb dX2_countSkip_7 rfl (lv_at hl 0 rfl) ?_
    refine va_get (D := D) (ci := 3) (v := .ref aC) (C := RX2) (T := TX2) (N := 16) hx hb hts hinX2 hown hK.1 hP 0 rfl rfl 2 (by decide) (hts (.fieldLink RX2 20 "PrinterRows" "channelLines" "[I") (by decide +kernel)) (fun _ h9 => h9) rfl dX2_countSkip_8 ?_
    refine lv_iload_n hx hb dX2_countSkip_11 rfl (lv_at hl 1 rfl) ?_
    refine va_iald hx hb hK.1 hP 1 0 rfl rfl (isCh_in c_4) dX2_countSkip_12 ?_
    refine lv_iconst (v := (-1)) hx hb dX2_countSkip_13 (by decide +kernel) ?_
    refine lv_icmp_ne (tgt := 27) hx hb dX2_countSkip_14 (by decide) (fun c_14 => ?_) (fun c_14 => ?_)
    ·
      exact W.vret hx hb hr (fun t ht hW => ⟨⟨sk, rfl, by rw [skN, if_neg c_4, if_pos c_14], by rw [ht]; exact hP, hD⟩, hS.F ht⟩) hS.2.2 dX2_countSkip_27
    ·
      refine lv_aload_n hx hb dX2_countSkip_17 rfl (lv_at hl 0 rfl) ?_
      refine lv_dup hx hb dX2_countSkip_18 rfl ?_
      refine va_get (D := D) (ci := 3) (v := .int sk) (C := RX2) (T := TX2) (N := 16) hx hb hts hinX2 hown hK.1 hP 0 rfl rfl 14 (by decide) (hts (.fieldLink RX2 137 "PrinterRows" "skipsToNoLine" "I") (by decide +kernel)) (fun _ h9 => h9) rfl dX2_countSkip_19 ?_
      refine lv_iconst (v := 1) hx hb dX2_countSkip_22 (by decide +kernel) ?_
      refine lv_iadd hx hb dX2_countSkip_23 ?_
      refine va_put (D := D) (ci := 3) (v := .int (sk + 1)) (ty := .int) (C := RX2) (T := TX2) (N := 16) hx hb hts hinX2 tyX2 tyX2_ok nmX2 hown hK.1 hP hD hS 0 rfl rfl 14 (by decide) (hts (.fieldLink RX2 137 "PrinterRows" "skipsToNoLine" "I") (by decide +kernel)) (fun _ h9 => h9) rfl (by decide +kernel) rfl rfl (Nat.le_of_ble_eq_true rfl) dX2_countSkip_24 (fun H locs hP hD hS => ?_)
      have hP : va_P D vwCl (wX cI cP x aC aT aR aP (nI L) (nI C) (nI rl) (nI bg) (zb on) (nI st) mk rp sp sc (sk + 1) fa ch tr rc pg pl) H := hP
      have hD : va_D A (wX cI cP x aC aT aR aP (nI L) (nI C) (nI rl) (nI bg) (zb on) (nI st) mk rp sp sc (sk + 1) fa ch tr rc pg pl) := hD
      exact W.vret hx hb hr (fun t ht hW => ⟨⟨(sk + 1), rfl, by rw [skN, if_neg c_4, if_neg (fun h9 => h9 c_14)], by rw [ht]; exact hP, hD⟩, hS.F ht⟩) hS.2.2 dX2_countSkip_27

set_option maxHeartbeats 1000000 in
set_option maxRecDepth 100000 in
theorem c_X2_standOnNewPage (l : Launch) {D : va_G} {cI cP cR cJ : ClassId} {x aC aT aR aP L C rl bg st : Nat} {on : Bool} {mk rp sp sc sk fa : Int32} {ch tr rc : Nat → Int32} {pg : Nat → Option Nat} {pl : va_W} {sz : Nat} : Met l yX2_standOnNewPage wsX2_standOnNewPage ({ frames := 0, cells := 0, slots := 0, locals := 0 }) (mu [.ref x] D cI cP cR cJ (wX cI cP x aC aT aR aP (nI L) (nI C) (nI rl) (nI bg) (zb on) (nI st) mk rp sp sc sk fa ch tr rc pg pl) sz) (qv D (fun (_ : Unit) => True) (fun _ : Unit => wX cI cP x aC aT aR aP (nI L) (nI C) (nI rl) (nI bg) (zb false) (nI 0) mk rp sp sc sk fa ch tr rc pg pl) (va_A (wX cI cP x aC aT aR aP (nI L) (nI C) (nI rl) (nI bg) (zb on) (nI st) mk rp sp sc sk fa ch tr rc pg pl) sz)) 0 0 (va_A (wX cI cP x aC aT aR aP (nI L) (nI C) (nI rl) (nI bg) (zb on) (nI st) mk rp sp sc sk fa ch tr rc pg pl) sz) := by
  refine Met.ofW (cc := cX2_standOnNewPage) (maxL := 1) (ret := none) (by decide) rfl ?_
  intro p e s m args below meth c s₁ B hml hv
  obtain ⟨rfl, hsz, hP, hK, hD0⟩ := hv
  have hx := B.exec
  have hb := B.bytes
  have hr := B.returns
  have hts := atoms_spec (ws := wsX2_standOnNewPage) B.pre
  have hown : s.vm.findClass RX2 = some m.cls := findClass_of_methodNamed B.named
  have hlocks := B.notSynchronized
  have hinX2 : ∀ w ∈ wsX20, w ∈ wsX2_standOnNewPage := by decide +kernel
  subst hsz
  have hD := hD0.self (sz := s.heap.size)
  generalize hAe : va_A (wX cI cP x aC aT aR aP (nI L) (nI C) (nI rl) (nI bg) (zb on) (nI st) mk rp sp sc sk fa ch tr rc pg pl) s.heap.size = A at hD ⊢
  have hA : ∀ q : Nat, s.heap.size ≤ q → A q := fun q h => by rw [← hAe]; exact Or.inr h
  have hS : va_S A s.heap s.heap [] := va_S.rf
  have hP : va_P D vwCl (wX cI cP x aC aT aR aP (nI L) (nI C) (nI rl) (nI bg) (zb on) (nI st) mk rp sp sc sk fa ch tr rc pg pl) s.heap := hP
  have hl := lv_entry ([.ref x]) (n := 1) (Nat.le_of_ble_eq_true rfl)
  rw [lg_entry_eq]
  generalize (lg_sl ([.ref x]) ++ List.replicate (1 - (lg_sl ([.ref x])).length) Slot.unset).toArray = ls at hl ⊢
  have hl : lv_has ls 1 [(0, .ref x)] := hl
  refine lv_aload_n hx hb dX2_standOnNewPage_0 rfl (lv_at hl 0 rfl) ?_
  refine lv_iconst (v := 0) hx hb dX2_standOnNewPage_1 (by decide +kernel) ?_
  refine va_put (D := D) (ci := 3) (v := .int 0) (ty := .boolean) (C := RX2) (T := TX2) (N := 16) hx hb hts hinX2 tyX2 tyX2_ok nmX2 hown hK.1 hP hD hS 0 rfl rfl 8 (by decide) (hts (.fieldLink RX2 146 "PrinterRows" "onBegunPage" "Z") (by decide +kernel)) (fun _ h9 => h9) rfl (by decide +kernel) (by decide +kernel) (by decide +kernel) (Nat.le_of_ble_eq_true rfl) dX2_standOnNewPage_2 (fun H locs hP hD hS => ?_)
  have hP : va_P D vwCl (wX cI cP x aC aT aR aP (nI L) (nI C) (nI rl) (nI bg) 0 (nI st) mk rp sp sc sk fa ch tr rc pg pl) H := hP
  have hD : va_D A (wX cI cP x aC aT aR aP (nI L) (nI C) (nI rl) (nI bg) 0 (nI st) mk rp sp sc sk fa ch tr rc pg pl) := hD
  refine lv_aload_n hx hb dX2_standOnNewPage_5 rfl (lv_at hl 0 rfl) ?_
  refine lv_iconst (v := 0) hx hb dX2_standOnNewPage_6 (by decide +kernel) ?_
  refine va_put (D := D) (ci := 3) (v := .int 0) (ty := .int) (C := RX2) (T := TX2) (N := 16) hx hb hts hinX2 tyX2 tyX2_ok nmX2 hown hK.1 hP hD hS 0 rfl rfl 9 (by decide) (hts (.fieldLink RX2 125 "PrinterRows" "standLine" "I") (by decide +kernel)) (fun _ h9 => h9) rfl (by decide +kernel) rfl rfl (Nat.le_of_ble_eq_true rfl) dX2_standOnNewPage_7 (fun H locs hP hD hS => ?_)
  have hP : va_P D vwCl (wX cI cP x aC aT aR aP (nI L) (nI C) (nI rl) (nI bg) 0 0 mk rp sp sc sk fa ch tr rc pg pl) H := hP
  have hD : va_D A (wX cI cP x aC aT aR aP (nI L) (nI C) (nI rl) (nI bg) 0 0 mk rp sp sc sk fa ch tr rc pg pl) := hD
  exact W.vret hx hb hr (fun t ht hW => ⟨⟨(), rfl, trivial, by rw [ht]; exact hP, hD⟩, hS.F ht⟩) hS.2.2 dX2_standOnNewPage_10

set_option maxHeartbeats 1000000 in
set_option maxRecDepth 100000 in
theorem c_X2_end (l : Launch) {D : va_G} {cI cP cR cJ : ClassId} {x aC aT aR aP L C rl bg st : Nat} {on : Bool} {mk rp sp sc sk fa : Int32} {ch tr rc : Nat → Int32} {pg : Nat → Option Nat} {pl : va_W} {sz : Nat} : Met l yX2_end wsX2_end ({ frames := 1, cells := 0, slots := 0, locals := 20 }) (mu [.ref x] D cI cP cR cJ (wX cI cP x aC aT aR aP (nI L) (nI C) (nI rl) (nI bg) (zb on) (nI st) mk rp sp sc sk fa ch tr rc pg pl) sz) (qi D (fun (r : Int32) (_ : Unit) => r = nI bg) (fun _ : Unit => wX cI cP x aC aT aR aP (nI L) (nI C) (nI rl) (nI bg) (zb false) (nI 0) mk rp sp sc sk fa ch tr rc pg pl) (va_A (wX cI cP x aC aT aR aP (nI L) (nI C) (nI rl) (nI bg) (zb on) (nI st) mk rp sp sc sk fa ch tr rc pg pl) sz)) 0 0 (va_A (wX cI cP x aC aT aR aP (nI L) (nI C) (nI rl) (nI bg) (zb on) (nI st) mk rp sp sc sk fa ch tr rc pg pl) sz) := by
  refine Met.ofW (cc := cX2_end) (maxL := 1) (ret := (some .int)) (by decide) rfl ?_
  intro p e s m args below meth c s₁ B hml hv
  obtain ⟨rfl, hsz, hP, hK, hD0⟩ := hv
  have hx := B.exec
  have hb := B.bytes
  have hr := B.returns
  have hts := atoms_spec (ws := wsX2_end) B.pre
  have hown : s.vm.findClass RX2 = some m.cls := findClass_of_methodNamed B.named
  have hlocks := B.notSynchronized
  have hinX2 : ∀ w ∈ wsX20, w ∈ wsX2_end := by decide +kernel
  subst hsz
  have hD := hD0.self (sz := s.heap.size)
  generalize hAe : va_A (wX cI cP x aC aT aR aP (nI L) (nI C) (nI rl) (nI bg) (zb on) (nI st) mk rp sp sc sk fa ch tr rc pg pl) s.heap.size = A at hD ⊢
  have hA : ∀ q : Nat, s.heap.size ≤ q → A q := fun q h => by rw [← hAe]; exact Or.inr h
  have hS : va_S A s.heap s.heap [] := va_S.rf
  have hP : va_P D vwCl (wX cI cP x aC aT aR aP (nI L) (nI C) (nI rl) (nI bg) (zb on) (nI st) mk rp sp sc sk fa ch tr rc pg pl) s.heap := hP
  have hl := lv_entry ([.ref x]) (n := 1) (Nat.le_of_ble_eq_true rfl)
  rw [lg_entry_eq]
  generalize (lg_sl ([.ref x]) ++ List.replicate (1 - (lg_sl ([.ref x])).length) Slot.unset).toArray = ls at hl ⊢
  have hl : lv_has ls 1 [(0, .ref x)] := hl
  refine lv_aload_n hx hb dX2_end_0 rfl (lv_at hl 0 rfl) ?_
  refine callQv (va_runV (As := []) (rest := []) ⟨hx, hb, hml, hown, hts⟩ (c_X2_standOnNewPage l) (cwV 0 hts gX2_end_X2_standOnNewPage rfl rfl rfl (by decide +kernel) ⟨(Nat.le_of_ble_eq_true rfl), (Nat.le_of_ble_eq_true rfl)⟩) (mu_pre hK hP hD rfl 0 rfl) rfl rfl hl.1 rfl (lv_room (Nat.le_of_ble_eq_true rfl)) dX2_end_1 ⟨(Nat.le_of_ble_eq_true rfl), (Nat.le_of_ble_eq_true rfl)⟩) hD hS hA (fun u_1 H locs w_1 hP hD hS => ?_)
  have hP : va_P D vwCl (wX cI cP x aC aT aR aP (nI L) (nI C) (nI rl) (nI bg) (zb false) (nI 0) mk rp sp sc sk fa ch tr rc pg pl) H := hP
  have hD : va_D A (wX cI cP x aC aT aR aP (nI L) (nI C) (nI rl) (nI bg) (zb false) (nI 0) mk rp sp sc sk fa ch tr rc pg pl) := hD
  refine lv_aload_n hx hb dX2_end_4 rfl (lv_at hl 0 rfl) ?_
  refine va_get (D := D) (ci := 3) (v := .int (nI bg)) (C := RX2) (T := TX2) (N := 16) hx hb hts hinX2 hown hK.1 hP 0 rfl rfl 7 (by decide) (hts (.fieldLink RX2 86 "PrinterRows" "begun" "I") (by decide +kernel)) (fun _ h9 => h9) rfl dX2_end_5 ?_
  exact W.iret (v := (nI bg)) hx hb hr (fun t ht hW => ⟨⟨_, (), rfl, rfl, by rw [ht]; exact hP, hD⟩, hS.F ht⟩) hS.2.2 dX2_end_8

set_option maxHeartbeats 1000000 in
set_option maxRecDepth 100000 in
theorem c_X2_translate (l : Launch) {D : va_G} {cI cP cR cJ : ClassId} {x aC aT aR aP L C rl bg st : Nat} {on : Bool} {mk rp sp sc sk fa : Int32} {ch tr rc : Nat → Int32} {pg : Nat → Option Nat} {pl : va_W} {sz : Nat} (c0 t0 : Int32) : Met l yX2_translate wsX2_translate ({ frames := 1, cells := 0, slots := 0, locals := 20 }) (mu [.ref x, .int c0, .int t0] D cI cP cR cJ (wX cI cP x aC aT aR aP (nI L) (nI C) (nI rl) (nI bg) (zb on) (nI st) mk rp sp sc sk fa ch tr rc pg pl) sz) (qi D (fun (r : Int32) (u : Nat → Int32) => r = trR tr c0 t0 ∧ u = trN tr c0 t0) (fun u : Nat → Int32 => wX cI cP x aC aT aR aP (nI L) (nI C) (nI rl) (nI bg) (zb on) (nI st) mk rp sp sc sk fa ch u rc pg pl) (va_A (wX cI cP x aC aT aR aP (nI L) (nI C) (nI rl) (nI bg) (zb on) (nI st) mk rp sp sc sk fa ch tr rc pg pl) sz)) 0 0 (va_A (wX cI cP x aC aT aR aP (nI L) (nI C) (nI rl) (nI bg) (zb on) (nI st) mk rp sp sc sk fa ch tr rc pg pl) sz) := by
  refine Met.ofW (cc := cX2_translate) (maxL := 4) (ret := (some .int)) (by decide) rfl ?_
  intro p e s m args below meth c s₁ B hml hv
  obtain ⟨rfl, hsz, hP, hK, hD0⟩ := hv
  have hx := B.exec
  have hb := B.bytes
  have hr := B.returns
  have hts := atoms_spec (ws := wsX2_translate) B.pre
  have hown : s.vm.findClass RX2 = some m.cls := findClass_of_methodNamed B.named
  have hlocks := B.notSynchronized
  have hinX2 : ∀ w ∈ wsX20, w ∈ wsX2_translate := by decide +kernel
  subst hsz
  have hD := hD0.self (sz := s.heap.size)
  generalize hAe : va_A (wX cI cP x aC aT aR aP (nI L) (nI C) (nI rl) (nI bg) (zb on) (nI st) mk rp sp sc sk fa ch tr rc pg pl) s.heap.size = A at hD ⊢
  have hA : ∀ q : Nat, s.heap.size ≤ q → A q := fun q h => by rw [← hAe]; exact Or.inr h
  have hS : va_S A s.heap s.heap [] := va_S.rf
  have hP : va_P D vwCl (wX cI cP x aC aT aR aP (nI L) (nI C) (nI rl) (nI bg) (zb on) (nI st) mk rp sp sc sk fa ch tr rc pg pl) s.heap := hP
  have hl := lv_entry ([.ref x, .int c0, .int t0]) (n := 4) (Nat.le_of_ble_eq_true rfl)
  rw [lg_entry_eq]
  generalize (lg_sl ([.ref x, .int c0, .int t0]) ++ List.replicate (4 - (lg_sl ([.ref x, .int c0, .int t0])).length) Slot.unset).toArray = ls at hl ⊢
  have hl : lv_has ls 4 [(0, .ref x), (1, .int c0), (2, .int t0)] := hl
  refine lv_iload_n hx hb dX2_translate_0 rfl (lv_at hl 1 rfl) ?_
  refine vp_callSi (W.runS (As := [.int c0]) (rest := []) ⟨hx, hb, hml, hown, hts⟩ (c_X2_isSign l (c0)) (va_cwS 1 hts gX2_translate_X2_isSign rfl rfl rfl (by decide +kernel) ⟨(Nat.le_of_ble_eq_true rfl), (Nat.le_of_ble_eq_true rfl)⟩) pu_pre rfl rfl hl.1 rfl (lv_room (Nat.le_of_ble_eq_true rfl)) dX2_translate_1 ⟨(Nat.le_of_ble_eq_true rfl), (Nat.le_of_ble_eq_true rfl)⟩) (fun r_1 w_1 => ?_)
  subst w_1
  refine lv_if_eq (tgt := 14) hx hb dX2_translate_4 (by decide) (fun c_4 => ?_) (fun c_4 => ?_)
  ·
    refine lv_iconst (v := (-1)) hx hb dX2_translate_14 (by decide +kernel) ?_
    exact W.iret (v := (-1)) hx hb hr (fun t ht hW => ⟨⟨_, tr, rfl, ⟨by simp [trR, okt, c_4], by simp [trN, okt, c_4]⟩, by rw [ht]; exact hP, hD⟩, hS.F ht⟩) hS.2.2 dX2_translate_15
  ·
    refine lv_iload_n hx hb dX2_translate_7 rfl (lv_at hl 2 rfl) ?_
    refine vp_callSi (W.runS (As := [.int t0]) (rest := []) ⟨hx, hb, hml, hown, hts⟩ (c_X2_isSign l (t0)) (va_cwS 1 hts gX2_translate_X2_isSign rfl rfl rfl (by decide +kernel) ⟨(Nat.le_of_ble_eq_true rfl), (Nat.le_of_ble_eq_true rfl)⟩) pu_pre rfl rfl hl.1 rfl (lv_room (Nat.le_of_ble_eq_true rfl)) dX2_translate_8 ⟨(Nat.le_of_ble_eq_true rfl), (Nat.le_of_ble_eq_true rfl)⟩) (fun r_8 w_8 => ?_)
    subst w_8
    refine lv_if_ne (tgt := 16) hx hb dX2_translate_11 (by decide) (fun c_11 => ?_) (fun c_11 => ?_)
    ·
      refine lv_aload_n hx hb dX2_translate_16 rfl (lv_at hl 0 rfl) ?_
      refine va_get (D := D) (ci := 3) (v := .ref aT) (C := RX2) (T := TX2) (N := 16) hx hb hts hinX2 hown hK.1 hP 0 rfl rfl 3 (by decide) (hts (.fieldLink RX2 30 "PrinterRows" "printedAs" "[I") (by decide +kernel)) (fun _ h9 => h9) rfl dX2_translate_17 ?_
      refine lv_iload_n hx hb dX2_translate_20 rfl (lv_at hl 1 rfl) ?_
      refine va_iald hx hb hK.1 hP 2 0 rfl rfl (isSg_in c_4) dX2_translate_21 ?_
      refine lv_istore_n (lv' := [(3, .int (tr (c0).toNatClampNeg)), (0, .ref x), (1, .int c0), (2, .int t0)]) hx hb dX2_translate_22 rfl hl (by decide) rfl (fun ls hl => ?_)
      refine lv_aload_n hx hb dX2_translate_23 rfl (lv_at hl 1 rfl) ?_
      refine va_get (D := D) (ci := 3) (v := .ref aT) (C := RX2) (T := TX2) (N := 16) hx hb hts hinX2 hown hK.1 hP 0 rfl rfl 3 (by decide) (hts (.fieldLink RX2 30 "PrinterRows" "printedAs" "[I") (by decide +kernel)) (fun _ h9 => h9) rfl dX2_translate_24 ?_
      refine lv_iload_n hx hb dX2_translate_27 rfl (lv_at hl 2 rfl) ?_
      refine lv_iload_n hx hb dX2_translate_28 rfl (lv_at hl 3 rfl) ?_
      refine va_iast hx hb hK.1 hP hD hS 2 0 rfl rfl (isSg_in c_4) dX2_translate_29 (fun H locs hP hD hS => ?_)
      have hP : va_P D vwCl (wX cI cP x aC aT aR aP (nI L) (nI C) (nI rl) (nI bg) (zb on) (nI st) mk rp sp sc sk fa ch (upd tr (c0).toNatClampNeg t0) rc pg pl) H := hP
      have hD : va_D A (wX cI cP x aC aT aR aP (nI L) (nI C) (nI rl) (nI bg) (zb on) (nI st) mk rp sp sc sk fa ch (upd tr (c0).toNatClampNeg t0) rc pg pl) := hD
      refine lv_iload_n hx hb dX2_translate_30 rfl (lv_at hl 0 rfl) ?_
      exact W.iret (v := (tr (c0).toNatClampNeg)) hx hb hr (fun t ht hW => ⟨⟨_, _, rfl, ⟨by simp [trR, okt, c_4, c_11], by simp [trN, okt, c_4, c_11]⟩, by rw [ht]; exact hP, hD⟩, hS.F ht⟩) hS.2.2 dX2_translate_31
    ·
      refine lv_iconst (v := (-1)) hx hb dX2_translate_14 (by decide +kernel) ?_
      exact W.iret (v := (-1)) hx hb hr (fun t ht hW => ⟨⟨_, tr, rfl, ⟨by simp [trR, okt, c_4, c_11], by simp [trN, okt, c_4, c_11]⟩, by rw [ht]; exact hP, hD⟩, hS.F ht⟩) hS.2.2 dX2_translate_15

set_option maxHeartbeats 1000000 in
set_option maxRecDepth 100000 in
theorem c_X2_forms (l : Launch) {D : va_G} {cI cP cR cJ : ClassId} {x aC aT aR aP L C rl bg st : Nat} {on : Bool} {mk rp sp sc sk fa : Int32} {ch tr rc : Nat → Int32} {pg : Nat → Option Nat} {pl : va_W} {sz : Nat} (k0 : Int32) : Met l yX2_forms wsX2_forms ({ frames := 1, cells := 0, slots := 0, locals := 20 }) (mu [.ref x, .int k0] D cI cP cR cJ (wX cI cP x aC aT aR aP (nI L) (nI C) (nI rl) (nI bg) (zb on) (nI st) mk rp sp sc sk fa ch tr rc pg pl) sz) (qi D (fun (r : Int32) (u : Int32 × Int32 × Bool × Nat) => r = fmR mk k0 ∧ u = if fmD mk k0 then (k0, fa + 1, false, 0) else (mk, fa, on, st)) (fun u : Int32 × Int32 × Bool × Nat => wX cI cP x aC aT aR aP (nI L) (nI C) (nI rl) (nI bg) (zb u.2.2.1) (nI u.2.2.2) u.1 rp sp sc sk u.2.1 ch tr rc pg pl) (va_A (wX cI cP x aC aT aR aP (nI L) (nI C) (nI rl) (nI bg) (zb on) (nI st) mk rp sp sc sk fa ch tr rc pg pl) sz)) 0 0 (va_A (wX cI cP x aC aT aR aP (nI L) (nI C) (nI rl) (nI bg) (zb on) (nI st) mk rp sp sc sk fa ch tr rc pg pl) sz) := by
  refine Met.ofW (cc := cX2_forms) (maxL := 2) (ret := (some .int)) (by decide) rfl ?_
  intro p e s m args below meth c s₁ B hml hv
  obtain ⟨rfl, hsz, hP, hK, hD0⟩ := hv
  have hx := B.exec
  have hb := B.bytes
  have hr := B.returns
  have hts := atoms_spec (ws := wsX2_forms) B.pre
  have hown : s.vm.findClass RX2 = some m.cls := findClass_of_methodNamed B.named
  have hlocks := B.notSynchronized
  have hinX2 : ∀ w ∈ wsX20, w ∈ wsX2_forms := by decide +kernel
  subst hsz
  have hD := hD0.self (sz := s.heap.size)
  generalize hAe : va_A (wX cI cP x aC aT aR aP (nI L) (nI C) (nI rl) (nI bg) (zb on) (nI st) mk rp sp sc sk fa ch tr rc pg pl) s.heap.size = A at hD ⊢
  have hA : ∀ q : Nat, s.heap.size ≤ q → A q := fun q h => by rw [← hAe]; exact Or.inr h
  have hS : va_S A s.heap s.heap [] := va_S.rf
  have hP : va_P D vwCl (wX cI cP x aC aT aR aP (nI L) (nI C) (nI rl) (nI bg) (zb on) (nI st) mk rp sp sc sk fa ch tr rc pg pl) s.heap := hP
  have hl := lv_entry ([.ref x, .int k0]) (n := 2) (Nat.le_of_ble_eq_true rfl)
  rw [lg_entry_eq]
  generalize (lg_sl ([.ref x, .int k0]) ++ List.replicate (2 - (lg_sl ([.ref x, .int k0])).length) Slot.unset).toArray = ls at hl ⊢
  have hl : lv_has ls 2 [(0, .ref x), (1, .int k0)] := hl
  refine lv_iload_n hx hb dX2_forms_0 rfl (lv_at hl 1 rfl) ?_
  refine lv_if_ge (tgt := 7) hx hb dX2_forms_1 (by decide) (fun c_1 => ?_) (fun c_1 => ?_)
  ·
    refine lv_iload_n hx hb dX2_forms_7 rfl (lv_at hl 1 rfl) ?_
    refine lv_aload_n hx hb dX2_forms_8 rfl (lv_at hl 0 rfl) ?_
    refine va_get (D := D) (ci := 3) (v := .int mk) (C := RX2) (T := TX2) (N := 16) hx hb hts hinX2 hown hK.1 hP 0 rfl rfl 10 (by decide) (hts (.fieldLink RX2 119 "PrinterRows" "mountedKind" "I") (by decide +kernel)) (fun _ h9 => h9) rfl dX2_forms_9 ?_
    refine lv_icmp_ne (tgt := 17) hx hb dX2_forms_12 (by decide) (fun c_12 => ?_) (fun c_12 => ?_)
    ·
      refine lv_aload_n hx hb dX2_forms_17 rfl (lv_at hl 0 rfl) ?_
      refine lv_iload_n hx hb dX2_forms_18 rfl (lv_at hl 1 rfl) ?_
      refine va_put (D := D) (ci := 3) (v := .int k0) (ty := .int) (C := RX2) (T := TX2) (N := 16) hx hb hts hinX2 tyX2 tyX2_ok nmX2 hown hK.1 hP hD hS 0 rfl rfl 10 (by decide) (hts (.fieldLink RX2 119 "PrinterRows" "mountedKind" "I") (by decide +kernel)) (fun _ h9 => h9) rfl (by decide +kernel) rfl rfl (Nat.le_of_ble_eq_true rfl) dX2_forms_19 (fun H locs hP hD hS => ?_)
      have hP : va_P D vwCl (wX cI cP x aC aT aR aP (nI L) (nI C) (nI rl) (nI bg) (zb on) (nI st) k0 rp sp sc sk fa ch tr rc pg pl) H := hP
      have hD : va_D A (wX cI cP x aC aT aR aP (nI L) (nI C) (nI rl) (nI bg) (zb on) (nI st) k0 rp sp sc sk fa ch tr rc pg pl) := hD
      refine lv_aload_n hx hb dX2_forms_22 rfl (lv_at hl 0 rfl) ?_
      refine lv_dup hx hb dX2_forms_23 rfl ?_
      refine va_get (D := D) (ci := 3) (v := .int fa) (C := RX2) (T := TX2) (N := 16) hx hb hts hinX2 hown hK.1 hP 0 rfl rfl 15 (by decide) (hts (.fieldLink RX2 122 "PrinterRows" "formsAskedFor" "I") (by decide +kernel)) (fun _ h9 => h9) rfl dX2_forms_24 ?_
      refine lv_iconst (v := 1) hx hb dX2_forms_27 (by decide +kernel) ?_
      refine lv_iadd hx hb dX2_forms_28 ?_
      refine va_put (D := D) (ci := 3) (v := .int (fa + 1)) (ty := .int) (C := RX2) (T := TX2) (N := 16) hx hb hts hinX2 tyX2 tyX2_ok nmX2 hown hK.1 hP hD hS 0 rfl rfl 15 (by decide) (hts (.fieldLink RX2 122 "PrinterRows" "formsAskedFor" "I") (by decide +kernel)) (fun _ h9 => h9) rfl (by decide +kernel) rfl rfl (Nat.le_of_ble_eq_true rfl) dX2_forms_29 (fun H locs hP hD hS => ?_)
      have hP : va_P D vwCl (wX cI cP x aC aT aR aP (nI L) (nI C) (nI rl) (nI bg) (zb on) (nI st) k0 rp sp sc sk (fa + 1) ch tr rc pg pl) H := hP
      have hD : va_D A (wX cI cP x aC aT aR aP (nI L) (nI C) (nI rl) (nI bg) (zb on) (nI st) k0 rp sp sc sk (fa + 1) ch tr rc pg pl) := hD
      refine lv_aload_n hx hb dX2_forms_32 rfl (lv_at hl 0 rfl) ?_
      refine callQv (va_runV (As := []) (rest := []) ⟨hx, hb, hml, hown, hts⟩ (c_X2_standOnNewPage l) (cwV 0 hts gX2_forms_X2_standOnNewPage rfl rfl rfl (by decide +kernel) ⟨(Nat.le_of_ble_eq_true rfl), (Nat.le_of_ble_eq_true rfl)⟩) (mu_pre hK hP hD rfl 0 rfl) rfl rfl hl.1 rfl (lv_room (Nat.le_of_ble_eq_true rfl)) dX2_forms_33 ⟨(Nat.le_of_ble_eq_true rfl), (Nat.le_of_ble_eq_true rfl)⟩) hD hS hA (fun u_33 H locs w_33 hP hD hS => ?_)
      have hP : va_P D vwCl (wX cI cP x aC aT aR aP (nI L) (nI C) (nI rl) (nI bg) (zb false) (nI 0) k0 rp sp sc sk (fa + 1) ch tr rc pg pl) H := hP
      have hD : va_D A (wX cI cP x aC aT aR aP (nI L) (nI C) (nI rl) (nI bg) (zb false) (nI 0) k0 rp sp sc sk (fa + 1) ch tr rc pg pl) := hD
      refine lv_iconst (v := 2) hx hb dX2_forms_36 (by decide +kernel) ?_
      exact W.iret (v := 2) hx hb hr (fun t ht hW => ⟨⟨_, (k0, fa + 1, false, 0), rfl, ⟨by rw [fmR, if_pos c_1, if_neg c_12], by rw [fmD, if_pos c_1, if_neg c_12]; rfl⟩, by rw [ht]; exact hP, hD⟩, hS.F ht⟩) hS.2.2 dX2_forms_37
    ·
      refine lv_iconst (v := 1) hx hb dX2_forms_15 (by decide +kernel) ?_
      exact W.iret (v := 1) hx hb hr (fun t ht hW => ⟨⟨_, (mk, fa, on, st), rfl, ⟨by rw [fmR, if_pos c_1, if_pos c_12], by rw [fmD, if_pos c_1, if_pos c_12]; rfl⟩, by rw [ht]; exact hP, hD⟩, hS.F ht⟩) hS.2.2 dX2_forms_16
  ·
    refine lv_bipush (v := (-2)) hx hb dX2_forms_4 (by decide +kernel) ?_
    exact W.iret (v := (-2)) hx hb hr (fun t ht hW => ⟨⟨_, (mk, fa, on, st), rfl, ⟨by rw [fmR, if_neg c_1], by rw [fmD, if_neg c_1]; rfl⟩, by rw [ht]; exact hP, hD⟩, hS.F ht⟩) hS.2.2 dX2_forms_6

set_option maxHeartbeats 1000000 in
set_option maxRecDepth 100000 in
theorem c_X2_addPage (l : Launch) {D : va_G} {cI cP cR cJ : ClassId} {x aC aT aR aP L C rl bg st : Nat} {on : Bool} {mk rp sp sc sk fa : Int32} {ch tr rc : Nat → Int32} {pg : Nat → Option Nat} {pl : va_W} {sz : Nat} (hbg : bg < 40) (a : Nat) (ka : Nat) (fs : List Value) (hka : pl[ka]? = some (a, .inr (1, fs))) : Met l yX2_addPage wsX2_addPage ({ frames := 0, cells := 0, slots := 0, locals := 0 }) (mu [.ref x, .ref a] D cI cP cR cJ (wX cI cP x aC aT aR aP (nI L) (nI C) (nI rl) (nI bg) (zb on) (nI st) mk rp sp sc sk fa ch tr rc pg pl) sz) (qv D (fun (_ : Unit) => True) (fun u : Unit => wX cI cP x aC aT aR aP (nI L) (nI C) (nI rl) (nI (bg + 1)) (zb on) (nI st) mk rp sp sc sk fa ch tr rc (va_up pg bg (some a)) pl) (va_A (wX cI cP x aC aT aR aP (nI L) (nI C) (nI rl) (nI bg) (zb on) (nI st) mk rp sp sc sk fa ch tr rc pg pl) sz)) 0 0 (va_A (wX cI cP x aC aT aR aP (nI L) (nI C) (nI rl) (nI bg) (zb on) (nI st) mk rp sp sc sk fa ch tr rc pg pl) sz) := by
  refine Met.ofW (cc := cX2_addPage) (maxL := 2) (ret := none) (by decide) rfl ?_
  intro p e s m args below meth c s₁ B hml hv
  obtain ⟨rfl, hsz, hP, hK, hD0⟩ := hv
  have hx := B.exec
  have hb := B.bytes
  have hr := B.returns
  have hts := atoms_spec (ws := wsX2_addPage) B.pre
  have hown : s.vm.findClass RX2 = some m.cls := findClass_of_methodNamed B.named
  have hlocks := B.notSynchronized
  have hinX2 : ∀ w ∈ wsX20, w ∈ wsX2_addPage := by decide +kernel
  subst hsz
  have hD := hD0.self (sz := s.heap.size)
  generalize hAe : va_A (wX cI cP x aC aT aR aP (nI L) (nI C) (nI rl) (nI bg) (zb on) (nI st) mk rp sp sc sk fa ch tr rc pg pl) s.heap.size = A at hD ⊢
  have hA : ∀ q : Nat, s.heap.size ≤ q → A q := fun q h => by rw [← hAe]; exact Or.inr h
  have hS : va_S A s.heap s.heap [] := va_S.rf
  have hP : va_P D vwCl (wX cI cP x aC aT aR aP (nI L) (nI C) (nI rl) (nI bg) (zb on) (nI st) mk rp sp sc sk fa ch tr rc pg pl) s.heap := hP
  have hl := lv_entry ([.ref x, .ref a]) (n := 2) (Nat.le_of_ble_eq_true rfl)
  rw [lg_entry_eq]
  generalize (lg_sl ([.ref x, .ref a]) ++ List.replicate (2 - (lg_sl ([.ref x, .ref a])).length) Slot.unset).toArray = ls at hl ⊢
  have hl : lv_has ls 2 [(0, .ref x), (1, .ref a)] := hl
  refine lv_aload_n hx hb dX2_addPage_0 rfl (lv_at hl 0 rfl) ?_
  refine va_get (D := D) (ci := 3) (v := .int (nI bg)) (C := RX2) (T := TX2) (N := 16) hx hb hts hinX2 hown hK.1 hP 0 rfl rfl 7 (by decide) (hts (.fieldLink RX2 86 "PrinterRows" "begun" "I") (by decide +kernel)) (fun _ h9 => h9) rfl dX2_addPage_1 ?_
  refine lv_if_lt (tgt := 39) hx hb dX2_addPage_4 (by decide) (fun c_4 => absurd c_4 (nI_pos (by omega))) (fun c_4 => ?_)
  refine lv_aload_n hx hb dX2_addPage_7 rfl (lv_at hl 0 rfl) ?_
  refine va_get (D := D) (ci := 3) (v := .int (nI bg)) (C := RX2) (T := TX2) (N := 16) hx hb hts hinX2 hown hK.1 hP 0 rfl rfl 7 (by decide) (hts (.fieldLink RX2 86 "PrinterRows" "begun" "I") (by decide +kernel)) (fun _ h9 => h9) rfl dX2_addPage_8 ?_
  refine lv_aload_n hx hb dX2_addPage_11 rfl (lv_at hl 0 rfl) ?_
  refine va_get (D := D) (ci := 3) (v := .ref aP) (C := RX2) (T := TX2) (N := 16) hx hb hts hinX2 hown hK.1 hP 0 rfl rfl 6 (by decide) (hts (.fieldLink RX2 38 "PrinterRows" "pages" "[LPrinterRows$Page;") (by decide +kernel)) (fun _ h9 => h9) rfl dX2_addPage_12 ?_
  refine va_alen (v := 40) hx hb hK.1 hP 4 1 rfl rfl rfl dX2_addPage_15 ?_
  refine lv_icmp_ge (tgt := 39) hx hb dX2_addPage_16 (by decide) (fun c_16 => absurd c_16 (nI_ge (b := 40) hbg (by decide))) (fun c_16 => ?_)
  refine lv_aload_n hx hb dX2_addPage_19 rfl (lv_at hl 0 rfl) ?_
  refine va_get (D := D) (ci := 3) (v := .ref aP) (C := RX2) (T := TX2) (N := 16) hx hb hts hinX2 hown hK.1 hP 0 rfl rfl 6 (by decide) (hts (.fieldLink RX2 38 "PrinterRows" "pages" "[LPrinterRows$Page;") (by decide +kernel)) (fun _ h9 => h9) rfl dX2_addPage_20 ?_
  refine lv_aload_n hx hb dX2_addPage_23 rfl (lv_at hl 0 rfl) ?_
  refine va_get (D := D) (ci := 3) (v := .int (nI bg)) (C := RX2) (T := TX2) (N := 16) hx hb hts hinX2 hown hK.1 hP 0 rfl rfl 7 (by decide) (hts (.fieldLink RX2 86 "PrinterRows" "begun" "I") (by decide +kernel)) (fun _ h9 => h9) rfl dX2_addPage_24 ?_
  refine lv_aload_n hx hb dX2_addPage_27 rfl (lv_at hl 1 rfl) ?_
  refine va_astq hx hb hK.1 hP hD hS 4 1 (ka + 5) 1 rfl rfl hka rfl (vp_in_nI hbg (by decide)) dX2_addPage_28 (fun H locs hP hD hS => ?_)
  rw [show (va_up pg ((nI bg)).toNatClampNeg (some a)) = (va_up pg bg (some a)) from by rw [nI_clamp (by omega)]] at hP hD
  have hP : va_P D vwCl (wX cI cP x aC aT aR aP (nI L) (nI C) (nI rl) (nI bg) (zb on) (nI st) mk rp sp sc sk fa ch tr rc (va_up pg bg (some a)) pl) H := hP
  have hD : va_D A (wX cI cP x aC aT aR aP (nI L) (nI C) (nI rl) (nI bg) (zb on) (nI st) mk rp sp sc sk fa ch tr rc (va_up pg bg (some a)) pl) := hD
  refine lv_aload_n hx hb dX2_addPage_29 rfl (lv_at hl 0 rfl) ?_
  refine lv_dup hx hb dX2_addPage_30 rfl ?_
  refine va_get (D := D) (ci := 3) (v := .int (nI bg)) (C := RX2) (T := TX2) (N := 16) hx hb hts hinX2 hown hK.1 hP 0 rfl rfl 7 (by decide) (hts (.fieldLink RX2 86 "PrinterRows" "begun" "I") (by decide +kernel)) (fun _ h9 => h9) rfl dX2_addPage_31 ?_
  refine lv_iconst (v := 1) hx hb dX2_addPage_34 (by decide +kernel) ?_
  refine lv_iadd hx hb dX2_addPage_35 ?_
  refine lv_topi (fun x_35 ex_35 => ?_)
  obtain rfl : x_35 = nI (bg + 1) := ex_35.trans (nI_1 bg)
  refine va_put (D := D) (ci := 3) (v := .int (nI (bg + 1))) (ty := .int) (C := RX2) (T := TX2) (N := 16) hx hb hts hinX2 tyX2 tyX2_ok nmX2 hown hK.1 hP hD hS 0 rfl rfl 7 (by decide) (hts (.fieldLink RX2 86 "PrinterRows" "begun" "I") (by decide +kernel)) (fun _ h9 => h9) rfl (by decide +kernel) rfl rfl (Nat.le_of_ble_eq_true rfl) dX2_addPage_36 (fun H locs hP hD hS => ?_)
  have hP : va_P D vwCl (wX cI cP x aC aT aR aP (nI L) (nI C) (nI rl) (nI (bg + 1)) (zb on) (nI st) mk rp sp sc sk fa ch tr rc (va_up pg bg (some a)) pl) H := hP
  have hD : va_D A (wX cI cP x aC aT aR aP (nI L) (nI C) (nI rl) (nI (bg + 1)) (zb on) (nI st) mk rp sp sc sk fa ch tr rc (va_up pg bg (some a)) pl) := hD
  exact W.vret hx hb hr (fun t ht hW => ⟨⟨(), rfl, trivial, by rw [ht]; exact hP, hD⟩, hS.F ht⟩) hS.2.2 dX2_addPage_39

set_option maxHeartbeats 1000000 in
set_option maxRecDepth 100000 in
theorem c_X2_takeLastPage (l : Launch) {D : va_G} {cI cP cR cJ : ClassId} {x aC aT aR aP L C rl bg st : Nat} {on : Bool} {mk rp sp sc sk fa : Int32} {ch tr rc : Nat → Int32} {pg : Nat → Option Nat} {pl : va_W} {sz : Nat} (hbg0 : 0 < bg) (hbg : bg ≤ 40) : Met l yX2_takeLastPage wsX2_takeLastPage ({ frames := 0, cells := 0, slots := 0, locals := 0 }) (mu [.ref x] D cI cP cR cJ (wX cI cP x aC aT aR aP (nI L) (nI C) (nI rl) (nI bg) (zb on) (nI st) mk rp sp sc sk fa ch tr rc pg pl) sz) (qv D (fun (_ : Unit) => True) (fun u : Unit => wX cI cP x aC aT aR aP (nI L) (nI C) (nI rl) (nI (bg - 1)) (zb on) (nI st) mk rp sp sc sk fa ch tr rc (va_up pg (bg - 1) none) pl) (va_A (wX cI cP x aC aT aR aP (nI L) (nI C) (nI rl) (nI bg) (zb on) (nI st) mk rp sp sc sk fa ch tr rc pg pl) sz)) 0 0 (va_A (wX cI cP x aC aT aR aP (nI L) (nI C) (nI rl) (nI bg) (zb on) (nI st) mk rp sp sc sk fa ch tr rc pg pl) sz) := by
  refine Met.ofW (cc := cX2_takeLastPage) (maxL := 1) (ret := none) (by decide) rfl ?_
  intro p e s m args below meth c s₁ B hml hv
  obtain ⟨rfl, hsz, hP, hK, hD0⟩ := hv
  have hx := B.exec
  have hb := B.bytes
  have hr := B.returns
  have hts := atoms_spec (ws := wsX2_takeLastPage) B.pre
  have hown : s.vm.findClass RX2 = some m.cls := findClass_of_methodNamed B.named
  have hlocks := B.notSynchronized
  have hinX2 : ∀ w ∈ wsX20, w ∈ wsX2_takeLastPage := by decide +kernel
  subst hsz
  have hD := hD0.self (sz := s.heap.size)
  generalize hAe : va_A (wX cI cP x aC aT aR aP (nI L) (nI C) (nI rl) (nI bg) (zb on) (nI st) mk rp sp sc sk fa ch tr rc pg pl) s.heap.size = A at hD ⊢
  have hA : ∀ q : Nat, s.heap.size ≤ q → A q := fun q h => by rw [← hAe]; exact Or.inr h
  have hS : va_S A s.heap s.heap [] := va_S.rf
  have hP : va_P D vwCl (wX cI cP x aC aT aR aP (nI L) (nI C) (nI rl) (nI bg) (zb on) (nI st) mk rp sp sc sk fa ch tr rc pg pl) s.heap := hP
  have hl := lv_entry ([.ref x]) (n := 1) (Nat.le_of_ble_eq_true rfl)
  rw [lg_entry_eq]
  generalize (lg_sl ([.ref x]) ++ List.replicate (1 - (lg_sl ([.ref x])).length) Slot.unset).toArray = ls at hl ⊢
  have hl : lv_has ls 1 [(0, .ref x)] := hl
  refine lv_aload_n hx hb dX2_takeLastPage_0 rfl (lv_at hl 0 rfl) ?_
  refine va_get (D := D) (ci := 3) (v := .int (nI bg)) (C := RX2) (T := TX2) (N := 16) hx hb hts hinX2 hown hK.1 hP 0 rfl rfl 7 (by decide) (hts (.fieldLink RX2 86 "PrinterRows" "begun" "I") (by decide +kernel)) (fun _ h9 => h9) rfl dX2_takeLastPage_1 ?_
  refine lv_if_le (tgt := 39) hx hb dX2_takeLastPage_4 (by decide) (fun c_4 => absurd c_4 (nI_nle hbg0 (by omega))) (fun c_4 => ?_)
  refine lv_aload_n hx hb dX2_takeLastPage_7 rfl (lv_at hl 0 rfl) ?_
  refine va_get (D := D) (ci := 3) (v := .int (nI bg)) (C := RX2) (T := TX2) (N := 16) hx hb hts hinX2 hown hK.1 hP 0 rfl rfl 7 (by decide) (hts (.fieldLink RX2 86 "PrinterRows" "begun" "I") (by decide +kernel)) (fun _ h9 => h9) rfl dX2_takeLastPage_8 ?_
  refine lv_aload_n hx hb dX2_takeLastPage_11 rfl (lv_at hl 0 rfl) ?_
  refine va_get (D := D) (ci := 3) (v := .ref aP) (C := RX2) (T := TX2) (N := 16) hx hb hts hinX2 hown hK.1 hP 0 rfl rfl 6 (by decide) (hts (.fieldLink RX2 38 "PrinterRows" "pages" "[LPrinterRows$Page;") (by decide +kernel)) (fun _ h9 => h9) rfl dX2_takeLastPage_12 ?_
  refine va_alen (v := 40) hx hb hK.1 hP 4 1 rfl rfl rfl dX2_takeLastPage_15 ?_
  refine lv_icmp_gt (tgt := 39) hx hb dX2_takeLastPage_16 (by decide) (fun c_16 => absurd c_16 (nI_nlt (a := 40) hbg (by decide))) (fun c_16 => ?_)
  refine lv_aload_n hx hb dX2_takeLastPage_19 rfl (lv_at hl 0 rfl) ?_
  refine lv_dup hx hb dX2_takeLastPage_20 rfl ?_
  refine va_get (D := D) (ci := 3) (v := .int (nI bg)) (C := RX2) (T := TX2) (N := 16) hx hb hts hinX2 hown hK.1 hP 0 rfl rfl 7 (by decide) (hts (.fieldLink RX2 86 "PrinterRows" "begun" "I") (by decide +kernel)) (fun _ h9 => h9) rfl dX2_takeLastPage_21 ?_
  refine lv_iconst (v := 1) hx hb dX2_takeLastPage_24 (by decide +kernel) ?_
  refine lv_isub hx hb dX2_takeLastPage_25 ?_
  refine lv_topi (fun x_25 ex_25 => ?_)
  obtain rfl : x_25 = nI (bg - 1) := ex_25.trans (sub1 hbg0)
  refine va_put (D := D) (ci := 3) (v := .int (nI (bg - 1))) (ty := .int) (C := RX2) (T := TX2) (N := 16) hx hb hts hinX2 tyX2 tyX2_ok nmX2 hown hK.1 hP hD hS 0 rfl rfl 7 (by decide) (hts (.fieldLink RX2 86 "PrinterRows" "begun" "I") (by decide +kernel)) (fun _ h9 => h9) rfl (by decide +kernel) rfl rfl (Nat.le_of_ble_eq_true rfl) dX2_takeLastPage_26 (fun H locs hP hD hS => ?_)
  have hP : va_P D vwCl (wX cI cP x aC aT aR aP (nI L) (nI C) (nI rl) (nI (bg - 1)) (zb on) (nI st) mk rp sp sc sk fa ch tr rc pg pl) H := hP
  have hD : va_D A (wX cI cP x aC aT aR aP (nI L) (nI C) (nI rl) (nI (bg - 1)) (zb on) (nI st) mk rp sp sc sk fa ch tr rc pg pl) := hD
  refine lv_aload_n hx hb dX2_takeLastPage_29 rfl (lv_at hl 0 rfl) ?_
  refine va_get (D := D) (ci := 3) (v := .ref aP) (C := RX2) (T := TX2) (N := 16) hx hb hts hinX2 hown hK.1 hP 0 rfl rfl 6 (by decide) (hts (.fieldLink RX2 38 "PrinterRows" "pages" "[LPrinterRows$Page;") (by decide +kernel)) (fun _ h9 => h9) rfl dX2_takeLastPage_30 ?_
  refine lv_aload_n hx hb dX2_takeLastPage_33 rfl (lv_at hl 0 rfl) ?_
  refine va_get (D := D) (ci := 3) (v := .int (nI (bg - 1))) (C := RX2) (T := TX2) (N := 16) hx hb hts hinX2 hown hK.1 hP 0 rfl rfl 7 (by decide) (hts (.fieldLink RX2 86 "PrinterRows" "begun" "I") (by decide +kernel)) (fun _ h9 => h9) rfl dX2_takeLastPage_34 ?_
  refine lv_null hx hb dX2_takeLastPage_37 ?_
  refine va_astqN hx hb hK.1 hP hD hS 4 1 rfl rfl (vp_in_nI (by omega) (by decide)) dX2_takeLastPage_38 (fun H locs hP hD hS => ?_)
  rw [show (va_up pg ((nI (bg - 1))).toNatClampNeg none) = (va_up pg (bg - 1) none) from by rw [nI_clamp (by omega)]] at hP hD
  have hP : va_P D vwCl (wX cI cP x aC aT aR aP (nI L) (nI C) (nI rl) (nI (bg - 1)) (zb on) (nI st) mk rp sp sc sk fa ch tr rc (va_up pg (bg - 1) none) pl) H := hP
  have hD : va_D A (wX cI cP x aC aT aR aP (nI L) (nI C) (nI rl) (nI (bg - 1)) (zb on) (nI st) mk rp sp sc sk fa ch tr rc (va_up pg (bg - 1) none) pl) := hD
  exact W.vret hx hb hr (fun t ht hW => ⟨⟨(), rfl, trivial, by rw [ht]; exact hP, hD⟩, hS.F ht⟩) hS.2.2 dX2_takeLastPage_39
