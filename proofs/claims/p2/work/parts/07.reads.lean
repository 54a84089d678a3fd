/-! the class's methods that read alone -/
theorem zb0 {b : Bool} : zb b = 0 ↔ b = false := by cases b <;> decide +kernel
theorem zb1 {b : Bool} : ¬ zb b = 0 ↔ b = true := by cases b <;> decide +kernel
theorem zbF {P : Prop} [Decidable P] (h : ¬ P) : 0 = zb (decide P) := by rw [decide_eq_false h]; rfl
theorem zbT {P : Prop} [Decidable P] (h : P) : 1 = zb (decide P) := by rw [decide_eq_true h]; rfl
theorem max1 {L : Nat} (h0 : 0 < L) (hL : L < 2 ^ 30) : (if (1 : Int32) < nI L then nI L else 1) = nI L := by
  by_cases e : L = 1
  · subst e
    rfl
  · exact if_pos (show (1 : Int32) < nI L from nI_lt (a := 1) (b := L) (by omega) (by omega))
theorem sub1 {n : Nat} (h : 0 < n) : nI n - 1 = nI (n - 1) := pk_sub (a := n) (b := 1) h
theorem isCh_iff {c : Int32} : isCh c = true ↔ 1 ≤ c.toInt ∧ c.toInt ≤ 12 := by
  unfold isCh
  by_cases h1 : c < 1
  · rw [if_pos h1]; rw [i32_lt] at h1; have : (1 : Int32).toInt = 1 := rfl; constructor <;> intro h <;> simp at h ⊢ <;> omega
  · rw [if_neg h1]
    by_cases h2 : 12 < c
    · rw [if_pos h2]; rw [i32_lt] at h2; have : (12 : Int32).toInt = 12 := rfl; constructor <;> intro h <;> simp at h ⊢ <;> omega
    · rw [if_neg h2]; rw [i32_lt] at h1 h2; have : (1 : Int32).toInt = 1 := rfl; have : (12 : Int32).toInt = 12 := rfl
      refine ⟨fun _ => ?_, fun _ => rfl⟩
      omega
theorem isSg_iff {c : Int32} : isSg c = true ↔ 32 ≤ c.toInt ∧ c.toInt ≤ 255 := by
  unfold isSg
  by_cases h1 : c < 32
  · rw [if_pos h1]; rw [i32_lt] at h1; have : (32 : Int32).toInt = 32 := rfl; constructor <;> intro h <;> simp at h ⊢ <;> omega
  · rw [if_neg h1]
    by_cases h2 : 255 < c
    · rw [if_pos h2]; rw [i32_lt] at h2; have : (255 : Int32).toInt = 255 := rfl; constructor <;> intro h <;> simp at h ⊢ <;> omega
    · rw [if_neg h2]; rw [i32_lt] at h1 h2; have : (32 : Int32).toInt = 32 := rfl; have : (255 : Int32).toInt = 255 := rfl
      refine ⟨fun _ => ?_, fun _ => rfl⟩
      omega
theorem isCh_in {c : Int32} (h : ¬ zb (isCh c) = 0) : vp_in c 13 := by
  have := isCh_iff.mp (zb1.mp h)
  rw [vp_in_iff]; omega
theorem isSg_in {c : Int32} (h : ¬ zb (isSg c) = 0) : vp_in c 256 := by
  have := isSg_iff.mp (zb1.mp h)
  rw [vp_in_iff]; omega
theorem nI_ch {k : Nat} (h1 : 1 ≤ k) (h2 : k ≤ 12) : isCh (nI k) = true := by
  rw [isCh_iff, nI_toInt (by omega)]; omega
def sP (bg : Nat) (on : Bool) : Nat := if on then bg - 1 else bg
def wyN (L st : Nat) (v : Int32) : Nat := if v = -1 then L else if st < v.toNatClampNeg then v.toNatClampNeg - st else v.toNatClampNeg + L - st
def chOK (L : Nat) (v : Int32) : Prop := v = -1 ∨ ∃ j : Nat, j < L ∧ v = nI j
def ovR (a b : Int32) : Int32 := if zb (isSg a) = 0 then -1 else if ¬ zb (isSg b) = 0 then mx a b else -1
def tlR (bg st : Nat) (rp sp sc sk fa : Int32) (rl : Nat) (w : Int32) : Int32 := if w = 0 then nI bg else if w = 1 then nI st else if w = 2 then rp else if w = 3 then sp else if w = 4 then sc else if w = 5 then sk else if w = 6 then fa else if w = 7 then nI rl else -1

theorem way_sub {j st L : Nat} (h : st < L) : nI j - nI st + nI L = nI (j + L - st) := by
  have h1 : nI (j + L - st) + nI st = nI j + nI L := by rw [nI_add, nI_add]; congr 1; omega
  have h2 : nI (j + L - st) = nI j + nI L - nI st := by rw [← h1, Int32.add_sub_cancel]
  rw [h2, Int32.sub_eq_add_neg, Int32.sub_eq_add_neg, Int32.add_assoc, Int32.add_comm (-nI st), ← Int32.add_assoc]

set_option maxHeartbeats 1000000 in
set_option maxRecDepth 100000 in
theorem c_X2_standPage (l : Launch) {D : va_G} {cI cP cR cJ : ClassId} {x aC aT aR aP L C rl bg st : Nat} {on : Bool} {mk rp sp sc sk fa : Int32} {ch tr rc : Nat → Int32} {pg : Nat → Option Nat} {pl : va_W} (hon : on = true → 0 < bg) : Met l yX2_standPage wsX2_standPage ({ frames := 0, cells := 0, slots := 0, locals := 0 }) (ro [.ref x] D cI cP cR cJ (wX cI cP x aC aT aR aP (nI L) (nI C) (nI rl) (nI bg) (zb on) (nI st) mk rp sp sc sk fa ch tr rc pg pl)) (vp_Si (fun r => r = nI (sP bg on))) 0 0 (fun _ => False) := by
  refine Met.ofW (cc := cX2_standPage) (maxL := 1) (ret := (some .int)) (by decide) rfl ?_
  intro p e s m args below meth c s₁ B hml hv
  obtain ⟨rfl, hP, hK⟩ := hv
  have hx := B.exec
  have hb := B.bytes
  have hr := B.returns
  have hts := atoms_spec (ws := wsX2_standPage) B.pre
  have hown : s.vm.findClass RX2 = some m.cls := findClass_of_methodNamed B.named
  have hlocks := B.notSynchronized
  have hinX2 : ∀ w ∈ wsX20, w ∈ wsX2_standPage := by decide +kernel
  have hl := lv_entry ([.ref x]) (n := 1) (Nat.le_of_ble_eq_true rfl)
  rw [lg_entry_eq]
  generalize (lg_sl ([.ref x]) ++ List.replicate (1 - (lg_sl ([.ref x])).length) Slot.unset).toArray = ls at hl ⊢
  have hl : lv_has ls 1 [(0, .ref x)] := hl
  refine lv_aload_n hx hb dX2_standPage_0 rfl (lv_at hl 0 rfl) ?_
  refine va_get (D := D) (ci := 3) (v := .int (zb on)) (C := RX2) (T := TX2) (N := 16) hx hb hts hinX2 hown hK.1 hP 0 rfl rfl 8 (by decide) (hts (.fieldLink RX2 146 "PrinterRows" "onBegunPage" "Z") (by decide +kernel)) (fun _ h9 => h9) rfl dX2_standPage_1 ?_
  refine lv_if_eq (tgt := 16) hx hb dX2_standPage_4 (by decide) (fun c_4 => ?_) (fun c_4 => ?_)
  ·
    refine lv_aload_n hx hb dX2_standPage_16 rfl (lv_at hl 0 rfl) ?_
    refine va_get (D := D) (ci := 3) (v := .int (nI bg)) (C := RX2) (T := TX2) (N := 16) hx hb hts hinX2 hown hK.1 hP 0 rfl rfl 7 (by decide) (hts (.fieldLink RX2 86 "PrinterRows" "begun" "I") (by decide +kernel)) (fun _ h9 => h9) rfl dX2_standPage_17 ?_
    exact W.iret (v := (nI bg)) hx hb hr (fun t ht hW => ⟨_, rfl, by rw [sP, zb0.mp c_4]; rfl, ht⟩) (fun q h => by cases h) dX2_standPage_20
  ·
    refine lv_aload_n hx hb dX2_standPage_7 rfl (lv_at hl 0 rfl) ?_
    refine va_get (D := D) (ci := 3) (v := .int (nI bg)) (C := RX2) (T := TX2) (N := 16) hx hb hts hinX2 hown hK.1 hP 0 rfl rfl 7 (by decide) (hts (.fieldLink RX2 86 "PrinterRows" "begun" "I") (by decide +kernel)) (fun _ h9 => h9) rfl dX2_standPage_8 ?_
    refine lv_iconst (v := 1) hx hb dX2_standPage_11 (by decide +kernel) ?_
    refine lv_isub hx hb dX2_standPage_12 ?_
    refine lv_goto (tgt := 20) hx hb dX2_standPage_13 (by decide) ?_
    exact W.iret (v := ((nI bg) - 1)) hx hb hr (fun t ht hW => ⟨_, rfl, by rw [sP, zb1.mp c_4]; exact sub1 (hon (zb1.mp c_4)), ht⟩) (fun q h => by cases h) dX2_standPage_20

set_option maxHeartbeats 1000000 in
set_option maxRecDepth 100000 in
theorem c_X2_pageAfter (l : Launch) {D : va_G} {cI cP cR cJ : ClassId} {x aC aT aR aP L C rl bg st : Nat} {on : Bool} {mk rp sp sc sk fa : Int32} {ch tr rc : Nat → Int32} {pg : Nat → Option Nat} {pl : va_W} (hon : on = true → 0 < bg) (hbg : bg ≤ 40) (hL0 : 0 < L) (hL : L ≤ 66) (hst : st < L) (w : Nat) (hw : w ≤ 1000) : Met l yX2_pageAfter wsX2_pageAfter ({ frames := 1, cells := 0, slots := 0, locals := 20 }) (ro [.ref x, .int (nI w)] D cI cP cR cJ (wX cI cP x aC aT aR aP (nI L) (nI C) (nI rl) (nI bg) (zb on) (nI st) mk rp sp sc sk fa ch tr rc pg pl)) (vp_Si (fun r => r = nI (sP bg on + (st + w) / L))) 0 0 (fun _ => False) := by
  refine Met.ofW (cc := cX2_pageAfter) (maxL := 3) (ret := (some .int)) (by decide) rfl ?_
  intro p e s m args below meth c s₁ B hml hv
  obtain ⟨rfl, hP, hK⟩ := hv
  have hx := B.exec
  have hb := B.bytes
  have hr := B.returns
  have hts := atoms_spec (ws := wsX2_pageAfter) B.pre
  have hown : s.vm.findClass RX2 = some m.cls := findClass_of_methodNamed B.named
  have hlocks := B.notSynchronized
  have hinX2 : ∀ w ∈ wsX20, w ∈ wsX2_pageAfter := by decide +kernel
  have hl := lv_entry ([.ref x, .int (nI w)]) (n := 3) (Nat.le_of_ble_eq_true rfl)
  rw [lg_entry_eq]
  generalize (lg_sl ([.ref x, .int (nI w)]) ++ List.replicate (3 - (lg_sl ([.ref x, .int (nI w)])).length) Slot.unset).toArray = ls at hl ⊢
  have hl : lv_has ls 3 [(0, .ref x), (1, .int (nI w))] := hl
  refine lv_iconst (v := 1) hx hb dX2_pageAfter_0 (by decide +kernel) ?_
  refine lv_aload_n hx hb dX2_pageAfter_1 rfl (lv_at hl 0 rfl) ?_
  refine va_get (D := D) (ci := 3) (v := .int (nI L)) (C := RX2) (T := TX2) (N := 16) hx hb hts hinX2 hown hK.1 hP 0 rfl rfl 0 (by decide) (hts (.fieldLink RX2 13 "PrinterRows" "lines" "I") (by decide +kernel)) (fun _ h9 => h9) rfl dX2_pageAfter_2 ?_
  refine va_mmax hx hb (by rw [hml]; exact hl.1.symm) hown (hts (.methodLink RX2 54 Lib.Math.max.name) (by decide +kernel)) (hts (.static Lib.Math.max.name) (by decide +kernel)) (hts (.initialized "java/lang/Math") (by decide +kernel)) (hts (.code Lib.Math.max.name Lib.Math.max.code 2 (some .int)) (by decide +kernel)) (Nat.le_of_ble_eq_true rfl) (Nat.le_of_ble_eq_true rfl) (Nat.le_of_ble_eq_true rfl) (Nat.le_of_ble_eq_true rfl) dX2_pageAfter_5 ?_
  refine lv_topi (fun x_5 ex_5 => ?_)
  obtain rfl : x_5 = nI L := ex_5.trans (max1 hL0 (by omega))
  refine lv_istore_n (lv' := [(2, .int (nI L)), (0, .ref x), (1, .int (nI w))]) hx hb dX2_pageAfter_8 rfl hl (by decide) rfl (fun ls hl => ?_)
  refine lv_aload_n hx hb dX2_pageAfter_9 rfl (lv_at hl 1 rfl) ?_
  refine vp_callSi (W.runV (As := []) (rest := []) ⟨hx, hb, hml, hown, hts⟩ (c_X2_standPage l hon) (cwV 0 hts gX2_pageAfter_X2_standPage rfl rfl rfl (by decide +kernel) ⟨(Nat.le_of_ble_eq_true rfl), (Nat.le_of_ble_eq_true rfl)⟩) (ro_pre hK hP rfl 0 rfl) rfl rfl hl.1 rfl (lv_room (Nat.le_of_ble_eq_true rfl)) dX2_pageAfter_10 ⟨(Nat.le_of_ble_eq_true rfl), (Nat.le_of_ble_eq_true rfl)⟩) (fun r_10 w_10 => ?_)
  subst w_10
  refine lv_aload_n hx hb dX2_pageAfter_13 rfl (lv_at hl 1 rfl) ?_
  refine va_get (D := D) (ci := 3) (v := .int (nI st)) (C := RX2) (T := TX2) (N := 16) hx hb hts hinX2 hown hK.1 hP 0 rfl rfl 9 (by decide) (hts (.fieldLink RX2 125 "PrinterRows" "standLine" "I") (by decide +kernel)) (fun _ h9 => h9) rfl dX2_pageAfter_14 ?_
  refine lv_iload_n hx hb dX2_pageAfter_17 rfl (lv_at hl 2 rfl) ?_
  refine lv_iadd hx hb dX2_pageAfter_18 ?_
  refine lv_topi (fun x_18 ex_18 => ?_)
  obtain rfl : x_18 = nI (st + w) := ex_18.trans (nI_add _ _)
  refine lv_iload_n hx hb dX2_pageAfter_19 rfl (lv_at hl 0 rfl) ?_
  refine lv_idiv hx hb dX2_pageAfter_20 (nI_ne0 hL0 (by omega)) ?_
  refine lv_topi (fun x_20 ex_20 => ?_)
  obtain rfl : x_20 = nI ((st + w) / L) := ex_20.trans (pk_div (by omega) hL0 (by omega))
  refine lv_iadd hx hb dX2_pageAfter_21 ?_
  refine lv_topi (fun x_21 ex_21 => ?_)
  obtain rfl : x_21 = nI (sP bg on + (st + w) / L) := ex_21.trans (nI_add _ _)
  exact W.iret (v := (nI (sP bg on + (st + w) / L))) hx hb hr (fun t ht hW => ⟨_, rfl, rfl, ht⟩) (fun q h => by cases h) dX2_pageAfter_22

set_option maxHeartbeats 1000000 in
set_option maxRecDepth 100000 in
theorem c_X2_endsOnAPage (l : Launch) {D : va_G} {cI cP cR cJ : ClassId} {x aC aT aR aP L C rl bg st : Nat} {on : Bool} {mk rp sp sc sk fa : Int32} {ch tr rc : Nat → Int32} {pg : Nat → Option Nat} {pl : va_W} (hon : on = true → 0 < bg) (hbg : bg ≤ 40) (hL0 : 0 < L) (hL : L ≤ 66) (hst : st < L) (w : Nat) (hw : w ≤ 1000) : Met l yX2_endsOnAPage wsX2_endsOnAPage ({ frames := 2, cells := 0, slots := 0, locals := 42 }) (ro [.ref x, .int (nI w)] D cI cP cR cJ (wX cI cP x aC aT aR aP (nI L) (nI C) (nI rl) (nI bg) (zb on) (nI st) mk rp sp sc sk fa ch tr rc pg pl)) (vp_Si (fun r => r = zb (decide (sP bg on + (st + w) / L < 40)))) 0 0 (fun _ => False) := by
  refine Met.ofW (cc := cX2_endsOnAPage) (maxL := 2) (ret := (some .boolean)) (by decide) rfl ?_
  intro p e s m args below meth c s₁ B hml hv
  obtain ⟨rfl, hP, hK⟩ := hv
  have hx := B.exec
  have hb := B.bytes
  have hr := B.returns
  have hts := atoms_spec (ws := wsX2_endsOnAPage) B.pre
  have hown : s.vm.findClass RX2 = some m.cls := findClass_of_methodNamed B.named
  have hlocks := B.notSynchronized
  have hinX2 : ∀ w ∈ wsX20, w ∈ wsX2_endsOnAPage := by decide +kernel
  have hl := lv_entry ([.ref x, .int (nI w)]) (n := 2) (Nat.le_of_ble_eq_true rfl)
  rw [lg_entry_eq]
  generalize (lg_sl ([.ref x, .int (nI w)]) ++ List.replicate (2 - (lg_sl ([.ref x, .int (nI w)])).length) Slot.unset).toArray = ls at hl ⊢
  have hl : lv_has ls 2 [(0, .ref x), (1, .int (nI w))] := hl
  have hq : (st + w) / L ≤ st + w := Nat.div_le_self _ _
  have hsp : sP bg on ≤ 40 := by { unfold sP; split <;> omega }
  refine lv_aload_n hx hb dX2_endsOnAPage_0 rfl (lv_at hl 0 rfl) ?_
  refine lv_iload_n hx hb dX2_endsOnAPage_1 rfl (lv_at hl 1 rfl) ?_
  refine vp_callSi (W.runV (As := [.int (nI w)]) (rest := []) ⟨hx, hb, hml, hown, hts⟩ (c_X2_pageAfter l hon hbg hL0 hL hst w hw) (cwV 1 hts gX2_endsOnAPage_X2_pageAfter rfl rfl rfl (by decide +kernel) ⟨(Nat.le_of_ble_eq_true rfl), (Nat.le_of_ble_eq_true rfl)⟩) (ro_pre hK hP rfl 0 rfl) rfl rfl hl.1 rfl (lv_room (Nat.le_of_ble_eq_true rfl)) dX2_endsOnAPage_2 ⟨(Nat.le_of_ble_eq_true rfl), (Nat.le_of_ble_eq_true rfl)⟩) (fun r_2 w_2 => ?_)
  subst w_2
  refine lv_bipush (v := 40) hx hb dX2_endsOnAPage_5 (by decide +kernel) ?_
  refine lv_icmp_ge (tgt := 14) hx hb dX2_endsOnAPage_7 (by decide) (fun c_7 => ?_) (fun c_7 => ?_)
  ·
    refine lv_iconst (v := 0) hx hb dX2_endsOnAPage_14 (by decide +kernel) ?_
    exact W.zret (v := 0) hx hb hr (by decide +kernel) (fun t ht hW => ⟨_, rfl, zbF (fun h9 => nI_ge h9 (by decide) c_7), ht⟩) (fun q h => by cases h) dX2_endsOnAPage_15
  ·
    refine lv_iconst (v := 1) hx hb dX2_endsOnAPage_10 (by decide +kernel) ?_
    refine lv_goto (tgt := 15) hx hb dX2_endsOnAPage_11 (by decide) ?_
    exact W.zret (v := 1) hx hb hr (by decide +kernel) (fun t ht hW => ⟨_, rfl, zbT (Nat.lt_of_not_le (fun h9 => c_7 (nI_le (a := 40) h9 (by omega)))), ht⟩) (fun q h => by cases h) dX2_endsOnAPage_15

set_option maxHeartbeats 1000000 in
set_option maxRecDepth 100000 in
theorem c_X2_endsAtMostBehindThem (l : Launch) {D : va_G} {cI cP cR cJ : ClassId} {x aC aT aR aP L C rl bg st : Nat} {on : Bool} {mk rp sp sc sk fa : Int32} {ch tr rc : Nat → Int32} {pg : Nat → Option Nat} {pl : va_W} (hon : on = true → 0 < bg) (hbg : bg ≤ 40) (hL0 : 0 < L) (hL : L ≤ 66) (hst : st < L) (w : Nat) (hw : w ≤ 1000) : Met l yX2_endsAtMostBehindThem wsX2_endsAtMostBehindThem ({ frames := 2, cells := 0, slots := 0, locals := 42 }) (ro [.ref x, .int (nI w)] D cI cP cR cJ (wX cI cP x aC aT aR aP (nI L) (nI C) (nI rl) (nI bg) (zb on) (nI st) mk rp sp sc sk fa ch tr rc pg pl)) (vp_Si (fun r => r = zb (decide (sP bg on + (st + w) / L ≤ 40)))) 0 0 (fun _ => False) := by
  refine Met.ofW (cc := cX2_endsAtMostBehindThem) (maxL := 2) (ret := (some .boolean)) (by decide) rfl ?_
  intro p e s m args below meth c s₁ B hml hv
  obtain ⟨rfl, hP, hK⟩ := hv
  have hx := B.exec
  have hb := B.bytes
  have hr := B.returns
  have hts := atoms_spec (ws := wsX2_endsAtMostBehindThem) B.pre
  have hown : s.vm.findClass RX2 = some m.cls := findClass_of_methodNamed B.named
  have hlocks := B.notSynchronized
  have hinX2 : ∀ w ∈ wsX20, w ∈ wsX2_endsAtMostBehindThem := by decide +kernel
  have hl := lv_entry ([.ref x, .int (nI w)]) (n := 2) (Nat.le_of_ble_eq_true rfl)
  rw [lg_entry_eq]
  generalize (lg_sl ([.ref x, .int (nI w)]) ++ List.replicate (2 - (lg_sl ([.ref x, .int (nI w)])).length) Slot.unset).toArray = ls at hl ⊢
  have hl : lv_has ls 2 [(0, .ref x), (1, .int (nI w))] := hl
  have hq : (st + w) / L ≤ st + w := Nat.div_le_self _ _
  have hsp : sP bg on ≤ 40 := by { unfold sP; split <;> omega }
  refine lv_aload_n hx hb dX2_endsAtMostBehindThem_0 rfl (lv_at hl 0 rfl) ?_
  refine lv_iload_n hx hb dX2_endsAtMostBehindThem_1 rfl (lv_at hl 1 rfl) ?_
  refine vp_callSi (W.runV (As := [.int (nI w)]) (rest := []) ⟨hx, hb, hml, hown, hts⟩ (c_X2_pageAfter l hon hbg hL0 hL hst w hw) (cwV 1 hts gX2_endsAtMostBehindThem_X2_pageAfter rfl rfl rfl (by decide +kernel) ⟨(Nat.le_of_ble_eq_true rfl), (Nat.le_of_ble_eq_true rfl)⟩) (ro_pre hK hP rfl 0 rfl) rfl rfl hl.1 rfl (lv_room (Nat.le_of_ble_eq_true rfl)) dX2_endsAtMostBehindThem_2 ⟨(Nat.le_of_ble_eq_true rfl), (Nat.le_of_ble_eq_true rfl)⟩) (fun r_2 w_2 => ?_)
  subst w_2
  refine lv_bipush (v := 40) hx hb dX2_endsAtMostBehindThem_5 (by decide +kernel) ?_
  refine lv_icmp_gt (tgt := 14) hx hb dX2_endsAtMostBehindThem_7 (by decide) (fun c_7 => ?_) (fun c_7 => ?_)
  ·
    refine lv_iconst (v := 0) hx hb dX2_endsAtMostBehindThem_14 (by decide +kernel) ?_
    exact W.zret (v := 0) hx hb hr (by decide +kernel) (fun t ht hW => ⟨_, rfl, zbF (fun h9 => nI_nlt h9 (by decide) c_7), ht⟩) (fun q h => by cases h) dX2_endsAtMostBehindThem_15
  ·
    refine lv_iconst (v := 1) hx hb dX2_endsAtMostBehindThem_10 (by decide +kernel) ?_
    refine lv_goto (tgt := 15) hx hb dX2_endsAtMostBehindThem_11 (by decide) ?_
    exact W.zret (v := 1) hx hb hr (by decide +kernel) (fun t ht hW => ⟨_, rfl, zbT (Nat.le_of_not_lt (fun h9 => c_7 (nI_lt (a := 40) h9 (by omega)))), ht⟩) (fun q h => by cases h) dX2_endsAtMostBehindThem_15

set_option maxHeartbeats 1000000 in
set_option maxRecDepth 100000 in
theorem c_X2_wayTo (l : Launch) {D : va_G} {cI cP cR cJ : ClassId} {x aC aT aR aP L C rl bg st : Nat} {on : Bool} {mk rp sp sc sk fa : Int32} {ch tr rc : Nat → Int32} {pg : Nat → Option Nat} {pl : va_W} (hL0 : 0 < L) (hL : L ≤ 66) (hst : st < L) (k : Nat) (hk1 : 1 ≤ k) (hk2 : k ≤ 12) (hch : chOK L (ch k)) : Met l yX2_wayTo wsX2_wayTo ({ frames := 1, cells := 0, slots := 0, locals := 20 }) (ro [.ref x, .int (nI k)] D cI cP cR cJ (wX cI cP x aC aT aR aP (nI L) (nI C) (nI rl) (nI bg) (zb on) (nI st) mk rp sp sc sk fa ch tr rc pg pl)) (vp_Si (fun r => r = nI (wyN L st (ch k)))) 0 0 (fun _ => False) := by
  refine Met.ofW (cc := cX2_wayTo) (maxL := 3) (ret := (some .int)) (by decide) rfl ?_
  intro p e s m args below meth c s₁ B hml hv
  obtain ⟨rfl, hP, hK⟩ := hv
  have hx := B.exec
  have hb := B.bytes
  have hr := B.returns
  have hts := atoms_spec (ws := wsX2_wayTo) B.pre
  have hown : s.vm.findClass RX2 = some m.cls := findClass_of_methodNamed B.named
  have hlocks := B.notSynchronized
  have hinX2 : ∀ w ∈ wsX20, w ∈ wsX2_wayTo := by decide +kernel
  have hl := lv_entry ([.ref x, .int (nI k)]) (n := 3) (Nat.le_of_ble_eq_true rfl)
  rw [lg_entry_eq]
  generalize (lg_sl ([.ref x, .int (nI k)]) ++ List.replicate (3 - (lg_sl ([.ref x, .int (nI k)])).length) Slot.unset).toArray = ls at hl ⊢
  have hl : lv_has ls 3 [(0, .ref x), (1, .int (nI k))] := hl
  refine lv_iload_n hx hb dX2_wayTo_0 rfl (lv_at hl 1 rfl) ?_
  refine vp_callSi (W.runS (As := [.int (nI k)]) (rest := []) ⟨hx, hb, hml, hown, hts⟩ (c_X2_isChannel l ((nI k))) (va_cwS 1 hts gX2_wayTo_X2_isChannel rfl rfl rfl (by decide +kernel) ⟨(Nat.le_of_ble_eq_true rfl), (Nat.le_of_ble_eq_true rfl)⟩) pu_pre rfl rfl hl.1 rfl (lv_room (Nat.le_of_ble_eq_true rfl)) dX2_wayTo_1 ⟨(Nat.le_of_ble_eq_true rfl), (Nat.le_of_ble_eq_true rfl)⟩) (fun r_1 w_1 => ?_)
  subst w_1
  refine lv_if_eq (tgt := 16) hx hb dX2_wayTo_4 (by decide) (fun c_4 => absurd c_4 (zb1.mpr (nI_ch hk1 hk2))) (fun c_4 => ?_)
  refine lv_aload_n hx hb dX2_wayTo_7 rfl (lv_at hl 0 rfl) ?_
  refine va_get (D := D) (ci := 3) (v := .ref aC) (C := RX2) (T := TX2) (N := 16) hx hb hts hinX2 hown hK.1 hP 0 rfl rfl 2 (by decide) (hts (.fieldLink RX2 20 "PrinterRows" "channelLines" "[I") (by decide +kernel)) (fun _ h9 => h9) rfl dX2_wayTo_8 ?_
  refine lv_iload_n hx hb dX2_wayTo_11 rfl (lv_at hl 1 rfl) ?_
  refine va_iald hx hb hK.1 hP 1 0 rfl rfl (vp_in_nI (by omega) (by decide)) dX2_wayTo_12 ?_
  refine lv_topi (fun x_12 ex_12 => ?_)
  obtain rfl : x_12 = ch k := ex_12.trans (by rw [nI_clamp (by omega)])
  refine lv_goto (tgt := 17) hx hb dX2_wayTo_13 (by decide) ?_
  refine lv_istore_n (lv' := [(2, .int (ch k)), (0, .ref x), (1, .int (nI k))]) hx hb dX2_wayTo_17 rfl hl (by decide) rfl (fun ls hl => ?_)
  refine lv_iload_n hx hb dX2_wayTo_18 rfl (lv_at hl 0 rfl) ?_
  refine lv_iconst (v := (-1)) hx hb dX2_wayTo_19 (by decide +kernel) ?_
  refine lv_icmp_ne (tgt := 28) hx hb dX2_wayTo_20 (by decide) (fun c_20 => ?_) (fun c_20 => ?_)
  ·
    refine lv_iload_n hx hb dX2_wayTo_28 rfl (lv_at hl 0 rfl) ?_
    refine lv_aload_n hx hb dX2_wayTo_29 rfl (lv_at hl 1 rfl) ?_
    refine va_get (D := D) (ci := 3) (v := .int (nI st)) (C := RX2) (T := TX2) (N := 16) hx hb hts hinX2 hown hK.1 hP 0 rfl rfl 9 (by decide) (hts (.fieldLink RX2 125 "PrinterRows" "standLine" "I") (by decide +kernel)) (fun _ h9 => h9) rfl dX2_wayTo_30 ?_
    refine lv_icmp_le (tgt := 45) hx hb dX2_wayTo_33 (by decide) (fun c_33 => ?_) (fun c_33 => ?_)
    ·
      rcases hch with hch | ⟨j, hj, hch⟩
      · exact absurd hch c_20
      have hcl : (ch k).toNatClampNeg = j := by rw [hch, nI_clamp (by omega)]
      refine lv_iload_n hx hb dX2_wayTo_45 rfl (lv_at hl 0 rfl) ?_
      refine lv_aload_n hx hb dX2_wayTo_46 rfl (lv_at hl 1 rfl) ?_
      refine va_get (D := D) (ci := 3) (v := .int (nI st)) (C := RX2) (T := TX2) (N := 16) hx hb hts hinX2 hown hK.1 hP 0 rfl rfl 9 (by decide) (hts (.fieldLink RX2 125 "PrinterRows" "standLine" "I") (by decide +kernel)) (fun _ h9 => h9) rfl dX2_wayTo_47 ?_
      refine lv_isub hx hb dX2_wayTo_50 ?_
      refine lv_aload_n hx hb dX2_wayTo_51 rfl (lv_at hl 1 rfl) ?_
      refine va_get (D := D) (ci := 3) (v := .int (nI L)) (C := RX2) (T := TX2) (N := 16) hx hb hts hinX2 hown hK.1 hP 0 rfl rfl 0 (by decide) (hts (.fieldLink RX2 13 "PrinterRows" "lines" "I") (by decide +kernel)) (fun _ h9 => h9) rfl dX2_wayTo_52 ?_
      refine lv_iadd hx hb dX2_wayTo_55 ?_
      exact W.iret (v := (((ch k) - (nI st)) + (nI L))) hx hb hr (fun t ht hW => ⟨_, rfl, by rw [wyN, if_neg c_20, hcl]; rw [hch] at c_33 ⊢; rw [if_neg (fun h9 => nI_ge h9 (by omega) c_33)]; exact way_sub (by omega), ht⟩) (fun q h => by cases h) dX2_wayTo_56
    ·
      rcases hch with hch | ⟨j, hj, hch⟩
      · exact absurd hch c_20
      have hcl : (ch k).toNatClampNeg = j := by rw [hch, nI_clamp (by omega)]
      refine lv_iload_n hx hb dX2_wayTo_36 rfl (lv_at hl 0 rfl) ?_
      refine lv_aload_n hx hb dX2_wayTo_37 rfl (lv_at hl 1 rfl) ?_
      refine va_get (D := D) (ci := 3) (v := .int (nI st)) (C := RX2) (T := TX2) (N := 16) hx hb hts hinX2 hown hK.1 hP 0 rfl rfl 9 (by decide) (hts (.fieldLink RX2 125 "PrinterRows" "standLine" "I") (by decide +kernel)) (fun _ h9 => h9) rfl dX2_wayTo_38 ?_
      refine lv_isub hx hb dX2_wayTo_41 ?_
      refine lv_goto (tgt := 56) hx hb dX2_wayTo_42 (by decide) ?_
      exact W.iret (v := ((ch k) - (nI st))) hx hb hr (fun t ht hW => ⟨_, rfl, by rw [wyN, if_neg c_20, hcl]; rw [hch] at c_33 ⊢; rw [if_pos (Nat.lt_of_not_le (fun h9 => c_33 (nI_le h9 (by omega)))), pk_sub (by have := Nat.lt_of_not_le (fun h9 => c_33 (nI_le (b := st) h9 (by omega))); omega)], ht⟩) (fun q h => by cases h) dX2_wayTo_56
  ·
    refine lv_aload_n hx hb dX2_wayTo_23 rfl (lv_at hl 1 rfl) ?_
    refine va_get (D := D) (ci := 3) (v := .int (nI L)) (C := RX2) (T := TX2) (N := 16) hx hb hts hinX2 hown hK.1 hP 0 rfl rfl 0 (by decide) (hts (.fieldLink RX2 13 "PrinterRows" "lines" "I") (by decide +kernel)) (fun _ h9 => h9) rfl dX2_wayTo_24 ?_
    exact W.iret (v := (nI L)) hx hb hr (fun t ht hW => ⟨_, rfl, by rw [wyN, if_pos c_20], ht⟩) (fun q h => by cases h) dX2_wayTo_27

set_option maxHeartbeats 1000000 in
set_option maxRecDepth 100000 in
theorem c_X2_over (l : Launch) {D : va_G} {cI cP cR cJ : ClassId} {x aC aT aR aP L C rl bg st : Nat} {on : Bool} {mk rp sp sc sk fa : Int32} {ch tr rc : Nat → Int32} {pg : Nat → Option Nat} {pl : va_W} (a0 b0 : Int32) : Met l yX2_over wsX2_over ({ frames := 2, cells := 0, slots := 0, locals := 34 }) (ro [.ref x, .int a0, .int b0] D cI cP cR cJ (wX cI cP x aC aT aR aP (nI L) (nI C) (nI rl) (nI bg) (zb on) (nI st) mk rp sp sc sk fa ch tr rc pg pl)) (vp_Si (fun r => r = ovR a0 b0)) 0 0 (fun _ => False) := by
  refine Met.ofW (cc := cX2_over) (maxL := 3) (ret := (some .int)) (by decide) rfl ?_
  intro p e s m args below meth c s₁ B hml hv
  obtain ⟨rfl, hP, hK⟩ := hv
  have hx := B.exec
  have hb := B.bytes
  have hr := B.returns
  have hts := atoms_spec (ws := wsX2_over) B.pre
  have hown : s.vm.findClass RX2 = some m.cls := findClass_of_methodNamed B.named
  have hlocks := B.notSynchronized
  have hl := lv_entry ([.ref x, .int a0, .int b0]) (n := 3) (Nat.le_of_ble_eq_true rfl)
  rw [lg_entry_eq]
  generalize (lg_sl ([.ref x, .int a0, .int b0]) ++ List.replicate (3 - (lg_sl ([.ref x, .int a0, .int b0])).length) Slot.unset).toArray = ls at hl ⊢
  have hl : lv_has ls 3 [(0, .ref x), (1, .int a0), (2, .int b0)] := hl
  refine lv_iload_n hx hb dX2_over_0 rfl (lv_at hl 1 rfl) ?_
  refine vp_callSi (W.runS (As := [.int a0]) (rest := []) ⟨hx, hb, hml, hown, hts⟩ (c_X2_isSign l (a0)) (va_cwS 1 hts gX2_over_X2_isSign rfl rfl rfl (by decide +kernel) ⟨(Nat.le_of_ble_eq_true rfl), (Nat.le_of_ble_eq_true rfl)⟩) pu_pre rfl rfl hl.1 rfl (lv_room (Nat.le_of_ble_eq_true rfl)) dX2_over_1 ⟨(Nat.le_of_ble_eq_true rfl), (Nat.le_of_ble_eq_true rfl)⟩) (fun r_1 w_1 => ?_)
  subst w_1
  refine lv_if_eq (tgt := 14) hx hb dX2_over_4 (by decide) (fun c_4 => ?_) (fun c_4 => ?_)
  ·
    refine lv_iconst (v := (-1)) hx hb dX2_over_14 (by decide +kernel) ?_
    exact W.iret (v := (-1)) hx hb hr (fun t ht hW => ⟨_, rfl, by rw [ovR, if_pos c_4], ht⟩) (fun q h => by cases h) dX2_over_15
  ·
    refine lv_iload_n hx hb dX2_over_7 rfl (lv_at hl 2 rfl) ?_
    refine vp_callSi (W.runS (As := [.int b0]) (rest := []) ⟨hx, hb, hml, hown, hts⟩ (c_X2_isSign l (b0)) (va_cwS 1 hts gX2_over_X2_isSign rfl rfl rfl (by decide +kernel) ⟨(Nat.le_of_ble_eq_true rfl), (Nat.le_of_ble_eq_true rfl)⟩) pu_pre rfl rfl hl.1 rfl (lv_room (Nat.le_of_ble_eq_true rfl)) dX2_over_8 ⟨(Nat.le_of_ble_eq_true rfl), (Nat.le_of_ble_eq_true rfl)⟩) (fun r_8 w_8 => ?_)
    subst w_8
    refine lv_if_ne (tgt := 16) hx hb dX2_over_11 (by decide) (fun c_11 => ?_) (fun c_11 => ?_)
    ·
      refine lv_iload_n hx hb dX2_over_16 rfl (lv_at hl 1 rfl) ?_
      refine lv_iload_n hx hb dX2_over_17 rfl (lv_at hl 2 rfl) ?_
      refine vp_callSi (W.runS (As := [.int a0, .int b0]) (rest := []) ⟨hx, hb, hml, hown, hts⟩ (c_X2_darker l (a0) (b0)) (va_cwS 2 hts gX2_over_X2_darker rfl rfl rfl (by decide +kernel) ⟨(Nat.le_of_ble_eq_true rfl), (Nat.le_of_ble_eq_true rfl)⟩) pu_pre rfl rfl hl.1 rfl (lv_room (Nat.le_of_ble_eq_true rfl)) dX2_over_18 ⟨(Nat.le_of_ble_eq_true rfl), (Nat.le_of_ble_eq_true rfl)⟩) (fun r_18 w_18 => ?_)
      subst w_18
      exact W.iret (v := (mx a0 b0)) hx hb hr (fun t ht hW => ⟨_, rfl, by rw [ovR, if_neg c_4, if_pos c_11], ht⟩) (fun q h => by cases h) dX2_over_21
    ·
      refine lv_iconst (v := (-1)) hx hb dX2_over_14 (by decide +kernel) ?_
      exact W.iret (v := (-1)) hx hb hr (fun t ht hW => ⟨_, rfl, by rw [ovR, if_neg c_4, if_neg (fun h9 => h9 c_11)], ht⟩) (fun q h => by cases h) dX2_over_15

set_option maxHeartbeats 1000000 in
set_option maxRecDepth 100000 in
theorem c_X2_tally (l : Launch) {D : va_G} {cI cP cR cJ : ClassId} {x aC aT aR aP L C rl bg st : Nat} {on : Bool} {mk rp sp sc sk fa : Int32} {ch tr rc : Nat → Int32} {pg : Nat → Option Nat} {pl : va_W} (w0 : Int32) : Met l yX2_tally wsX2_tally ({ frames := 0, cells := 0, slots := 0, locals := 0 }) (ro [.ref x, .int w0] D cI cP cR cJ (wX cI cP x aC aT aR aP (nI L) (nI C) (nI rl) (nI bg) (zb on) (nI st) mk rp sp sc sk fa ch tr rc pg pl)) (vp_Si (fun r => r = tlR bg st rp sp sc sk fa rl w0)) 0 0 (fun _ => False) := by
  refine Met.ofW (cc := cX2_tally) (maxL := 2) (ret := (some .int)) (by decide) rfl ?_
  intro p e s m args below meth c s₁ B hml hv
  obtain ⟨rfl, hP, hK⟩ := hv
  have hx := B.exec
  have hb := B.bytes
  have hr := B.returns
  have hts := atoms_spec (ws := wsX2_tally) B.pre
  have hown : s.vm.findClass RX2 = some m.cls := findClass_of_methodNamed B.named
  have hlocks := B.notSynchronized
  have hinX2 : ∀ w ∈ wsX20, w ∈ wsX2_tally := by decide +kernel
  have hl := lv_entry ([.ref x, .int w0]) (n := 2) (Nat.le_of_ble_eq_true rfl)
  rw [lg_entry_eq]
  generalize (lg_sl ([.ref x, .int w0]) ++ List.replicate (2 - (lg_sl ([.ref x, .int w0])).length) Slot.unset).toArray = ls at hl ⊢
  have hl : lv_has ls 2 [(0, .ref x), (1, .int w0)] := hl
  refine lv_iload_n hx hb dX2_tally_0 rfl (lv_at hl 1 rfl) ?_
  by_cases k_0 : w0 = 0
  ·
    refine lv_tableIn (off := 47) (tgt := 48) hx hb dX2_tally_1 (by rw [k_0]; decide +kernel) (by rw [k_0]; decide +kernel) (by rw [k_0]; decide +kernel) (by decide) ?_
    refine lv_aload_n hx hb dX2_tally_48 rfl (lv_at hl 0 rfl) ?_
    refine va_get (D := D) (ci := 3) (v := .int (nI bg)) (C := RX2) (T := TX2) (N := 16) hx hb hts hinX2 hown hK.1 hP 0 rfl rfl 7 (by decide) (hts (.fieldLink RX2 86 "PrinterRows" "begun" "I") (by decide +kernel)) (fun _ h9 => h9) rfl dX2_tally_49 ?_
    exact W.iret (v := (nI bg)) hx hb hr (fun t ht hW => ⟨_, rfl, by rw [tlR, if_pos k_0], ht⟩) (fun q h => by cases h) dX2_tally_52
  by_cases k_1 : w0 = 1
  ·
    refine lv_tableIn (off := 52) (tgt := 53) hx hb dX2_tally_1 (by rw [k_1]; decide +kernel) (by rw [k_1]; decide +kernel) (by rw [k_1]; decide +kernel) (by decide) ?_
    refine lv_aload_n hx hb dX2_tally_53 rfl (lv_at hl 0 rfl) ?_
    refine va_get (D := D) (ci := 3) (v := .int (nI st)) (C := RX2) (T := TX2) (N := 16) hx hb hts hinX2 hown hK.1 hP 0 rfl rfl 9 (by decide) (hts (.fieldLink RX2 125 "PrinterRows" "standLine" "I") (by decide +kernel)) (fun _ h9 => h9) rfl dX2_tally_54 ?_
    exact W.iret (v := (nI st)) hx hb hr (fun t ht hW => ⟨_, rfl, by rw [tlR, if_neg k_0, if_pos k_1], ht⟩) (fun q h => by cases h) dX2_tally_57
  by_cases k_2 : w0 = 2
  ·
    refine lv_tableIn (off := 57) (tgt := 58) hx hb dX2_tally_1 (by rw [k_2]; decide +kernel) (by rw [k_2]; decide +kernel) (by rw [k_2]; decide +kernel) (by decide) ?_
    refine lv_aload_n hx hb dX2_tally_58 rfl (lv_at hl 0 rfl) ?_
    refine va_get (D := D) (ci := 3) (v := .int rp) (C := RX2) (T := TX2) (N := 16) hx hb hts hinX2 hown hK.1 hP 0 rfl rfl 11 (by decide) (hts (.fieldLink RX2 128 "PrinterRows" "recordsPrinted" "I") (by decide +kernel)) (fun _ h9 => h9) rfl dX2_tally_59 ?_
    exact W.iret (v := rp) hx hb hr (fun t ht hW => ⟨_, rfl, by rw [tlR, if_neg k_0, if_neg k_1, if_pos k_2], ht⟩) (fun q h => by cases h) dX2_tally_62
  by_cases k_3 : w0 = 3
  ·
    refine lv_tableIn (off := 62) (tgt := 63) hx hb dX2_tally_1 (by rw [k_3]; decide +kernel) (by rw [k_3]; decide +kernel) (by rw [k_3]; decide +kernel) (by decide) ?_
    refine lv_aload_n hx hb dX2_tally_63 rfl (lv_at hl 0 rfl) ?_
    refine va_get (D := D) (ci := 3) (v := .int sp) (C := RX2) (T := TX2) (N := 16) hx hb hts hinX2 hown hK.1 hP 0 rfl rfl 12 (by decide) (hts (.fieldLink RX2 131 "PrinterRows" "signsPrinted" "I") (by decide +kernel)) (fun _ h9 => h9) rfl dX2_tally_64 ?_
    exact W.iret (v := sp) hx hb hr (fun t ht hW => ⟨_, rfl, by rw [tlR, if_neg k_0, if_neg k_1, if_neg k_2, if_pos k_3], ht⟩) (fun q h => by cases h) dX2_tally_67
  by_cases k_4 : w0 = 4
  ·
    refine lv_tableIn (off := 67) (tgt := 68) hx hb dX2_tally_1 (by rw [k_4]; decide +kernel) (by rw [k_4]; decide +kernel) (by rw [k_4]; decide +kernel) (by decide) ?_
    refine lv_aload_n hx hb dX2_tally_68 rfl (lv_at hl 0 rfl) ?_
    refine va_get (D := D) (ci := 3) (v := .int sc) (C := RX2) (T := TX2) (N := 16) hx hb hts hinX2 hown hK.1 hP 0 rfl rfl 13 (by decide) (hts (.fieldLink RX2 134 "PrinterRows" "signsCut" "I") (by decide +kernel)) (fun _ h9 => h9) rfl dX2_tally_69 ?_
    exact W.iret (v := sc) hx hb hr (fun t ht hW => ⟨_, rfl, by rw [tlR, if_neg k_0, if_neg k_1, if_neg k_2, if_neg k_3, if_pos k_4], ht⟩) (fun q h => by cases h) dX2_tally_72
  by_cases k_5 : w0 = 5
  ·
    refine lv_tableIn (off := 72) (tgt := 73) hx hb dX2_tally_1 (by rw [k_5]; decide +kernel) (by rw [k_5]; decide +kernel) (by rw [k_5]; decide +kernel) (by decide) ?_
    refine lv_aload_n hx hb dX2_tally_73 rfl (lv_at hl 0 rfl) ?_
    refine va_get (D := D) (ci := 3) (v := .int sk) (C := RX2) (T := TX2) (N := 16) hx hb hts hinX2 hown hK.1 hP 0 rfl rfl 14 (by decide) (hts (.fieldLink RX2 137 "PrinterRows" "skipsToNoLine" "I") (by decide +kernel)) (fun _ h9 => h9) rfl dX2_tally_74 ?_
    exact W.iret (v := sk) hx hb hr (fun t ht hW => ⟨_, rfl, by rw [tlR, if_neg k_0, if_neg k_1, if_neg k_2, if_neg k_3, if_neg k_4, if_pos k_5], ht⟩) (fun q h => by cases h) dX2_tally_77
  by_cases k_6 : w0 = 6
  ·
    refine lv_tableIn (off := 77) (tgt := 78) hx hb dX2_tally_1 (by rw [k_6]; decide +kernel) (by rw [k_6]; decide +kernel) (by rw [k_6]; decide +kernel) (by decide) ?_
    refine lv_aload_n hx hb dX2_tally_78 rfl (lv_at hl 0 rfl) ?_
    refine va_get (D := D) (ci := 3) (v := .int fa) (C := RX2) (T := TX2) (N := 16) hx hb hts hinX2 hown hK.1 hP 0 rfl rfl 15 (by decide) (hts (.fieldLink RX2 122 "PrinterRows" "formsAskedFor" "I") (by decide +kernel)) (fun _ h9 => h9) rfl dX2_tally_79 ?_
    exact W.iret (v := fa) hx hb hr (fun t ht hW => ⟨_, rfl, by rw [tlR, if_neg k_0, if_neg k_1, if_neg k_2, if_neg k_3, if_neg k_4, if_neg k_5, if_pos k_6], ht⟩) (fun q h => by cases h) dX2_tally_82
  by_cases k_7 : w0 = 7
  ·
    refine lv_tableIn (off := 82) (tgt := 83) hx hb dX2_tally_1 (by rw [k_7]; decide +kernel) (by rw [k_7]; decide +kernel) (by rw [k_7]; decide +kernel) (by decide) ?_
    refine lv_aload_n hx hb dX2_tally_83 rfl (lv_at hl 0 rfl) ?_
    refine va_get (D := D) (ci := 3) (v := .int (nI rl)) (C := RX2) (T := TX2) (N := 16) hx hb hts hinX2 hown hK.1 hP 0 rfl rfl 5 (by decide) (hts (.fieldLink RX2 46 "PrinterRows" "recordLength" "I") (by decide +kernel)) (fun _ h9 => h9) rfl dX2_tally_84 ?_
    exact W.iret (v := (nI rl)) hx hb hr (fun t ht hW => ⟨_, rfl, by rw [tlR, if_neg k_0, if_neg k_1, if_neg k_2, if_neg k_3, if_neg k_4, if_neg k_5, if_neg k_6, if_pos k_7], ht⟩) (fun q h => by cases h) dX2_tally_87
  refine lv_tableOut (tgt := 88) hx hb dX2_tally_1 (by have q_k_0 := lv_neT (a := 0) k_0 (by decide +kernel); have q_k_1 := lv_neT (a := 1) k_1 (by decide +kernel); have q_k_2 := lv_neT (a := 2) k_2 (by decide +kernel); have q_k_3 := lv_neT (a := 3) k_3 (by decide +kernel); have q_k_4 := lv_neT (a := 4) k_4 (by decide +kernel); have q_k_5 := lv_neT (a := 5) k_5 (by decide +kernel); have q_k_6 := lv_neT (a := 6) k_6 (by decide +kernel); have q_k_7 := lv_neT (a := 7) k_7 (by decide +kernel); omega) (by decide) ?_
  refine lv_iconst (v := (-1)) hx hb dX2_tally_88 (by decide +kernel) ?_
  exact W.iret (v := (-1)) hx hb hr (fun t ht hW => ⟨_, rfl, by rw [tlR, if_neg k_0, if_neg k_1, if_neg k_2, if_neg k_3, if_neg k_4, if_neg k_5, if_neg k_6, if_neg k_7], ht⟩) (fun q h => by cases h) dX2_tally_89

def bpR (bg : Nat) (pg : Nat → Option Nat) (q : Int32) : Option Nat := if ¬ q < 0 ∧ ¬ nI bg ≤ q then pg q.toNatClampNeg else none

set_option maxHeartbeats 1000000 in
set_option maxRecDepth 100000 in
theorem c_X2_begunPage (l : Launch) {D : va_G} {cI cP cR cJ : ClassId} {x aC aT aR aP L C rl bg st : Nat} {on : Bool} {mk rp sp sc sk fa : Int32} {ch tr rc : Nat → Int32} {pg : Nat → Option Nat} {pl : va_W} (hbg : bg ≤ 40) (q0 : Int32) : Met l yX2_begunPage wsX2_begunPage ({ frames := 0, cells := 0, slots := 0, locals := 0 }) (ro [.ref x, .int q0] D cI cP cR cJ (wX cI cP x aC aT aR aP (nI L) (nI C) (nI rl) (nI bg) (zb on) (nI st) mk rp sp sc sk fa ch tr rc pg pl)) (va_Sq (fun r => r = bpR bg pg q0)) 0 0 (fun _ => False) := by
  refine Met.ofW (cc := cX2_begunPage) (maxL := 2) (ret := (some (.object "PrinterRows$Page"))) (by decide) rfl ?_
  intro p e s m args below meth c s₁ B hml hv
  obtain ⟨rfl, hP, hK⟩ := hv
  have hx := B.exec
  have hb := B.bytes
  have hr := B.returns
  have hts := atoms_spec (ws := wsX2_begunPage) B.pre
  have hown : s.vm.findClass RX2 = some m.cls := findClass_of_methodNamed B.named
  have hlocks := B.notSynchronized
  have hinX2 : ∀ w ∈ wsX20, w ∈ wsX2_begunPage := by decide +kernel
  have hl := lv_entry ([.ref x, .int q0]) (n := 2) (Nat.le_of_ble_eq_true rfl)
  rw [lg_entry_eq]
  generalize (lg_sl ([.ref x, .int q0]) ++ List.replicate (2 - (lg_sl ([.ref x, .int q0])).length) Slot.unset).toArray = ls at hl ⊢
  have hl : lv_has ls 2 [(0, .ref x), (1, .int q0)] := hl
  refine lv_iload_n hx hb dX2_begunPage_0 rfl (lv_at hl 1 rfl) ?_
  refine lv_if_lt (tgt := 30) hx hb dX2_begunPage_1 (by decide) (fun c_1 => ?_) (fun c_1 => ?_)
  ·
    refine lv_null hx hb dX2_begunPage_30 ?_
    exact W.aret (v := .null) hx hb hr (Or.inl ⟨_, rfl⟩) (Or.inl rfl) (fun t ht hW => ⟨none, rfl, by rw [bpR, if_neg (fun h9 => h9.1 c_1)], ht⟩) (fun q h => by cases h) dX2_begunPage_31
  ·
    refine lv_iload_n hx hb dX2_begunPage_4 rfl (lv_at hl 1 rfl) ?_
    refine lv_aload_n hx hb dX2_begunPage_5 rfl (lv_at hl 0 rfl) ?_
    refine va_get (D := D) (ci := 3) (v := .int (nI bg)) (C := RX2) (T := TX2) (N := 16) hx hb hts hinX2 hown hK.1 hP 0 rfl rfl 7 (by decide) (hts (.fieldLink RX2 86 "PrinterRows" "begun" "I") (by decide +kernel)) (fun _ h9 => h9) rfl dX2_begunPage_6 ?_
    refine lv_icmp_ge (tgt := 30) hx hb dX2_begunPage_9 (by decide) (fun c_9 => ?_) (fun c_9 => ?_)
    ·
      refine lv_null hx hb dX2_begunPage_30 ?_
      exact W.aret (v := .null) hx hb hr (Or.inl ⟨_, rfl⟩) (Or.inl rfl) (fun t ht hW => ⟨none, rfl, by rw [bpR, if_neg (fun h9 => h9.2 c_9)], ht⟩) (fun q h => by cases h) dX2_begunPage_31
    ·
      refine lv_iload_n hx hb dX2_begunPage_12 rfl (lv_at hl 1 rfl) ?_
      refine lv_aload_n hx hb dX2_begunPage_13 rfl (lv_at hl 0 rfl) ?_
      refine va_get (D := D) (ci := 3) (v := .ref aP) (C := RX2) (T := TX2) (N := 16) hx hb hts hinX2 hown hK.1 hP 0 rfl rfl 6 (by decide) (hts (.fieldLink RX2 38 "PrinterRows" "pages" "[LPrinterRows$Page;") (by decide +kernel)) (fun _ h9 => h9) rfl dX2_begunPage_14 ?_
      refine va_alen (v := 40) hx hb hK.1 hP 4 1 rfl rfl rfl dX2_begunPage_17 ?_
      refine lv_icmp_ge (tgt := 30) hx hb dX2_begunPage_18 (by decide) (fun c_18 => ?_) (fun c_18 => ?_)
      ·
        refine lv_null hx hb dX2_begunPage_30 ?_
        exact W.aret (v := .null) hx hb hr (Or.inl ⟨_, rfl⟩) (Or.inl rfl) (fun t ht hW => ⟨none, rfl, by rw [bpR, if_neg (fun h9 => h9.2 (by rw [i32_le] at c_18 ⊢; rw [nI_toInt (by omega)]; have : (40 : Int32).toInt = 40 := rfl; omega))], ht⟩) (fun q h => by cases h) dX2_begunPage_31
      ·
        refine lv_aload_n hx hb dX2_begunPage_21 rfl (lv_at hl 0 rfl) ?_
        refine va_get (D := D) (ci := 3) (v := .ref aP) (C := RX2) (T := TX2) (N := 16) hx hb hts hinX2 hown hK.1 hP 0 rfl rfl 6 (by decide) (hts (.fieldLink RX2 38 "PrinterRows" "pages" "[LPrinterRows$Page;") (by decide +kernel)) (fun _ h9 => h9) rfl dX2_begunPage_22 ?_
        refine lv_iload_n hx hb dX2_begunPage_25 rfl (lv_at hl 1 rfl) ?_
        refine va_aldq hx hb hK.1 hP 4 1 rfl rfl (by rw [vp_in_iff]; rw [i32_lt] at c_1; rw [i32_le] at c_18; have : (40 : Int32).toInt = 40 := rfl; have : (0 : Int32).toInt = 0 := rfl; omega) dX2_begunPage_26 ?_
        refine lv_goto (tgt := 31) hx hb dX2_begunPage_27 (by decide) ?_
        exact W.aret (v := va_rf (pg (q0).toNatClampNeg)) hx hb hr (Or.inl ⟨_, rfl⟩) (va_rf_or _) (fun t ht hW => ⟨(pg (q0).toNatClampNeg), rfl, by rw [bpR, if_pos ⟨c_1, c_9⟩], ht⟩) (fun q h => by cases h) dX2_begunPage_31
