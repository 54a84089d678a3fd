/-! the pure parts of the class -/
def isCh (c : Int32) : Bool := if c < 1 then false else if 12 < c then false else true
def isSg (c : Int32) : Bool := if c < 32 then false else if 255 < c then false else true
def mx (a b : Int32) : Int32 := if a < b then b else a
def isPl (c : Int32) : Bool := if c < 256 then false else if 259 < c then false else true
def isSk (c : Int32) : Bool := if zb (isPl c) = 0 then isCh (c - 272) else true
def chOf (c : Int32) : Int32 := if c < 49 then (if c < 65 then (if zb (isCh (c - 272)) = 0 then -1 else c - 272) else if 67 < c then (if zb (isCh (c - 272)) = 0 then -1 else c - 272) else c - 65 + 10) else if 57 < c then (if c < 65 then (if zb (isCh (c - 272)) = 0 then -1 else c - 272) else if 67 < c then (if zb (isCh (c - 272)) = 0 then -1 else c - 272) else c - 65 + 10) else c - 48
def lnOf (c : Int32) : Int32 := if zb (isPl c) = 0 then (if c = 43 then 0 else if c = 45 then 3 else if c = 48 then 2 else 1) else c - 256
def hdTo (a b : Int32) : Int32 := mx 1 (if b < a then b else a)
def fMod (a b : Int32) : Int32 := if 0 ≤ a ^^^ b then a - a / b * b else if a - a / b * b = 0 then a - a / b * b else a - a / b * b + b

set_option maxHeartbeats 1000000 in
set_option maxRecDepth 100000 in
theorem c_X2_isChannel (l : Launch) (c0 : Int32) : Met l yX2_isChannel wsX2_isChannel ({ frames := 0, cells := 0, slots := 0, locals := 0 }) (pu [.int c0]) (vp_Si (fun r => r = zb (isCh c0))) 0 0 (fun _ => False) := by
  refine Met.ofW (cc := cX2_isChannel) (maxL := 1) (ret := (some .boolean)) (by decide) rfl ?_
  intro p e s m args below meth c s₁ B hml hv
  obtain ⟨rfl, -⟩ := hv
  have hx := B.exec
  have hb := B.bytes
  have hr := B.returns
  have hts := atoms_spec (ws := wsX2_isChannel) B.pre
  have hown : s.vm.findClass RX2 = some m.cls := findClass_of_methodNamed B.named
  have hlocks := B.notSynchronized
  have hl := lv_entry ([.int c0]) (n := 1) (Nat.le_of_ble_eq_true rfl)
  rw [lg_entry_eq]
  generalize (lg_sl ([.int c0]) ++ List.replicate (1 - (lg_sl ([.int c0])).length) Slot.unset).toArray = ls at hl ⊢
  have hl : lv_has ls 1 [(0, .int c0)] := hl
  refine lv_iload_n hx hb dX2_isChannel_0 rfl (lv_at hl 0 rfl) ?_
  refine lv_iconst (v := 1) hx hb dX2_isChannel_1 (by decide +kernel) ?_
  refine lv_icmp_lt (tgt := 15) hx hb dX2_isChannel_2 (by decide) (fun c_2 => ?_) (fun c_2 => ?_)
  ·
    refine lv_iconst (v := 0) hx hb dX2_isChannel_15 (by decide +kernel) ?_
    exact W.zret (v := 0) hx hb hr (by decide +kernel) (fun t ht hW => ⟨_, rfl, by simp [isCh, zb, c_2], ht⟩) (fun q h => by cases h) dX2_isChannel_16
  ·
    refine lv_iload_n hx hb dX2_isChannel_5 rfl (lv_at hl 0 rfl) ?_
    refine lv_bipush (v := 12) hx hb dX2_isChannel_6 (by decide +kernel) ?_
    refine lv_icmp_gt (tgt := 15) hx hb dX2_isChannel_8 (by decide) (fun c_8 => ?_) (fun c_8 => ?_)
    ·
      refine lv_iconst (v := 0) hx hb dX2_isChannel_15 (by decide +kernel) ?_
      exact W.zret (v := 0) hx hb hr (by decide +kernel) (fun t ht hW => ⟨_, rfl, by simp [isCh, zb, c_2, c_8], ht⟩) (fun q h => by cases h) dX2_isChannel_16
    ·
      refine lv_iconst (v := 1) hx hb dX2_isChannel_11 (by decide +kernel) ?_
      refine lv_goto (tgt := 16) hx hb dX2_isChannel_12 (by decide) ?_
      exact W.zret (v := 1) hx hb hr (by decide +kernel) (fun t ht hW => ⟨_, rfl, by simp [isCh, zb, c_2, c_8], ht⟩) (fun q h => by cases h) dX2_isChannel_16

set_option maxHeartbeats 1000000 in
set_option maxRecDepth 100000 in
theorem c_X2_isSign (l : Launch) (c0 : Int32) : Met l yX2_isSign wsX2_isSign ({ frames := 0, cells := 0, slots := 0, locals := 0 }) (pu [.int c0]) (vp_Si (fun r => r = zb (isSg c0))) 0 0 (fun _ => False) := by
  refine Met.ofW (cc := cX2_isSign) (maxL := 1) (ret := (some .boolean)) (by decide) rfl ?_
  intro p e s m args below meth c s₁ B hml hv
  obtain ⟨rfl, -⟩ := hv
  have hx := B.exec
  have hb := B.bytes
  have hr := B.returns
  have hts := atoms_spec (ws := wsX2_isSign) B.pre
  have hown : s.vm.findClass RX2 = some m.cls := findClass_of_methodNamed B.named
  have hlocks := B.notSynchronized
  have hl := lv_entry ([.int c0]) (n := 1) (Nat.le_of_ble_eq_true rfl)
  rw [lg_entry_eq]
  generalize (lg_sl ([.int c0]) ++ List.replicate (1 - (lg_sl ([.int c0])).length) Slot.unset).toArray = ls at hl ⊢
  have hl : lv_has ls 1 [(0, .int c0)] := hl
  refine lv_iload_n hx hb dX2_isSign_0 rfl (lv_at hl 0 rfl) ?_
  refine lv_bipush (v := 32) hx hb dX2_isSign_1 (by decide +kernel) ?_
  refine lv_icmp_lt (tgt := 17) hx hb dX2_isSign_3 (by decide) (fun c_3 => ?_) (fun c_3 => ?_)
  ·
    refine lv_iconst (v := 0) hx hb dX2_isSign_17 (by decide +kernel) ?_
    exact W.zret (v := 0) hx hb hr (by decide +kernel) (fun t ht hW => ⟨_, rfl, by simp [isSg, zb, c_3], ht⟩) (fun q h => by cases h) dX2_isSign_18
  ·
    refine lv_iload_n hx hb dX2_isSign_6 rfl (lv_at hl 0 rfl) ?_
    refine lv_sipush (v := 255) hx hb dX2_isSign_7 (by decide +kernel) ?_
    refine lv_icmp_gt (tgt := 17) hx hb dX2_isSign_10 (by decide) (fun c_10 => ?_) (fun c_10 => ?_)
    ·
      refine lv_iconst (v := 0) hx hb dX2_isSign_17 (by decide +kernel) ?_
      exact W.zret (v := 0) hx hb hr (by decide +kernel) (fun t ht hW => ⟨_, rfl, by simp [isSg, zb, c_3, c_10], ht⟩) (fun q h => by cases h) dX2_isSign_18
    ·
      refine lv_iconst (v := 1) hx hb dX2_isSign_13 (by decide +kernel) ?_
      refine lv_goto (tgt := 18) hx hb dX2_isSign_14 (by decide) ?_
      exact W.zret (v := 1) hx hb hr (by decide +kernel) (fun t ht hW => ⟨_, rfl, by simp [isSg, zb, c_3, c_10], ht⟩) (fun q h => by cases h) dX2_isSign_18

set_option maxHeartbeats 1000000 in
set_option maxRecDepth 100000 in
theorem c_X2_isPlainSecondKind (l : Launch) (c0 : Int32) : Met l yX2_isPlainSecondKind wsX2_isPlainSecondKind ({ frames := 0, cells := 0, slots := 0, locals := 0 }) (pu [.int c0]) (vp_Si (fun r => r = zb (isPl c0))) 0 0 (fun _ => False) := by
  refine Met.ofW (cc := cX2_isPlainSecondKind) (maxL := 1) (ret := (some .boolean)) (by decide) rfl ?_
  intro p e s m args below meth c s₁ B hml hv
  obtain ⟨rfl, -⟩ := hv
  have hx := B.exec
  have hb := B.bytes
  have hr := B.returns
  have hts := atoms_spec (ws := wsX2_isPlainSecondKind) B.pre
  have hown : s.vm.findClass RX2 = some m.cls := findClass_of_methodNamed B.named
  have hlocks := B.notSynchronized
  have hl := lv_entry ([.int c0]) (n := 1) (Nat.le_of_ble_eq_true rfl)
  rw [lg_entry_eq]
  generalize (lg_sl ([.int c0]) ++ List.replicate (1 - (lg_sl ([.int c0])).length) Slot.unset).toArray = ls at hl ⊢
  have hl : lv_has ls 1 [(0, .int c0)] := hl
  refine lv_iload_n hx hb dX2_isPlainSecondKind_0 rfl (lv_at hl 0 rfl) ?_
  refine lv_sipush (v := 256) hx hb dX2_isPlainSecondKind_1 (by decide +kernel) ?_
  refine lv_icmp_lt (tgt := 18) hx hb dX2_isPlainSecondKind_4 (by decide) (fun c_4 => ?_) (fun c_4 => ?_)
  ·
    refine lv_iconst (v := 0) hx hb dX2_isPlainSecondKind_18 (by decide +kernel) ?_
    exact W.zret (v := 0) hx hb hr (by decide +kernel) (fun t ht hW => ⟨_, rfl, by simp [isPl, zb, c_4], ht⟩) (fun q h => by cases h) dX2_isPlainSecondKind_19
  ·
    refine lv_iload_n hx hb dX2_isPlainSecondKind_7 rfl (lv_at hl 0 rfl) ?_
    refine lv_sipush (v := 259) hx hb dX2_isPlainSecondKind_8 (by decide +kernel) ?_
    refine lv_icmp_gt (tgt := 18) hx hb dX2_isPlainSecondKind_11 (by decide) (fun c_11 => ?_) (fun c_11 => ?_)
    ·
      refine lv_iconst (v := 0) hx hb dX2_isPlainSecondKind_18 (by decide +kernel) ?_
      exact W.zret (v := 0) hx hb hr (by decide +kernel) (fun t ht hW => ⟨_, rfl, by simp [isPl, zb, c_4, c_11], ht⟩) (fun q h => by cases h) dX2_isPlainSecondKind_19
    ·
      refine lv_iconst (v := 1) hx hb dX2_isPlainSecondKind_14 (by decide +kernel) ?_
      refine lv_goto (tgt := 19) hx hb dX2_isPlainSecondKind_15 (by decide) ?_
      exact W.zret (v := 1) hx hb hr (by decide +kernel) (fun t ht hW => ⟨_, rfl, by simp [isPl, zb, c_4, c_11], ht⟩) (fun q h => by cases h) dX2_isPlainSecondKind_19

set_option maxHeartbeats 1000000 in
set_option maxRecDepth 100000 in
theorem c_X2_darker (l : Launch) (a0 b0 : Int32) : Met l yX2_darker wsX2_darker ({ frames := 1, cells := 0, slots := 0, locals := 13 }) (pu [.int a0, .int b0]) (vp_Si (fun r => r = mx a0 b0)) 0 0 (fun _ => False) := by
  refine Met.ofW (cc := cX2_darker) (maxL := 2) (ret := (some .int)) (by decide) rfl ?_
  intro p e s m args below meth c s₁ B hml hv
  obtain ⟨rfl, -⟩ := hv
  have hx := B.exec
  have hb := B.bytes
  have hr := B.returns
  have hts := atoms_spec (ws := wsX2_darker) B.pre
  have hown : s.vm.findClass RX2 = some m.cls := findClass_of_methodNamed B.named
  have hlocks := B.notSynchronized
  have hl := lv_entry ([.int a0, .int b0]) (n := 2) (Nat.le_of_ble_eq_true rfl)
  rw [lg_entry_eq]
  generalize (lg_sl ([.int a0, .int b0]) ++ List.replicate (2 - (lg_sl ([.int a0, .int b0])).length) Slot.unset).toArray = ls at hl ⊢
  have hl : lv_has ls 2 [(0, .int a0), (1, .int b0)] := hl
  refine lv_iload_n hx hb dX2_darker_0 rfl (lv_at hl 0 rfl) ?_
  refine lv_iload_n hx hb dX2_darker_1 rfl (lv_at hl 1 rfl) ?_
  refine va_mmax hx hb (by rw [hml]; exact hl.1.symm) hown (hts (.methodLink RX2 54 Lib.Math.max.name) (by decide +kernel)) (hts (.static Lib.Math.max.name) (by decide +kernel)) (hts (.initialized "java/lang/Math") (by decide +kernel)) (hts (.code Lib.Math.max.name Lib.Math.max.code 2 (some .int)) (by decide +kernel)) (Nat.le_of_ble_eq_true rfl) (Nat.le_of_ble_eq_true rfl) (Nat.le_of_ble_eq_true rfl) (Nat.le_of_ble_eq_true rfl) dX2_darker_2 ?_
  exact W.iret (v := (if a0 < b0 then b0 else a0)) hx hb hr (fun t ht hW => ⟨_, rfl, by simp [mx], ht⟩) (fun q h => by cases h) dX2_darker_5

set_option maxHeartbeats 1000000 in
set_option maxRecDepth 100000 in
theorem c_X2_heldTo (l : Launch) (a0 b0 : Int32) : Met l yX2_heldTo wsX2_heldTo ({ frames := 1, cells := 0, slots := 0, locals := 14 }) (pu [.int a0, .int b0]) (vp_Si (fun r => r = hdTo a0 b0)) 0 0 (fun _ => False) := by
  refine Met.ofW (cc := cX2_heldTo) (maxL := 2) (ret := (some .int)) (by decide) rfl ?_
  intro p e s m args below meth c s₁ B hml hv
  obtain ⟨rfl, -⟩ := hv
  have hx := B.exec
  have hb := B.bytes
  have hr := B.returns
  have hts := atoms_spec (ws := wsX2_heldTo) B.pre
  have hown : s.vm.findClass RX2 = some m.cls := findClass_of_methodNamed B.named
  have hlocks := B.notSynchronized
  have hl := lv_entry ([.int a0, .int b0]) (n := 2) (Nat.le_of_ble_eq_true rfl)
  rw [lg_entry_eq]
  generalize (lg_sl ([.int a0, .int b0]) ++ List.replicate (2 - (lg_sl ([.int a0, .int b0])).length) Slot.unset).toArray = ls at hl ⊢
  have hl : lv_has ls 2 [(0, .int a0), (1, .int b0)] := hl
  refine lv_iconst (v := 1) hx hb dX2_heldTo_0 (by decide +kernel) ?_
  refine lv_iload_n hx hb dX2_heldTo_1 rfl (lv_at hl 0 rfl) ?_
  refine lv_iload_n hx hb dX2_heldTo_2 rfl (lv_at hl 1 rfl) ?_
  refine va_mmin hx hb (by rw [hml]; exact hl.1.symm) hown (hts (.methodLink RX2 140 Lib.Math.min.name) (by decide +kernel)) (hts (.static Lib.Math.min.name) (by decide +kernel)) (hts (.initialized "java/lang/Math") (by decide +kernel)) (hts (.code Lib.Math.min.name Lib.Math.min.code 2 (some .int)) (by decide +kernel)) (Nat.le_of_ble_eq_true rfl) (Nat.le_of_ble_eq_true rfl) (Nat.le_of_ble_eq_true rfl) (Nat.le_of_ble_eq_true rfl) dX2_heldTo_3 ?_
  refine va_mmax hx hb (by rw [hml]; exact hl.1.symm) hown (hts (.methodLink RX2 54 Lib.Math.max.name) (by decide +kernel)) (hts (.static Lib.Math.max.name) (by decide +kernel)) (hts (.initialized "java/lang/Math") (by decide +kernel)) (hts (.code Lib.Math.max.name Lib.Math.max.code 2 (some .int)) (by decide +kernel)) (Nat.le_of_ble_eq_true rfl) (Nat.le_of_ble_eq_true rfl) (Nat.le_of_ble_eq_true rfl) (Nat.le_of_ble_eq_true rfl) dX2_heldTo_6 ?_
  exact W.iret (v := (if 1 < (if b0 < a0 then b0 else a0) then (if b0 < a0 then b0 else a0) else 1)) hx hb hr (fun t ht hW => ⟨_, rfl, by simp [hdTo, mx], ht⟩) (fun q h => by cases h) dX2_heldTo_9

set_option maxHeartbeats 1000000 in
set_option maxRecDepth 100000 in
theorem c_X2_isSecondKind (l : Launch) (c0 : Int32) : Met l yX2_isSecondKind wsX2_isSecondKind ({ frames := 1, cells := 0, slots := 0, locals := 20 }) (pu [.int c0]) (vp_Si (fun r => r = zb (isSk c0))) 0 0 (fun _ => False) := by
  refine Met.ofW (cc := cX2_isSecondKind) (maxL := 1) (ret := (some .boolean)) (by decide) rfl ?_
  intro p e s m args below meth c s₁ B hml hv
  obtain ⟨rfl, -⟩ := hv
  have hx := B.exec
  have hb := B.bytes
  have hr := B.returns
  have hts := atoms_spec (ws := wsX2_isSecondKind) B.pre
  have hown : s.vm.findClass RX2 = some m.cls := findClass_of_methodNamed B.named
  have hlocks := B.notSynchronized
  have hl := lv_entry ([.int c0]) (n := 1) (Nat.le_of_ble_eq_true rfl)
  rw [lg_entry_eq]
  generalize (lg_sl ([.int c0]) ++ List.replicate (1 - (lg_sl ([.int c0])).length) Slot.unset).toArray = ls at hl ⊢
  have hl : lv_has ls 1 [(0, .int c0)] := hl
  refine lv_iload_n hx hb dX2_isSecondKind_0 rfl (lv_at hl 0 rfl) ?_
  refine vp_callSi (W.runS (As := [.int c0]) (rest := []) ⟨hx, hb, hml, hown, hts⟩ (c_X2_isPlainSecondKind l (c0)) (va_cwS 1 hts gX2_isSecondKind_X2_isPlainSecondKind rfl rfl rfl (by decide +kernel) ⟨(Nat.le_of_ble_eq_true rfl), (Nat.le_of_ble_eq_true rfl)⟩) pu_pre rfl rfl hl.1 rfl (lv_room (Nat.le_of_ble_eq_true rfl)) dX2_isSecondKind_1 ⟨(Nat.le_of_ble_eq_true rfl), (Nat.le_of_ble_eq_true rfl)⟩) (fun r_1 w_1 => ?_)
  subst w_1
  refine lv_if_ne (tgt := 18) hx hb dX2_isSecondKind_4 (by decide) (fun c_4 => ?_) (fun c_4 => ?_)
  ·
    refine lv_iconst (v := 1) hx hb dX2_isSecondKind_18 (by decide +kernel) ?_
    refine lv_goto (tgt := 23) hx hb dX2_isSecondKind_19 (by decide) ?_
    exact W.zret (v := 1) hx hb hr (by decide +kernel) (fun t ht hW => ⟨_, rfl, by unfold isSk; rw [if_neg c_4]; rfl, ht⟩) (fun q h => by cases h) dX2_isSecondKind_23
  ·
    refine lv_iload_n hx hb dX2_isSecondKind_7 rfl (lv_at hl 0 rfl) ?_
    refine lv_sipush (v := 272) hx hb dX2_isSecondKind_8 (by decide +kernel) ?_
    refine lv_isub hx hb dX2_isSecondKind_11 ?_
    refine vp_callSi (W.runS (As := [.int (c0 - 272)]) (rest := []) ⟨hx, hb, hml, hown, hts⟩ (c_X2_isChannel l ((c0 - 272))) (va_cwS 1 hts gX2_isSecondKind_X2_isChannel rfl rfl rfl (by decide +kernel) ⟨(Nat.le_of_ble_eq_true rfl), (Nat.le_of_ble_eq_true rfl)⟩) pu_pre rfl rfl hl.1 rfl (lv_room (Nat.le_of_ble_eq_true rfl)) dX2_isSecondKind_12 ⟨(Nat.le_of_ble_eq_true rfl), (Nat.le_of_ble_eq_true rfl)⟩) (fun r_12 w_12 => ?_)
    subst w_12
    refine lv_if_eq (tgt := 22) hx hb dX2_isSecondKind_15 (by decide) (fun c_15 => ?_) (fun c_15 => ?_)
    ·
      refine lv_iconst (v := 0) hx hb dX2_isSecondKind_22 (by decide +kernel) ?_
      exact W.zret (v := 0) hx hb hr (by decide +kernel) (fun t ht hW => ⟨_, rfl, by unfold isSk; rw [if_pos c_4, c_15], ht⟩) (fun q h => by cases h) dX2_isSecondKind_23
    ·
      refine lv_iconst (v := 1) hx hb dX2_isSecondKind_18 (by decide +kernel) ?_
      refine lv_goto (tgt := 23) hx hb dX2_isSecondKind_19 (by decide) ?_
      exact W.zret (v := 1) hx hb hr (by decide +kernel) (fun t ht hW => ⟨_, rfl, by unfold isSk; rw [if_pos c_4]; cases hq : isCh (c0 - 272) <;> simp [hq, zb] at c_15 ⊢, ht⟩) (fun q h => by cases h) dX2_isSecondKind_23

set_option maxHeartbeats 1000000 in
set_option maxRecDepth 100000 in
theorem c_X2_channelOfCode (l : Launch) (c0 : Int32) : Met l yX2_channelOfCode wsX2_channelOfCode ({ frames := 1, cells := 0, slots := 0, locals := 20 }) (pu [.int c0]) (vp_Si (fun r => r = chOf c0)) 0 0 (fun _ => False) := by
  refine Met.ofW (cc := cX2_channelOfCode) (maxL := 2) (ret := (some .int)) (by decide) rfl ?_
  intro p e s m args below meth c s₁ B hml hv
  obtain ⟨rfl, -⟩ := hv
  have hx := B.exec
  have hb := B.bytes
  have hr := B.returns
  have hts := atoms_spec (ws := wsX2_channelOfCode) B.pre
  have hown : s.vm.findClass RX2 = some m.cls := findClass_of_methodNamed B.named
  have hlocks := B.notSynchronized
  have hl := lv_entry ([.int c0]) (n := 2) (Nat.le_of_ble_eq_true rfl)
  rw [lg_entry_eq]
  generalize (lg_sl ([.int c0]) ++ List.replicate (2 - (lg_sl ([.int c0])).length) Slot.unset).toArray = ls at hl ⊢
  have hl : lv_has ls 2 [(0, .int c0)] := hl
  refine lv_iload_n hx hb dX2_channelOfCode_0 rfl (lv_at hl 0 rfl) ?_
  refine lv_bipush (v := 49) hx hb dX2_channelOfCode_1 (by decide +kernel) ?_
  refine lv_icmp_lt (tgt := 17) hx hb dX2_channelOfCode_3 (by decide) (fun c_3 => ?_) (fun c_3 => ?_)
  ·
    refine lv_iload_n hx hb dX2_channelOfCode_17 rfl (lv_at hl 0 rfl) ?_
    refine lv_bipush (v := 65) hx hb dX2_channelOfCode_18 (by decide +kernel) ?_
    refine lv_icmp_lt (tgt := 37) hx hb dX2_channelOfCode_20 (by decide) (fun c_20 => ?_) (fun c_20 => ?_)
    ·
      refine lv_iload_n hx hb dX2_channelOfCode_37 rfl (lv_at hl 0 rfl) ?_
      refine lv_sipush (v := 272) hx hb dX2_channelOfCode_38 (by decide +kernel) ?_
      refine lv_isub hx hb dX2_channelOfCode_41 ?_
      refine lv_istore_n (lv' := [(1, .int (c0 - 272)), (0, .int c0)]) hx hb dX2_channelOfCode_42 rfl hl (by decide) rfl (fun ls hl => ?_)
      refine lv_iload_n hx hb dX2_channelOfCode_43 rfl (lv_at hl 0 rfl) ?_
      refine vp_callSi (W.runS (As := [.int (c0 - 272)]) (rest := []) ⟨hx, hb, hml, hown, hts⟩ (c_X2_isChannel l ((c0 - 272))) (va_cwS 1 hts gX2_channelOfCode_X2_isChannel rfl rfl rfl (by decide +kernel) ⟨(Nat.le_of_ble_eq_true rfl), (Nat.le_of_ble_eq_true rfl)⟩) pu_pre rfl rfl hl.1 rfl (lv_room (Nat.le_of_ble_eq_true rfl)) dX2_channelOfCode_44 ⟨(Nat.le_of_ble_eq_true rfl), (Nat.le_of_ble_eq_true rfl)⟩) (fun r_44 w_44 => ?_)
      subst w_44
      refine lv_if_eq (tgt := 54) hx hb dX2_channelOfCode_47 (by decide) (fun c_47 => ?_) (fun c_47 => ?_)
      ·
        refine lv_iconst (v := (-1)) hx hb dX2_channelOfCode_54 (by decide +kernel) ?_
        exact W.iret (v := (-1)) hx hb hr (fun t ht hW => ⟨_, rfl, by simp [chOf, c_3, c_20, c_47], ht⟩) (fun q h => by cases h) dX2_channelOfCode_55
      ·
        refine lv_iload_n hx hb dX2_channelOfCode_50 rfl (lv_at hl 0 rfl) ?_
        refine lv_goto (tgt := 55) hx hb dX2_channelOfCode_51 (by decide) ?_
        exact W.iret (v := (c0 - 272)) hx hb hr (fun t ht hW => ⟨_, rfl, by simp [chOf, c_3, c_20, c_47], ht⟩) (fun q h => by cases h) dX2_channelOfCode_55
    ·
      refine lv_iload_n hx hb dX2_channelOfCode_23 rfl (lv_at hl 0 rfl) ?_
      refine lv_bipush (v := 67) hx hb dX2_channelOfCode_24 (by decide +kernel) ?_
      refine lv_icmp_gt (tgt := 37) hx hb dX2_channelOfCode_26 (by decide) (fun c_26 => ?_) (fun c_26 => ?_)
      ·
        refine lv_iload_n hx hb dX2_channelOfCode_37 rfl (lv_at hl 0 rfl) ?_
        refine lv_sipush (v := 272) hx hb dX2_channelOfCode_38 (by decide +kernel) ?_
        refine lv_isub hx hb dX2_channelOfCode_41 ?_
        refine lv_istore_n (lv' := [(1, .int (c0 - 272)), (0, .int c0)]) hx hb dX2_channelOfCode_42 rfl hl (by decide) rfl (fun ls hl => ?_)
        refine lv_iload_n hx hb dX2_channelOfCode_43 rfl (lv_at hl 0 rfl) ?_
        refine vp_callSi (W.runS (As := [.int (c0 - 272)]) (rest := []) ⟨hx, hb, hml, hown, hts⟩ (c_X2_isChannel l ((c0 - 272))) (va_cwS 1 hts gX2_channelOfCode_X2_isChannel rfl rfl rfl (by decide +kernel) ⟨(Nat.le_of_ble_eq_true rfl), (Nat.le_of_ble_eq_true rfl)⟩) pu_pre rfl rfl hl.1 rfl (lv_room (Nat.le_of_ble_eq_true rfl)) dX2_channelOfCode_44 ⟨(Nat.le_of_ble_eq_true rfl), (Nat.le_of_ble_eq_true rfl)⟩) (fun r_44 w_44 => ?_)
        subst w_44
        refine lv_if_eq (tgt := 54) hx hb dX2_channelOfCode_47 (by decide) (fun c_47 => ?_) (fun c_47 => ?_)
        ·
          refine lv_iconst (v := (-1)) hx hb dX2_channelOfCode_54 (by decide +kernel) ?_
          exact W.iret (v := (-1)) hx hb hr (fun t ht hW => ⟨_, rfl, by simp [chOf, c_3, c_20, c_26, c_47], ht⟩) (fun q h => by cases h) dX2_channelOfCode_55
        ·
          refine lv_iload_n hx hb dX2_channelOfCode_50 rfl (lv_at hl 0 rfl) ?_
          refine lv_goto (tgt := 55) hx hb dX2_channelOfCode_51 (by decide) ?_
          exact W.iret (v := (c0 - 272)) hx hb hr (fun t ht hW => ⟨_, rfl, by simp [chOf, c_3, c_20, c_26, c_47], ht⟩) (fun q h => by cases h) dX2_channelOfCode_55
      ·
        refine lv_iload_n hx hb dX2_channelOfCode_29 rfl (lv_at hl 0 rfl) ?_
        refine lv_bipush (v := 65) hx hb dX2_channelOfCode_30 (by decide +kernel) ?_
        refine lv_isub hx hb dX2_channelOfCode_32 ?_
        refine lv_bipush (v := 10) hx hb dX2_channelOfCode_33 (by decide +kernel) ?_
        refine lv_iadd hx hb dX2_channelOfCode_35 ?_
        exact W.iret (v := ((c0 - 65) + 10)) hx hb hr (fun t ht hW => ⟨_, rfl, by simp [chOf, c_3, c_20, c_26], ht⟩) (fun q h => by cases h) dX2_channelOfCode_36
  ·
    refine lv_iload_n hx hb dX2_channelOfCode_6 rfl (lv_at hl 0 rfl) ?_
    refine lv_bipush (v := 57) hx hb dX2_channelOfCode_7 (by decide +kernel) ?_
    refine lv_icmp_gt (tgt := 17) hx hb dX2_channelOfCode_9 (by decide) (fun c_9 => ?_) (fun c_9 => ?_)
    ·
      refine lv_iload_n hx hb dX2_channelOfCode_17 rfl (lv_at hl 0 rfl) ?_
      refine lv_bipush (v := 65) hx hb dX2_channelOfCode_18 (by decide +kernel) ?_
      refine lv_icmp_lt (tgt := 37) hx hb dX2_channelOfCode_20 (by decide) (fun c_20 => ?_) (fun c_20 => ?_)
      ·
        refine lv_iload_n hx hb dX2_channelOfCode_37 rfl (lv_at hl 0 rfl) ?_
        refine lv_sipush (v := 272) hx hb dX2_channelOfCode_38 (by decide +kernel) ?_
        refine lv_isub hx hb dX2_channelOfCode_41 ?_
        refine lv_istore_n (lv' := [(1, .int (c0 - 272)), (0, .int c0)]) hx hb dX2_channelOfCode_42 rfl hl (by decide) rfl (fun ls hl => ?_)
        refine lv_iload_n hx hb dX2_channelOfCode_43 rfl (lv_at hl 0 rfl) ?_
        refine vp_callSi (W.runS (As := [.int (c0 - 272)]) (rest := []) ⟨hx, hb, hml, hown, hts⟩ (c_X2_isChannel l ((c0 - 272))) (va_cwS 1 hts gX2_channelOfCode_X2_isChannel rfl rfl rfl (by decide +kernel) ⟨(Nat.le_of_ble_eq_true rfl), (Nat.le_of_ble_eq_true rfl)⟩) pu_pre rfl rfl hl.1 rfl (lv_room (Nat.le_of_ble_eq_true rfl)) dX2_channelOfCode_44 ⟨(Nat.le_of_ble_eq_true rfl), (Nat.le_of_ble_eq_true rfl)⟩) (fun r_44 w_44 => ?_)
        subst w_44
        refine lv_if_eq (tgt := 54) hx hb dX2_channelOfCode_47 (by decide) (fun c_47 => ?_) (fun c_47 => ?_)
        ·
          refine lv_iconst (v := (-1)) hx hb dX2_channelOfCode_54 (by decide +kernel) ?_
          exact W.iret (v := (-1)) hx hb hr (fun t ht hW => ⟨_, rfl, by simp [chOf, c_3, c_9, c_20, c_47], ht⟩) (fun q h => by cases h) dX2_channelOfCode_55
        ·
          refine lv_iload_n hx hb dX2_channelOfCode_50 rfl (lv_at hl 0 rfl) ?_
          refine lv_goto (tgt := 55) hx hb dX2_channelOfCode_51 (by decide) ?_
          exact W.iret (v := (c0 - 272)) hx hb hr (fun t ht hW => ⟨_, rfl, by simp [chOf, c_3, c_9, c_20, c_47], ht⟩) (fun q h => by cases h) dX2_channelOfCode_55
      ·
        refine lv_iload_n hx hb dX2_channelOfCode_23 rfl (lv_at hl 0 rfl) ?_
        refine lv_bipush (v := 67) hx hb dX2_channelOfCode_24 (by decide +kernel) ?_
        refine lv_icmp_gt (tgt := 37) hx hb dX2_channelOfCode_26 (by decide) (fun c_26 => ?_) (fun c_26 => ?_)
        ·
          refine lv_iload_n hx hb dX2_channelOfCode_37 rfl (lv_at hl 0 rfl) ?_
          refine lv_sipush (v := 272) hx hb dX2_channelOfCode_38 (by decide +kernel) ?_
          refine lv_isub hx hb dX2_channelOfCode_41 ?_
          refine lv_istore_n (lv' := [(1, .int (c0 - 272)), (0, .int c0)]) hx hb dX2_channelOfCode_42 rfl hl (by decide) rfl (fun ls hl => ?_)
          refine lv_iload_n hx hb dX2_channelOfCode_43 rfl (lv_at hl 0 rfl) ?_
          refine vp_callSi (W.runS (As := [.int (c0 - 272)]) (rest := []) ⟨hx, hb, hml, hown, hts⟩ (c_X2_isChannel l ((c0 - 272))) (va_cwS 1 hts gX2_channelOfCode_X2_isChannel rfl rfl rfl (by decide +kernel) ⟨(Nat.le_of_ble_eq_true rfl), (Nat.le_of_ble_eq_true rfl)⟩) pu_pre rfl rfl hl.1 rfl (lv_room (Nat.le_of_ble_eq_true rfl)) dX2_channelOfCode_44 ⟨(Nat.le_of_ble_eq_true rfl), (Nat.le_of_ble_eq_true rfl)⟩) (fun r_44 w_44 => ?_)
          subst w_44
          refine lv_if_eq (tgt := 54) hx hb dX2_channelOfCode_47 (by decide) (fun c_47 => ?_) (fun c_47 => ?_)
          ·
            refine lv_iconst (v := (-1)) hx hb dX2_channelOfCode_54 (by decide +kernel) ?_
            exact W.iret (v := (-1)) hx hb hr (fun t ht hW => ⟨_, rfl, by simp [chOf, c_3, c_9, c_20, c_26, c_47], ht⟩) (fun q h => by cases h) dX2_channelOfCode_55
          ·
            refine lv_iload_n hx hb dX2_channelOfCode_50 rfl (lv_at hl 0 rfl) ?_
            refine lv_goto (tgt := 55) hx hb dX2_channelOfCode_51 (by decide) ?_
            exact W.iret (v := (c0 - 272)) hx hb hr (fun t ht hW => ⟨_, rfl, by simp [chOf, c_3, c_9, c_20, c_26, c_47], ht⟩) (fun q h => by cases h) dX2_channelOfCode_55
        ·
          refine lv_iload_n hx hb dX2_channelOfCode_29 rfl (lv_at hl 0 rfl) ?_
          refine lv_bipush (v := 65) hx hb dX2_channelOfCode_30 (by decide +kernel) ?_
          refine lv_isub hx hb dX2_channelOfCode_32 ?_
          refine lv_bipush (v := 10) hx hb dX2_channelOfCode_33 (by decide +kernel) ?_
          refine lv_iadd hx hb dX2_channelOfCode_35 ?_
          exact W.iret (v := ((c0 - 65) + 10)) hx hb hr (fun t ht hW => ⟨_, rfl, by simp [chOf, c_3, c_9, c_20, c_26], ht⟩) (fun q h => by cases h) dX2_channelOfCode_36
    ·
      refine lv_iload_n hx hb dX2_channelOfCode_12 rfl (lv_at hl 0 rfl) ?_
      refine lv_bipush (v := 48) hx hb dX2_channelOfCode_13 (by decide +kernel) ?_
      refine lv_isub hx hb dX2_channelOfCode_15 ?_
      exact W.iret (v := (c0 - 48)) hx hb hr (fun t ht hW => ⟨_, rfl, by simp [chOf, c_3, c_9], ht⟩) (fun q h => by cases h) dX2_channelOfCode_16

set_option maxHeartbeats 1000000 in
set_option maxRecDepth 100000 in
theorem c_X2_linesOfCode (l : Launch) (c0 : Int32) : Met l yX2_linesOfCode wsX2_linesOfCode ({ frames := 1, cells := 0, slots := 0, locals := 20 }) (pu [.int c0]) (vp_Si (fun r => r = lnOf c0)) 0 0 (fun _ => False) := by
  refine Met.ofW (cc := cX2_linesOfCode) (maxL := 1) (ret := (some .int)) (by decide) rfl ?_
  intro p e s m args below meth c s₁ B hml hv
  obtain ⟨rfl, -⟩ := hv
  have hx := B.exec
  have hb := B.bytes
  have hr := B.returns
  have hts := atoms_spec (ws := wsX2_linesOfCode) B.pre
  have hown : s.vm.findClass RX2 = some m.cls := findClass_of_methodNamed B.named
  have hlocks := B.notSynchronized
  have hl := lv_entry ([.int c0]) (n := 1) (Nat.le_of_ble_eq_true rfl)
  rw [lg_entry_eq]
  generalize (lg_sl ([.int c0]) ++ List.replicate (1 - (lg_sl ([.int c0])).length) Slot.unset).toArray = ls at hl ⊢
  have hl : lv_has ls 1 [(0, .int c0)] := hl
  refine lv_iload_n hx hb dX2_linesOfCode_0 rfl (lv_at hl 0 rfl) ?_
  refine vp_callSi (W.runS (As := [.int c0]) (rest := []) ⟨hx, hb, hml, hown, hts⟩ (c_X2_isPlainSecondKind l (c0)) (va_cwS 1 hts gX2_linesOfCode_X2_isPlainSecondKind rfl rfl rfl (by decide +kernel) ⟨(Nat.le_of_ble_eq_true rfl), (Nat.le_of_ble_eq_true rfl)⟩) pu_pre rfl rfl hl.1 rfl (lv_room (Nat.le_of_ble_eq_true rfl)) dX2_linesOfCode_1 ⟨(Nat.le_of_ble_eq_true rfl), (Nat.le_of_ble_eq_true rfl)⟩) (fun r_1 w_1 => ?_)
  subst w_1
  refine lv_if_eq (tgt := 13) hx hb dX2_linesOfCode_4 (by decide) (fun c_4 => ?_) (fun c_4 => ?_)
  ·
    refine lv_iload_n hx hb dX2_linesOfCode_13 rfl (lv_at hl 0 rfl) ?_
    by_cases k_43 : c0 = 43
    ·
      refine lv_lookup (off := 34) (tgt := 48) hx hb dX2_linesOfCode_14 (by decide +kernel) (by rw [k_43]; decide +kernel) (by decide) ?_
      refine lv_iconst (v := 0) hx hb dX2_linesOfCode_48 (by decide +kernel) ?_
      exact W.iret (v := 0) hx hb hr (fun t ht hW => ⟨_, rfl, by unfold lnOf; rw [if_pos c_4, if_pos k_43], ht⟩) (fun q h => by cases h) dX2_linesOfCode_49
    by_cases k_45 : c0 = 45
    ·
      refine lv_lookup (off := 38) (tgt := 52) hx hb dX2_linesOfCode_14 (by decide +kernel) (by rw [k_45]; decide +kernel) (by decide) ?_
      refine lv_iconst (v := 3) hx hb dX2_linesOfCode_52 (by decide +kernel) ?_
      exact W.iret (v := 3) hx hb hr (fun t ht hW => ⟨_, rfl, by unfold lnOf; rw [if_pos c_4, if_neg k_43, if_pos k_45], ht⟩) (fun q h => by cases h) dX2_linesOfCode_53
    by_cases k_48 : c0 = 48
    ·
      refine lv_lookup (off := 36) (tgt := 50) hx hb dX2_linesOfCode_14 (by decide +kernel) (by rw [k_48]; decide +kernel) (by decide) ?_
      refine lv_iconst (v := 2) hx hb dX2_linesOfCode_50 (by decide +kernel) ?_
      exact W.iret (v := 2) hx hb hr (fun t ht hW => ⟨_, rfl, by unfold lnOf; rw [if_pos c_4, if_neg k_43, if_neg k_45, if_pos k_48], ht⟩) (fun q h => by cases h) dX2_linesOfCode_51
    refine lv_lookup (off := 40) (tgt := 54) hx hb dX2_linesOfCode_14 (by decide +kernel) (by rw [lv_osw k_43 (a := 43) (by decide +kernel), lv_osw k_45 (a := 45) (by decide +kernel), lv_osw k_48 (a := 48) (by decide +kernel)]; rfl) (by decide) ?_
    refine lv_iconst (v := 1) hx hb dX2_linesOfCode_54 (by decide +kernel) ?_
    exact W.iret (v := 1) hx hb hr (fun t ht hW => ⟨_, rfl, by unfold lnOf; rw [if_pos c_4, if_neg k_43, if_neg k_45, if_neg k_48], ht⟩) (fun q h => by cases h) dX2_linesOfCode_55
  ·
    refine lv_iload_n hx hb dX2_linesOfCode_7 rfl (lv_at hl 0 rfl) ?_
    refine lv_sipush (v := 256) hx hb dX2_linesOfCode_8 (by decide +kernel) ?_
    refine lv_isub hx hb dX2_linesOfCode_11 ?_
    exact W.iret (v := (c0 - 256)) hx hb hr (fun t ht hW => ⟨_, rfl, by unfold lnOf; rw [if_neg c_4], ht⟩) (fun q h => by cases h) dX2_linesOfCode_12

set_option maxHeartbeats 1000000 in
set_option maxRecDepth 100000 in
theorem c_J9_floorMod_7cf53 (l : Launch) (a0 b0 : Int32) (hb0 : ¬ b0 = 0) : Met l yJ9_floorMod_7cf53 wsJ9_floorMod_7cf53 ({ frames := 0, cells := 0, slots := 0, locals := 0 }) (pu [.int a0, .int b0]) (vp_Si (fun r => r = fMod a0 b0)) 0 0 (fun _ => False) := by
  refine va_MetF (cc := cJ9_floorMod_7cf53) (maxL := 3) (ret := (some .int)) (by decide +kernel) rfl ?_
  intro p e s m args below meth c s₁ B hml hv
  obtain ⟨rfl, -⟩ := hv
  have hx := B.exec
  have hb := B.bytes
  have hr := B.returns
  have hts := atoms_spec (ws := wsJ9_floorMod_7cf53) B.pre
  have hown : s.vm.findClass RJ9 = some m.cls := findClass_of_methodNamed B.named
  have hlocks := B.notSynchronized
  have hl := lv_entry ([.int a0, .int b0]) (n := 3) (Nat.le_of_ble_eq_true rfl)
  rw [lg_entry_eq]
  generalize (lg_sl ([.int a0, .int b0]) ++ List.replicate (3 - (lg_sl ([.int a0, .int b0])).length) Slot.unset).toArray = ls at hl ⊢
  have hl : lv_has ls 3 [(0, .int a0), (1, .int b0)] := hl
  refine lv_iload_n hx hb dJ9_floorMod_7cf53_0 rfl (lv_at hl 0 rfl) ?_
  refine lv_iload_n hx hb dJ9_floorMod_7cf53_1 rfl (lv_at hl 1 rfl) ?_
  refine lv_irem hx hb dJ9_floorMod_7cf53_2 hb0 ?_
  refine lv_istore_n (lv' := [(2, .int (a0 - a0 / b0 * b0)), (0, .int a0), (1, .int b0)]) hx hb dJ9_floorMod_7cf53_3 rfl hl (by decide) rfl (fun ls hl => ?_)
  refine lv_iload_n hx hb dJ9_floorMod_7cf53_4 rfl (lv_at hl 1 rfl) ?_
  refine lv_iload_n hx hb dJ9_floorMod_7cf53_5 rfl (lv_at hl 2 rfl) ?_
  refine lv_ixor hx hb dJ9_floorMod_7cf53_6 ?_
  refine lv_if_ge (tgt := 18) hx hb dJ9_floorMod_7cf53_7 (by decide) (fun c_7 => ?_) (fun c_7 => ?_)
  ·
    refine lv_iload_n hx hb dJ9_floorMod_7cf53_18 rfl (lv_at hl 0 rfl) ?_
    exact W.iret (v := (a0 - a0 / b0 * b0)) hx hb hr (fun t ht hW => ⟨_, rfl, by simp [fMod, c_7], ht⟩) (fun q h => by cases h) dJ9_floorMod_7cf53_19
  ·
    refine lv_iload_n hx hb dJ9_floorMod_7cf53_10 rfl (lv_at hl 0 rfl) ?_
    refine lv_if_eq (tgt := 18) hx hb dJ9_floorMod_7cf53_11 (by decide) (fun c_11 => ?_) (fun c_11 => ?_)
    ·
      refine lv_iload_n hx hb dJ9_floorMod_7cf53_18 rfl (lv_at hl 0 rfl) ?_
      exact W.iret (v := (a0 - a0 / b0 * b0)) hx hb hr (fun t ht hW => ⟨_, rfl, by simp [fMod, c_7, c_11], ht⟩) (fun q h => by cases h) dJ9_floorMod_7cf53_19
    ·
      refine lv_iload_n hx hb dJ9_floorMod_7cf53_14 rfl (lv_at hl 0 rfl) ?_
      refine lv_iload_n hx hb dJ9_floorMod_7cf53_15 rfl (lv_at hl 2 rfl) ?_
      refine lv_iadd hx hb dJ9_floorMod_7cf53_16 ?_
      exact W.iret (v := ((a0 - a0 / b0 * b0) + b0)) hx hb hr (fun t ht hW => ⟨_, rfl, by simp [fMod, c_7, c_11], ht⟩) (fun q h => by cases h) dJ9_floorMod_7cf53_17
