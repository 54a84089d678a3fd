set_option maxHeartbeats 1000000 in
set_option maxRecDepth 100000 in
theorem c_X2_back (l : Launch) {D : va_G} {cI cP cR cJ : ClassId} {x aC aT aR aP L C rl bg st : Nat} {on : Bool} {mk rp sp sc sk fa : Int32} {ch tr rc : Nat → Int32} {pg : Nat → Option Nat} {pl : va_W} {sz : Nat} (hbg : bg ≤ 40) (n0 : Int32) : Met l yX2_back wsX2_back ({ frames := 1, cells := 0, slots := 0, locals := 20 }) (mu [.ref x, .int n0] D cI cP cR cJ (wX cI cP x aC aT aR aP (nI L) (nI C) (nI rl) (nI bg) (zb on) (nI st) mk rp sp sc sk fa ch tr rc pg pl) sz) (qi D (fun (r : Int32) (u : Nat × Bool × Nat × (Nat → Option Nat)) => r = bkR bg n0 ∧ u.1 = bkB bg n0 ∧ (u.2.1, u.2.2.1) = (if bkO bg n0 then (false, 0) else (on, st)) ∧ ∀ q, q < u.1 → u.2.2.2 q = pg q) (fun u : Nat × Bool × Nat × (Nat → Option Nat) => wX cI cP x aC aT aR aP (nI L) (nI C) (nI rl) (nI u.1) (zb u.2.1) (nI u.2.2.1) mk rp sp sc sk fa ch tr rc u.2.2.2 pl) (va_A (wX cI cP x aC aT aR aP (nI L) (nI C) (nI rl) (nI bg) (zb on) (nI st) mk rp sp sc sk fa ch tr rc pg pl) sz)) 0 0 (va_A (wX cI cP x aC aT aR aP (nI L) (nI C) (nI rl) (nI bg) (zb on) (nI st) mk rp sp sc sk fa ch tr rc pg pl) sz) := by
  refine Met.ofW (cc := cX2_back) (maxL := 3) (ret := (some .int)) (by decide) rfl ?_
  intro p e s m args below meth c s₁ B hml hv
  obtain ⟨rfl, hsz, hP, hK, hD0⟩ := hv
  have hx := B.exec
  have hb := B.bytes
  have hr := B.returns
  have hts := atoms_spec (ws := wsX2_back) B.pre
  have hown : s.vm.findClass RX2 = some m.cls := findClass_of_methodNamed B.named
  have hlocks := B.notSynchronized
  have hinX2 : ∀ w ∈ wsX20, w ∈ wsX2_back := by decide +kernel
  subst hsz
  have hD := hD0.self (sz := s.heap.size)
  generalize hAe : va_A (wX cI cP x aC aT aR aP (nI L) (nI C) (nI rl) (nI bg) (zb on) (nI st) mk rp sp sc sk fa ch tr rc pg pl) s.heap.size = A at hD ⊢
  have hA : ∀ q : Nat, s.heap.size ≤ q → A q := fun q h => by rw [← hAe]; exact Or.inr h
  have hS : va_S A s.heap s.heap [] := va_S.rf
  have hP : va_P D vwCl (wX cI cP x aC aT aR aP (nI L) (nI C) (nI rl) (nI bg) (zb on) (nI st) mk rp sp sc sk fa ch tr rc pg pl) s.heap := hP
  have hl := lv_entry ([.ref x, .int n0]) (n := 3) (Nat.le_of_ble_eq_true rfl)
  rw [lg_entry_eq]
  generalize (lg_sl ([.ref x, .int n0]) ++ List.replicate (3 - (lg_sl ([.ref x, .int n0])).length) Slot.unset).toArray = ls at hl ⊢
  have hl : lv_has ls 3 [(0, .ref x), (1, .int n0)] := hl
  refine lv_iload_n hx hb dX2_back_0 rfl (lv_at hl 1 rfl) ?_
  refine lv_if_lt (tgt := 12) hx hb dX2_back_1 (by decide) (fun c_1 => ?_) (fun c_1 => ?_)
  ·
    refine lv_bipush (v := (-2)) hx hb dX2_back_12 (by decide +kernel) ?_
    exact W.iret (v := (-2)) hx hb hr (fun t ht hW => ⟨⟨_, (bg, on, st, pg), rfl, ⟨by rw [bkR, bkO, if_pos c_1]; rfl, by rw [bkB, bkO, if_pos c_1]; rfl, by rw [bkO, if_pos c_1]; rfl, fun _ _ => rfl⟩, by rw [ht]; exact hP, hD⟩, hS.F ht⟩) hS.2.2 dX2_back_14
  ·
    refine lv_iload_n hx hb dX2_back_4 rfl (lv_at hl 1 rfl) ?_
    refine lv_aload_n hx hb dX2_back_5 rfl (lv_at hl 0 rfl) ?_
    refine va_get (D := D) (ci := 3) (v := .int (nI bg)) (C := RX2) (T := TX2) (N := 16) hx hb hts hinX2 hown hK.1 hP 0 rfl rfl 7 (by decide) (hts (.fieldLink RX2 86 "PrinterRows" "begun" "I") (by decide +kernel)) (fun _ h9 => h9) rfl dX2_back_6 ?_
    refine lv_icmp_le (tgt := 15) hx hb dX2_back_9 (by decide) (fun c_9 => ?_) (fun c_9 => ?_)
    ·
      obtain ⟨nn, hnn, hn0⟩ := nI_of (x := n0) c_1
      have hnb : nn ≤ bg := by rw [hn0] at c_9; exact (nI_leI (by omega) (by omega)).mp c_9
      have hok : bkO bg n0 = true := by rw [bkO, if_neg c_1, if_pos c_9]
      have hcl : n0.toNatClampNeg = nn := by rw [hn0, nI_clamp (by omega)]
      refine lv_iconst (v := 0) hx hb dX2_back_15 (by decide +kernel) ?_
      refine lv_istore_n (lv' := [(2, .int 0), (0, .ref x), (1, .int n0)]) hx hb dX2_back_16 rfl hl (by decide) rfl (fun ls hl => ?_)
      have loop : ∀ (n : Nat) (i : Nat) (pgv : Nat → Option Nat) (H : Heap) (locs : List Loc) (ls : Array Slot), (i ≤ nn) → (nn - i < n) → (∀ q, q < bg - i → pgv q = pg q) → va_P D vwCl (wX cI cP x aC aT aR aP (nI L) (nI C) (nI rl) (nI (bg - i)) (zb on) (nI st) mk rp sp sc sk fa ch tr rc pgv pl) H → va_D A (wX cI cP x aC aT aR aP (nI L) (nI C) (nI rl) (nI (bg - i)) (zb on) (nI st) mk rp sp sc sk fa ch tr rc pgv pl) → va_S A s.heap H locs → lv_has ls 3 [(0, .ref x), (1, .int n0), (2, .int (nI i))] → W p l e (headSpec wsX2_back ({ frames := 1, cells := 0, slots := 0, locals := 20 })).room s m (([.ref x, .int n0] : List Value).toArray) below meth c H locs 0 0 (MQ below (qi D (fun (r : Int32) (u : Nat × Bool × Nat × (Nat → Option Nat)) => r = bkR bg n0 ∧ u.1 = bkB bg n0 ∧ (u.2.1, u.2.2.1) = (if bkO bg n0 then (false, 0) else (on, st)) ∧ ∀ q, q < u.1 → u.2.2.2 q = pg q) (fun u : Nat × Bool × Nat × (Nat → Option Nat) => wX cI cP x aC aT aR aP (nI L) (nI C) (nI rl) (nI u.1) (zb u.2.1) (nI u.2.2.1) mk rp sp sc sk fa ch tr rc u.2.2.2 pl) (A)) (([.ref x, .int n0] : List Value).toArray) s 0 0 A) (F0 m 17 ls []) := by
        intro n
        induction n with
        | zero => intro i pgv H locs ls hi hn hpg hP hD hS hl; exact absurd hn (Nat.not_lt_zero _)
        | succ n ih =>
          intro i pgv H locs ls hi hn hpg hP hD hS hl
          refine lv_iload_n hx hb dX2_back_17 rfl (lv_at hl 2 rfl) ?_
          refine lv_iload_n hx hb dX2_back_18 rfl (lv_at hl 1 rfl) ?_
          refine lv_icmp_ge (tgt := 32) hx hb dX2_back_19 (by decide) (fun c_19 => ?_) (fun c_19 => ?_)
          ·
            have hie : nn = i := by rw [hn0] at c_19; have := (nI_leI (by omega) (by omega)).mp c_19; omega
            refine lv_aload_n hx hb dX2_back_32 rfl (lv_at hl 0 rfl) ?_
            refine callQv (va_runV (As := []) (rest := []) ⟨hx, hb, hml, hown, hts⟩ (c_X2_standOnNewPage l) (cwV 0 hts gX2_back_X2_standOnNewPage rfl rfl rfl (by decide +kernel) ⟨(Nat.le_of_ble_eq_true rfl), (Nat.le_of_ble_eq_true rfl)⟩) (mu_pre hK hP hD rfl 0 rfl) rfl rfl hl.1 rfl (lv_room (Nat.le_of_ble_eq_true rfl)) dX2_back_33 ⟨(Nat.le_of_ble_eq_true rfl), (Nat.le_of_ble_eq_true rfl)⟩) hD hS hA (fun u_33 H locs w_33 hP hD hS => ?_)
            have hP : va_P D vwCl (wX cI cP x aC aT aR aP (nI L) (nI C) (nI rl) (nI (bg - i)) (zb false) (nI 0) mk rp sp sc sk fa ch tr rc pgv pl) H := hP
            have hD : va_D A (wX cI cP x aC aT aR aP (nI L) (nI C) (nI rl) (nI (bg - i)) (zb false) (nI 0) mk rp sp sc sk fa ch tr rc pgv pl) := hD
            refine lv_aload_n hx hb dX2_back_36 rfl (lv_at hl 0 rfl) ?_
            refine va_get (D := D) (ci := 3) (v := .int (nI (bg - i))) (C := RX2) (T := TX2) (N := 16) hx hb hts hinX2 hown hK.1 hP 0 rfl rfl 7 (by decide) (hts (.fieldLink RX2 86 "PrinterRows" "begun" "I") (by decide +kernel)) (fun _ h9 => h9) rfl dX2_back_37 ?_
            exact W.iret (v := (nI (bg - i))) hx hb hr (fun t ht hW => ⟨⟨_, (bg - i, false, 0, pgv), rfl, ⟨by rw [bkR, hok, hcl, hie]; rfl, by rw [bkB, hok, hcl, hie]; rfl, by rw [hok]; rfl, hpg⟩, by rw [ht]; exact hP, hD⟩, hS.F ht⟩) hS.2.2 dX2_back_40
          ·
            have hlt : i < nn := by rw [hn0] at c_19; exact Nat.lt_of_not_le (fun h9 => c_19 (nI_le h9 (by omega)))
            refine lv_aload_n hx hb dX2_back_22 rfl (lv_at hl 0 rfl) ?_
            refine callQv (va_runV (As := []) (rest := []) ⟨hx, hb, hml, hown, hts⟩ (c_X2_takeLastPage l (by omega) (by omega)) (cwV 0 hts gX2_back_X2_takeLastPage rfl rfl rfl (by decide +kernel) ⟨(Nat.le_of_ble_eq_true rfl), (Nat.le_of_ble_eq_true rfl)⟩) (mu_pre hK hP hD rfl 0 rfl) rfl rfl hl.1 rfl (lv_room (Nat.le_of_ble_eq_true rfl)) dX2_back_23 ⟨(Nat.le_of_ble_eq_true rfl), (Nat.le_of_ble_eq_true rfl)⟩) hD hS hA (fun u_23 H locs w_23 hP hD hS => ?_)
            have hP : va_P D vwCl (wX cI cP x aC aT aR aP (nI L) (nI C) (nI rl) (nI (bg - i - 1)) (zb on) (nI st) mk rp sp sc sk fa ch tr rc (va_up pgv (bg - i - 1) none) pl) H := hP
            have hD : va_D A (wX cI cP x aC aT aR aP (nI L) (nI C) (nI rl) (nI (bg - i - 1)) (zb on) (nI st) mk rp sp sc sk fa ch tr rc (va_up pgv (bg - i - 1) none) pl) := hD
            rw [show bg - i - 1 = bg - (i + 1) by omega] at hP hD
            refine lv_iinc (v := (nI (i + 1))) (lv' := [(2, .int (nI (i + 1))), (0, .ref x), (1, .int n0)]) hx hb dX2_back_26 hl (k := 2) rfl (nI_1 i) (by decide) rfl (fun ls hl => ?_)
            refine lv_goto (tgt := 17) hx hb dX2_back_29 (by decide) ?_
            exact ih (i + 1) _ _ _ _ ((by omega)) (by omega) (fun q hq => by rw [va_up_ne _ _ (by omega)]; exact hpg q (by omega)) hP hD hS (lv_sub hl [1, 2, 0] rfl)
      exact loop (nn + 1) 0 pg _ _ _ (Nat.zero_le _) (by omega) (fun _ _ => rfl) hP hD hS (lv_sub hl [1, 2, 0] rfl)
    ·
      refine lv_bipush (v := (-2)) hx hb dX2_back_12 (by decide +kernel) ?_
      exact W.iret (v := (-2)) hx hb hr (fun t ht hW => ⟨⟨_, (bg, on, st, pg), rfl, ⟨by rw [bkR, bkO, if_neg c_1, if_neg c_9]; rfl, by rw [bkB, bkO, if_neg c_1, if_neg c_9]; rfl, by rw [bkO, if_neg c_1, if_neg c_9]; rfl, fun _ _ => rfl⟩, by rw [ht]; exact hP, hD⟩, hS.F ht⟩) hS.2.2 dX2_back_14
