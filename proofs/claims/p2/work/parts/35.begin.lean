/-! what holds at the law's entry: the classes, the arrays, the throw's needs -/
theorem arrI_congr {cA : ClassId} {n : Nat} {f g : Nat → Int32} (h : ∀ j, j < n → f j = g j) : vp_cell cA (n, .inl f) = vp_cell cA (n, .inl g) := by
  show arrV cA n (fun j => .int (f j)) = arrV cA n (fun j => .int (g j))
  have hs : (arrV cA n (fun j => .int (f j))).slots = (arrV cA n (fun j => .int (g j))).slots := by
    apply Array.ext_getElem?
    intro j
    by_cases hj : j < n
    · rw [arrV_read _ _ hj, arrV_read _ _ hj, h j hj]
    · rw [Array.getElem?_eq_none (by rw [arrV_size]; omega), Array.getElem?_eq_none (by rw [arrV_size]; omega)]
  unfold arrV at hs ⊢
  dsimp only at hs ⊢
  rw [hs]
theorem swapF {D : va_G} {ws : va_W} {H : Heap} {k a n : Nat} {cA : ClassId} {f g : Nat → Int32} (hP : va_P D vwCl ws H) (hk : ws[k]? = some (a, .inl (cA, n, .inl f))) (h : ∀ j, j < n → f j = g j) : va_P D vwCl (ws.set k (a, .inl (cA, n, .inl g))) H := by
  intro j q hq
  by_cases e : j = k
  · subst e
    rw [setSelf hk] at hq
    cases hq
    have h1 : H[a]? = some (vp_cell cA (n, .inl f)) := hP j _ hk
    show H[a]? = some (vp_cell cA (n, .inl g))
    rw [← arrI_congr h]
    exact h1
  · rw [List.getElem?_set_ne (Ne.symm e)] at hq
    exact hP j q hq
theorem inJx : ∀ w ∈ wsJx000600, w ∈ wsL_law := by decide +kernel
theorem begin_K {s : State} {b : Nat} (htl : ∀ w ∈ lw_tbl, w.before #[Value.ref b] s = true) : ∃ (D : va_G) (cI cP cR cJ : ClassId), KK D cI cP cR cJ s := by
  have hts : ∀ w ∈ wsL_law, w.before #[Value.ref b] s = true := fun w hw => htl w (lw_good w hw).1
  obtain ⟨c0, i0, k0⟩ := u_known (C := RJx00060) (T := TJx00060) (N := 6) (n := 6) hts inJx (hts (.instantiable RJx00060 6) (by decide +kernel))
  obtain ⟨c1, i1, k1⟩ := u_known (C := RX0) (T := TX0) (N := 2) (n := 2) htl inX0 (hts (.instantiable RX0 2) (by decide +kernel))
  obtain ⟨c2, i2, k2⟩ := u_known (C := RX1) (T := TX1) (N := 1) (n := 1) htl inX1 (hts (.instantiable RX1 1) (by decide +kernel))
  obtain ⟨c3, i3, k3⟩ := u_known (C := RX2) (T := TX2) (N := 16) (n := 16) htl inX2 (hts (.instantiable RX2 16) (by decide +kernel))
  obtain ⟨c4, i4, k4⟩ := u_known (C := RX3) (T := TX3) (N := 16) (n := 16) htl inX3 (hts (.instantiable RX3 16) (by decide +kernel))
  obtain ⟨cI, kI, compI, a1, a2, a3⟩ := Cond.arrayClass_spec (hts (.arrayClass .int) (by decide +kernel))
  obtain ⟨cJ, kJ, compJ, b1, b2, b3⟩ := Cond.arrayClass_spec (hts (.arrayClass .long) (by decide +kernel))
  have oP : (Cond.arrayOver (.object "PrinterRows$Page")).before #[Value.ref b] s = true := htl _ (by decide +kernel)
  have oR : (Cond.arrayOver (.object "PrinterRows$Row")).before #[Value.ref b] s = true := htl _ (by decide +kernel)
  obtain ⟨compP, cP, kP, p1, -, p3, p4, p5⟩ := Cond.arrayOver_spec oP
  obtain ⟨compR, cR, kR, r1, -, r3, r4, r5⟩ := Cond.arrayOver_spec oR
  refine ⟨(fun k => match k with | 0 => c0 | 1 => c1 | 2 => c2 | 3 => c3 | _ => c4, fun k => match k with | 0 => i0 | 1 => i1 | 2 => i2 | 3 => i3 | _ => i4), cI, cP, cR, cJ, ⟨fun k q hq => ?_, fun k q hq => ?_⟩, va_AO.of oP, va_AO.of oR, va_Nw.of rfl (htl (.methodLinkNest RX1 27 yX2_darker RX2) (by decide +kernel))⟩
  · match k, hq with
    | 0, hq => cases hq; exact k0
    | 1, hq => cases hq; exact k1
    | 2, hq => cases hq; exact k2
    | 3, hq => cases hq; exact k3
    | 4, hq => cases hq; exact k4
    | k + 5, hq => simp at hq
  · match k, hq with
    | 0, hq => cases hq; exact ⟨fun n z => ⟨fun k h => (by cases h), kI, a2, compI, a3⟩, a1⟩
    | 1, hq => cases hq; exact ⟨fun n z => ⟨fun k h => (by cases h), kP, p3, compP, p4⟩, kP, compP, p3, p4, p1, p5⟩
    | 2, hq => cases hq; exact ⟨fun n z => ⟨fun k h => (by cases h), kR, r3, compR, r4⟩, kR, compR, r3, r4, r1, r5⟩
    | 3, hq => cases hq; exact ⟨fun n z => ⟨fun k h => (by cases h), kJ, b2, compJ, b3⟩, b1⟩
    | k + 4, hq => simp at hq
theorem begin_T {s : State} {b : Nat} (htl : ∀ w ∈ lw_tbl, w.before #[Value.ref b] s = true) (hgv : (Jvm.Cond.and given_1 narrow_1).before #[Value.ref b] s = true) : ∃ sq : Nat, TX sq s := by
  have hs := flat_of_before _ hgv
  have h1 : (Cond.isRef (.static Bundle.tN "UNASSIGNED_STACK" Bundle.steD)).before #[Value.ref b] s = true := hs _ (by decide +kernel)
  have h2 : (Cond.isRef (.static Bundle.tN "SUPPRESSED_SENTINEL" Bundle.listD)).before #[Value.ref b] s = true := hs _ (by decide +kernel)
  have h3 : (Cond.exactly (.string RX2 98) "java/lang/String").before #[Value.ref b] s = true := hs _ (by decide +kernel)
  have h4 : (Cond.laysStatic Bundle.tN "UNASSIGNED_STACK" Bundle.steD).before #[Value.ref b] s = true := htl _ (by decide +kernel)
  have h5 : (Cond.laysStatic Bundle.tN "SUPPRESSED_SENTINEL" Bundle.listD).before #[Value.ref b] s = true := htl _ (by decide +kernel)
  have h6 : (Cond.stringRef RX2 98 "no such place").before #[Value.ref b] s = true := htl _ (by decide +kernel)
  obtain ⟨a, c, cell, k, q1, -⟩ := Cond.exactly_spec h3
  exact ⟨a, ⟨h4, h1⟩, ⟨h5, h2⟩, vk_R.of h6 q1, fun w hw => va_Nw.of (dW_tab (oD_d hw)) (htl w (lwD_in w hw))⟩
