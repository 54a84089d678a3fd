/-! a call that has the last cells of the world alone; places in worlds that are lists laid end to end -/
theorem sufP {D : va_G} {wr wc : va_W} {H : Heap} (h : va_P D vwCl (wr ++ wc) H) : va_P D vwCl wc H := fun k q hk => h (wr.length + k) q (by rw [List.getElem?_append_right (by omega), Nat.add_sub_cancel_left]; exact hk)
theorem preP {D : va_G} {wr wc : va_W} {H : Heap} (h : va_P D vwCl (wr ++ wc) H) : va_P D vwCl wr H := fun k q hk => h k q (by rw [List.getElem?_append_left (List.getElem?_eq_some_iff.mp hk).1]; exact hk)
theorem sufD {A : Nat → Prop} {wr wc : va_W} (h : va_D A (wr ++ wc)) : va_D A wc := by
  have e : ∀ (k : Nat) (q : Nat × va_E), wc[k]? = some q → (wr ++ wc)[wr.length + k]? = some q := fun k q hk => by rw [List.getElem?_append_right (by omega), Nat.add_sub_cancel_left]; exact hk
  refine ⟨fun i j x y hx hy hxy => ?_, fun k q hk => h.2 _ q (e k q hk)⟩
  have := h.1 _ _ x y (e i x hx) (e j y hy) hxy
  omega
theorem preD {A : Nat → Prop} {wr wc : va_W} (h : va_D A (wr ++ wc)) : va_D A wr := by
  have e : ∀ (k : Nat) (q : Nat × va_E), wr[k]? = some q → (wr ++ wc)[k]? = some q := fun k q hk => by rw [List.getElem?_append_left (List.getElem?_eq_some_iff.mp hk).1]; exact hk
  exact ⟨fun i j x y hx hy hxy => h.1 _ _ x y (e i x hx) (e j y hy) hxy, fun k q hk => h.2 _ q (e k q hk)⟩
theorem apL {wr t : va_W} {k : Nat} {e : Nat × va_E} (h : wr[k]? = some e) : (wr ++ t)[k]? = some e := by rw [List.getElem?_append_left (List.getElem?_eq_some_iff.mp h).1]; exact h
theorem apR {wr t : va_W} (j : Nat) {e : Nat × va_E} (h : t[j]? = some e) : (wr ++ t)[wr.length + j]? = some e := by rw [List.getElem?_append_right (by omega), Nat.add_sub_cancel_left]; exact h
theorem setL {wr t : va_W} {k : Nat} {e0 e : Nat × va_E} (h : wr[k]? = some e0) : (wr ++ t).set k e = wr.set k e ++ t := by
  rw [List.set_append, if_pos (List.getElem?_eq_some_iff.mp h).1]
theorem setR {wr t : va_W} (j : Nat) {e : Nat × va_E} : (wr ++ t).set (wr.length + j) e = wr ++ t.set j e := by
  rw [List.set_append, if_neg (by omega), Nat.add_sub_cancel_left]
theorem setNe {wr : va_W} {j k : Nat} {x y z : Nat × va_E} (hj : wr[j]? = some x) (hk : wr[k]? = some y) (hxy : x ≠ y) : (wr.set k z)[j]? = some x := by
  rw [List.getElem?_set_ne (fun e => hxy (by subst e; exact Option.some.inj (hj.symm.trans hk)))]
  exact hj
section SF
variable {p : Program} {l : Launch} {e : Env} {R : Room} {s : State} {m : MethodId} {args : Array Value} {below : List Frame} {meth : Method} {c : Code} {H : Heap} {locs : List Loc} {cells slots : Nat} {Q : State → Prop}
variable {pc : Nat} {ls : Array Slot} {rest st0 : List Value} {a : Array Value} {A0 : Nat → Prop} {H0 : Heap} {mc ms : Nat} {D : va_G} {wr wc : va_W}
theorem suf_free (hD : va_D A0 (wr ++ wc)) (hS : va_S A0 H0 H locs) (hA : ∀ q, H0.size ≤ q → A0 q) : ∀ q, va_A wc H.size q → A0 q := by
  intro q h
  rcases h with ⟨k, e, h⟩ | h
  · exact hD.2 _ (q, e) (apR k h)
  · exact hA q (Nat.le_trans hS.1 h)
theorem suf_join {w1 : va_W} {H1 : Heap} (hP : va_P D vwCl (wr ++ wc) H) (hD : va_D A0 (wr ++ wc)) (hk : ∀ q : Nat, q < H.size → ¬ va_A wc H.size q → H1[q]? = H[q]?) (hF : ∀ q, va_A wc H.size q → A0 q) (hP1 : va_P D vwCl w1 H1) (hD1 : va_D (va_A wc H.size) w1) : va_P D vwCl (wr ++ w1) H1 ∧ va_D A0 (wr ++ w1) := by
  have apart : ∀ (k : Nat) (q : Nat × va_E), wr[k]? = some q → q.1 < H.size ∧ ¬ va_A wc H.size q.1 := by
    intro k q hq
    have h2 := apL (t := wc) hq
    have hl := (hP k q h2).lt
    refine ⟨hl, fun h => ?_⟩
    rcases h with ⟨k2, e, h⟩ | h
    · have := hD.1 _ _ q (q.1, e) h2 (apR k2 h) rfl
      have := (List.getElem?_eq_some_iff.mp hq).1
      omega
    · omega
  refine ⟨va_P.app (fun k q hq => ?_) hP1, va_D.app (preD hD) (hD1.weaken (fun k q _ h => hF q.1 h)) (fun i j x y hx hy hxy => ?_)⟩
  · obtain ⟨g1, g2⟩ := apart k q hq
    exact (hP k q (apL hq)).kept (hk q.1 g1 g2)
  · exact (apart i x hx).2 (by rw [hxy]; exact hD1.2 j y hy)
theorem callSv {S : Type} {post : S → Prop} {ww : S → va_W} (hr : va_Run p l e R s m args below meth c H locs cells slots mc ms (F0 m pc ls st0) rest (qv D post ww (va_A wc H.size) a) (va_A wc H.size)) (hP : va_P D vwCl (wr ++ wc) H) (hD : va_D A0 (wr ++ wc)) (hS : va_S A0 H0 H locs) (hA : ∀ q, H0.size ≤ q → A0 q)
    (kk : ∀ (u : S) (H1 : Heap) (locs1 : List Loc), post u → va_P D vwCl (wr ++ ww u) H1 → va_D A0 (wr ++ ww u) → va_S A0 H0 H1 locs1 → W p l e R s m args below meth c H1 locs1 (cells + mc) (slots + ms) Q (F0 m (pc + 3) ls rest)) : W p l e R s m args below meth c H locs cells slots Q (F0 m pc ls st0) := by
  have hF := suf_free hD hS hA
  refine va_callv hr hS (fun q _ h => hF q h) hF (fun u t H1 locs1 ht hvm hw hB hz hk hS1 => ?_)
  obtain ⟨hP1, hD1⟩ := hB
  rw [ht] at hP1
  obtain ⟨hP2, hD2⟩ := suf_join hP hD hk hF hP1 hD1
  exact kk u H1 locs1 hw hP2 hD2 hS1
end SF
theorem max0 {n : Nat} (h : n < 2 ^ 31) : (if (0 : Int32) < nI n then nI n else 0) = nI n := by
  by_cases h0 : (0 : Int32) < nI n
  · rw [if_pos h0]
  · rw [if_neg h0]
    have : n = 0 := by
      by_cases hn : n = 0
      · exact hn
      · exact absurd (nI_lt (a := 0) (Nat.pos_of_ne_zero hn) h) h0
    rw [this]; rfl
theorem fill_step {g : Nat → Int32} {i : Nat} {v : Int32} (h : ∀ j, j < i → g j = v) : ∀ j, j < i + 1 → upd g i v j = v := by
  intro j hj
  by_cases e : j = i
  · rw [e]; exact if_pos rfl
  · rw [pk_un e]; exact h j (by omega)
theorem setSelf {wr : va_W} {k : Nat} {e0 e : Nat × va_E} (h : wr[k]? = some e0) : (wr.set k e)[k]? = some e := by
  rw [List.getElem?_set_self (List.getElem?_eq_some_iff.mp h).1]
