/-! the tables hold all words of the law -/
set_option maxRecDepth 100000 in
theorem lw_g1 : GoodIn lw_tbl wsL_law_r1 := goodIn_of _ (by decide +kernel)
set_option maxRecDepth 100000 in
theorem lw_g2 : GoodIn lw_tbl wsL_law_r2 := goodIn_of _ (by decide +kernel)
set_option maxRecDepth 100000 in
theorem lw_g3 : GoodIn lw_tbl wsL_law_r3 := goodIn_of _ (by decide +kernel)
set_option maxRecDepth 100000 in
theorem lw_g4 : GoodIn lw_tbl wsL_law_r4 := goodIn_of _ (by decide +kernel)
set_option maxRecDepth 100000 in
theorem lw_g5 : GoodIn lw_tbl wsL_law_r5 := goodIn_of _ (by decide +kernel)
set_option maxRecDepth 100000 in
theorem lw_g6 : GoodIn lw_tbl wsL_law_r6 := goodIn_of _ (by decide +kernel)
set_option maxRecDepth 100000 in
theorem lw_g7 : GoodIn lw_tbl wsL_law_r7 := goodIn_of _ (by decide +kernel)
set_option maxRecDepth 100000 in
theorem lw_g8 : GoodIn lw_tbl wsL_law_r8 := goodIn_of _ (by decide +kernel)
set_option maxRecDepth 100000 in
theorem lw_g9 : GoodIn lw_tbl wsL_law_r9 := goodIn_of _ (by decide +kernel)
set_option maxRecDepth 100000 in
theorem lw_g10 : GoodIn lw_tbl wsL_law_r10 := goodIn_of _ (by decide +kernel)
set_option maxRecDepth 100000 in
theorem lw_g11 : GoodIn lw_tbl wsL_law_r11 := goodIn_of _ (by decide +kernel)
set_option maxRecDepth 100000 in
theorem lw_g12 : GoodIn lw_tbl wsL_law_r12 := goodIn_of _ (by decide +kernel)
set_option maxRecDepth 100000 in
theorem lw_g13 : GoodIn lw_tbl wsL_law_r13 := goodIn_of _ (by decide +kernel)
set_option maxRecDepth 100000 in
theorem lw_g14 : GoodIn lw_tbl wsL_law_r14 := goodIn_of _ (by decide +kernel)
theorem inJxT : ∀ w ∈ wsJx000600, w ∈ lw_tbl := by decide +kernel
set_option maxRecDepth 100000 in
theorem lw_good : GoodIn lw_tbl wsL_law := goodIn_app (goodIn_app (goodIn_app (goodIn_app (goodIn_app (goodIn_app (goodIn_app lw_g1 (goodIn_app lw_g2 (goodIn_app lw_g3 (goodIn_app lw_g4 (goodIn_app lw_g5 (goodIn_app lw_g6 (goodIn_app lw_g7 (goodIn_app lw_g8 (goodIn_app lw_g9 (goodIn_app lw_g10 (goodIn_app lw_g11 (goodIn_app lw_g12 (goodIn_app lw_g13 lw_g14))))))))))))) (goodIn_sub inX2 (by decide +kernel))) (goodIn_sub inX3 (by decide +kernel))) (goodIn_sub inX0 (by decide +kernel))) (goodIn_sub inX1 (by decide +kernel))) (goodIn_sub inJxT (by decide +kernel))) (fun w h => absurd h List.not_mem_nil)
set_option maxRecDepth 100000 in
theorem lwG_in : ∀ w ∈ oG, w ∈ lw_tbl := by decide +kernel
theorem lwT_good : GoodIn lw_tbl wsLT := by
  intro w hw
  rcases List.mem_append.mp hw with h | h
  · have h1 := gL_law_L_at w (by unfold va_wsS; exact List.mem_append_right _ h)
    exact ⟨(lw_good w h1.1).1, h1.2⟩
  · rcases List.mem_append.mp h with h | h
    · exact ⟨lwG_in w h, Or.inl (List.mem_filter.mp h).2⟩
    · rw [List.mem_singleton.mp h]
      exact ⟨by decide +kernel, Or.inl rfl⟩
set_option maxRecDepth 100000 in
theorem lwD_in : ∀ w ∈ oD, w ∈ lw_tbl := by decide +kernel
