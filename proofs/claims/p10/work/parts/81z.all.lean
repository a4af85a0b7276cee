/-! ===== all methods ===== -/
set_option maxRecDepth 100000 in
theorem sm_MS_eq : sm_MS = sm_MS_0 ++ (sm_MS_1 ++ (sm_MS_2 ++ (sm_MS_3 ++ (sm_MS_4 ++ (sm_MS_5 ++ (sm_MS_6 ++ (sm_MS_7 ++ (sm_MS_8 ++ (sm_MS_9 ++ (sm_MS_10 ++ (sm_MS_11 ++ (sm_MS_12 ++ (sm_MS_13 ++ (sm_MS_14 ++ (sm_MS_15))))))))))))))) := rfl
theorem sm_all {P : sm_M → Prop} (h0 : ∀ M ∈ sm_MS_0, P M) (h1 : ∀ M ∈ sm_MS_1, P M) (h2 : ∀ M ∈ sm_MS_2, P M) (h3 : ∀ M ∈ sm_MS_3, P M) (h4 : ∀ M ∈ sm_MS_4, P M) (h5 : ∀ M ∈ sm_MS_5, P M) (h6 : ∀ M ∈ sm_MS_6, P M) (h7 : ∀ M ∈ sm_MS_7, P M) (h8 : ∀ M ∈ sm_MS_8, P M) (h9 : ∀ M ∈ sm_MS_9, P M) (h10 : ∀ M ∈ sm_MS_10, P M) (h11 : ∀ M ∈ sm_MS_11, P M) (h12 : ∀ M ∈ sm_MS_12, P M) (h13 : ∀ M ∈ sm_MS_13, P M) (h14 : ∀ M ∈ sm_MS_14, P M) (h15 : ∀ M ∈ sm_MS_15, P M) : ∀ M ∈ sm_MS, P M := by
  rw [sm_MS_eq]
  intro M h
  simp only [List.mem_append] at h
  rcases h with h | h | h | h | h | h | h | h | h | h | h | h | h | h | h | h
  · exact h0 M h
  · exact h1 M h
  · exact h2 M h
  · exact h3 M h
  · exact h4 M h
  · exact h5 M h
  · exact h6 M h
  · exact h7 M h
  · exact h8 M h
  · exact h9 M h
  · exact h10 M h
  · exact h11 M h
  · exact h12 M h
  · exact h13 M h
  · exact h14 M h
  · exact h15 M h
set_option maxRecDepth 100000 in
theorem sm_MS_eq2 : sm_MS = sm_ct1 ++ (sm_ct2 ++ (sm_ct3 ++ (sm_ct4 ++ (sm_ct5 ++ (sm_ct6 ++ (sm_ct7)))))) := rfl
theorem sm_cd_ok : ∀ M ∈ sm_MS, Cond.code M.1 M.2.1 M.2.2.1 M.2.2.2.1 ∈ lw_tbl := by
  rw [sm_MS_eq2]
  intro M h
  simp only [List.mem_append] at h
  rcases h with h | h | h | h | h | h | h
  · exact sm_cw1 M h
  · exact sm_cw2 M h
  · exact sm_cw3 M h
  · exact sm_cw4 M h
  · exact sm_cw5 M h
  · exact sm_cw6 M h
  · exact sm_cw7 M h
