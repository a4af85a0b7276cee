set_option maxRecDepth 100000 in
theorem k_M_image : sm_chk m_M_image = true := by decide +kernel
theorem sm_ck_16 : ∀ M ∈ sm_MS_16, sm_chk M = true := by
  intro M h
  simp only [sm_MS_16, List.mem_cons, List.not_mem_nil, or_false] at h
  rcases h with rfl
  · exact k_M_image
theorem sm_ck_ok : ∀ M ∈ sm_MS, sm_chk M = true := sm_all sm_ck_0 sm_ck_1 sm_ck_2 sm_ck_3 sm_ck_4 sm_ck_5 sm_ck_6 sm_ck_7 sm_ck_8 sm_ck_9 sm_ck_10 sm_ck_11 sm_ck_12 sm_ck_13 sm_ck_14 sm_ck_15 sm_ck_16
