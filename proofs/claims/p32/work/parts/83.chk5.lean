set_option maxRecDepth 100000 in
theorem k_M_keeps : sm_chk m_M_keeps = true := by decide +kernel
set_option maxRecDepth 100000 in
theorem k_M_keeperAt : sm_chk m_M_keeperAt = true := by decide +kernel
set_option maxRecDepth 100000 in
theorem k_M_keepsWhy : sm_chk m_M_keepsWhy = true := by decide +kernel
set_option maxRecDepth 100000 in
theorem k_M_holders : sm_chk m_M_holders = true := by decide +kernel
set_option maxRecDepth 100000 in
theorem k_M_would : sm_chk m_M_would = true := by decide +kernel
set_option maxRecDepth 100000 in
theorem k_M_goesAway : sm_chk m_M_goesAway = true := by decide +kernel
set_option maxRecDepth 100000 in
theorem k_M_easiest : sm_chk m_M_easiest = true := by decide +kernel
set_option maxRecDepth 100000 in
theorem k_M_easiestNow : sm_chk m_M_easiestNow = true := by decide +kernel
set_option maxRecDepth 100000 in
theorem k_M_givenBack : sm_chk m_M_givenBack = true := by decide +kernel
set_option maxRecDepth 100000 in
theorem k_M_pressed : sm_chk m_M_pressed = true := by decide +kernel
set_option maxRecDepth 100000 in
theorem k_M_greatestIn : sm_chk m_M_greatestIn = true := by decide +kernel
set_option maxRecDepth 100000 in
theorem k_M_frame : sm_chk m_M_frame = true := by decide +kernel
set_option maxRecDepth 100000 in
theorem k_M_block : sm_chk m_M_block = true := by decide +kernel
set_option maxRecDepth 100000 in
theorem k_M_span : sm_chk m_M_span = true := by decide +kernel
set_option maxRecDepth 100000 in
theorem k_M_task : sm_chk m_M_task = true := by decide +kernel
set_option maxRecDepth 100000 in
theorem k_M_ownsMany : sm_chk m_M_ownsMany = true := by decide +kernel
theorem sm_ck_14 : ∀ M ∈ sm_MS_14, sm_chk M = true := by
  intro M h
  simp only [sm_MS_14, List.mem_cons, List.not_mem_nil, or_false] at h
  rcases h with rfl | rfl | rfl | rfl | rfl | rfl | rfl | rfl | rfl | rfl | rfl | rfl | rfl | rfl | rfl | rfl
  · exact k_M_keeps
  · exact k_M_keeperAt
  · exact k_M_keepsWhy
  · exact k_M_holders
  · exact k_M_would
  · exact k_M_goesAway
  · exact k_M_easiest
  · exact k_M_easiestNow
  · exact k_M_givenBack
  · exact k_M_pressed
  · exact k_M_greatestIn
  · exact k_M_frame
  · exact k_M_block
  · exact k_M_span
  · exact k_M_task
  · exact k_M_ownsMany
set_option maxRecDepth 100000 in
theorem k_M_zone : sm_chk m_M_zone = true := by decide +kernel
set_option maxRecDepth 100000 in
theorem k_M_freeIn : sm_chk m_M_freeIn = true := by decide +kernel
set_option maxRecDepth 100000 in
theorem k_M_loose : sm_chk m_M_loose = true := by decide +kernel
set_option maxRecDepth 100000 in
theorem k_M_place : sm_chk m_M_place = true := by decide +kernel
set_option maxRecDepth 100000 in
theorem k_M_hole : sm_chk m_M_hole = true := by decide +kernel
set_option maxRecDepth 100000 in
theorem k_M_holeOf : sm_chk m_M_holeOf = true := by decide +kernel
set_option maxRecDepth 100000 in
theorem k_M_at : sm_chk m_M_at = true := by decide +kernel
set_option maxRecDepth 100000 in
theorem k_M_log : sm_chk m_M_log = true := by decide +kernel
set_option maxRecDepth 100000 in
theorem k_M_count : sm_chk m_M_count = true := by decide +kernel
set_option maxRecDepth 100000 in
theorem k_M_look : sm_chk m_M_look = true := by decide +kernel
set_option maxRecDepth 100000 in
theorem k_M_blocks : sm_chk m_M_blocks = true := by decide +kernel
set_option maxRecDepth 100000 in
theorem k_M_framesIn : sm_chk m_M_framesIn = true := by decide +kernel
set_option maxRecDepth 100000 in
theorem k_M_waiters : sm_chk m_M_waiters = true := by decide +kernel
set_option maxRecDepth 100000 in
theorem k_M_goers : sm_chk m_M_goers = true := by decide +kernel
set_option maxRecDepth 100000 in
theorem k_M_image : sm_chk m_M_image = true := by decide +kernel
theorem sm_ck_15 : ∀ M ∈ sm_MS_15, sm_chk M = true := by
  intro M h
  simp only [sm_MS_15, List.mem_cons, List.not_mem_nil, or_false] at h
  rcases h with rfl | rfl | rfl | rfl | rfl | rfl | rfl | rfl | rfl | rfl | rfl | rfl | rfl | rfl | rfl
  · exact k_M_zone
  · exact k_M_freeIn
  · exact k_M_loose
  · exact k_M_place
  · exact k_M_hole
  · exact k_M_holeOf
  · exact k_M_at
  · exact k_M_log
  · exact k_M_count
  · exact k_M_look
  · exact k_M_blocks
  · exact k_M_framesIn
  · exact k_M_waiters
  · exact k_M_goers
  · exact k_M_image
theorem sm_ck_ok : ∀ M ∈ sm_MS, sm_chk M = true := sm_all sm_ck_0 sm_ck_1 sm_ck_2 sm_ck_3 sm_ck_4 sm_ck_5 sm_ck_6 sm_ck_7 sm_ck_8 sm_ck_9 sm_ck_10 sm_ck_11 sm_ck_12 sm_ck_13 sm_ck_14 sm_ck_15
