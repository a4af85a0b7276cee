set_option maxRecDepth 100000 in
theorem k_F_settle : sm_chk m_F_settle = true := by decide +kernel
set_option maxRecDepth 100000 in
theorem k_A_frame : sm_chk m_A_frame = true := by decide +kernel
set_option maxRecDepth 100000 in
theorem k_F_stateOf : sm_chk m_F_stateOf = true := by decide +kernel
set_option maxRecDepth 100000 in
theorem k_A_block : sm_chk m_A_block = true := by decide +kernel
set_option maxRecDepth 100000 in
theorem k_K_lineOf : sm_chk m_K_lineOf = true := by decide +kernel
set_option maxRecDepth 100000 in
theorem k_A_span : sm_chk m_A_span = true := by decide +kernel
set_option maxRecDepth 100000 in
theorem k_I_bitCount : sm_chk m_I_bitCount = true := by decide +kernel
set_option maxRecDepth 100000 in
theorem k_A_task : sm_chk m_A_task = true := by decide +kernel
set_option maxRecDepth 100000 in
theorem k_B_ownedBy : sm_chk m_B_ownedBy = true := by decide +kernel
set_option maxRecDepth 100000 in
theorem k_B_pinnedBy : sm_chk m_B_pinnedBy = true := by decide +kernel
set_option maxRecDepth 100000 in
theorem k_A_zone : sm_chk m_A_zone = true := by decide +kernel
set_option maxRecDepth 100000 in
theorem k_A_isZone : sm_chk m_A_isZone = true := by decide +kernel
set_option maxRecDepth 100000 in
theorem k_Y_freeInZone : sm_chk m_Y_freeInZone = true := by decide +kernel
set_option maxRecDepth 100000 in
theorem k_Y_widestInZone : sm_chk m_Y_widestInZone = true := by decide +kernel
set_option maxRecDepth 100000 in
theorem k_R_widest : sm_chk m_R_widest = true := by decide +kernel
set_option maxRecDepth 100000 in
theorem k_A_loose : sm_chk m_A_loose = true := by decide +kernel
theorem sm_ck_5 : ∀ M ∈ sm_MS_5, sm_chk M = true := by
  intro M h
  simp only [sm_MS_5, List.mem_cons, List.not_mem_nil, or_false] at h
  rcases h with rfl | rfl | rfl | rfl | rfl | rfl | rfl | rfl | rfl | rfl | rfl | rfl | rfl | rfl | rfl | rfl
  · exact k_F_settle
  · exact k_A_frame
  · exact k_F_stateOf
  · exact k_A_block
  · exact k_K_lineOf
  · exact k_A_span
  · exact k_I_bitCount
  · exact k_A_task
  · exact k_B_ownedBy
  · exact k_B_pinnedBy
  · exact k_A_zone
  · exact k_A_isZone
  · exact k_Y_freeInZone
  · exact k_Y_widestInZone
  · exact k_R_widest
  · exact k_A_loose
set_option maxRecDepth 100000 in
theorem k_A_place : sm_chk m_A_place = true := by decide +kernel
set_option maxRecDepth 100000 in
theorem k_A_hole : sm_chk m_A_hole = true := by decide +kernel
set_option maxRecDepth 100000 in
theorem k_R_holeRound : sm_chk m_R_holeRound = true := by decide +kernel
set_option maxRecDepth 100000 in
theorem k_A_keeps : sm_chk m_A_keeps = true := by decide +kernel
set_option maxRecDepth 100000 in
theorem k_Y_keepers : sm_chk m_Y_keepers = true := by decide +kernel
set_option maxRecDepth 100000 in
theorem k_Y_whyKeeps : sm_chk m_Y_whyKeeps = true := by decide +kernel
set_option maxRecDepth 100000 in
theorem k_Y_hasPlaceBeside : sm_chk m_Y_hasPlaceBeside = true := by decide +kernel
set_option maxRecDepth 100000 in
theorem k_Y_keeper : sm_chk m_Y_keeper = true := by decide +kernel
set_option maxRecDepth 100000 in
theorem k_A_holders : sm_chk m_A_holders = true := by decide +kernel
set_option maxRecDepth 100000 in
theorem k_Y_holdersOf : sm_chk m_Y_holdersOf = true := by decide +kernel
set_option maxRecDepth 100000 in
theorem k_A_pressed : sm_chk m_A_pressed = true := by decide +kernel
set_option maxRecDepth 100000 in
theorem k_H_widestPacked : sm_chk m_H_widestPacked = true := by decide +kernel
set_option maxRecDepth 100000 in
theorem k_Y_copyFrom : sm_chk m_Y_copyFrom = true := by decide +kernel
set_option maxRecDepth 100000 in
theorem k_F_copyFrom : sm_chk m_F_copyFrom = true := by decide +kernel
set_option maxRecDepth 100000 in
theorem k_B_copyFrom : sm_chk m_B_copyFrom = true := by decide +kernel
set_option maxRecDepth 100000 in
theorem k_S_copyFrom : sm_chk m_S_copyFrom = true := by decide +kernel
theorem sm_ck_6 : ∀ M ∈ sm_MS_6, sm_chk M = true := by
  intro M h
  simp only [sm_MS_6, List.mem_cons, List.not_mem_nil, or_false] at h
  rcases h with rfl | rfl | rfl | rfl | rfl | rfl | rfl | rfl | rfl | rfl | rfl | rfl | rfl | rfl | rfl | rfl
  · exact k_A_place
  · exact k_A_hole
  · exact k_R_holeRound
  · exact k_A_keeps
  · exact k_Y_keepers
  · exact k_Y_whyKeeps
  · exact k_Y_hasPlaceBeside
  · exact k_Y_keeper
  · exact k_A_holders
  · exact k_Y_holdersOf
  · exact k_A_pressed
  · exact k_H_widestPacked
  · exact k_Y_copyFrom
  · exact k_F_copyFrom
  · exact k_B_copyFrom
  · exact k_S_copyFrom
set_option maxRecDepth 100000 in
theorem k_K_copyFrom : sm_chk m_K_copyFrom = true := by decide +kernel
set_option maxRecDepth 100000 in
theorem k_A_at : sm_chk m_A_at = true := by decide +kernel
set_option maxRecDepth 100000 in
theorem k_B_framesAt : sm_chk m_B_framesAt = true := by decide +kernel
set_option maxRecDepth 100000 in
theorem k_A_movable : sm_chk m_A_movable = true := by decide +kernel
set_option maxRecDepth 100000 in
theorem k_A_would : sm_chk m_A_would = true := by decide +kernel
set_option maxRecDepth 100000 in
theorem k_H_tryOut : sm_chk m_H_tryOut = true := by decide +kernel
set_option maxRecDepth 100000 in
theorem k_H_grownSince : sm_chk m_H_grownSince = true := by decide +kernel
set_option maxRecDepth 100000 in
theorem k_A_easiest : sm_chk m_A_easiest = true := by decide +kernel
set_option maxRecDepth 100000 in
theorem k_H_findEasiest : sm_chk m_H_findEasiest = true := by decide +kernel
set_option maxRecDepth 100000 in
theorem k_A_givenBack : sm_chk m_A_givenBack = true := by decide +kernel
set_option maxRecDepth 100000 in
theorem k_A_log : sm_chk m_A_log = true := by decide +kernel
set_option maxRecDepth 100000 in
theorem k_L_cell : sm_chk m_L_cell = true := by decide +kernel
set_option maxRecDepth 100000 in
theorem k_A_count : sm_chk m_A_count = true := by decide +kernel
set_option maxRecDepth 100000 in
theorem k_A_image : sm_chk m_A_image = true := by decide +kernel
set_option maxRecDepth 100000 in
theorem k_L_copyFrom : sm_chk m_L_copyFrom = true := by decide +kernel
set_option maxRecDepth 100000 in
theorem k_A_look : sm_chk m_A_look = true := by decide +kernel
theorem sm_ck_7 : ∀ M ∈ sm_MS_7, sm_chk M = true := by
  intro M h
  simp only [sm_MS_7, List.mem_cons, List.not_mem_nil, or_false] at h
  rcases h with rfl | rfl | rfl | rfl | rfl | rfl | rfl | rfl | rfl | rfl | rfl | rfl | rfl | rfl | rfl | rfl
  · exact k_K_copyFrom
  · exact k_A_at
  · exact k_B_framesAt
  · exact k_A_movable
  · exact k_A_would
  · exact k_H_tryOut
  · exact k_H_grownSince
  · exact k_A_easiest
  · exact k_H_findEasiest
  · exact k_A_givenBack
  · exact k_A_log
  · exact k_L_cell
  · exact k_A_count
  · exact k_A_image
  · exact k_L_copyFrom
  · exact k_A_look
