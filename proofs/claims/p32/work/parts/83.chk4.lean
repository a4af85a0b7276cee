set_option maxRecDepth 100000 in
theorem k_M_framesOf : sm_chk m_M_framesOf = true := by decide +kernel
set_option maxRecDepth 100000 in
theorem k_M_settingOf : sm_chk m_M_settingOf = true := by decide +kernel
set_option maxRecDepth 100000 in
theorem k_M_comesOn : sm_chk m_M_comesOn = true := by decide +kernel
set_option maxRecDepth 100000 in
theorem k_M_byTurns : sm_chk m_M_byTurns = true := by decide +kernel
set_option maxRecDepth 100000 in
theorem k_M_turnOf : sm_chk m_M_turnOf = true := by decide +kernel
set_option maxRecDepth 100000 in
theorem k_M_manyOfNode : sm_chk m_M_manyOfNode = true := by decide +kernel
set_option maxRecDepth 100000 in
theorem k_M_movable : sm_chk m_M_movable = true := by decide +kernel
set_option maxRecDepth 100000 in
theorem k_M_thinks : sm_chk m_M_thinks = true := by decide +kernel
set_option maxRecDepth 100000 in
theorem k_M_forgets : sm_chk m_M_forgets = true := by decide +kernel
set_option maxRecDepth 100000 in
theorem k_M_go : sm_chk m_M_go = true := by decide +kernel
set_option maxRecDepth 100000 in
theorem k_M_canGo : sm_chk m_M_canGo = true := by decide +kernel
set_option maxRecDepth 100000 in
theorem k_M_onMany : sm_chk m_M_onMany = true := by decide +kernel
set_option maxRecDepth 100000 in
theorem k_M_beginsToGo : sm_chk m_M_beginsToGo = true := by decide +kernel
set_option maxRecDepth 100000 in
theorem k_M_giveUp : sm_chk m_M_giveUp = true := by decide +kernel
set_option maxRecDepth 100000 in
theorem k_M_isGoing : sm_chk m_M_isGoing = true := by decide +kernel
set_option maxRecDepth 100000 in
theorem k_M_fails : sm_chk m_M_fails = true := by decide +kernel
theorem sm_ck_12 : ∀ M ∈ sm_MS_12, sm_chk M = true := by
  intro M h
  simp only [sm_MS_12, List.mem_cons, List.not_mem_nil, or_false] at h
  rcases h with rfl | rfl | rfl | rfl | rfl | rfl | rfl | rfl | rfl | rfl | rfl | rfl | rfl | rfl | rfl | rfl
  · exact k_M_framesOf
  · exact k_M_settingOf
  · exact k_M_comesOn
  · exact k_M_byTurns
  · exact k_M_turnOf
  · exact k_M_manyOfNode
  · exact k_M_movable
  · exact k_M_thinks
  · exact k_M_forgets
  · exact k_M_go
  · exact k_M_canGo
  · exact k_M_onMany
  · exact k_M_beginsToGo
  · exact k_M_giveUp
  · exact k_M_isGoing
  · exact k_M_fails
set_option maxRecDepth 100000 in
theorem k_M_staysBack : sm_chk m_M_staysBack = true := by decide +kernel
set_option maxRecDepth 100000 in
theorem k_M_wakes : sm_chk m_M_wakes = true := by decide +kernel
set_option maxRecDepth 100000 in
theorem k_M_opens : sm_chk m_M_opens = true := by decide +kernel
set_option maxRecDepth 100000 in
theorem k_M_tick : sm_chk m_M_tick = true := by decide +kernel
set_option maxRecDepth 100000 in
theorem k_M_ticks : sm_chk m_M_ticks = true := by decide +kernel
set_option maxRecDepth 100000 in
theorem k_M_shuts : sm_chk m_M_shuts = true := by decide +kernel
set_option maxRecDepth 100000 in
theorem k_M_moves : sm_chk m_M_moves = true := by decide +kernel
set_option maxRecDepth 100000 in
theorem k_M_looks : sm_chk m_M_looks = true := by decide +kernel
set_option maxRecDepth 100000 in
theorem k_M_firstBlock : sm_chk m_M_firstBlock = true := by decide +kernel
set_option maxRecDepth 100000 in
theorem k_M_isPassed : sm_chk m_M_isPassed = true := by decide +kernel
set_option maxRecDepth 100000 in
theorem k_M_splits : sm_chk m_M_splits = true := by decide +kernel
set_option maxRecDepth 100000 in
theorem k_M_copies : sm_chk m_M_copies = true := by decide +kernel
set_option maxRecDepth 100000 in
theorem k_M_arrives : sm_chk m_M_arrives = true := by decide +kernel
set_option maxRecDepth 100000 in
theorem k_M_isOver : sm_chk m_M_isOver = true := by decide +kernel
set_option maxRecDepth 100000 in
theorem k_M_manyIn : sm_chk m_M_manyIn = true := by decide +kernel
set_option maxRecDepth 100000 in
theorem k_M_whyOf : sm_chk m_M_whyOf = true := by decide +kernel
theorem sm_ck_13 : ∀ M ∈ sm_MS_13, sm_chk M = true := by
  intro M h
  simp only [sm_MS_13, List.mem_cons, List.not_mem_nil, or_false] at h
  rcases h with rfl | rfl | rfl | rfl | rfl | rfl | rfl | rfl | rfl | rfl | rfl | rfl | rfl | rfl | rfl | rfl
  · exact k_M_staysBack
  · exact k_M_wakes
  · exact k_M_opens
  · exact k_M_tick
  · exact k_M_ticks
  · exact k_M_shuts
  · exact k_M_moves
  · exact k_M_looks
  · exact k_M_firstBlock
  · exact k_M_isPassed
  · exact k_M_splits
  · exact k_M_copies
  · exact k_M_arrives
  · exact k_M_isOver
  · exact k_M_manyIn
  · exact k_M_whyOf
