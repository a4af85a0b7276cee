set_option maxRecDepth 100000 in
theorem k_A_press : sm_chk m_A_press = true := by decide +kernel
set_option maxRecDepth 100000 in
theorem k_Y_pack : sm_chk m_Y_pack = true := by decide +kernel
set_option maxRecDepth 100000 in
theorem k_Y_blockAt : sm_chk m_Y_blockAt = true := by decide +kernel
set_option maxRecDepth 100000 in
theorem k_Y_moveAtOnce : sm_chk m_Y_moveAtOnce = true := by decide +kernel
set_option maxRecDepth 100000 in
theorem k_F_copyValues : sm_chk m_F_copyValues = true := by decide +kernel
set_option maxRecDepth 100000 in
theorem k_A_gather : sm_chk m_A_gather = true := by decide +kernel
set_option maxRecDepth 100000 in
theorem k_Y_bringNearer : sm_chk m_Y_bringNearer = true := by decide +kernel
set_option maxRecDepth 100000 in
theorem k_Y_nearerPlace : sm_chk m_Y_nearerPlace = true := by decide +kernel
set_option maxRecDepth 100000 in
theorem k_A_go : sm_chk m_A_go = true := by decide +kernel
set_option maxRecDepth 100000 in
theorem k_S_canGo : sm_chk m_S_canGo = true := by decide +kernel
set_option maxRecDepth 100000 in
theorem k_G_begin : sm_chk m_G_begin = true := by decide +kernel
set_option maxRecDepth 100000 in
theorem k_A_giveUp : sm_chk m_A_giveUp = true := by decide +kernel
set_option maxRecDepth 100000 in
theorem k_S_isGoing : sm_chk m_S_isGoing = true := by decide +kernel
set_option maxRecDepth 100000 in
theorem k_G_callOff : sm_chk m_G_callOff = true := by decide +kernel
set_option maxRecDepth 100000 in
theorem k_G_endWay : sm_chk m_G_endWay = true := by decide +kernel
set_option maxRecDepth 100000 in
theorem k_Y_serveLine : sm_chk m_Y_serveLine = true := by decide +kernel
theorem sm_ck_3 : ∀ M ∈ sm_MS_3, sm_chk M = true := by
  intro M h
  simp only [sm_MS_3, List.mem_cons, List.not_mem_nil, or_false] at h
  rcases h with rfl | rfl | rfl | rfl | rfl | rfl | rfl | rfl | rfl | rfl | rfl | rfl | rfl | rfl | rfl | rfl
  · exact k_A_press
  · exact k_Y_pack
  · exact k_Y_blockAt
  · exact k_Y_moveAtOnce
  · exact k_F_copyValues
  · exact k_A_gather
  · exact k_Y_bringNearer
  · exact k_Y_nearerPlace
  · exact k_A_go
  · exact k_S_canGo
  · exact k_G_begin
  · exact k_A_giveUp
  · exact k_S_isGoing
  · exact k_G_callOff
  · exact k_G_endWay
  · exact k_Y_serveLine
set_option maxRecDepth 100000 in
theorem k_G_fail : sm_chk m_G_fail = true := by decide +kernel
set_option maxRecDepth 100000 in
theorem k_S_endGoing : sm_chk m_S_endGoing = true := by decide +kernel
set_option maxRecDepth 100000 in
theorem k_A_tick : sm_chk m_A_tick = true := by decide +kernel
set_option maxRecDepth 100000 in
theorem k_G_oneTick : sm_chk m_G_oneTick = true := by decide +kernel
set_option maxRecDepth 100000 in
theorem k_G_shutNextPart : sm_chk m_G_shutNextPart = true := by decide +kernel
set_option maxRecDepth 100000 in
theorem k_G_hasUnmovable : sm_chk m_G_hasUnmovable = true := by decide +kernel
set_option maxRecDepth 100000 in
theorem k_G_moveOn : sm_chk m_G_moveOn = true := by decide +kernel
set_option maxRecDepth 100000 in
theorem k_G_blockFrom : sm_chk m_G_blockFrom = true := by decide +kernel
set_option maxRecDepth 100000 in
theorem k_G_endPass : sm_chk m_G_endPass = true := by decide +kernel
set_option maxRecDepth 100000 in
theorem k_G_turnOff : sm_chk m_G_turnOff = true := by decide +kernel
set_option maxRecDepth 100000 in
theorem k_G_whyFails : sm_chk m_G_whyFails = true := by decide +kernel
set_option maxRecDepth 100000 in
theorem k_G_lookAt : sm_chk m_G_lookAt = true := by decide +kernel
set_option maxRecDepth 100000 in
theorem k_F_hold : sm_chk m_F_hold = true := by decide +kernel
set_option maxRecDepth 100000 in
theorem k_G_split : sm_chk m_G_split = true := by decide +kernel
set_option maxRecDepth 100000 in
theorem k_G_copySome : sm_chk m_G_copySome = true := by decide +kernel
set_option maxRecDepth 100000 in
theorem k_G_arrive : sm_chk m_G_arrive = true := by decide +kernel
theorem sm_ck_4 : ∀ M ∈ sm_MS_4, sm_chk M = true := by
  intro M h
  simp only [sm_MS_4, List.mem_cons, List.not_mem_nil, or_false] at h
  rcases h with rfl | rfl | rfl | rfl | rfl | rfl | rfl | rfl | rfl | rfl | rfl | rfl | rfl | rfl | rfl | rfl
  · exact k_G_fail
  · exact k_S_endGoing
  · exact k_A_tick
  · exact k_G_oneTick
  · exact k_G_shutNextPart
  · exact k_G_hasUnmovable
  · exact k_G_moveOn
  · exact k_G_blockFrom
  · exact k_G_endPass
  · exact k_G_turnOff
  · exact k_G_whyFails
  · exact k_G_lookAt
  · exact k_F_hold
  · exact k_G_split
  · exact k_G_copySome
  · exact k_G_arrive
