set_option maxRecDepth 100000 in
theorem k_I_fill : sm_chk m_I_fill = true := by decide +kernel
set_option maxRecDepth 100000 in
theorem k_R_copy : sm_chk m_R_copy = true := by decide +kernel
set_option maxRecDepth 100000 in
theorem k_A_set : sm_chk m_A_set = true := by decide +kernel
set_option maxRecDepth 100000 in
theorem k_A_home : sm_chk m_A_home = true := by decide +kernel
set_option maxRecDepth 100000 in
theorem k_A_isTask : sm_chk m_A_isTask = true := by decide +kernel
set_option maxRecDepth 100000 in
theorem k_A_isNode : sm_chk m_A_isNode = true := by decide +kernel
set_option maxRecDepth 100000 in
theorem k_A_take : sm_chk m_A_take = true := by decide +kernel
set_option maxRecDepth 100000 in
theorem k_A_isKind : sm_chk m_A_isKind = true := by decide +kernel
set_option maxRecDepth 100000 in
theorem k_A_isBlockOrder : sm_chk m_A_isBlockOrder = true := by decide +kernel
set_option maxRecDepth 100000 in
theorem k_Y_bring : sm_chk m_Y_bring = true := by decide +kernel
set_option maxRecDepth 100000 in
theorem k_Y_bestPlace : sm_chk m_Y_bestPlace = true := by decide +kernel
set_option maxRecDepth 100000 in
theorem k_R_starts : sm_chk m_R_starts = true := by decide +kernel
set_option maxRecDepth 100000 in
theorem k_Y_rank : sm_chk m_Y_rank = true := by decide +kernel
set_option maxRecDepth 100000 in
theorem k_R_leastHole : sm_chk m_R_leastHole = true := by decide +kernel
set_option maxRecDepth 100000 in
theorem k_R_alone : sm_chk m_R_alone = true := by decide +kernel
set_option maxRecDepth 100000 in
theorem k_I_numberOfTrailingZeros : sm_chk m_I_numberOfTrailingZeros = true := by decide +kernel
theorem sm_ck_0 : ∀ M ∈ sm_MS_0, sm_chk M = true := by
  intro M h
  simp only [sm_MS_0, List.mem_cons, List.not_mem_nil, or_false] at h
  rcases h with rfl | rfl | rfl | rfl | rfl | rfl | rfl | rfl | rfl | rfl | rfl | rfl | rfl | rfl | rfl | rfl
  · exact k_I_fill
  · exact k_R_copy
  · exact k_A_set
  · exact k_A_home
  · exact k_A_isTask
  · exact k_A_isNode
  · exact k_A_take
  · exact k_A_isKind
  · exact k_A_isBlockOrder
  · exact k_Y_bring
  · exact k_Y_bestPlace
  · exact k_R_starts
  · exact k_Y_rank
  · exact k_R_leastHole
  · exact k_R_alone
  · exact k_I_numberOfTrailingZeros
set_option maxRecDepth 100000 in
theorem k_B_leastUsedCache : sm_chk m_B_leastUsedCache = true := by decide +kernel
set_option maxRecDepth 100000 in
theorem k_B_isLoose : sm_chk m_B_isLoose = true := by decide +kernel
set_option maxRecDepth 100000 in
theorem k_Y_noteDrop : sm_chk m_Y_noteDrop = true := by decide +kernel
set_option maxRecDepth 100000 in
theorem k_L_add : sm_chk m_L_add = true := by decide +kernel
set_option maxRecDepth 100000 in
theorem k_Y_remove : sm_chk m_Y_remove = true := by decide +kernel
set_option maxRecDepth 100000 in
theorem k_S_shutBits : sm_chk m_S_shutBits = true := by decide +kernel
set_option maxRecDepth 100000 in
theorem k_F_letGo : sm_chk m_F_letGo = true := by decide +kernel
set_option maxRecDepth 100000 in
theorem k_B_leastNumber : sm_chk m_B_leastNumber = true := by decide +kernel
set_option maxRecDepth 100000 in
theorem k_B_begin : sm_chk m_B_begin = true := by decide +kernel
set_option maxRecDepth 100000 in
theorem k_F_give : sm_chk m_F_give = true := by decide +kernel
set_option maxRecDepth 100000 in
theorem k_F_claim : sm_chk m_F_claim = true := by decide +kernel
set_option maxRecDepth 100000 in
theorem k_A_free : sm_chk m_A_free = true := by decide +kernel
set_option maxRecDepth 100000 in
theorem k_B_has : sm_chk m_B_has = true := by decide +kernel
set_option maxRecDepth 100000 in
theorem k_A_read : sm_chk m_A_read = true := by decide +kernel
set_option maxRecDepth 100000 in
theorem k_A_touch : sm_chk m_A_touch = true := by decide +kernel
set_option maxRecDepth 100000 in
theorem k_B_size : sm_chk m_B_size = true := by decide +kernel
theorem sm_ck_1 : ∀ M ∈ sm_MS_1, sm_chk M = true := by
  intro M h
  simp only [sm_MS_1, List.mem_cons, List.not_mem_nil, or_false] at h
  rcases h with rfl | rfl | rfl | rfl | rfl | rfl | rfl | rfl | rfl | rfl | rfl | rfl | rfl | rfl | rfl | rfl
  · exact k_B_leastUsedCache
  · exact k_B_isLoose
  · exact k_Y_noteDrop
  · exact k_L_add
  · exact k_Y_remove
  · exact k_S_shutBits
  · exact k_F_letGo
  · exact k_B_leastNumber
  · exact k_B_begin
  · exact k_F_give
  · exact k_F_claim
  · exact k_A_free
  · exact k_B_has
  · exact k_A_read
  · exact k_A_touch
  · exact k_B_size
set_option maxRecDepth 100000 in
theorem k_K_wants : sm_chk m_K_wants = true := by decide +kernel
set_option maxRecDepth 100000 in
theorem k_Y_doOrWait : sm_chk m_Y_doOrWait = true := by decide +kernel
set_option maxRecDepth 100000 in
theorem k_Y_fulfil : sm_chk m_Y_fulfil = true := by decide +kernel
set_option maxRecDepth 100000 in
theorem k_K_queue : sm_chk m_K_queue = true := by decide +kernel
set_option maxRecDepth 100000 in
theorem k_A_write : sm_chk m_A_write = true := by decide +kernel
set_option maxRecDepth 100000 in
theorem k_A_pin : sm_chk m_A_pin = true := by decide +kernel
set_option maxRecDepth 100000 in
theorem k_A_hasPin : sm_chk m_A_hasPin = true := by decide +kernel
set_option maxRecDepth 100000 in
theorem k_A_unpin : sm_chk m_A_unpin = true := by decide +kernel
set_option maxRecDepth 100000 in
theorem k_A_come : sm_chk m_A_come = true := by decide +kernel
set_option maxRecDepth 100000 in
theorem k_A_isSpan : sm_chk m_A_isSpan = true := by decide +kernel
set_option maxRecDepth 100000 in
theorem k_Y_zoneByRatio : sm_chk m_Y_zoneByRatio = true := by decide +kernel
set_option maxRecDepth 100000 in
theorem k_S_inZone : sm_chk m_S_inZone = true := by decide +kernel
set_option maxRecDepth 100000 in
theorem k_Y_staysInRatio : sm_chk m_Y_staysInRatio = true := by decide +kernel
set_option maxRecDepth 100000 in
theorem k_Y_open : sm_chk m_Y_open = true := by decide +kernel
set_option maxRecDepth 100000 in
theorem k_A_byTurns : sm_chk m_A_byTurns = true := by decide +kernel
set_option maxRecDepth 100000 in
theorem k_S_nextByTurns : sm_chk m_S_nextByTurns = true := by decide +kernel
theorem sm_ck_2 : ∀ M ∈ sm_MS_2, sm_chk M = true := by
  intro M h
  simp only [sm_MS_2, List.mem_cons, List.not_mem_nil, or_false] at h
  rcases h with rfl | rfl | rfl | rfl | rfl | rfl | rfl | rfl | rfl | rfl | rfl | rfl | rfl | rfl | rfl | rfl
  · exact k_K_wants
  · exact k_Y_doOrWait
  · exact k_Y_fulfil
  · exact k_K_queue
  · exact k_A_write
  · exact k_A_pin
  · exact k_A_hasPin
  · exact k_A_unpin
  · exact k_A_come
  · exact k_A_isSpan
  · exact k_Y_zoneByRatio
  · exact k_S_inZone
  · exact k_Y_staysInRatio
  · exact k_Y_open
  · exact k_A_byTurns
  · exact k_S_nextByTurns
