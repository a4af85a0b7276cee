set_option maxRecDepth 100000 in
theorem k_B_howMany : sm_chk m_B_howMany = true := by decide +kernel
set_option maxRecDepth 100000 in
theorem k_R_bitsIn : sm_chk m_R_bitsIn = true := by decide +kernel
set_option maxRecDepth 100000 in
theorem k_K_waitingSet : sm_chk m_K_waitingSet = true := by decide +kernel
set_option maxRecDepth 100000 in
theorem k_S_goingSet : sm_chk m_S_goingSet = true := by decide +kernel
set_option maxRecDepth 100000 in
theorem k_A_movableByNormal : sm_chk m_A_movableByNormal = true := by decide +kernel
set_option maxRecDepth 100000 in
theorem k_M_begins : sm_chk m_M_begins = true := by decide +kernel
set_option maxRecDepth 100000 in
theorem k_M_spanAt : sm_chk m_M_spanAt = true := by decide +kernel
set_option maxRecDepth 100000 in
theorem k_M_frameAt : sm_chk m_M_frameAt = true := by decide +kernel
set_option maxRecDepth 100000 in
theorem k_M_set : sm_chk m_M_set = true := by decide +kernel
set_option maxRecDepth 100000 in
theorem k_M_isIn : sm_chk m_M_isIn = true := by decide +kernel
set_option maxRecDepth 100000 in
theorem k_M_firstOf : sm_chk m_M_firstOf = true := by decide +kernel
set_option maxRecDepth 100000 in
theorem k_M_home : sm_chk m_M_home = true := by decide +kernel
set_option maxRecDepth 100000 in
theorem k_M_isTask : sm_chk m_M_isTask = true := by decide +kernel
set_option maxRecDepth 100000 in
theorem k_M_taskAt : sm_chk m_M_taskAt = true := by decide +kernel
set_option maxRecDepth 100000 in
theorem k_M_take : sm_chk m_M_take = true := by decide +kernel
set_option maxRecDepth 100000 in
theorem k_M_bestPlace : sm_chk m_M_bestPlace = true := by decide +kernel
theorem sm_ck_8 : ∀ M ∈ sm_MS_8, sm_chk M = true := by
  intro M h
  simp only [sm_MS_8, List.mem_cons, List.not_mem_nil, or_false] at h
  rcases h with rfl | rfl | rfl | rfl | rfl | rfl | rfl | rfl | rfl | rfl | rfl | rfl | rfl | rfl | rfl | rfl
  · exact k_B_howMany
  · exact k_R_bitsIn
  · exact k_K_waitingSet
  · exact k_S_goingSet
  · exact k_A_movableByNormal
  · exact k_M_begins
  · exact k_M_spanAt
  · exact k_M_frameAt
  · exact k_M_set
  · exact k_M_isIn
  · exact k_M_firstOf
  · exact k_M_home
  · exact k_M_isTask
  · exact k_M_taskAt
  · exact k_M_take
  · exact k_M_bestPlace
set_option maxRecDepth 100000 in
theorem k_M_spanOf : sm_chk m_M_spanOf = true := by decide +kernel
set_option maxRecDepth 100000 in
theorem k_M_rankOf : sm_chk m_M_rankOf = true := by decide +kernel
set_option maxRecDepth 100000 in
theorem k_M_zoneOf : sm_chk m_M_zoneOf = true := by decide +kernel
set_option maxRecDepth 100000 in
theorem k_M_spanState : sm_chk m_M_spanState = true := by decide +kernel
set_option maxRecDepth 100000 in
theorem k_M_areFree : sm_chk m_M_areFree = true := by decide +kernel
set_option maxRecDepth 100000 in
theorem k_M_isFree : sm_chk m_M_isFree = true := by decide +kernel
set_option maxRecDepth 100000 in
theorem k_M_stateOf : sm_chk m_M_stateOf = true := by decide +kernel
set_option maxRecDepth 100000 in
theorem k_M_holeFrom : sm_chk m_M_holeFrom = true := by decide +kernel
set_option maxRecDepth 100000 in
theorem k_M_leastUsed : sm_chk m_M_leastUsed = true := by decide +kernel
set_option maxRecDepth 100000 in
theorem k_M_of : sm_chk m_M_of = true := by decide +kernel
set_option maxRecDepth 100000 in
theorem k_M_blockAt : sm_chk m_M_blockAt = true := by decide +kernel
set_option maxRecDepth 100000 in
theorem k_M_isPinned : sm_chk m_M_isPinned = true := by decide +kernel
set_option maxRecDepth 100000 in
theorem k_M_isOnWay : sm_chk m_M_isOnWay = true := by decide +kernel
set_option maxRecDepth 100000 in
theorem k_M_drops : sm_chk m_M_drops = true := by decide +kernel
set_option maxRecDepth 100000 in
theorem k_M_frameOf : sm_chk m_M_frameOf = true := by decide +kernel
set_option maxRecDepth 100000 in
theorem k_M_writes : sm_chk m_M_writes = true := by decide +kernel
theorem sm_ck_9 : ∀ M ∈ sm_MS_9, sm_chk M = true := by
  intro M h
  simp only [sm_MS_9, List.mem_cons, List.not_mem_nil, or_false] at h
  rcases h with rfl | rfl | rfl | rfl | rfl | rfl | rfl | rfl | rfl | rfl | rfl | rfl | rfl | rfl | rfl | rfl
  · exact k_M_spanOf
  · exact k_M_rankOf
  · exact k_M_zoneOf
  · exact k_M_spanState
  · exact k_M_areFree
  · exact k_M_isFree
  · exact k_M_stateOf
  · exact k_M_holeFrom
  · exact k_M_leastUsed
  · exact k_M_of
  · exact k_M_blockAt
  · exact k_M_isPinned
  · exact k_M_isOnWay
  · exact k_M_drops
  · exact k_M_frameOf
  · exact k_M_writes
set_option maxRecDepth 100000 in
theorem k_M_more : sm_chk m_M_more = true := by decide +kernel
set_option maxRecDepth 100000 in
theorem k_M_counts : sm_chk m_M_counts = true := by decide +kernel
set_option maxRecDepth 100000 in
theorem k_M_goes : sm_chk m_M_goes = true := by decide +kernel
set_option maxRecDepth 100000 in
theorem k_M_longOf : sm_chk m_M_longOf = true := by decide +kernel
set_option maxRecDepth 100000 in
theorem k_M_leaves : sm_chk m_M_leaves = true := by decide +kernel
set_option maxRecDepth 100000 in
theorem k_M_isShut : sm_chk m_M_isShut = true := by decide +kernel
set_option maxRecDepth 100000 in
theorem k_M_lay : sm_chk m_M_lay = true := by decide +kernel
set_option maxRecDepth 100000 in
theorem k_M_freeNumber : sm_chk m_M_freeNumber = true := by decide +kernel
set_option maxRecDepth 100000 in
theorem k_M_comes : sm_chk m_M_comes = true := by decide +kernel
set_option maxRecDepth 100000 in
theorem k_M_has : sm_chk m_M_has = true := by decide +kernel
set_option maxRecDepth 100000 in
theorem k_M_lays : sm_chk m_M_lays = true := by decide +kernel
set_option maxRecDepth 100000 in
theorem k_M_free : sm_chk m_M_free = true := by decide +kernel
set_option maxRecDepth 100000 in
theorem k_M_isBlock : sm_chk m_M_isBlock = true := by decide +kernel
set_option maxRecDepth 100000 in
theorem k_M_read : sm_chk m_M_read = true := by decide +kernel
set_option maxRecDepth 100000 in
theorem k_M_canDo : sm_chk m_M_canDo = true := by decide +kernel
set_option maxRecDepth 100000 in
theorem k_M_wants : sm_chk m_M_wants = true := by decide +kernel
theorem sm_ck_10 : ∀ M ∈ sm_MS_10, sm_chk M = true := by
  intro M h
  simp only [sm_MS_10, List.mem_cons, List.not_mem_nil, or_false] at h
  rcases h with rfl | rfl | rfl | rfl | rfl | rfl | rfl | rfl | rfl | rfl | rfl | rfl | rfl | rfl | rfl | rfl
  · exact k_M_more
  · exact k_M_counts
  · exact k_M_goes
  · exact k_M_longOf
  · exact k_M_leaves
  · exact k_M_isShut
  · exact k_M_lay
  · exact k_M_freeNumber
  · exact k_M_comes
  · exact k_M_has
  · exact k_M_lays
  · exact k_M_free
  · exact k_M_isBlock
  · exact k_M_read
  · exact k_M_canDo
  · exact k_M_wants
set_option maxRecDepth 100000 in
theorem k_M_does : sm_chk m_M_does = true := by decide +kernel
set_option maxRecDepth 100000 in
theorem k_M_uses : sm_chk m_M_uses = true := by decide +kernel
set_option maxRecDepth 100000 in
theorem k_M_valueOf : sm_chk m_M_valueOf = true := by decide +kernel
set_option maxRecDepth 100000 in
theorem k_M_write : sm_chk m_M_write = true := by decide +kernel
set_option maxRecDepth 100000 in
theorem k_M_pin : sm_chk m_M_pin = true := by decide +kernel
set_option maxRecDepth 100000 in
theorem k_M_hasPin : sm_chk m_M_hasPin = true := by decide +kernel
set_option maxRecDepth 100000 in
theorem k_M_unpin : sm_chk m_M_unpin = true := by decide +kernel
set_option maxRecDepth 100000 in
theorem k_M_press : sm_chk m_M_press = true := by decide +kernel
set_option maxRecDepth 100000 in
theorem k_M_isSpan : sm_chk m_M_isSpan = true := by decide +kernel
set_option maxRecDepth 100000 in
theorem k_M_presses : sm_chk m_M_presses = true := by decide +kernel
set_option maxRecDepth 100000 in
theorem k_M_nextToPress : sm_chk m_M_nextToPress = true := by decide +kernel
set_option maxRecDepth 100000 in
theorem k_M_isLoose : sm_chk m_M_isLoose = true := by decide +kernel
set_option maxRecDepth 100000 in
theorem k_M_movesTo : sm_chk m_M_movesTo = true := by decide +kernel
set_option maxRecDepth 100000 in
theorem k_M_gather : sm_chk m_M_gather = true := by decide +kernel
set_option maxRecDepth 100000 in
theorem k_M_come : sm_chk m_M_come = true := by decide +kernel
set_option maxRecDepth 100000 in
theorem k_M_zoneByRatio : sm_chk m_M_zoneByRatio = true := by decide +kernel
theorem sm_ck_11 : ∀ M ∈ sm_MS_11, sm_chk M = true := by
  intro M h
  simp only [sm_MS_11, List.mem_cons, List.not_mem_nil, or_false] at h
  rcases h with rfl | rfl | rfl | rfl | rfl | rfl | rfl | rfl | rfl | rfl | rfl | rfl | rfl | rfl | rfl | rfl
  · exact k_M_does
  · exact k_M_uses
  · exact k_M_valueOf
  · exact k_M_write
  · exact k_M_pin
  · exact k_M_hasPin
  · exact k_M_unpin
  · exact k_M_press
  · exact k_M_isSpan
  · exact k_M_presses
  · exact k_M_nextToPress
  · exact k_M_isLoose
  · exact k_M_movesTo
  · exact k_M_gather
  · exact k_M_come
  · exact k_M_zoneByRatio
