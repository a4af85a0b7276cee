section
/-! ===== the code words: by one walk over each piece of the tables ===== -/
def sm_MS_0 : List sm_M := [m_I_fill, m_R_copy, m_A_set, m_A_home, m_A_isTask, m_A_isNode, m_A_take, m_A_isKind, m_A_isBlockOrder, m_Y_bring, m_Y_bestPlace, m_R_starts, m_Y_rank, m_R_leastHole, m_R_alone, m_I_numberOfTrailingZeros]
def sm_MS_1 : List sm_M := [m_B_leastUsedCache, m_B_isLoose, m_Y_noteDrop, m_L_add, m_Y_remove, m_S_shutBits, m_F_letGo, m_B_leastNumber, m_B_begin, m_F_give, m_F_claim, m_A_free, m_B_has, m_A_read, m_A_touch, m_B_size]
def sm_MS_2 : List sm_M := [m_K_wants, m_Y_doOrWait, m_Y_fulfil, m_K_queue, m_A_write, m_A_pin, m_A_hasPin, m_A_unpin, m_A_come, m_A_isSpan, m_Y_zoneByRatio, m_S_inZone, m_Y_staysInRatio, m_Y_open, m_A_byTurns, m_S_nextByTurns]
def sm_MS_3 : List sm_M := [m_A_press, m_Y_pack, m_Y_blockAt, m_Y_moveAtOnce, m_F_copyValues, m_A_gather, m_Y_bringNearer, m_Y_nearerPlace, m_A_go, m_S_canGo, m_G_begin, m_A_giveUp, m_S_isGoing, m_G_callOff, m_G_endWay, m_Y_serveLine]
def sm_MS_4 : List sm_M := [m_G_fail, m_S_endGoing, m_A_tick, m_G_oneTick, m_G_shutNextPart, m_G_hasUnmovable, m_G_moveOn, m_G_blockFrom, m_G_endPass, m_G_turnOff, m_G_whyFails, m_G_lookAt, m_F_hold, m_G_split, m_G_copySome, m_G_arrive]
def sm_MS_5 : List sm_M := [m_F_settle, m_A_frame, m_F_stateOf, m_A_block, m_K_lineOf, m_A_span, m_I_bitCount, m_A_task, m_B_ownedBy, m_B_pinnedBy, m_A_zone, m_A_isZone, m_Y_freeInZone, m_Y_widestInZone, m_R_widest, m_A_loose]
def sm_MS_6 : List sm_M := [m_A_place, m_A_hole, m_R_holeRound, m_A_keeps, m_Y_keepers, m_Y_whyKeeps, m_Y_hasPlaceBeside, m_Y_keeper, m_A_holders, m_Y_holdersOf, m_A_pressed, m_H_widestPacked, m_Y_copyFrom, m_F_copyFrom, m_B_copyFrom, m_S_copyFrom]
def sm_MS_7 : List sm_M := [m_K_copyFrom, m_A_at, m_B_framesAt, m_A_movable, m_A_would, m_H_tryOut, m_H_grownSince, m_A_easiest, m_H_findEasiest, m_A_givenBack, m_A_log, m_L_cell, m_A_count, m_A_image, m_L_copyFrom, m_A_look]
def sm_MS_8 : List sm_M := [m_B_howMany, m_R_bitsIn, m_K_waitingSet, m_S_goingSet, m_A_movableByNormal, m_M_begins, m_M_spanAt, m_M_frameAt, m_M_set, m_M_isIn, m_M_firstOf, m_M_home, m_M_isTask, m_M_taskAt, m_M_take, m_M_bestPlace]
def sm_MS_9 : List sm_M := [m_M_spanOf, m_M_rankOf, m_M_zoneOf, m_M_spanState, m_M_areFree, m_M_isFree, m_M_stateOf, m_M_holeFrom, m_M_leastUsed, m_M_of, m_M_blockAt, m_M_isPinned, m_M_isOnWay, m_M_drops, m_M_frameOf, m_M_writes]
def sm_MS_10 : List sm_M := [m_M_more, m_M_counts, m_M_goes, m_M_longOf, m_M_leaves, m_M_isShut, m_M_lay, m_M_freeNumber, m_M_comes, m_M_has, m_M_lays, m_M_free, m_M_isBlock, m_M_read, m_M_canDo, m_M_wants]
def sm_MS_11 : List sm_M := [m_M_does, m_M_uses, m_M_valueOf, m_M_write, m_M_pin, m_M_hasPin, m_M_unpin, m_M_press, m_M_isSpan, m_M_presses, m_M_nextToPress, m_M_isLoose, m_M_movesTo, m_M_gather, m_M_come, m_M_zoneByRatio]
def sm_MS_12 : List sm_M := [m_M_framesOf, m_M_settingOf, m_M_comesOn, m_M_byTurns, m_M_turnOf, m_M_manyOfNode, m_M_movable, m_M_thinks, m_M_forgets, m_M_go, m_M_canGo, m_M_onMany, m_M_beginsToGo, m_M_giveUp, m_M_isGoing, m_M_fails]
def sm_MS_13 : List sm_M := [m_M_staysBack, m_M_wakes, m_M_opens, m_M_tick, m_M_ticks, m_M_shuts, m_M_moves, m_M_looks, m_M_firstBlock, m_M_isPassed, m_M_splits, m_M_copies, m_M_arrives, m_M_isOver, m_M_manyIn, m_M_whyOf]
def sm_MS_14 : List sm_M := [m_M_keeps, m_M_keeperAt, m_M_keepsWhy, m_M_holders, m_M_would, m_M_goesAway, m_M_easiest, m_M_easiestNow, m_M_givenBack, m_M_pressed, m_M_greatestIn, m_M_frame, m_M_block, m_M_span, m_M_task, m_M_ownsMany]
def sm_MS_15 : List sm_M := [m_M_zone, m_M_freeIn, m_M_loose, m_M_place, m_M_hole, m_M_holeOf, m_M_at, m_M_log, m_M_count, m_M_look, m_M_blocks, m_M_framesIn, m_M_waiters, m_M_goers, m_M_image]
def sm_ct1 : List sm_M := [m_I_fill]
set_option maxRecDepth 100000 in
set_option maxHeartbeats 4000000 in
theorem sm_cq1 : sm_pk tables_1_1 [false, false, false, false, false, false, false, false, false, false, false, false, false, false, false, false, false, false, false, false, false, false, false, false, false, false, false, false, false, false, false, false, false, false, false, false, false, false, false, false, false, false, false, false, true, false, false, false, false, false, false, false, false, false, false, false, false, false, false, false, false, false, false, false, false, false, false, false, false, false, false, false, false, false, false, false, false, false, false, false, false, false, false, false, false, false, false, false, false, false, false, false, false, false, false, false, false, false, false, false, false, false, false, false, false, false, false, false, false, false, false, false, false, false, false, false, false, false, false, false, false, false, false, false, false, false, false, false, false, false, false, false, false, false, false, false, false, false, false, false, false, false, false, false, false, false, false, false, false, false, false, false, false, false, false, false, false, false, false, false, false, false, false, false, false, false, false, false, false, false, false, false, false, false, false, false, false, false, false, false, false, false, false, false, false, false, false, false, false, false, false, false, false, false, false, false, false, false, false, false, false, false, false, false, false, false, false, false, false, false, false, false, false, false, false, false, false, false, false, false, false, false, false, false, false, false, false, false, false, false, false, false, false, false, false, false, false, false, false, false] = sm_ct1.map (fun M => Cond.code M.1 M.2.1 M.2.2.1 M.2.2.2.1) := rfl
theorem sm_cw1 : ∀ M ∈ sm_ct1, Cond.code M.1 M.2.1 M.2.2.1 M.2.2.2.1 ∈ lw_tbl := fun M h => sm_ci1 (sm_pk_in _ _ _ (by rw [sm_cq1]; exact List.mem_map.mpr ⟨M, h, rfl⟩))
def sm_ct2 : List sm_M := [m_R_copy, m_A_set, m_A_home, m_A_isTask, m_A_isNode, m_A_take, m_A_isKind, m_A_isBlockOrder, m_Y_bring, m_Y_bestPlace, m_R_starts, m_Y_rank, m_R_leastHole, m_R_alone, m_I_numberOfTrailingZeros, m_B_leastUsedCache, m_B_isLoose, m_Y_noteDrop, m_L_add, m_Y_remove, m_S_shutBits, m_F_letGo, m_B_leastNumber, m_B_begin, m_F_give, m_F_claim]
set_option maxRecDepth 100000 in
set_option maxHeartbeats 4000000 in
theorem sm_cq2 : sm_pk tables_1_2 [false, false, false, false, false, false, false, false, false, false, false, false, false, false, false, false, false, false, false, false, false, false, false, false, false, false, false, false, false, false, false, false, false, false, false, false, false, false, false, false, false, false, false, false, false, false, false, false, false, false, false, false, false, false, false, false, false, false, false, false, false, false, false, false, false, false, false, false, false, false, false, false, false, false, false, false, false, false, false, false, false, false, false, false, false, false, false, false, false, false, false, false, false, false, false, false, false, false, false, false, false, false, false, false, false, false, false, false, false, false, false, false, false, false, false, false, true, false, false, false, false, false, false, false, false, false, false, false, false, false, false, false, false, false, false, false, false, false, false, false, false, false, true, false, false, false, false, false, false, false, true, false, false, true, false, false, true, false, false, false, true, false, false, true, false, false, true, false, false, false, true, false, false, false, true, false, false, true, false, false, false, false, false, true, false, false, true, false, false, true, false, false, true, false, false, false, false, true, false, false, false, true, false, false, false, true, false, false, false, true, false, false, false, true, false, false, false, true, false, false, false, true, false, false, false, true, false, false, false, true, false, false, false, true, false, false, false, true, false, false] = sm_ct2.map (fun M => Cond.code M.1 M.2.1 M.2.2.1 M.2.2.2.1) := rfl
theorem sm_cw2 : ∀ M ∈ sm_ct2, Cond.code M.1 M.2.1 M.2.2.1 M.2.2.2.1 ∈ lw_tbl := fun M h => sm_ci2 (sm_pk_in _ _ _ (by rw [sm_cq2]; exact List.mem_map.mpr ⟨M, h, rfl⟩))
def sm_ct3 : List sm_M := [m_A_free, m_B_has, m_A_read, m_A_touch, m_B_size, m_K_wants, m_Y_doOrWait, m_Y_fulfil, m_K_queue, m_A_write, m_A_pin, m_A_hasPin, m_A_unpin, m_A_come, m_A_isSpan, m_Y_zoneByRatio, m_S_inZone, m_Y_staysInRatio, m_Y_open, m_A_byTurns, m_S_nextByTurns, m_A_press, m_Y_pack, m_Y_blockAt, m_Y_moveAtOnce, m_F_copyValues, m_A_gather, m_Y_bringNearer, m_Y_nearerPlace, m_A_go, m_S_canGo, m_G_begin, m_A_giveUp, m_S_isGoing, m_G_callOff, m_G_endWay, m_Y_serveLine, m_G_fail, m_S_endGoing, m_A_tick, m_G_oneTick, m_G_shutNextPart, m_G_hasUnmovable, m_G_moveOn, m_G_blockFrom, m_G_endPass, m_G_turnOff, m_G_whyFails, m_G_lookAt, m_F_hold, m_G_split, m_G_copySome, m_G_arrive, m_F_settle, m_A_frame, m_F_stateOf]
set_option maxRecDepth 100000 in
set_option maxHeartbeats 4000000 in
theorem sm_cq3 : sm_pk tables_1_3 [false, true, false, false, false, true, false, false, false, false, false, true, false, false, false, true, false, false, false, true, false, false, false, true, false, false, false, true, false, false, false, true, false, false, false, true, false, false, false, true, false, false, false, true, false, false, false, true, false, false, false, true, false, false, false, true, false, false, true, false, false, false, true, false, false, false, true, false, false, false, true, false, false, false, true, false, false, false, true, false, false, false, true, false, false, false, true, false, false, false, true, false, false, false, true, false, false, false, false, true, false, false, false, false, true, false, false, false, true, false, false, false, true, false, false, false, false, true, false, false, false, true, false, false, false, true, false, false, false, true, false, false, false, false, true, false, false, false, true, false, false, false, true, false, false, false, false, false, false, true, false, false, false, true, false, false, false, true, false, false, false, true, false, false, false, true, false, false, false, true, false, false, false, true, false, false, false, true, false, false, false, true, false, false, false, true, false, false, false, true, false, false, false, true, false, false, false, true, false, false, false, true, false, false, false, false, false, false, true, false, false, false, false, true, false, false, false, false, true, false, false, false, false, false, true, false, false, false, true, false, false, false, true, false, false, false, true, false, false, false] = sm_ct3.map (fun M => Cond.code M.1 M.2.1 M.2.2.1 M.2.2.2.1) := rfl
theorem sm_cw3 : ∀ M ∈ sm_ct3, Cond.code M.1 M.2.1 M.2.2.1 M.2.2.2.1 ∈ lw_tbl := fun M h => sm_ci3 (sm_pk_in _ _ _ (by rw [sm_cq3]; exact List.mem_map.mpr ⟨M, h, rfl⟩))
def sm_ct4 : List sm_M := [m_A_block, m_K_lineOf, m_A_span, m_I_bitCount, m_A_task, m_B_ownedBy, m_B_pinnedBy, m_A_zone, m_A_isZone, m_Y_freeInZone, m_Y_widestInZone, m_R_widest, m_A_loose, m_A_place, m_A_hole, m_R_holeRound, m_A_keeps, m_Y_keepers, m_Y_whyKeeps, m_Y_hasPlaceBeside, m_Y_keeper, m_A_holders, m_Y_holdersOf, m_A_pressed, m_H_widestPacked, m_Y_copyFrom, m_F_copyFrom, m_B_copyFrom, m_S_copyFrom, m_K_copyFrom, m_A_at, m_B_framesAt, m_A_movable, m_A_would, m_H_tryOut, m_H_grownSince, m_A_easiest, m_H_findEasiest, m_A_givenBack, m_A_log, m_L_cell, m_A_count, m_A_image, m_L_copyFrom, m_A_look, m_B_howMany, m_R_bitsIn, m_K_waitingSet, m_S_goingSet, m_A_movableByNormal, m_M_begins, m_M_spanAt, m_M_frameAt]
set_option maxRecDepth 100000 in
set_option maxHeartbeats 4000000 in
theorem sm_cq4 : sm_pk tables_1_4 [true, false, false, false, true, false, false, false, true, false, false, true, false, false, false, false, false, false, true, false, false, false, true, false, false, false, true, false, false, false, true, false, false, true, false, false, false, false, true, false, false, false, false, true, false, false, true, false, false, false, false, false, false, false, true, false, false, false, false, true, false, false, false, false, true, false, false, true, false, false, false, true, false, false, false, true, false, false, false, true, false, false, false, true, false, false, false, true, false, false, false, false, true, false, false, false, true, false, false, false, true, false, false, false, true, false, false, false, true, false, false, false, true, false, false, false, false, true, false, false, false, false, true, false, false, false, false, true, false, false, false, false, false, false, true, false, false, false, true, false, false, false, false, true, false, false, false, false, true, false, false, false, true, false, false, false, false, false, false, true, false, false, false, true, false, false, false, true, false, false, false, false, false, true, false, false, false, false, true, false, false, false, true, false, false, false, true, false, false, false, true, false, false, false, true, false, false, false, false, true, false, false, false, true, false, false, true, false, false, false, false, true, false, false, false, true, false, false, false, false, true, false, false, false, false, false, false, false, false, false, true, false, false, false, true, false, false, false, true, false] = sm_ct4.map (fun M => Cond.code M.1 M.2.1 M.2.2.1 M.2.2.2.1) := rfl
theorem sm_cw4 : ∀ M ∈ sm_ct4, Cond.code M.1 M.2.1 M.2.2.1 M.2.2.2.1 ∈ lw_tbl := fun M h => sm_ci4 (sm_pk_in _ _ _ (by rw [sm_cq4]; exact List.mem_map.mpr ⟨M, h, rfl⟩))
def sm_ct5 : List sm_M := [m_M_set, m_M_isIn, m_M_firstOf, m_M_home, m_M_isTask, m_M_taskAt, m_M_take, m_M_bestPlace, m_M_spanOf, m_M_rankOf, m_M_zoneOf, m_M_spanState, m_M_areFree, m_M_isFree, m_M_stateOf, m_M_holeFrom, m_M_leastUsed, m_M_of, m_M_blockAt, m_M_isPinned, m_M_isOnWay, m_M_drops, m_M_frameOf, m_M_writes, m_M_more, m_M_counts, m_M_goes, m_M_longOf, m_M_leaves, m_M_isShut, m_M_lay, m_M_freeNumber, m_M_comes, m_M_has, m_M_lays, m_M_free, m_M_isBlock, m_M_read, m_M_canDo, m_M_wants, m_M_does, m_M_uses, m_M_valueOf, m_M_write, m_M_pin, m_M_hasPin, m_M_unpin, m_M_press, m_M_isSpan, m_M_presses, m_M_nextToPress, m_M_isLoose, m_M_movesTo]
set_option maxRecDepth 100000 in
set_option maxHeartbeats 4000000 in
theorem sm_cq5 : sm_pk tables_1_5 [false, false, false, false, false, false, false, false, false, false, false, false, false, false, false, false, false, false, false, false, false, false, false, false, false, false, false, false, true, false, false, false, true, false, false, false, true, false, false, false, true, false, false, false, true, false, false, false, true, false, false, false, true, false, false, false, true, false, false, false, true, false, false, false, true, false, false, false, true, false, false, false, true, false, false, false, true, false, false, false, true, false, false, false, true, false, false, false, true, false, false, false, true, false, false, false, true, false, false, false, true, false, false, false, true, false, false, false, true, false, false, false, true, false, false, false, true, false, false, false, true, false, false, false, true, false, false, false, true, false, false, false, true, false, false, false, true, false, false, false, true, false, false, false, true, false, false, false, true, false, false, false, true, false, false, false, true, false, false, false, true, false, false, false, true, false, false, false, true, false, false, false, true, false, false, false, true, false, false, false, true, false, false, false, true, false, false, false, true, false, false, false, true, false, false, false, true, false, false, false, true, false, false, false, true, false, false, false, true, false, false, false, true, false, false, false, true, false, false, false, true, false, false, false, true, false, false, false, true, false, false, false, true, false, false, false, true, false, false, false] = sm_ct5.map (fun M => Cond.code M.1 M.2.1 M.2.2.1 M.2.2.2.1) := rfl
theorem sm_cw5 : ∀ M ∈ sm_ct5, Cond.code M.1 M.2.1 M.2.2.1 M.2.2.2.1 ∈ lw_tbl := fun M h => sm_ci5 (sm_pk_in _ _ _ (by rw [sm_cq5]; exact List.mem_map.mpr ⟨M, h, rfl⟩))
def sm_ct6 : List sm_M := [m_M_gather, m_M_come, m_M_zoneByRatio, m_M_framesOf, m_M_settingOf, m_M_comesOn, m_M_byTurns, m_M_turnOf, m_M_manyOfNode, m_M_movable, m_M_thinks, m_M_forgets, m_M_go, m_M_canGo, m_M_onMany, m_M_beginsToGo, m_M_giveUp, m_M_isGoing, m_M_fails, m_M_staysBack, m_M_wakes, m_M_opens, m_M_tick, m_M_ticks, m_M_shuts, m_M_moves, m_M_looks, m_M_firstBlock, m_M_isPassed, m_M_splits, m_M_copies, m_M_arrives, m_M_isOver, m_M_manyIn, m_M_whyOf, m_M_keeps, m_M_keeperAt, m_M_keepsWhy, m_M_holders, m_M_would, m_M_goesAway, m_M_easiest, m_M_easiestNow, m_M_givenBack, m_M_pressed, m_M_greatestIn, m_M_frame, m_M_block, m_M_span, m_M_task, m_M_ownsMany, m_M_zone, m_M_freeIn, m_M_loose, m_M_place, m_M_hole, m_M_holeOf, m_M_at, m_M_log, m_M_count]
set_option maxRecDepth 100000 in
set_option maxHeartbeats 4000000 in
theorem sm_cq6 : sm_pk tables_1_6 [true, false, false, false, true, false, false, false, true, false, false, false, true, false, false, false, true, false, false, false, true, false, false, false, true, false, false, false, true, false, false, false, true, false, false, false, true, false, false, false, true, false, false, false, true, false, false, false, true, false, false, false, true, false, false, false, true, false, false, false, true, false, false, false, true, false, false, false, true, false, false, false, true, false, false, false, true, false, false, false, true, false, false, false, true, false, false, false, true, false, false, false, true, false, false, false, true, false, false, false, true, false, false, false, true, false, false, false, true, false, false, false, true, false, false, false, true, false, false, false, true, false, false, false, true, false, false, false, true, false, false, false, true, false, false, false, true, false, false, false, true, false, false, false, true, false, false, false, true, false, false, false, true, false, false, false, true, false, false, false, true, false, false, false, true, false, false, false, true, false, false, false, true, false, false, false, true, false, false, false, true, false, false, false, true, false, false, false, true, false, false, false, true, false, false, false, true, false, false, false, true, false, false, false, true, false, false, false, true, false, false, false, true, false, false, false, true, false, false, false, true, false, false, false, true, false, false, false, true, false, false, false, true, false, false, false, true, false, false, false] = sm_ct6.map (fun M => Cond.code M.1 M.2.1 M.2.2.1 M.2.2.2.1) := rfl
theorem sm_cw6 : ∀ M ∈ sm_ct6, Cond.code M.1 M.2.1 M.2.2.1 M.2.2.2.1 ∈ lw_tbl := fun M h => sm_ci6 (sm_pk_in _ _ _ (by rw [sm_cq6]; exact List.mem_map.mpr ⟨M, h, rfl⟩))
def sm_ct7 : List sm_M := [m_M_look, m_M_blocks, m_M_framesIn, m_M_waiters, m_M_goers, m_M_image]
set_option maxRecDepth 100000 in
set_option maxHeartbeats 4000000 in
theorem sm_cq7 : sm_pk tables_1_7 [true, false, false, false, true, false, false, false, true, false, false, false, true, false, false, false, true, false, false, false, true] = sm_ct7.map (fun M => Cond.code M.1 M.2.1 M.2.2.1 M.2.2.2.1) := rfl
theorem sm_cw7 : ∀ M ∈ sm_ct7, Cond.code M.1 M.2.1 M.2.2.1 M.2.2.2.1 ∈ lw_tbl := fun M h => sm_ci7 (sm_pk_in _ _ _ (by rw [sm_cq7]; exact List.mem_map.mpr ⟨M, h, rfl⟩))
end
section
/-! ===== all methods ===== -/
set_option maxRecDepth 100000 in
theorem sm_MS_eq : sm_MS = sm_MS_0 ++ (sm_MS_1 ++ (sm_MS_2 ++ (sm_MS_3 ++ (sm_MS_4 ++ (sm_MS_5 ++ (sm_MS_6 ++ (sm_MS_7 ++ (sm_MS_8 ++ (sm_MS_9 ++ (sm_MS_10 ++ (sm_MS_11 ++ (sm_MS_12 ++ (sm_MS_13 ++ (sm_MS_14 ++ (sm_MS_15))))))))))))))) := rfl
theorem sm_all {P : sm_M → Prop} (h0 : ∀ M ∈ sm_MS_0, P M) (h1 : ∀ M ∈ sm_MS_1, P M) (h2 : ∀ M ∈ sm_MS_2, P M) (h3 : ∀ M ∈ sm_MS_3, P M) (h4 : ∀ M ∈ sm_MS_4, P M) (h5 : ∀ M ∈ sm_MS_5, P M) (h6 : ∀ M ∈ sm_MS_6, P M) (h7 : ∀ M ∈ sm_MS_7, P M) (h8 : ∀ M ∈ sm_MS_8, P M) (h9 : ∀ M ∈ sm_MS_9, P M) (h10 : ∀ M ∈ sm_MS_10, P M) (h11 : ∀ M ∈ sm_MS_11, P M) (h12 : ∀ M ∈ sm_MS_12, P M) (h13 : ∀ M ∈ sm_MS_13, P M) (h14 : ∀ M ∈ sm_MS_14, P M) (h15 : ∀ M ∈ sm_MS_15, P M) : ∀ M ∈ sm_MS, P M := by
  rw [sm_MS_eq]
  intro M h
  simp only [List.mem_append] at h
  rcases h with h | h | h | h | h | h | h | h | h | h | h | h | h | h | h | h
  · exact h0 M h
  · exact h1 M h
  · exact h2 M h
  · exact h3 M h
  · exact h4 M h
  · exact h5 M h
  · exact h6 M h
  · exact h7 M h
  · exact h8 M h
  · exact h9 M h
  · exact h10 M h
  · exact h11 M h
  · exact h12 M h
  · exact h13 M h
  · exact h14 M h
  · exact h15 M h
set_option maxRecDepth 100000 in
theorem sm_MS_eq2 : sm_MS = sm_ct1 ++ (sm_ct2 ++ (sm_ct3 ++ (sm_ct4 ++ (sm_ct5 ++ (sm_ct6 ++ (sm_ct7)))))) := rfl
theorem sm_cd_ok : ∀ M ∈ sm_MS, Cond.code M.1 M.2.1 M.2.2.1 M.2.2.2.1 ∈ lw_tbl := by
  rw [sm_MS_eq2]
  intro M h
  simp only [List.mem_append] at h
  rcases h with h | h | h | h | h | h | h
  · exact sm_cw1 M h
  · exact sm_cw2 M h
  · exact sm_cw3 M h
  · exact sm_cw4 M h
  · exact sm_cw5 M h
  · exact sm_cw6 M h
  · exact sm_cw7 M h
end
section
/-! ===== what a table's rows must say, decided by the kernel, method by method ===== -/
def sm_in3 : List (Nat × Nat × Nat) → Nat → Nat → Nat → Bool
  | [], _, _, _ => false
  | (a, b, c) :: t, x, y, z => (Nat.beq a x && (Nat.beq b y && Nat.beq c z)) || sm_in3 t x y z
theorem sm_in3_mem : ∀ {l : List (Nat × Nat × Nat)} {x y z : Nat}, sm_in3 l x y z = true → (x, y, z) ∈ l
  | [], _, _, _, h => by cases h
  | (a, b, c) :: t, x, y, z, h => by
    rcases Bool.or_eq_true _ _ ▸ h with h | h
    · simp only [Bool.and_eq_true] at h
      obtain ⟨h1, h2, h3⟩ := h
      rw [Nat.eq_of_beq_eq_true h1, Nat.eq_of_beq_eq_true h2, Nat.eq_of_beq_eq_true h3]
      exact List.mem_cons_self
    · exact List.mem_cons_of_mem _ (sm_in3_mem h)
def sm_in1 : List Nat → Nat → Bool
  | [], _ => false
  | a :: t, x => Nat.beq a x || sm_in1 t x
theorem sm_in1_mem : ∀ {l : List Nat} {x : Nat}, sm_in1 l x = true → x ∈ l
  | [], _, h => by cases h
  | a :: t, x, h => by
    rcases Bool.or_eq_true _ _ ▸ h with h | h
    · rw [Nat.eq_of_beq_eq_true h]
      exact List.mem_cons_self
    · exact List.mem_cons_of_mem _ (sm_in1_mem h)
def sm_ln (i : Instr) (n : Nat) : Nat := match i with
  | .iload _ | .istore _ | .aload _ | .astore _ | .bipush _ => 2
  | .sipush _ | .ldc_w _ | .iinc _ _ | .ifCond _ _ | .if_icmp _ _ | .goto _ | .getfield _ | .putfield _ | .getstatic _ | .invokevirtual _ | .invokestatic _ => 3
  | .tableswitch _ _ _ _ => n
  | _ => 1
/-- the callee's room fits -/
def sm_rmB (M : sm_M) (j : Nat) (n : Nat) : Bool := match sm_MS[j]? with
  | some M' => Nat.ble (M'.2.2.2.2.1.1 + 1) M.2.2.2.2.1.1 && (Nat.ble (8 + (M'.2.2.1 + 11) + M'.2.2.2.2.1.2.1) M.2.2.2.2.1.2.1 && Nat.beq M'.2.2.2.2.1.2.2.2 n)
  | none => false
def sm_rok (M : sm_M) (pc : Nat) (R : sm_R) : Bool := decide (decode M.2.1 pc = .ok (R.1, sm_ln R.1 R.2.2.2.1)) && (match R.1 with
  | .iconst k => decide (Int32.ofInt k = R.2.1)
  | .bipush k => decide ((Int8.ofInt k).toInt32 = R.2.1)
  | .sipush k => decide ((Int16.ofInt k).toInt32 = R.2.1)
  | .ldc_w i => decide ((M.2.2.2.2.1.2.2.1, i, R.2.1) ∈ sm_kc)
  | .iinc _ k => decide (Int32.ofInt k = R.2.1)
  | .ifCond _ off => decide ((pc : Int) + off = (R.2.2.1 : Int))
  | .if_icmp _ off => decide ((pc : Int) + off = (R.2.2.1 : Int))
  | .goto off => decide ((pc : Int) + off = (R.2.2.1 : Int))
  | .tableswitch d lo hi offs => decide ((pc : Int) + d = (R.2.2.1 : Int)) && (decide (hi = lo + offs.size - 1) && decide (R.2.2.2.2.map (fun q => (q.1.toInt, (q.2 : Int))) = offs.toList.zipIdx.map (fun q => (lo + (q.2 : Int), (pc : Int) + q.1))))
  | .getfield i => sm_in3 sm_fl M.2.2.2.2.1.2.2.1 i R.2.2.1 && Nat.blt (R.2.2.1 % 100) (sm_cT R.2.2.1).2.2
  | .putfield i => sm_in3 sm_fl M.2.2.2.2.1.2.2.1 i R.2.2.1 && (Nat.blt (R.2.2.1 % 100) (sm_cT R.2.2.1).2.2 && decide ((sm_fT R.2.2.1).2.2.2 = false))
  | .getstatic i => sm_in3 sm_gl M.2.2.2.2.1.2.2.1 i R.2.2.1
  | .invokevirtual i => sm_in3 sm_vl M.2.2.2.2.1.2.2.1 i R.2.2.1 && (sm_in1 sm_vm R.2.2.1 && sm_rmB M R.2.2.1 R.2.2.2.1)
  | .invokestatic i => bif Nat.beq R.2.2.1 9999 then sm_in3 sm_ac M.2.2.2.2.1.2.2.1 i 0 && (Nat.ble 1 M.2.2.2.2.1.1 && Nat.ble 26 M.2.2.2.2.1.2.1) else bif Nat.beq R.2.2.1 9998 then sm_in3 sm_mnl M.2.2.2.2.1.2.2.1 i 0 && (Nat.ble 1 M.2.2.2.2.1.1 && Nat.ble 26 M.2.2.2.2.1.2.1) else bif Nat.beq R.2.2.1 9997 then sm_in3 sm_mxl M.2.2.2.2.1.2.2.1 i 0 && (Nat.ble 1 M.2.2.2.2.1.1 && Nat.ble 26 M.2.2.2.2.1.2.1) else sm_in3 sm_sl M.2.2.2.2.1.2.2.1 i R.2.2.1 && (sm_in1 sm_st R.2.2.1 && sm_rmB M R.2.2.1 R.2.2.2.1)
  | _ => true)
/-- of a method as a whole: its own class by number and by name -/
def sm_mok (M : sm_M) : Bool := decide (M.1.cls = sm_own M.2.2.2.2.1.2.2.1) && (decide (M.1.cls ≠ "java/lang/invoke/MethodHandle") && (decide (M.1.cls ≠ "java/lang/invoke/VarHandle") && (plainName M.1.cls && Nat.ble (M.2.2.2.2.1.2.2.2 % 100) M.2.2.1)))
def sm_vok (j : Nat) : Bool := match sm_MS[j]? with
  | some M => decide (M.1.cls = (sm_cT M.2.2.2.2.1.2.2.2).1) && (Nat.blt (M.2.2.2.2.1.2.2.2 / 100) vwCl.length && decide ((parseMethodDescriptor M.1.desc).map (fun d => d.parameters.length + 1) = some (M.2.2.2.2.1.2.2.2 % 100)))
  | none => false
def sm_sok (j : Nat) : Bool := match sm_MS[j]? with
  | some M => Nat.blt M.2.2.2.2.1.2.2.2 100 && decide ((parseMethodDescriptor M.1.desc).map (fun d => d.parameters.length) = some M.2.2.2.2.1.2.2.2)
  | none => false
set_option maxRecDepth 100000 in
theorem sm_vm_ok : sm_vm.all sm_vok = true := by decide +kernel
set_option maxRecDepth 100000 in
theorem sm_st_ok2 : sm_st.all sm_sok = true := by decide +kernel
def sm_chk (M : sm_M) : Bool := sm_mok M && M.2.2.2.2.2.all (fun r => sm_rok M r.1 r.2)
end
