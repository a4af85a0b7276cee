/-! ===== the code words ===== -/
def sm_MS_0 : List sm_M := [m_I_fill, m_R_copy, m_A_set, m_A_home, m_A_isTask, m_A_isNode, m_A_take, m_A_isKind, m_A_isBlockOrder, m_Y_bring, m_Y_bestPlace, m_R_starts, m_Y_rank, m_R_leastHole, m_R_alone, m_I_numberOfTrailingZeros]
set_option maxRecDepth 100000 in
theorem sm_cd_0 : ∀ M ∈ sm_MS_0, Cond.code M.1 M.2.1 M.2.2.1 M.2.2.2.1 ∈ lw_tbl := sm_places [148, 460, 486, 494, 497, 500, 504, 507, 510, 514, 518, 521, 527, 530, 533, 536] (by decide +kernel)
def sm_MS_1 : List sm_M := [m_B_leastUsedCache, m_B_isLoose, m_Y_noteDrop, m_L_add, m_Y_remove, m_S_shutBits, m_F_letGo, m_B_leastNumber, m_B_begin, m_F_give, m_F_claim, m_A_free, m_B_has, m_A_read, m_A_touch, m_B_size]
set_option maxRecDepth 100000 in
theorem sm_cd_1 : ∀ M ∈ sm_MS_1, Cond.code M.1 M.2.1 M.2.2.1 M.2.2.2.1 ∈ lw_tbl := sm_places [541, 545, 549, 553, 557, 561, 565, 569, 573, 577, 581, 585, 589, 595, 599, 603] (by decide +kernel)
def sm_MS_2 : List sm_M := [m_K_wants, m_Y_doOrWait, m_Y_fulfil, m_K_queue, m_A_write, m_A_pin, m_A_hasPin, m_A_unpin, m_A_come, m_A_isSpan, m_Y_zoneByRatio, m_S_inZone, m_Y_staysInRatio, m_Y_open, m_A_byTurns, m_S_nextByTurns]
set_option maxRecDepth 100000 in
theorem sm_cd_2 : ∀ M ∈ sm_MS_2, Cond.code M.1 M.2.1 M.2.2.1 M.2.2.2.1 ∈ lw_tbl := sm_places [607, 611, 615, 619, 623, 627, 631, 635, 639, 642, 646, 650, 654, 658, 662, 666] (by decide +kernel)
def sm_MS_3 : List sm_M := [m_A_press, m_Y_pack, m_Y_blockAt, m_Y_moveAtOnce, m_F_copyValues, m_A_gather, m_Y_bringNearer, m_Y_nearerPlace, m_A_go, m_S_canGo, m_G_begin, m_A_giveUp, m_S_isGoing, m_G_callOff, m_G_endWay, m_Y_serveLine]
set_option maxRecDepth 100000 in
theorem sm_cd_3 : ∀ M ∈ sm_MS_3, Cond.code M.1 M.2.1 M.2.2.1 M.2.2.2.1 ∈ lw_tbl := sm_places [670, 674, 678, 683, 688, 692, 696, 701, 705, 709, 713, 718, 722, 726, 733, 737] (by decide +kernel)
def sm_MS_4 : List sm_M := [m_G_fail, m_S_endGoing, m_A_tick, m_G_oneTick, m_G_shutNextPart, m_G_hasUnmovable, m_G_moveOn, m_G_blockFrom, m_G_endPass, m_G_turnOff, m_G_whyFails, m_G_lookAt, m_F_hold, m_G_split, m_G_copySome, m_G_arrive]
set_option maxRecDepth 100000 in
theorem sm_cd_4 : ∀ M ∈ sm_MS_4, Cond.code M.1 M.2.1 M.2.2.1 M.2.2.2.1 ∈ lw_tbl := sm_places [741, 745, 749, 753, 757, 761, 765, 769, 773, 777, 781, 785, 792, 797, 802, 808] (by decide +kernel)
def sm_MS_5 : List sm_M := [m_F_settle, m_A_frame, m_F_stateOf, m_A_block, m_K_lineOf, m_A_span, m_I_bitCount, m_A_task, m_B_ownedBy, m_B_pinnedBy, m_A_zone, m_A_isZone, m_Y_freeInZone, m_Y_widestInZone, m_R_widest, m_A_loose]
set_option maxRecDepth 100000 in
theorem sm_cd_5 : ∀ M ∈ sm_MS_5, Cond.code M.1 M.2.1 M.2.2.1 M.2.2.2.1 ∈ lw_tbl := sm_places [812, 816, 820, 824, 828, 832, 835, 842, 846, 850, 854, 857, 862, 867, 870, 878] (by decide +kernel)
def sm_MS_6 : List sm_M := [m_A_place, m_A_hole, m_R_holeRound, m_A_keeps, m_Y_keepers, m_Y_whyKeeps, m_Y_hasPlaceBeside, m_Y_keeper, m_A_holders, m_Y_holdersOf, m_A_pressed, m_H_widestPacked, m_Y_copyFrom, m_F_copyFrom, m_B_copyFrom, m_S_copyFrom]
set_option maxRecDepth 100000 in
theorem sm_cd_6 : ∀ M ∈ sm_MS_6, Cond.code M.1 M.2.1 M.2.2.1 M.2.2.2.1 ∈ lw_tbl := sm_places [883, 888, 891, 895, 899, 903, 907, 911, 916, 920, 924, 928, 932, 936, 941, 946] (by decide +kernel)
def sm_MS_7 : List sm_M := [m_K_copyFrom, m_A_at, m_B_framesAt, m_A_movable, m_A_would, m_H_tryOut, m_H_grownSince, m_A_easiest, m_H_findEasiest, m_A_givenBack, m_A_log, m_L_cell, m_A_count, m_A_image, m_L_copyFrom, m_A_look]
set_option maxRecDepth 100000 in
theorem sm_cd_7 : ∀ M ∈ sm_MS_7, Cond.code M.1 M.2.1 M.2.2.1 M.2.2.2.1 ∈ lw_tbl := sm_places [951, 958, 962, 967, 972, 976, 983, 987, 991, 997, 1002, 1006, 1010, 1014, 1018, 1023] (by decide +kernel)
def sm_MS_8 : List sm_M := [m_B_howMany, m_R_bitsIn, m_K_waitingSet, m_S_goingSet, m_A_movableByNormal, m_M_begins, m_M_spanAt, m_M_frameAt, m_M_set, m_M_isIn, m_M_firstOf, m_M_home, m_M_isTask, m_M_taskAt, m_M_take, m_M_bestPlace]
set_option maxRecDepth 100000 in
theorem sm_cd_8 : ∀ M ∈ sm_MS_8, Cond.code M.1 M.2.1 M.2.2.1 M.2.2.2.1 ∈ lw_tbl := sm_places [1027, 1030, 1035, 1039, 1044, 1054, 1058, 1062, 1092, 1096, 1100, 1104, 1108, 1112, 1116, 1120] (by decide +kernel)
def sm_MS_9 : List sm_M := [m_M_spanOf, m_M_rankOf, m_M_zoneOf, m_M_spanState, m_M_areFree, m_M_isFree, m_M_stateOf, m_M_holeFrom, m_M_leastUsed, m_M_of, m_M_blockAt, m_M_isPinned, m_M_isOnWay, m_M_drops, m_M_frameOf, m_M_writes]
set_option maxRecDepth 100000 in
theorem sm_cd_9 : ∀ M ∈ sm_MS_9, Cond.code M.1 M.2.1 M.2.2.1 M.2.2.2.1 ∈ lw_tbl := sm_places [1124, 1128, 1132, 1136, 1140, 1144, 1148, 1152, 1156, 1160, 1164, 1168, 1172, 1176, 1180, 1184] (by decide +kernel)
def sm_MS_10 : List sm_M := [m_M_more, m_M_counts, m_M_goes, m_M_longOf, m_M_leaves, m_M_isShut, m_M_lay, m_M_freeNumber, m_M_comes, m_M_has, m_M_lays, m_M_free, m_M_isBlock, m_M_read, m_M_canDo, m_M_wants]
set_option maxRecDepth 100000 in
theorem sm_cd_10 : ∀ M ∈ sm_MS_10, Cond.code M.1 M.2.1 M.2.2.1 M.2.2.2.1 ∈ lw_tbl := sm_places [1188, 1192, 1196, 1200, 1204, 1208, 1212, 1216, 1220, 1224, 1228, 1232, 1236, 1240, 1244, 1248] (by decide +kernel)
def sm_MS_11 : List sm_M := [m_M_does, m_M_uses, m_M_valueOf, m_M_write, m_M_pin, m_M_hasPin, m_M_unpin, m_M_press, m_M_isSpan, m_M_presses, m_M_nextToPress, m_M_isLoose, m_M_movesTo, m_M_gather, m_M_come, m_M_zoneByRatio]
set_option maxRecDepth 100000 in
theorem sm_cd_11 : ∀ M ∈ sm_MS_11, Cond.code M.1 M.2.1 M.2.2.1 M.2.2.2.1 ∈ lw_tbl := sm_places [1252, 1256, 1260, 1264, 1268, 1272, 1276, 1280, 1284, 1288, 1292, 1296, 1300, 1304, 1308, 1312] (by decide +kernel)
def sm_MS_12 : List sm_M := [m_M_framesOf, m_M_settingOf, m_M_comesOn, m_M_byTurns, m_M_turnOf, m_M_manyOfNode, m_M_movable, m_M_thinks, m_M_forgets, m_M_go, m_M_canGo, m_M_onMany, m_M_beginsToGo, m_M_giveUp, m_M_isGoing, m_M_fails]
set_option maxRecDepth 100000 in
theorem sm_cd_12 : ∀ M ∈ sm_MS_12, Cond.code M.1 M.2.1 M.2.2.1 M.2.2.2.1 ∈ lw_tbl := sm_places [1316, 1320, 1324, 1328, 1332, 1336, 1340, 1344, 1348, 1352, 1356, 1360, 1364, 1368, 1372, 1376] (by decide +kernel)
def sm_MS_13 : List sm_M := [m_M_staysBack, m_M_wakes, m_M_opens, m_M_tick, m_M_ticks, m_M_shuts, m_M_moves, m_M_looks, m_M_firstBlock, m_M_isPassed, m_M_splits, m_M_copies, m_M_arrives, m_M_isOver, m_M_manyIn, m_M_whyOf]
set_option maxRecDepth 100000 in
theorem sm_cd_13 : ∀ M ∈ sm_MS_13, Cond.code M.1 M.2.1 M.2.2.1 M.2.2.2.1 ∈ lw_tbl := sm_places [1380, 1384, 1388, 1392, 1396, 1400, 1404, 1408, 1412, 1416, 1420, 1424, 1428, 1432, 1436, 1440] (by decide +kernel)
def sm_MS_14 : List sm_M := [m_M_keeps, m_M_keeperAt, m_M_keepsWhy, m_M_holders, m_M_would, m_M_goesAway, m_M_easiest, m_M_easiestNow, m_M_givenBack, m_M_pressed, m_M_greatestIn, m_M_frame, m_M_block, m_M_span, m_M_task, m_M_ownsMany]
set_option maxRecDepth 100000 in
theorem sm_cd_14 : ∀ M ∈ sm_MS_14, Cond.code M.1 M.2.1 M.2.2.1 M.2.2.2.1 ∈ lw_tbl := sm_places [1444, 1448, 1452, 1456, 1460, 1464, 1468, 1472, 1476, 1480, 1484, 1488, 1492, 1496, 1500, 1504] (by decide +kernel)
def sm_MS_15 : List sm_M := [m_M_zone, m_M_freeIn, m_M_loose, m_M_place, m_M_hole, m_M_holeOf, m_M_at, m_M_log, m_M_count, m_M_look, m_M_blocks, m_M_framesIn, m_M_waiters, m_M_goers, m_M_image]
set_option maxRecDepth 100000 in
theorem sm_cd_15 : ∀ M ∈ sm_MS_15, Cond.code M.1 M.2.1 M.2.2.1 M.2.2.2.1 ∈ lw_tbl := sm_places [1508, 1512, 1516, 1520, 1524, 1528, 1532, 1536, 1540, 1544, 1548, 1552, 1556, 1560, 1564] (by decide +kernel)
