/-! ===== the model's world: its object 0, now 1, waiting 2, deeper 3, isDone 4, images 5 ===== -/
abbrev xE := sm_E sm_TB sm_MS
abbrev xC := sm_C sm_TB sm_MS
def xM : List sm_Sh := [.inr (9, [.inl 0, .inr 1, .inr 2, .inr 3, .inr 4, .inl 2, .inl 1, .inr 5]), .inl (0, 2662), .inl (0, 2662), .inl (0, 2662), .inl (1, 96), .inl (0, 2662)]
abbrev j_I_fill : Nat := 0
abbrev j_R_copy : Nat := 1
abbrev j_A_set : Nat := 2
abbrev j_A_home : Nat := 3
abbrev j_A_isTask : Nat := 4
abbrev j_A_isNode : Nat := 5
abbrev j_A_take : Nat := 6
abbrev j_A_isKind : Nat := 7
abbrev j_A_isBlockOrder : Nat := 8
abbrev j_Y_bring : Nat := 9
abbrev j_Y_bestPlace : Nat := 10
abbrev j_R_starts : Nat := 11
abbrev j_Y_rank : Nat := 12
abbrev j_R_leastHole : Nat := 13
abbrev j_R_alone : Nat := 14
abbrev j_I_numberOfTrailingZeros : Nat := 15
abbrev j_B_leastUsedCache : Nat := 16
abbrev j_B_isLoose : Nat := 17
abbrev j_Y_noteDrop : Nat := 18
abbrev j_L_add : Nat := 19
abbrev j_Y_remove : Nat := 20
abbrev j_S_shutBits : Nat := 21
abbrev j_F_letGo : Nat := 22
abbrev j_B_leastNumber : Nat := 23
abbrev j_B_begin : Nat := 24
abbrev j_F_give : Nat := 25
abbrev j_F_claim : Nat := 26
abbrev j_A_free : Nat := 27
abbrev j_B_has : Nat := 28
abbrev j_A_read : Nat := 29
abbrev j_A_touch : Nat := 30
abbrev j_B_size : Nat := 31
abbrev j_K_wants : Nat := 32
abbrev j_Y_doOrWait : Nat := 33
abbrev j_Y_fulfil : Nat := 34
abbrev j_K_queue : Nat := 35
abbrev j_A_write : Nat := 36
abbrev j_A_pin : Nat := 37
abbrev j_A_hasPin : Nat := 38
abbrev j_A_unpin : Nat := 39
abbrev j_A_come : Nat := 40
abbrev j_A_isSpan : Nat := 41
abbrev j_Y_zoneByRatio : Nat := 42
abbrev j_S_inZone : Nat := 43
abbrev j_Y_staysInRatio : Nat := 44
abbrev j_Y_open : Nat := 45
abbrev j_A_byTurns : Nat := 46
abbrev j_S_nextByTurns : Nat := 47
abbrev j_A_press : Nat := 48
abbrev j_Y_pack : Nat := 49
abbrev j_Y_blockAt : Nat := 50
abbrev j_Y_moveAtOnce : Nat := 51
abbrev j_F_copyValues : Nat := 52
abbrev j_A_gather : Nat := 53
abbrev j_Y_bringNearer : Nat := 54
abbrev j_Y_nearerPlace : Nat := 55
abbrev j_A_go : Nat := 56
abbrev j_S_canGo : Nat := 57
abbrev j_G_begin : Nat := 58
abbrev j_A_giveUp : Nat := 59
abbrev j_S_isGoing : Nat := 60
abbrev j_G_callOff : Nat := 61
abbrev j_G_endWay : Nat := 62
abbrev j_Y_serveLine : Nat := 63
abbrev j_G_fail : Nat := 64
abbrev j_S_endGoing : Nat := 65
abbrev j_A_tick : Nat := 66
abbrev j_G_oneTick : Nat := 67
abbrev j_G_shutNextPart : Nat := 68
abbrev j_G_hasUnmovable : Nat := 69
abbrev j_G_moveOn : Nat := 70
abbrev j_G_blockFrom : Nat := 71
abbrev j_G_endPass : Nat := 72
abbrev j_G_turnOff : Nat := 73
abbrev j_G_whyFails : Nat := 74
abbrev j_G_lookAt : Nat := 75
abbrev j_F_hold : Nat := 76
abbrev j_G_split : Nat := 77
abbrev j_G_copySome : Nat := 78
abbrev j_G_arrive : Nat := 79
abbrev j_F_settle : Nat := 80
abbrev j_A_frame : Nat := 81
abbrev j_F_stateOf : Nat := 82
abbrev j_A_block : Nat := 83
abbrev j_K_lineOf : Nat := 84
abbrev j_A_span : Nat := 85
abbrev j_I_bitCount : Nat := 86
abbrev j_A_task : Nat := 87
abbrev j_B_ownedBy : Nat := 88
abbrev j_B_pinnedBy : Nat := 89
abbrev j_A_zone : Nat := 90
abbrev j_A_isZone : Nat := 91
abbrev j_Y_freeInZone : Nat := 92
abbrev j_Y_widestInZone : Nat := 93
abbrev j_R_widest : Nat := 94
abbrev j_A_loose : Nat := 95
abbrev j_A_place : Nat := 96
abbrev j_A_hole : Nat := 97
abbrev j_R_holeRound : Nat := 98
abbrev j_A_keeps : Nat := 99
abbrev j_Y_keepers : Nat := 100
abbrev j_Y_whyKeeps : Nat := 101
abbrev j_Y_hasPlaceBeside : Nat := 102
abbrev j_Y_keeper : Nat := 103
abbrev j_A_holders : Nat := 104
abbrev j_Y_holdersOf : Nat := 105
abbrev j_A_pressed : Nat := 106
abbrev j_H_widestPacked : Nat := 107
abbrev j_Y_copyFrom : Nat := 108
abbrev j_F_copyFrom : Nat := 109
abbrev j_B_copyFrom : Nat := 110
abbrev j_S_copyFrom : Nat := 111
abbrev j_K_copyFrom : Nat := 112
abbrev j_A_at : Nat := 113
abbrev j_B_framesAt : Nat := 114
abbrev j_A_movable : Nat := 115
abbrev j_A_would : Nat := 116
abbrev j_H_tryOut : Nat := 117
abbrev j_H_grownSince : Nat := 118
abbrev j_A_easiest : Nat := 119
abbrev j_H_findEasiest : Nat := 120
abbrev j_A_givenBack : Nat := 121
abbrev j_A_log : Nat := 122
abbrev j_L_cell : Nat := 123
abbrev j_A_count : Nat := 124
abbrev j_A_image : Nat := 125
abbrev j_L_copyFrom : Nat := 126
abbrev j_A_look : Nat := 127
abbrev j_B_howMany : Nat := 128
abbrev j_R_bitsIn : Nat := 129
abbrev j_K_waitingSet : Nat := 130
abbrev j_S_goingSet : Nat := 131
abbrev j_A_movableByNormal : Nat := 132
abbrev j_M_begins : Nat := 133
abbrev j_M_spanAt : Nat := 134
abbrev j_M_frameAt : Nat := 135
abbrev j_M_set : Nat := 136
abbrev j_M_isIn : Nat := 137
abbrev j_M_firstOf : Nat := 138
abbrev j_M_home : Nat := 139
abbrev j_M_isTask : Nat := 140
abbrev j_M_taskAt : Nat := 141
abbrev j_M_take : Nat := 142
abbrev j_M_bestPlace : Nat := 143
abbrev j_M_spanOf : Nat := 144
abbrev j_M_rankOf : Nat := 145
abbrev j_M_zoneOf : Nat := 146
abbrev j_M_spanState : Nat := 147
abbrev j_M_areFree : Nat := 148
abbrev j_M_isFree : Nat := 149
abbrev j_M_stateOf : Nat := 150
abbrev j_M_holeFrom : Nat := 151
abbrev j_M_leastUsed : Nat := 152
abbrev j_M_of : Nat := 153
abbrev j_M_blockAt : Nat := 154
abbrev j_M_isPinned : Nat := 155
abbrev j_M_isOnWay : Nat := 156
abbrev j_M_drops : Nat := 157
abbrev j_M_frameOf : Nat := 158
abbrev j_M_writes : Nat := 159
abbrev j_M_more : Nat := 160
abbrev j_M_counts : Nat := 161
abbrev j_M_goes : Nat := 162
abbrev j_M_longOf : Nat := 163
abbrev j_M_leaves : Nat := 164
abbrev j_M_isShut : Nat := 165
abbrev j_M_lay : Nat := 166
abbrev j_M_freeNumber : Nat := 167
abbrev j_M_comes : Nat := 168
abbrev j_M_has : Nat := 169
abbrev j_M_lays : Nat := 170
abbrev j_M_free : Nat := 171
abbrev j_M_isBlock : Nat := 172
abbrev j_M_read : Nat := 173
abbrev j_M_canDo : Nat := 174
abbrev j_M_wants : Nat := 175
abbrev j_M_does : Nat := 176
abbrev j_M_uses : Nat := 177
abbrev j_M_valueOf : Nat := 178
abbrev j_M_write : Nat := 179
abbrev j_M_pin : Nat := 180
abbrev j_M_hasPin : Nat := 181
abbrev j_M_unpin : Nat := 182
abbrev j_M_press : Nat := 183
abbrev j_M_isSpan : Nat := 184
abbrev j_M_presses : Nat := 185
abbrev j_M_nextToPress : Nat := 186
abbrev j_M_isLoose : Nat := 187
abbrev j_M_movesTo : Nat := 188
abbrev j_M_gather : Nat := 189
abbrev j_M_come : Nat := 190
abbrev j_M_zoneByRatio : Nat := 191
abbrev j_M_framesOf : Nat := 192
abbrev j_M_settingOf : Nat := 193
abbrev j_M_comesOn : Nat := 194
abbrev j_M_byTurns : Nat := 195
abbrev j_M_turnOf : Nat := 196
abbrev j_M_manyOfNode : Nat := 197
abbrev j_M_movable : Nat := 198
abbrev j_M_thinks : Nat := 199
abbrev j_M_forgets : Nat := 200
abbrev j_M_go : Nat := 201
abbrev j_M_canGo : Nat := 202
abbrev j_M_onMany : Nat := 203
abbrev j_M_beginsToGo : Nat := 204
abbrev j_M_giveUp : Nat := 205
abbrev j_M_isGoing : Nat := 206
abbrev j_M_fails : Nat := 207
abbrev j_M_staysBack : Nat := 208
abbrev j_M_wakes : Nat := 209
abbrev j_M_opens : Nat := 210
abbrev j_M_tick : Nat := 211
abbrev j_M_ticks : Nat := 212
abbrev j_M_shuts : Nat := 213
abbrev j_M_moves : Nat := 214
abbrev j_M_looks : Nat := 215
abbrev j_M_firstBlock : Nat := 216
abbrev j_M_isPassed : Nat := 217
abbrev j_M_splits : Nat := 218
abbrev j_M_copies : Nat := 219
abbrev j_M_arrives : Nat := 220
abbrev j_M_isOver : Nat := 221
abbrev j_M_manyIn : Nat := 222
abbrev j_M_whyOf : Nat := 223
abbrev j_M_keeps : Nat := 224
abbrev j_M_keeperAt : Nat := 225
abbrev j_M_keepsWhy : Nat := 226
abbrev j_M_holders : Nat := 227
abbrev j_M_would : Nat := 228
abbrev j_M_goesAway : Nat := 229
abbrev j_M_easiest : Nat := 230
abbrev j_M_easiestNow : Nat := 231
abbrev j_M_givenBack : Nat := 232
abbrev j_M_pressed : Nat := 233
abbrev j_M_greatestIn : Nat := 234
abbrev j_M_frame : Nat := 235
abbrev j_M_block : Nat := 236
abbrev j_M_span : Nat := 237
abbrev j_M_task : Nat := 238
abbrev j_M_ownsMany : Nat := 239
abbrev j_M_zone : Nat := 240
abbrev j_M_freeIn : Nat := 241
abbrev j_M_loose : Nat := 242
abbrev j_M_place : Nat := 243
abbrev j_M_hole : Nat := 244
abbrev j_M_holeOf : Nat := 245
abbrev j_M_at : Nat := 246
abbrev j_M_log : Nat := 247
abbrev j_M_count : Nat := 248
abbrev j_M_look : Nat := 249
abbrev j_M_blocks : Nat := 250
abbrev j_M_framesIn : Nat := 251
abbrev j_M_waiters : Nat := 252
abbrev j_M_goers : Nat := 253
abbrev j_M_image : Nat := 254
set_option maxRecDepth 100000 in
set_option maxHeartbeats 4000000 in
theorem w_M_begins (σ : sm_S) (Q : Option Value → sm_S → Prop) (h : xE xM m_M_begins 2 [.ref 0, .int 0, .null] [] σ Q) : xC xM j_M_begins [.ref 0] σ Q := sm_wp_C (M := m_M_begins) rfl [2, 25] 3 h
set_option maxRecDepth 100000 in
set_option maxHeartbeats 4000000 in
theorem w_M_begins_2 (a1 : Int32) (v2 : Value) (σ : sm_S) (Q : Option Value → sm_S → Prop) (h : ((2 ≤ a1 → Q none σ) ∧ (¬ (2 ≤ a1) → xC xM j_M_spanAt [.ref 0, .int a1] σ (sm_ri False (fun x2 σ1 => (vp_in (x2 + 0) 2662 ∧ ∀ σ3, σ3 = sm_set σ1 1 (upd (σ1 1) ((x2 + 0)).toNatClampNeg 1) → xE xM m_M_begins 25 [.ref 0, .int a1, .int (32 * a1)] [] σ3 Q)))))) : xE xM m_M_begins 2 [.ref 0, .int a1, v2] [] σ Q := sm_wp_E (M := m_M_begins) [2, 25] 17 h
set_option maxRecDepth 100000 in
set_option maxHeartbeats 4000000 in
theorem w_M_begins_25 (a1 a2 : Int32) (σ : sm_S) (Q : Option Value → sm_S → Prop) (h : ((((32 * a1) + 32) ≤ a2 → xE xM m_M_begins 2 [.ref 0, .int (a1 + 1), .int a2] [] σ Q) ∧ (¬ (((32 * a1) + 32) ≤ a2) → xC xM j_M_frameAt [.ref 0, .int a2] σ (sm_ri False (fun x2 σ1 => (vp_in (x2 + 0) 2662 ∧ ∀ σ3, σ3 = sm_set σ1 1 (upd (σ1 1) ((x2 + 0)).toNatClampNeg 1) → xE xM m_M_begins 25 [.ref 0, .int a1, .int (a2 + 1)] [] σ3 Q)))))) : xE xM m_M_begins 25 [.ref 0, .int a1, .int a2] [] σ Q := sm_wp_E (M := m_M_begins) [2, 25] 19 h
set_option maxRecDepth 100000 in
set_option maxHeartbeats 4000000 in
theorem w_M_spanAt (a1 : Int32) (σ : sm_S) (Q : Option Value → sm_S → Prop) (h : Q (some (.int (2358 + (8 * a1)))) σ) : xC xM j_M_spanAt [.ref 0, .int a1] σ Q := sm_wp_C (M := m_M_spanAt) rfl [] 7 h
set_option maxRecDepth 100000 in
set_option maxHeartbeats 4000000 in
theorem w_M_frameAt (a1 : Int32) (σ : sm_S) (Q : Option Value → sm_S → Prop) (h : Q (some (.int (18 + (3 * a1)))) σ) : xC xM j_M_frameAt [.ref 0, .int a1] σ Q := sm_wp_C (M := m_M_frameAt) rfl [] 7 h
set_option maxRecDepth 100000 in
set_option maxHeartbeats 4000000 in
theorem w_M_set (a1 a2 : Int32) (σ : sm_S) (Q : Option Value → sm_S → Prop) (h : (∀ σ1, σ1 = sm_set σ 0 (upd (σ 0) 0 0) → xC xM j_M_isIn [.ref 0, .int a1, .int 0, .int 3] σ1 (sm_ri False (fun x3 σ2 => ((x3 = 0 → (((0 : Int32) = 0 ∨ (0 : Int32) = 1) ∧ Q (some (.int 0)) σ2)) ∧ (¬ (x3 = 0) → ((a1 ≠ 2 → ((a1 ≠ 0 → ((a1 ≠ 1 → ((a1 ≠ 2 → xC xM j_M_isIn [.ref 0, .int a2, .int 1, .int 20] σ2 (sm_ri False (fun x5 σ4 => ((x5 ≠ 0 → xC xM j_M_firstOf [.ref 0, .int a1] σ4 (sm_ri False (fun x7 σ6 => (vp_in a1 2662 ∧ ∀ σ8, σ8 = sm_set σ6 1 (upd (σ6 1) (a1).toNatClampNeg (a2 - x7)) → (((1 : Int32) = 0 ∨ (1 : Int32) = 1) ∧ Q (some (.int 1)) σ8))))) ∧ (¬ (x5 ≠ 0) → (((0 : Int32) = 0 ∨ (0 : Int32) = 1) ∧ Q (some (.int 0)) σ4)))))) ∧ (¬ (a1 ≠ 2) → xC xM j_M_isIn [.ref 0, .int a2, .int 1, .int 400] σ2 (sm_ri False (fun x10 σ9 => ((x10 ≠ 0 → xC xM j_M_firstOf [.ref 0, .int a1] σ9 (sm_ri False (fun x12 σ11 => (vp_in a1 2662 ∧ ∀ σ13, σ13 = sm_set σ11 1 (upd (σ11 1) (a1).toNatClampNeg (a2 - x12)) → (((1 : Int32) = 0 ∨ (1 : Int32) = 1) ∧ Q (some (.int 1)) σ13))))) ∧ (¬ (x10 ≠ 0) → (((0 : Int32) = 0 ∨ (0 : Int32) = 1) ∧ Q (some (.int 0)) σ9)))))))) ∧ (¬ (a1 ≠ 1) → xC xM j_M_isIn [.ref 0, .int a2, .int 1, .int 9] σ2 (sm_ri False (fun x15 σ14 => ((x15 ≠ 0 → xC xM j_M_firstOf [.ref 0, .int a1] σ14 (sm_ri False (fun x17 σ16 => (vp_in a1 2662 ∧ ∀ σ18, σ18 = sm_set σ16 1 (upd (σ16 1) (a1).toNatClampNeg (a2 - x17)) → (((1 : Int32) = 0 ∨ (1 : Int32) = 1) ∧ Q (some (.int 1)) σ18))))) ∧ (¬ (x15 ≠ 0) → (((0 : Int32) = 0 ∨ (0 : Int32) = 1) ∧ Q (some (.int 0)) σ14)))))))) ∧ (¬ (a1 ≠ 0) → xC xM j_M_isIn [.ref 0, .int a2, .int 1, .int 16] σ2 (sm_ri False (fun x20 σ19 => ((x20 ≠ 0 → xC xM j_M_firstOf [.ref 0, .int a1] σ19 (sm_ri False (fun x22 σ21 => (vp_in a1 2662 ∧ ∀ σ23, σ23 = sm_set σ21 1 (upd (σ21 1) (a1).toNatClampNeg (a2 - x22)) → (((1 : Int32) = 0 ∨ (1 : Int32) = 1) ∧ Q (some (.int 1)) σ23))))) ∧ (¬ (x20 ≠ 0) → (((0 : Int32) = 0 ∨ (0 : Int32) = 1) ∧ Q (some (.int 0)) σ19)))))))) ∧ (¬ (a1 ≠ 2) → ((a1 ≠ 0 → ((a1 ≠ 1 → ((a1 ≠ 2 → xC xM j_M_isIn [.ref 0, .int a2, .int 0, .int 20] σ2 (sm_ri False (fun x25 σ24 => ((x25 ≠ 0 → xC xM j_M_firstOf [.ref 0, .int a1] σ24 (sm_ri False (fun x27 σ26 => (vp_in a1 2662 ∧ ∀ σ28, σ28 = sm_set σ26 1 (upd (σ26 1) (a1).toNatClampNeg (a2 - x27)) → (((1 : Int32) = 0 ∨ (1 : Int32) = 1) ∧ Q (some (.int 1)) σ28))))) ∧ (¬ (x25 ≠ 0) → (((0 : Int32) = 0 ∨ (0 : Int32) = 1) ∧ Q (some (.int 0)) σ24)))))) ∧ (¬ (a1 ≠ 2) → xC xM j_M_isIn [.ref 0, .int a2, .int 0, .int 400] σ2 (sm_ri False (fun x30 σ29 => ((x30 ≠ 0 → xC xM j_M_firstOf [.ref 0, .int a1] σ29 (sm_ri False (fun x32 σ31 => (vp_in a1 2662 ∧ ∀ σ33, σ33 = sm_set σ31 1 (upd (σ31 1) (a1).toNatClampNeg (a2 - x32)) → (((1 : Int32) = 0 ∨ (1 : Int32) = 1) ∧ Q (some (.int 1)) σ33))))) ∧ (¬ (x30 ≠ 0) → (((0 : Int32) = 0 ∨ (0 : Int32) = 1) ∧ Q (some (.int 0)) σ29)))))))) ∧ (¬ (a1 ≠ 1) → xC xM j_M_isIn [.ref 0, .int a2, .int 0, .int 9] σ2 (sm_ri False (fun x35 σ34 => ((x35 ≠ 0 → xC xM j_M_firstOf [.ref 0, .int a1] σ34 (sm_ri False (fun x37 σ36 => (vp_in a1 2662 ∧ ∀ σ38, σ38 = sm_set σ36 1 (upd (σ36 1) (a1).toNatClampNeg (a2 - x37)) → (((1 : Int32) = 0 ∨ (1 : Int32) = 1) ∧ Q (some (.int 1)) σ38))))) ∧ (¬ (x35 ≠ 0) → (((0 : Int32) = 0 ∨ (0 : Int32) = 1) ∧ Q (some (.int 0)) σ34)))))))) ∧ (¬ (a1 ≠ 0) → xC xM j_M_isIn [.ref 0, .int a2, .int 0, .int 16] σ2 (sm_ri False (fun x40 σ39 => ((x40 ≠ 0 → xC xM j_M_firstOf [.ref 0, .int a1] σ39 (sm_ri False (fun x42 σ41 => (vp_in a1 2662 ∧ ∀ σ43, σ43 = sm_set σ41 1 (upd (σ41 1) (a1).toNatClampNeg (a2 - x42)) → (((1 : Int32) = 0 ∨ (1 : Int32) = 1) ∧ Q (some (.int 1)) σ43))))) ∧ (¬ (x40 ≠ 0) → (((0 : Int32) = 0 ∨ (0 : Int32) = 1) ∧ Q (some (.int 0)) σ39))))))))))))))) : xC xM j_M_set [.ref 0, .int a1, .int a2] σ Q := sm_wp_C (M := m_M_set) rfl [] 40 h
set_option maxRecDepth 100000 in
set_option maxHeartbeats 4000000 in
theorem w_M_isIn (a1 a2 a3 : Int32) (σ : sm_S) (Q : Option Value → sm_S → Prop) (h : ((a1 < a2 → (((0 : Int32) = 0 ∨ (0 : Int32) = 1) ∧ Q (some (.int 0)) σ)) ∧ (¬ (a1 < a2) → ((a3 < a1 → (((0 : Int32) = 0 ∨ (0 : Int32) = 1) ∧ Q (some (.int 0)) σ)) ∧ (¬ (a3 < a1) → (((1 : Int32) = 0 ∨ (1 : Int32) = 1) ∧ Q (some (.int 1)) σ)))))) : xC xM j_M_isIn [.ref 0, .int a1, .int a2, .int a3] σ Q := sm_wp_C (M := m_M_isIn) rfl [] 10 h
set_option maxRecDepth 100000 in
set_option maxHeartbeats 4000000 in
theorem w_M_firstOf (a1 : Int32) (σ : sm_S) (Q : Option Value → sm_S → Prop) (h : ((a1 ≠ 0 → ((a1 ≠ 1 → ((a1 ≠ 2 → Q (some (.int 2)) σ) ∧ (¬ (a1 ≠ 2) → Q (some (.int 150)) σ))) ∧ (¬ (a1 ≠ 1) → Q (some (.int 3)) σ))) ∧ (¬ (a1 ≠ 0) → Q (some (.int 4)) σ))) : xC xM j_M_firstOf [.ref 0, .int a1] σ Q := sm_wp_C (M := m_M_firstOf) rfl [] 12 h
set_option maxRecDepth 100000 in
set_option maxHeartbeats 4000000 in
theorem w_M_home (a1 a2 : Int32) (σ : sm_S) (Q : Option Value → sm_S → Prop) (h : (∀ σ1, σ1 = sm_set σ 0 (upd (σ 0) 0 0) → xC xM j_M_isTask [.ref 0, .int a1] σ1 (sm_ri False (fun x3 σ2 => ((x3 = 0 → (((0 : Int32) = 0 ∨ (0 : Int32) = 1) ∧ Q (some (.int 0)) σ2)) ∧ (¬ (x3 = 0) → xC xM j_M_isIn [.ref 0, .int a2, .int 0, .int 1] σ2 (sm_ri False (fun x5 σ4 => ((x5 ≠ 0 → xC xM j_M_taskAt [.ref 0, .int a1] σ4 (sm_ri False (fun x7 σ6 => (vp_in (x7 + 0) 2662 ∧ ∀ σ8, σ8 = sm_set σ6 1 (upd (σ6 1) ((x7 + 0)).toNatClampNeg a2) → (((1 : Int32) = 0 ∨ (1 : Int32) = 1) ∧ Q (some (.int 1)) σ8))))) ∧ (¬ (x5 ≠ 0) → (((0 : Int32) = 0 ∨ (0 : Int32) = 1) ∧ Q (some (.int 0)) σ4))))))))))) : xC xM j_M_home [.ref 0, .int a1, .int a2] σ Q := sm_wp_C (M := m_M_home) rfl [] 25 h
set_option maxRecDepth 100000 in
set_option maxHeartbeats 4000000 in
theorem w_M_isTask (a1 : Int32) (σ : sm_S) (Q : Option Value → sm_S → Prop) (h : ((a1 < 0 → (((0 : Int32) = 0 ∨ (0 : Int32) = 1) ∧ Q (some (.int 0)) σ)) ∧ (¬ (a1 < 0) → ((6 ≤ a1 → (((0 : Int32) = 0 ∨ (0 : Int32) = 1) ∧ Q (some (.int 0)) σ)) ∧ (¬ (6 ≤ a1) → (((1 : Int32) = 0 ∨ (1 : Int32) = 1) ∧ Q (some (.int 1)) σ)))))) : xC xM j_M_isTask [.ref 0, .int a1] σ Q := sm_wp_C (M := m_M_isTask) rfl [] 9 h
set_option maxRecDepth 100000 in
set_option maxHeartbeats 4000000 in
theorem w_M_taskAt (a1 : Int32) (σ : sm_S) (Q : Option Value → sm_S → Prop) (h : Q (some (.int (2322 + (6 * a1)))) σ) : xC xM j_M_taskAt [.ref 0, .int a1] σ Q := sm_wp_C (M := m_M_taskAt) rfl [] 7 h
set_option maxRecDepth 100000 in
set_option maxHeartbeats 4000000 in
theorem w_M_take (a1 a2 a3 a4 : Int32) (σ : sm_S) (Q : Option Value → sm_S → Prop) (h : (∀ σ1, σ1 = sm_set σ 0 (upd (σ 0) 0 0) → xC xM j_M_isTask [.ref 0, .int a1] σ1 (sm_ri False (fun x3 σ2 => ((x3 = 0 → Q (some (.int (-2))) σ2) ∧ (¬ (x3 = 0) → xC xM j_M_isIn [.ref 0, .int a2, .int 0, .int 2] σ2 (sm_ri False (fun x5 σ4 => ((x5 = 0 → Q (some (.int (-2))) σ4) ∧ (¬ (x5 = 0) → xC xM j_M_isIn [.ref 0, .int a3, .int 0, .int 4] σ4 (sm_ri False (fun x7 σ6 => ((x7 ≠ 0 → xC xM j_M_bestPlace [.ref 0, .int a1, .int a2, .int a3, .int 0] σ6 (sm_ri False (fun x9 σ8 => xE xM m_M_take 46 [.ref 0, .int a1, .int a2, .int a3, .int a4, .int x9, .null, .null] [] σ8 Q))) ∧ (¬ (x7 ≠ 0) → Q (some (.int (-2))) σ6)))))))))))))) : xC xM j_M_take [.ref 0, .int a1, .int a2, .int a3, .int a4] σ Q := sm_wp_C (M := m_M_take) rfl [46, 135] 27 h
set_option maxRecDepth 100000 in
set_option maxHeartbeats 4000000 in
theorem w_M_take_46 (a1 a2 a3 a4 a5 : Int32) (v6 v7 : Value) (σ : sm_S) (Q : Option Value → sm_S → Prop) (h : ((a5 ≠ (-1) → xC xM j_M_freeNumber [.ref 0] σ (sm_ri False (fun x2 σ1 => ((a5 = (-1) → xC xM j_M_counts [.ref 0, .int 1, .int 1] σ1 (sm_rv False (fun σ3 => Q (some (.int (-1))) σ3))) ∧ (¬ (a5 = (-1)) → ((x2 ≠ (-1) → xC xM j_M_more [.ref 0, .int 6, .int 1] σ1 (sm_rv False (fun σ4 => (vp_in (6 : Int32) 2662 ∧ xC xM j_M_comes [.ref 0, .int x2, .int a5, .int a3, .int a2, .int a1, .int (σ4 1 ((6 : Int32)).toNatClampNeg)] σ4 (sm_rv False (fun σ5 => xE xM m_M_take 135 [.ref 0, .int a1, .int a2, .int a3, .int a4, .int a5, .int x2, .int 0] [] σ5 Q)))))) ∧ (¬ (x2 ≠ (-1)) → xC xM j_M_counts [.ref 0, .int 1, .int 1] σ1 (sm_rv False (fun σ6 => Q (some (.int (-1))) σ6))))))))) ∧ (¬ (a5 ≠ (-1)) → xC xM j_M_leastUsed [.ref 0] σ (sm_ri False (fun x8 σ7 => ((x8 = (-1) → xC xM j_M_freeNumber [.ref 0] σ7 (sm_ri False (fun x10 σ9 => ((a5 = (-1) → xC xM j_M_counts [.ref 0, .int 1, .int 1] σ9 (sm_rv False (fun σ11 => Q (some (.int (-1))) σ11))) ∧ (¬ (a5 = (-1)) → ((x10 ≠ (-1) → xC xM j_M_more [.ref 0, .int 6, .int 1] σ9 (sm_rv False (fun σ12 => (vp_in (6 : Int32) 2662 ∧ xC xM j_M_comes [.ref 0, .int x10, .int a5, .int a3, .int a2, .int a1, .int (σ12 1 ((6 : Int32)).toNatClampNeg)] σ12 (sm_rv False (fun σ13 => xE xM m_M_take 135 [.ref 0, .int a1, .int a2, .int a3, .int a4, .int a5, .int x10, .int 0] [] σ13 Q)))))) ∧ (¬ (x10 ≠ (-1)) → xC xM j_M_counts [.ref 0, .int 1, .int 1] σ9 (sm_rv False (fun σ14 => Q (some (.int (-1))) σ14))))))))) ∧ (¬ (x8 = (-1)) → xC xM j_M_leastUsed [.ref 0] σ7 (sm_ri False (fun x16 σ15 => xC xM j_M_drops [.ref 0, .int x16] σ15 (sm_rv False (fun σ17 => xC xM j_M_bestPlace [.ref 0, .int a1, .int a2, .int a3, .int 0] σ17 (sm_ri False (fun x19 σ18 => xE xM m_M_take 46 [.ref 0, .int a1, .int a2, .int a3, .int a4, .int x19, v6, v7] [] σ18 Q))))))))))))) : xE xM m_M_take 46 [.ref 0, .int a1, .int a2, .int a3, .int a4, .int a5, v6, v7] [] σ Q := sm_wp_E (M := m_M_take) [46, 135] 34 h
set_option maxRecDepth 100000 in
set_option maxHeartbeats 4000000 in
theorem w_M_take_135 (a1 a2 a3 a4 a5 a6 a7 : Int32) (σ : sm_S) (Q : Option Value → sm_S → Prop) (h : ((((1 : Int32) <<< (a3 &&& 31)) ≤ a7 → xC xM j_M_counts [.ref 0, .int 0, .int 1] σ (sm_rv False (fun σ1 => Q (some (.int a6)) σ1))) ∧ (¬ (((1 : Int32) <<< (a3 &&& 31)) ≤ a7) → xC xM j_M_lays [.ref 0, .int (a5 + a7), .int (a4 + a7)] σ (sm_rv False (fun σ2 => xE xM m_M_take 135 [.ref 0, .int a1, .int a2, .int a3, .int a4, .int a5, .int a6, .int (a7 + 1)] [] σ2 Q))))) : xE xM m_M_take 135 [.ref 0, .int a1, .int a2, .int a3, .int a4, .int a5, .int a6, .int a7] [] σ Q := sm_wp_E (M := m_M_take) [46, 135] 16 h
set_option maxRecDepth 100000 in
set_option maxHeartbeats 4000000 in
theorem w_M_bestPlace (a1 a2 a3 a4 : Int32) (σ : sm_S) (Q : Option Value → sm_S → Prop) (h : xE xM m_M_bestPlace 12 [.ref 0, .int a1, .int a2, .int a3, .int a4, .int (-1), .int 0, .int 0, .int 0, .null, .null] [] σ Q) : xC xM j_M_bestPlace [.ref 0, .int a1, .int a2, .int a3, .int a4] σ Q := sm_wp_C (M := m_M_bestPlace) rfl [12] 9 h
set_option maxRecDepth 100000 in
set_option maxHeartbeats 4000000 in
theorem w_M_bestPlace_12 (a1 a2 a3 a4 a5 a6 a7 a8 : Int32) (v9 v10 : Value) (σ : sm_S) (Q : Option Value → sm_S → Prop) (h : ((256 ≤ a8 → Q (some (.int a5)) σ) ∧ (¬ (256 ≤ a8) → xC xM j_M_spanOf [.ref 0, .int a8] σ (sm_ri False (fun x2 σ1 => xC xM j_M_rankOf [.ref 0, .int x2, .int a2, .int a1] σ1 (sm_ri False (fun x4 σ3 => ((x4 = (-1) → xE xM m_M_bestPlace 12 [.ref 0, .int a1, .int a2, .int a3, .int a4, .int a5, .int a6, .int a7, .int (a8 + ((1 : Int32) <<< (a3 &&& 31))), .int x4, v10] [] σ3 Q) ∧ (¬ (x4 = (-1)) → ((a4 = 0 → xC xM j_M_areFree [.ref 0, .int a8, .int a3] σ3 (sm_ri False (fun x6 σ5 => ((x6 ≠ 0 → xC xM j_M_holeFrom [.ref 0, .int a8, .int a3] σ5 (sm_ri False (fun x8 σ7 => ((a5 = (-1) → xE xM m_M_bestPlace 12 [.ref 0, .int a1, .int a2, .int a3, .int a4, .int a8, .int x4, .int x8, .int (a8 + ((1 : Int32) <<< (a3 &&& 31))), .int x4, .int x8] [] σ7 Q) ∧ (¬ (a5 = (-1)) → ((a6 < x4 → xE xM m_M_bestPlace 12 [.ref 0, .int a1, .int a2, .int a3, .int a4, .int a5, .int a6, .int a7, .int (a8 + ((1 : Int32) <<< (a3 &&& 31))), .int x4, .int x8] [] σ7 Q) ∧ (¬ (a6 < x4) → ((x4 ≠ a6 → xE xM m_M_bestPlace 12 [.ref 0, .int a1, .int a2, .int a3, .int a4, .int a8, .int x4, .int x8, .int (a8 + ((1 : Int32) <<< (a3 &&& 31))), .int x4, .int x8] [] σ7 Q) ∧ (¬ (x4 ≠ a6) → ((x8 < a7 → xE xM m_M_bestPlace 12 [.ref 0, .int a1, .int a2, .int a3, .int a4, .int a8, .int x4, .int x8, .int (a8 + ((1 : Int32) <<< (a3 &&& 31))), .int x4, .int x8] [] σ7 Q) ∧ (¬ (x8 < a7) → xE xM m_M_bestPlace 12 [.ref 0, .int a1, .int a2, .int a3, .int a4, .int a5, .int a6, .int a7, .int (a8 + ((1 : Int32) <<< (a3 &&& 31))), .int x4, .int x8] [] σ7 Q))))))))))) ∧ (¬ (x6 ≠ 0) → xE xM m_M_bestPlace 12 [.ref 0, .int a1, .int a2, .int a3, .int a4, .int a5, .int a6, .int a7, .int (a8 + ((1 : Int32) <<< (a3 &&& 31))), .int x4, v10] [] σ5 Q))))) ∧ (¬ (a4 = 0) → xC xM j_M_spanOf [.ref 0, .int a8] σ3 (sm_ri False (fun x10 σ9 => xC xM j_M_spanState [.ref 0, .int x10] σ9 (sm_ri False (fun x12 σ11 => ((x12 ≠ 1 → xE xM m_M_bestPlace 12 [.ref 0, .int a1, .int a2, .int a3, .int a4, .int a5, .int a6, .int a7, .int (a8 + ((1 : Int32) <<< (a3 &&& 31))), .int x4, v10] [] σ11 Q) ∧ (¬ (x12 ≠ 1) → xC xM j_M_areFree [.ref 0, .int a8, .int a3] σ11 (sm_ri False (fun x14 σ13 => ((x14 ≠ 0 → xC xM j_M_holeFrom [.ref 0, .int a8, .int a3] σ13 (sm_ri False (fun x16 σ15 => ((a5 = (-1) → xE xM m_M_bestPlace 12 [.ref 0, .int a1, .int a2, .int a3, .int a4, .int a8, .int x4, .int x16, .int (a8 + ((1 : Int32) <<< (a3 &&& 31))), .int x4, .int x16] [] σ15 Q) ∧ (¬ (a5 = (-1)) → ((a6 < x4 → xE xM m_M_bestPlace 12 [.ref 0, .int a1, .int a2, .int a3, .int a4, .int a5, .int a6, .int a7, .int (a8 + ((1 : Int32) <<< (a3 &&& 31))), .int x4, .int x16] [] σ15 Q) ∧ (¬ (a6 < x4) → ((x4 ≠ a6 → xE xM m_M_bestPlace 12 [.ref 0, .int a1, .int a2, .int a3, .int a4, .int a8, .int x4, .int x16, .int (a8 + ((1 : Int32) <<< (a3 &&& 31))), .int x4, .int x16] [] σ15 Q) ∧ (¬ (x4 ≠ a6) → ((x16 < a7 → xE xM m_M_bestPlace 12 [.ref 0, .int a1, .int a2, .int a3, .int a4, .int a8, .int x4, .int x16, .int (a8 + ((1 : Int32) <<< (a3 &&& 31))), .int x4, .int x16] [] σ15 Q) ∧ (¬ (x16 < a7) → xE xM m_M_bestPlace 12 [.ref 0, .int a1, .int a2, .int a3, .int a4, .int a5, .int a6, .int a7, .int (a8 + ((1 : Int32) <<< (a3 &&& 31))), .int x4, .int x16] [] σ15 Q))))))))))) ∧ (¬ (x14 ≠ 0) → xE xM m_M_bestPlace 12 [.ref 0, .int a1, .int a2, .int a3, .int a4, .int a5, .int a6, .int a7, .int (a8 + ((1 : Int32) <<< (a3 &&& 31))), .int x4, v10] [] σ13 Q))))))))))))))))))))) : xE xM m_M_bestPlace 12 [.ref 0, .int a1, .int a2, .int a3, .int a4, .int a5, .int a6, .int a7, .int a8, v9, v10] [] σ Q := sm_wp_E (M := m_M_bestPlace) [12] 59 h
set_option maxRecDepth 100000 in
set_option maxHeartbeats 4000000 in
theorem w_M_spanOf (a1 : Int32) (σ : sm_S) (Q : Option Value → sm_S → Prop) (h : (¬ (32 : Int32) = 0 ∧ Q (some (.int (a1 / (32 : Int32)))) σ)) : xC xM j_M_spanOf [.ref 0, .int a1] σ Q := sm_wp_C (M := m_M_spanOf) rfl [] 5 h
set_option maxRecDepth 100000 in
set_option maxHeartbeats 4000000 in
theorem w_M_rankOf (a1 a2 a3 : Int32) (σ : sm_S) (Q : Option Value → sm_S → Prop) (h : xC xM j_M_zoneOf [.ref 0, .int a1] σ (sm_ri False (fun x2 σ1 => (¬ (2 : Int32) = 0 ∧ xC xM j_M_taskAt [.ref 0, .int a3] σ1 (sm_ri False (fun x4 σ3 => (vp_in (x4 + 0) 2662 ∧ (((a1 - a1 / (2 : Int32) * (2 : Int32)) ≠ (σ3 1 ((x4 + 0)).toNatClampNeg) → ((x2 = (-1) → Q (some (.int (-1))) σ3) ∧ (¬ (x2 = (-1)) → ((a2 = 0 → ((a2 ≠ 0 → Q (some (.int 1)) σ3) ∧ (¬ (a2 ≠ 0) → ((x2 ≠ 1 → Q (some (.int ((2 : Int32) + 1))) σ3) ∧ (¬ (x2 ≠ 1) → Q (some (.int 1)) σ3))))) ∧ (¬ (a2 = 0) → ((x2 ≠ 1 → ((a2 ≠ 0 → Q (some (.int 1)) σ3) ∧ (¬ (a2 ≠ 0) → ((x2 ≠ 1 → Q (some (.int ((2 : Int32) + 1))) σ3) ∧ (¬ (x2 ≠ 1) → Q (some (.int 1)) σ3))))) ∧ (¬ (x2 ≠ 1) → Q (some (.int (-1))) σ3))))))) ∧ (¬ ((a1 - a1 / (2 : Int32) * (2 : Int32)) ≠ (σ3 1 ((x4 + 0)).toNatClampNeg)) → ((x2 = (-1) → Q (some (.int (-1))) σ3) ∧ (¬ (x2 = (-1)) → ((a2 = 0 → ((a2 ≠ 0 → Q (some (.int 0)) σ3) ∧ (¬ (a2 ≠ 0) → ((x2 ≠ 1 → Q (some (.int ((2 : Int32) + 0))) σ3) ∧ (¬ (x2 ≠ 1) → Q (some (.int 0)) σ3))))) ∧ (¬ (a2 = 0) → ((x2 ≠ 1 → ((a2 ≠ 0 → Q (some (.int 0)) σ3) ∧ (¬ (a2 ≠ 0) → ((x2 ≠ 1 → Q (some (.int ((2 : Int32) + 0))) σ3) ∧ (¬ (x2 ≠ 1) → Q (some (.int 0)) σ3))))) ∧ (¬ (x2 ≠ 1) → Q (some (.int (-1))) σ3))))))))))))))) : xC xM j_M_rankOf [.ref 0, .int a1, .int a2, .int a3] σ Q := sm_wp_C (M := m_M_rankOf) rfl [] 37 h
set_option maxRecDepth 100000 in
set_option maxHeartbeats 4000000 in
theorem w_M_zoneOf (a1 : Int32) (σ : sm_S) (Q : Option Value → sm_S → Prop) (h : xC xM j_M_spanState [.ref 0, .int a1] σ (sm_ri False (fun x2 σ1 => ((x2 ≠ 0 → xC xM j_M_spanAt [.ref 0, .int a1] σ1 (sm_ri False (fun x4 σ3 => (vp_in (x4 + 1) 2662 ∧ Q (some (.int (σ3 1 ((x4 + 1)).toNatClampNeg))) σ3)))) ∧ (¬ (x2 ≠ 0) → Q (some (.int (-1))) σ1))))) : xC xM j_M_zoneOf [.ref 0, .int a1] σ Q := sm_wp_C (M := m_M_zoneOf) rfl [] 14 h
set_option maxRecDepth 100000 in
set_option maxHeartbeats 4000000 in
theorem w_M_spanState (a1 : Int32) (σ : sm_S) (Q : Option Value → sm_S → Prop) (h : xC xM j_M_spanAt [.ref 0, .int a1] σ (sm_ri False (fun x2 σ1 => (vp_in (x2 + 0) 2662 ∧ Q (some (.int (σ1 1 ((x2 + 0)).toNatClampNeg))) σ1)))) : xC xM j_M_spanState [.ref 0, .int a1] σ Q := sm_wp_C (M := m_M_spanState) rfl [] 10 h
set_option maxRecDepth 100000 in
set_option maxHeartbeats 4000000 in
theorem w_M_areFree (a1 a2 : Int32) (σ : sm_S) (Q : Option Value → sm_S → Prop) (h : xE xM m_M_areFree 9 [.ref 0, .int a1, .int a2, .int ((a1 >>> (a2 &&& 31)) <<< (a2 &&& 31)), .int ((a1 >>> (a2 &&& 31)) <<< (a2 &&& 31))] [] σ Q) : xC xM j_M_areFree [.ref 0, .int a1, .int a2] σ Q := sm_wp_C (M := m_M_areFree) rfl [9] 9 h
set_option maxRecDepth 100000 in
set_option maxHeartbeats 4000000 in
theorem w_M_areFree_9 (a1 a2 a3 a4 : Int32) (σ : sm_S) (Q : Option Value → sm_S → Prop) (h : (((a3 + ((1 : Int32) <<< (a2 &&& 31))) ≤ a4 → (((1 : Int32) = 0 ∨ (1 : Int32) = 1) ∧ Q (some (.int 1)) σ)) ∧ (¬ ((a3 + ((1 : Int32) <<< (a2 &&& 31))) ≤ a4) → xC xM j_M_isFree [.ref 0, .int a4] σ (sm_ri False (fun x2 σ1 => ((x2 ≠ 0 → xE xM m_M_areFree 9 [.ref 0, .int a1, .int a2, .int a3, .int (a4 + 1)] [] σ1 Q) ∧ (¬ (x2 ≠ 0) → (((0 : Int32) = 0 ∨ (0 : Int32) = 1) ∧ Q (some (.int 0)) σ1)))))))) : xE xM m_M_areFree 9 [.ref 0, .int a1, .int a2, .int a3, .int a4] [] σ Q := sm_wp_E (M := m_M_areFree) [9] 14 h
set_option maxRecDepth 100000 in
set_option maxHeartbeats 4000000 in
theorem w_M_isFree (a1 : Int32) (σ : sm_S) (Q : Option Value → sm_S → Prop) (h : xC xM j_M_stateOf [.ref 0, .int a1] σ (sm_ri False (fun x2 σ1 => ((x2 ≠ 1 → (((0 : Int32) = 0 ∨ (0 : Int32) = 1) ∧ Q (some (.int 0)) σ1)) ∧ (¬ (x2 ≠ 1) → (((1 : Int32) = 0 ∨ (1 : Int32) = 1) ∧ Q (some (.int 1)) σ1)))))) : xC xM j_M_isFree [.ref 0, .int a1] σ Q := sm_wp_C (M := m_M_isFree) rfl [] 9 h
set_option maxRecDepth 100000 in
set_option maxHeartbeats 4000000 in
theorem w_M_stateOf (a1 : Int32) (σ : sm_S) (Q : Option Value → sm_S → Prop) (h : xC xM j_M_frameAt [.ref 0, .int a1] σ (sm_ri False (fun x2 σ1 => (vp_in (x2 + 0) 2662 ∧ Q (some (.int (σ1 1 ((x2 + 0)).toNatClampNeg))) σ1)))) : xC xM j_M_stateOf [.ref 0, .int a1] σ Q := sm_wp_C (M := m_M_stateOf) rfl [] 10 h
set_option maxRecDepth 100000 in
set_option maxHeartbeats 4000000 in
theorem w_M_holeFrom (a1 a2 : Int32) (σ : sm_S) (Q : Option Value → sm_S → Prop) (h : xE xM m_M_holeFrom 2 [.ref 0, .int a1, .int a2, .int a2] [] σ Q) : xC xM j_M_holeFrom [.ref 0, .int a1, .int a2] σ Q := sm_wp_C (M := m_M_holeFrom) rfl [2] 3 h
set_option maxRecDepth 100000 in
set_option maxHeartbeats 4000000 in
theorem w_M_holeFrom_2 (a1 a2 a3 : Int32) (σ : sm_S) (Q : Option Value → sm_S → Prop) (h : ((5 ≤ a3 → Q (some (.int a3)) σ) ∧ (¬ (5 ≤ a3) → xC xM j_M_areFree [.ref 0, .int a1, .int (a3 + 1)] σ (sm_ri False (fun x2 σ1 => ((x2 = 0 → Q (some (.int a3)) σ1) ∧ (¬ (x2 = 0) → xE xM m_M_holeFrom 2 [.ref 0, .int a1, .int a2, .int (a3 + 1)] [] σ1 Q))))))) : xE xM m_M_holeFrom 2 [.ref 0, .int a1, .int a2, .int a3] [] σ Q := sm_wp_E (M := m_M_holeFrom) [2] 16 h
set_option maxRecDepth 100000 in
set_option maxHeartbeats 4000000 in
theorem w_M_leastUsed (σ : sm_S) (Q : Option Value → sm_S → Prop) (h : xE xM m_M_leastUsed 4 [.ref 0, .int (-1), .int 0] [] σ Q) : xC xM j_M_leastUsed [.ref 0] σ Q := sm_wp_C (M := m_M_leastUsed) rfl [4] 5 h
set_option maxRecDepth 100000 in
set_option maxHeartbeats 4000000 in
theorem w_M_leastUsed_4 (a1 a2 : Int32) (σ : sm_S) (Q : Option Value → sm_S → Prop) (h : ((96 ≤ a2 → Q (some (.int a1)) σ) ∧ (¬ (96 ≤ a2) → xC xM j_M_of [.ref 0, .int a2, .int 0] σ (sm_ri False (fun x2 σ1 => ((x2 ≠ 1 → xE xM m_M_leastUsed 4 [.ref 0, .int a1, .int (a2 + 1)] [] σ1 Q) ∧ (¬ (x2 ≠ 1) → xC xM j_M_of [.ref 0, .int a2, .int 3] σ1 (sm_ri False (fun x4 σ3 => ((x4 ≠ 2 → xE xM m_M_leastUsed 4 [.ref 0, .int a1, .int (a2 + 1)] [] σ3 Q) ∧ (¬ (x4 ≠ 2) → xC xM j_M_isPinned [.ref 0, .int a2] σ3 (sm_ri False (fun x6 σ5 => ((x6 ≠ 0 → xE xM m_M_leastUsed 4 [.ref 0, .int a1, .int (a2 + 1)] [] σ5 Q) ∧ (¬ (x6 ≠ 0) → xC xM j_M_isOnWay [.ref 0, .int a2] σ5 (sm_ri False (fun x8 σ7 => ((x8 ≠ 0 → xE xM m_M_leastUsed 4 [.ref 0, .int a1, .int (a2 + 1)] [] σ7 Q) ∧ (¬ (x8 ≠ 0) → ((a1 = (-1) → xE xM m_M_leastUsed 4 [.ref 0, .int a2, .int (a2 + 1)] [] σ7 Q) ∧ (¬ (a1 = (-1)) → xC xM j_M_of [.ref 0, .int a2, .int 8] σ7 (sm_ri False (fun x10 σ9 => xC xM j_M_of [.ref 0, .int a1, .int 8] σ9 (sm_ri False (fun x12 σ11 => ((x12 ≤ x10 → xE xM m_M_leastUsed 4 [.ref 0, .int a1, .int (a2 + 1)] [] σ11 Q) ∧ (¬ (x12 ≤ x10) → xE xM m_M_leastUsed 4 [.ref 0, .int a2, .int (a2 + 1)] [] σ11 Q))))))))))))))))))))))))))) : xE xM m_M_leastUsed 4 [.ref 0, .int a1, .int a2] [] σ Q := sm_wp_E (M := m_M_leastUsed) [4] 40 h
set_option maxRecDepth 100000 in
set_option maxHeartbeats 4000000 in
theorem w_M_of (a1 a2 : Int32) (σ : sm_S) (Q : Option Value → sm_S → Prop) (h : xC xM j_M_blockAt [.ref 0, .int a1] σ (sm_ri False (fun x2 σ1 => (vp_in (x2 + a2) 2662 ∧ Q (some (.int (σ1 1 ((x2 + a2)).toNatClampNeg))) σ1)))) : xC xM j_M_of [.ref 0, .int a1, .int a2] σ Q := sm_wp_C (M := m_M_of) rfl [] 10 h
set_option maxRecDepth 100000 in
set_option maxHeartbeats 4000000 in
theorem w_M_blockAt (a1 : Int32) (σ : sm_S) (Q : Option Value → sm_S → Prop) (h : Q (some (.int (786 + (16 * a1)))) σ) : xC xM j_M_blockAt [.ref 0, .int a1] σ Q := sm_wp_C (M := m_M_blockAt) rfl [] 7 h
set_option maxRecDepth 100000 in
set_option maxHeartbeats 4000000 in
theorem w_M_isPinned (a1 : Int32) (σ : sm_S) (Q : Option Value → sm_S → Prop) (h : xC xM j_M_of [.ref 0, .int a1, .int 5] σ (sm_ri False (fun x2 σ1 => ((x2 = 0 → (((0 : Int32) = 0 ∨ (0 : Int32) = 1) ∧ Q (some (.int 0)) σ1)) ∧ (¬ (x2 = 0) → (((1 : Int32) = 0 ∨ (1 : Int32) = 1) ∧ Q (some (.int 1)) σ1)))))) : xC xM j_M_isPinned [.ref 0, .int a1] σ Q := sm_wp_C (M := m_M_isPinned) rfl [] 9 h
set_option maxRecDepth 100000 in
set_option maxHeartbeats 4000000 in
theorem w_M_isOnWay (a1 : Int32) (σ : sm_S) (Q : Option Value → sm_S → Prop) (h : xC xM j_M_of [.ref 0, .int a1, .int 6] σ (sm_ri False (fun x2 σ1 => ((x2 ≤ 0 → (((0 : Int32) = 0 ∨ (0 : Int32) = 1) ∧ Q (some (.int 0)) σ1)) ∧ (¬ (x2 ≤ 0) → (((1 : Int32) = 0 ∨ (1 : Int32) = 1) ∧ Q (some (.int 1)) σ1)))))) : xC xM j_M_isOnWay [.ref 0, .int a1] σ Q := sm_wp_C (M := m_M_isOnWay) rfl [] 9 h
set_option maxRecDepth 100000 in
set_option maxHeartbeats 4000000 in
theorem w_M_drops (a1 : Int32) (σ : sm_S) (Q : Option Value → sm_S → Prop) (h : xC xM j_M_frameOf [.ref 0, .int a1] σ (sm_ri False (fun x2 σ1 => xC xM j_M_writes [.ref 0, .int 6, .int a1, .int x2] σ1 (sm_rv False (fun σ3 => xC xM j_M_counts [.ref 0, .int 5, .int 1] σ3 (sm_rv False (fun σ4 => xC xM j_M_goes [.ref 0, .int a1] σ4 (sm_rv False (fun σ5 => Q none σ5))))))))) : xC xM j_M_drops [.ref 0, .int a1] σ Q := sm_wp_C (M := m_M_drops) rfl [] 16 h
set_option maxRecDepth 100000 in
set_option maxHeartbeats 4000000 in
theorem w_M_frameOf (a1 : Int32) (σ : sm_S) (Q : Option Value → sm_S → Prop) (h : xC xM j_M_of [.ref 0, .int a1, .int 1] σ (sm_ri False (fun x2 σ1 => Q (some (.int x2)) σ1))) : xC xM j_M_frameOf [.ref 0, .int a1] σ Q := sm_wp_C (M := m_M_frameOf) rfl [] 6 h
set_option maxRecDepth 100000 in
set_option maxHeartbeats 4000000 in
theorem w_M_writes (a1 a2 a3 : Int32) (σ : sm_S) (Q : Option Value → sm_S → Prop) (h : (vp_in (5 : Int32) 2662 ∧ (¬ (60 : Int32) = 0 ∧ (vp_in (4 : Int32) 2662 ∧ (vp_in (2422 + (4 * ((σ 1 ((5 : Int32)).toNatClampNeg) - (σ 1 ((5 : Int32)).toNatClampNeg) / (60 : Int32) * (60 : Int32)))) 2662 ∧ ∀ σ1, σ1 = sm_set σ 1 (upd (σ 1) ((2422 + (4 * ((σ 1 ((5 : Int32)).toNatClampNeg) - (σ 1 ((5 : Int32)).toNatClampNeg) / (60 : Int32) * (60 : Int32))))).toNatClampNeg (σ 1 ((4 : Int32)).toNatClampNeg)) → (vp_in ((2422 + (4 * ((σ 1 ((5 : Int32)).toNatClampNeg) - (σ 1 ((5 : Int32)).toNatClampNeg) / (60 : Int32) * (60 : Int32)))) + 1) 2662 ∧ ∀ σ2, σ2 = sm_set σ1 1 (upd (σ1 1) (((2422 + (4 * ((σ 1 ((5 : Int32)).toNatClampNeg) - (σ 1 ((5 : Int32)).toNatClampNeg) / (60 : Int32) * (60 : Int32)))) + 1)).toNatClampNeg a1) → (vp_in ((2422 + (4 * ((σ 1 ((5 : Int32)).toNatClampNeg) - (σ 1 ((5 : Int32)).toNatClampNeg) / (60 : Int32) * (60 : Int32)))) + 2) 2662 ∧ ∀ σ3, σ3 = sm_set σ2 1 (upd (σ2 1) (((2422 + (4 * ((σ 1 ((5 : Int32)).toNatClampNeg) - (σ 1 ((5 : Int32)).toNatClampNeg) / (60 : Int32) * (60 : Int32)))) + 2)).toNatClampNeg a2) → (vp_in ((2422 + (4 * ((σ 1 ((5 : Int32)).toNatClampNeg) - (σ 1 ((5 : Int32)).toNatClampNeg) / (60 : Int32) * (60 : Int32)))) + 3) 2662 ∧ ∀ σ4, σ4 = sm_set σ3 1 (upd (σ3 1) (((2422 + (4 * ((σ 1 ((5 : Int32)).toNatClampNeg) - (σ 1 ((5 : Int32)).toNatClampNeg) / (60 : Int32) * (60 : Int32)))) + 3)).toNatClampNeg a3) → xC xM j_M_more [.ref 0, .int 5, .int 1] σ4 (sm_rv False (fun σ5 => Q none σ5)))))))))) : xC xM j_M_writes [.ref 0, .int a1, .int a2, .int a3] σ Q := sm_wp_C (M := m_M_writes) rfl [] 46 h
set_option maxRecDepth 100000 in
set_option maxHeartbeats 4000000 in
theorem w_M_more (a1 a2 : Int32) (σ : sm_S) (Q : Option Value → sm_S → Prop) (h : (vp_in a1 2662 ∧ (vp_in a1 2662 ∧ ∀ σ1, σ1 = sm_set σ 1 (upd (σ 1) (a1).toNatClampNeg ((σ 1 (a1).toNatClampNeg) + a2)) → Q none σ1))) : xC xM j_M_more [.ref 0, .int a1, .int a2] σ Q := sm_wp_C (M := m_M_more) rfl [] 12 h
set_option maxRecDepth 100000 in
set_option maxHeartbeats 4000000 in
theorem w_M_counts (a1 a2 : Int32) (σ : sm_S) (Q : Option Value → sm_S → Prop) (h : xC xM j_M_more [.ref 0, .int (7 + a1), .int a2] σ (sm_rv False (fun σ1 => Q none σ1))) : xC xM j_M_counts [.ref 0, .int a1, .int a2] σ Q := sm_wp_C (M := m_M_counts) rfl [] 8 h
set_option maxRecDepth 100000 in
set_option maxHeartbeats 4000000 in
theorem w_M_goes (a1 : Int32) (σ : sm_S) (Q : Option Value → sm_S → Prop) (h : xE xM m_M_goes 2 [.ref 0, .int a1, .int 0] [] σ Q) : xC xM j_M_goes [.ref 0, .int a1] σ Q := sm_wp_C (M := m_M_goes) rfl [2] 3 h
set_option maxRecDepth 100000 in
set_option maxHeartbeats 4000000 in
theorem w_M_goes_2 (a1 a2 : Int32) (σ : sm_S) (Q : Option Value → sm_S → Prop) (h : xC xM j_M_longOf [.ref 0, .int a1] σ (sm_ri False (fun x2 σ1 => ((x2 ≤ a2 → xC xM j_M_lay [.ref 0, .int a1, .int 0, .int 0] σ1 (sm_rv False (fun σ3 => Q none σ3))) ∧ (¬ (x2 ≤ a2) → xC xM j_M_frameOf [.ref 0, .int a1] σ1 (sm_ri False (fun x5 σ4 => xC xM j_M_leaves [.ref 0, .int (x5 + a2)] σ4 (sm_rv False (fun σ6 => xE xM m_M_goes 2 [.ref 0, .int a1, .int (a2 + 1)] [] σ6 Q))))))))) : xE xM m_M_goes 2 [.ref 0, .int a1, .int a2] [] σ Q := sm_wp_E (M := m_M_goes) [2] 15 h
set_option maxRecDepth 100000 in
set_option maxHeartbeats 4000000 in
theorem w_M_longOf (a1 : Int32) (σ : sm_S) (Q : Option Value → sm_S → Prop) (h : xC xM j_M_of [.ref 0, .int a1, .int 2] σ (sm_ri False (fun x2 σ1 => Q (some (.int ((1 : Int32) <<< (x2 &&& 31)))) σ1))) : xC xM j_M_longOf [.ref 0, .int a1] σ Q := sm_wp_C (M := m_M_longOf) rfl [] 8 h
set_option maxRecDepth 100000 in
set_option maxHeartbeats 4000000 in
theorem w_M_leaves (a1 : Int32) (σ : sm_S) (Q : Option Value → sm_S → Prop) (h : xC xM j_M_frameAt [.ref 0, .int a1] σ (sm_ri False (fun x2 σ1 => xC xM j_M_isShut [.ref 0, .int a1] σ1 (sm_ri False (fun x4 σ3 => ((x4 = 0 → (vp_in (x2 + 0) 2662 ∧ ∀ σ5, σ5 = sm_set σ3 1 (upd (σ3 1) ((x2 + 0)).toNatClampNeg 1) → (vp_in (x2 + 1) 2662 ∧ ∀ σ6, σ6 = sm_set σ5 1 (upd (σ5 1) ((x2 + 1)).toNatClampNeg 0) → (vp_in (x2 + 2) 2662 ∧ ∀ σ7, σ7 = sm_set σ6 1 (upd (σ6 1) ((x2 + 2)).toNatClampNeg 0) → Q none σ7)))) ∧ (¬ (x4 = 0) → (vp_in (x2 + 0) 2662 ∧ ∀ σ8, σ8 = sm_set σ3 1 (upd (σ3 1) ((x2 + 0)).toNatClampNeg 2) → (vp_in (x2 + 1) 2662 ∧ ∀ σ9, σ9 = sm_set σ8 1 (upd (σ8 1) ((x2 + 1)).toNatClampNeg 0) → (vp_in (x2 + 2) 2662 ∧ ∀ σ10, σ10 = sm_set σ9 1 (upd (σ9 1) ((x2 + 2)).toNatClampNeg 0) → Q none σ10)))))))))) : xC xM j_M_leaves [.ref 0, .int a1] σ Q := sm_wp_C (M := m_M_leaves) rfl [] 32 h
set_option maxRecDepth 100000 in
set_option maxHeartbeats 4000000 in
theorem w_M_isShut (a1 : Int32) (σ : sm_S) (Q : Option Value → sm_S → Prop) (h : (¬ (32 : Int32) = 0 ∧ (¬ (8 : Int32) = 0 ∧ xC xM j_M_spanOf [.ref 0, .int a1] σ (sm_ri False (fun x2 σ1 => xC xM j_M_spanAt [.ref 0, .int x2] σ1 (sm_ri False (fun x4 σ3 => (vp_in (x4 + 2) 2662 ∧ (((σ3 1 ((x4 + 2)).toNatClampNeg) ≤ ((a1 - a1 / (32 : Int32) * (32 : Int32)) / (8 : Int32)) → (((0 : Int32) = 0 ∨ (0 : Int32) = 1) ∧ Q (some (.int 0)) σ3)) ∧ (¬ ((σ3 1 ((x4 + 2)).toNatClampNeg) ≤ ((a1 - a1 / (32 : Int32) * (32 : Int32)) / (8 : Int32))) → (((1 : Int32) = 0 ∨ (1 : Int32) = 1) ∧ Q (some (.int 1)) σ3))))))))))) : xC xM j_M_isShut [.ref 0, .int a1] σ Q := sm_wp_C (M := m_M_isShut) rfl [] 20 h
set_option maxRecDepth 100000 in
set_option maxHeartbeats 4000000 in
theorem w_M_lay (a1 a2 a3 : Int32) (σ : sm_S) (Q : Option Value → sm_S → Prop) (h : xC xM j_M_blockAt [.ref 0, .int a1] σ (sm_ri False (fun x2 σ1 => (vp_in (x2 + a2) 2662 ∧ ∀ σ3, σ3 = sm_set σ1 1 (upd (σ1 1) ((x2 + a2)).toNatClampNeg a3) → Q none σ3)))) : xC xM j_M_lay [.ref 0, .int a1, .int a2, .int a3] σ Q := sm_wp_C (M := m_M_lay) rfl [] 11 h
set_option maxRecDepth 100000 in
set_option maxHeartbeats 4000000 in
theorem w_M_freeNumber (σ : sm_S) (Q : Option Value → sm_S → Prop) (h : xE xM m_M_freeNumber 2 [.ref 0, .int 0] [] σ Q) : xC xM j_M_freeNumber [.ref 0] σ Q := sm_wp_C (M := m_M_freeNumber) rfl [2] 3 h
set_option maxRecDepth 100000 in
set_option maxHeartbeats 4000000 in
theorem w_M_freeNumber_2 (a1 : Int32) (σ : sm_S) (Q : Option Value → sm_S → Prop) (h : ((96 ≤ a1 → Q (some (.int (-1))) σ) ∧ (¬ (96 ≤ a1) → xC xM j_M_of [.ref 0, .int a1, .int 0] σ (sm_ri False (fun x2 σ1 => ((x2 ≠ 0 → xE xM m_M_freeNumber 2 [.ref 0, .int (a1 + 1)] [] σ1 Q) ∧ (¬ (x2 ≠ 0) → Q (some (.int a1)) σ1))))))) : xE xM m_M_freeNumber 2 [.ref 0, .int a1] [] σ Q := sm_wp_E (M := m_M_freeNumber) [2] 11 h
set_option maxRecDepth 100000 in
set_option maxHeartbeats 4000000 in
theorem w_M_comes (a1 a2 a3 a4 a5 a6 : Int32) (σ : sm_S) (Q : Option Value → sm_S → Prop) (h : xE xM m_M_comes 3 [.ref 0, .int a1, .int a2, .int a3, .int a4, .int a5, .int a6, .int 0] [] σ Q) : xC xM j_M_comes [.ref 0, .int a1, .int a2, .int a3, .int a4, .int a5, .int a6] σ Q := sm_wp_C (M := m_M_comes) rfl [3, 73] 3 h
set_option maxRecDepth 100000 in
set_option maxHeartbeats 4000000 in
theorem w_M_comes_3 (a1 a2 a3 a4 a5 a6 a7 : Int32) (σ : sm_S) (Q : Option Value → sm_S → Prop) (h : ((16 ≤ a7 → xC xM j_M_lay [.ref 0, .int a1, .int 0, .int 1] σ (sm_rv False (fun σ1 => xC xM j_M_lay [.ref 0, .int a1, .int 1, .int a2] σ1 (sm_rv False (fun σ2 => xC xM j_M_lay [.ref 0, .int a1, .int 2, .int a3] σ2 (sm_rv False (fun σ3 => xC xM j_M_lay [.ref 0, .int a1, .int 3, .int a4] σ3 (sm_rv False (fun σ4 => xC xM j_M_lay [.ref 0, .int a1, .int 4, .int a5] σ4 (sm_rv False (fun σ5 => xC xM j_M_lay [.ref 0, .int a1, .int 8, .int a6] σ5 (sm_rv False (fun σ6 => xE xM m_M_comes 73 [.ref 0, .int a1, .int a2, .int a3, .int a4, .int a5, .int a6, .int 0] [] σ6 Q))))))))))))) ∧ (¬ (16 ≤ a7) → xC xM j_M_lay [.ref 0, .int a1, .int a7, .int 0] σ (sm_rv False (fun σ7 => xE xM m_M_comes 3 [.ref 0, .int a1, .int a2, .int a3, .int a4, .int a5, .int a6, .int (a7 + 1)] [] σ7 Q))))) : xE xM m_M_comes 3 [.ref 0, .int a1, .int a2, .int a3, .int a4, .int a5, .int a6, .int a7] [] σ Q := sm_wp_E (M := m_M_comes) [3, 73] 36 h
set_option maxRecDepth 100000 in
set_option maxHeartbeats 4000000 in
theorem w_M_comes_73 (a1 a2 a3 a4 a5 a6 a7 : Int32) (σ : sm_S) (Q : Option Value → sm_S → Prop) (h : ((((1 : Int32) <<< (a3 &&& 31)) ≤ a7 → Q none σ) ∧ (¬ (((1 : Int32) <<< (a3 &&& 31)) ≤ a7) → xC xM j_M_has [.ref 0, .int (a2 + a7), .int a1, .int 3] σ (sm_rv False (fun σ1 => xE xM m_M_comes 73 [.ref 0, .int a1, .int a2, .int a3, .int a4, .int a5, .int a6, .int (a7 + 1)] [] σ1 Q))))) : xE xM m_M_comes 73 [.ref 0, .int a1, .int a2, .int a3, .int a4, .int a5, .int a6, .int a7] [] σ Q := sm_wp_E (M := m_M_comes) [3, 73] 15 h
set_option maxRecDepth 100000 in
set_option maxHeartbeats 4000000 in
theorem w_M_has (a1 a2 a3 : Int32) (σ : sm_S) (Q : Option Value → sm_S → Prop) (h : xC xM j_M_frameAt [.ref 0, .int a1] σ (sm_ri False (fun x2 σ1 => (vp_in (x2 + 0) 2662 ∧ ∀ σ3, σ3 = sm_set σ1 1 (upd (σ1 1) ((x2 + 0)).toNatClampNeg a3) → xC xM j_M_frameAt [.ref 0, .int a1] σ3 (sm_ri False (fun x5 σ4 => (vp_in (x5 + 1) 2662 ∧ ∀ σ6, σ6 = sm_set σ4 1 (upd (σ4 1) ((x5 + 1)).toNatClampNeg (a2 + 1)) → Q none σ6))))))) : xC xM j_M_has [.ref 0, .int a1, .int a2, .int a3] σ Q := sm_wp_C (M := m_M_has) rfl [] 22 h
set_option maxRecDepth 100000 in
set_option maxHeartbeats 4000000 in
theorem w_M_lays (a1 a2 : Int32) (σ : sm_S) (Q : Option Value → sm_S → Prop) (h : xC xM j_M_frameAt [.ref 0, .int a1] σ (sm_ri False (fun x2 σ1 => (vp_in (x2 + 2) 2662 ∧ ∀ σ3, σ3 = sm_set σ1 1 (upd (σ1 1) ((x2 + 2)).toNatClampNeg a2) → Q none σ3)))) : xC xM j_M_lays [.ref 0, .int a1, .int a2] σ Q := sm_wp_C (M := m_M_lays) rfl [] 11 h
set_option maxRecDepth 100000 in
set_option maxHeartbeats 4000000 in
theorem w_M_free (a1 : Int32) (σ : sm_S) (Q : Option Value → sm_S → Prop) (h : (∀ σ1, σ1 = sm_set σ 0 (upd (σ 0) 0 0) → xC xM j_M_isBlock [.ref 0, .int a1] σ1 (sm_ri False (fun x3 σ2 => ((x3 = 0 → (((0 : Int32) = 0 ∨ (0 : Int32) = 1) ∧ Q (some (.int 0)) σ2)) ∧ (¬ (x3 = 0) → xC xM j_M_isPinned [.ref 0, .int a1] σ2 (sm_ri False (fun x5 σ4 => ((x5 ≠ 0 → (((0 : Int32) = 0 ∨ (0 : Int32) = 1) ∧ Q (some (.int 0)) σ4)) ∧ (¬ (x5 ≠ 0) → xC xM j_M_isOnWay [.ref 0, .int a1] σ4 (sm_ri False (fun x7 σ6 => ((x7 = 0 → xC xM j_M_goes [.ref 0, .int a1] σ6 (sm_rv False (fun σ8 => (((1 : Int32) = 0 ∨ (1 : Int32) = 1) ∧ Q (some (.int 1)) σ8)))) ∧ (¬ (x7 = 0) → (((0 : Int32) = 0 ∨ (0 : Int32) = 1) ∧ Q (some (.int 0)) σ6))))))))))))))) : xC xM j_M_free [.ref 0, .int a1] σ Q := sm_wp_C (M := m_M_free) rfl [] 21 h
set_option maxRecDepth 100000 in
set_option maxHeartbeats 4000000 in
theorem w_M_isBlock (a1 : Int32) (σ : sm_S) (Q : Option Value → sm_S → Prop) (h : ((a1 < 0 → (((0 : Int32) = 0 ∨ (0 : Int32) = 1) ∧ Q (some (.int 0)) σ)) ∧ (¬ (a1 < 0) → ((96 ≤ a1 → (((0 : Int32) = 0 ∨ (0 : Int32) = 1) ∧ Q (some (.int 0)) σ)) ∧ (¬ (96 ≤ a1) → xC xM j_M_blockAt [.ref 0, .int a1] σ (sm_ri False (fun x2 σ1 => (vp_in (x2 + 0) 2662 ∧ (((σ1 1 ((x2 + 0)).toNatClampNeg) ≠ 1 → (((0 : Int32) = 0 ∨ (0 : Int32) = 1) ∧ Q (some (.int 0)) σ1)) ∧ (¬ ((σ1 1 ((x2 + 0)).toNatClampNeg) ≠ 1) → (((1 : Int32) = 0 ∨ (1 : Int32) = 1) ∧ Q (some (.int 1)) σ1))))))))))) : xC xM j_M_isBlock [.ref 0, .int a1] σ Q := sm_wp_C (M := m_M_isBlock) rfl [] 19 h
set_option maxRecDepth 100000 in
set_option maxHeartbeats 4000000 in
theorem w_M_read (a1 a2 a3 : Int32) (σ : sm_S) (Q : Option Value → sm_S → Prop) (h : (∀ σ1, σ1 = sm_set σ 0 (upd (σ 0) 0 0) → xC xM j_M_canDo [.ref 0, .int a1, .int a2] σ1 (sm_ri False (fun x3 σ2 => ((x3 = 0 → Q (some (.int (-1))) σ2) ∧ (¬ (x3 = 0) → xC xM j_M_longOf [.ref 0, .int a2] σ2 (sm_ri False (fun x5 σ4 => xC xM j_M_isIn [.ref 0, .int a3, .int 0, .int (x5 - 1)] σ4 (sm_ri False (fun x7 σ6 => ((x7 = 0 → Q (some (.int (-1))) σ6) ∧ (¬ (x7 = 0) → xC xM j_M_wants [.ref 0, .int a1, .int a2, .int 0, .int a3, .int 0] σ6 (sm_ri False (fun x9 σ8 => Q (some (.int x9)) σ8)))))))))))))) : xC xM j_M_read [.ref 0, .int a1, .int a2, .int a3] σ Q := sm_wp_C (M := m_M_read) rfl [] 28 h
set_option maxRecDepth 100000 in
set_option maxHeartbeats 4000000 in
theorem w_M_canDo (a1 a2 : Int32) (σ : sm_S) (Q : Option Value → sm_S → Prop) (h : xC xM j_M_isTask [.ref 0, .int a1] σ (sm_ri False (fun x2 σ1 => ((x2 = 0 → (((0 : Int32) = 0 ∨ (0 : Int32) = 1) ∧ Q (some (.int 0)) σ1)) ∧ (¬ (x2 = 0) → xC xM j_M_taskAt [.ref 0, .int a1] σ1 (sm_ri False (fun x4 σ3 => (vp_in (x4 + 1) 2662 ∧ (((σ3 1 ((x4 + 1)).toNatClampNeg) ≠ 0 → (((0 : Int32) = 0 ∨ (0 : Int32) = 1) ∧ Q (some (.int 0)) σ3)) ∧ (¬ ((σ3 1 ((x4 + 1)).toNatClampNeg) ≠ 0) → xC xM j_M_isBlock [.ref 0, .int a2] σ3 (sm_ri False (fun x6 σ5 => ((x6 = 0 → (((0 : Int32) = 0 ∨ (0 : Int32) = 1) ∧ Q (some (.int 0)) σ5)) ∧ (¬ (x6 = 0) → (((1 : Int32) = 0 ∨ (1 : Int32) = 1) ∧ Q (some (.int 1)) σ5))))))))))))))) : xC xM j_M_canDo [.ref 0, .int a1, .int a2] σ Q := sm_wp_C (M := m_M_canDo) rfl [] 21 h
set_option maxRecDepth 100000 in
set_option maxHeartbeats 4000000 in
theorem w_M_wants (a1 a2 a3 a4 a5 : Int32) (σ : sm_S) (Q : Option Value → sm_S → Prop) (h : xC xM j_M_isOnWay [.ref 0, .int a2] σ (sm_ri False (fun x2 σ1 => ((x2 ≠ 0 → xC xM j_M_taskAt [.ref 0, .int a1] σ1 (sm_ri False (fun x4 σ3 => (vp_in (x4 + 1) 2662 ∧ ∀ σ5, σ5 = sm_set σ3 1 (upd (σ3 1) ((x4 + 1)).toNatClampNeg (a2 + 1)) → (vp_in (x4 + 2) 2662 ∧ ∀ σ6, σ6 = sm_set σ5 1 (upd (σ5 1) ((x4 + 2)).toNatClampNeg a3) → (vp_in (x4 + 3) 2662 ∧ ∀ σ7, σ7 = sm_set σ6 1 (upd (σ6 1) ((x4 + 3)).toNatClampNeg a4) → (vp_in (x4 + 4) 2662 ∧ ∀ σ8, σ8 = sm_set σ7 1 (upd (σ7 1) ((x4 + 4)).toNatClampNeg a5) → xC xM j_M_of [.ref 0, .int a2, .int 9] σ8 (sm_ri False (fun x10 σ9 => xC xM j_M_lay [.ref 0, .int a2, .int (10 + x10), .int a1] σ9 (sm_rv False (fun σ11 => xC xM j_M_of [.ref 0, .int a2, .int 9] σ11 (sm_ri False (fun x13 σ12 => xC xM j_M_lay [.ref 0, .int a2, .int 9, .int (x13 + 1)] σ12 (sm_rv False (fun σ14 => xC xM j_M_writes [.ref 0, .int 7, .int a1, .int a2] σ14 (sm_rv False (fun σ15 => xC xM j_M_counts [.ref 0, .int 8, .int 1] σ15 (sm_rv False (fun σ16 => Q (some (.int 1)) σ16))))))))))))))))))) ∧ (¬ (x2 ≠ 0) → xC xM j_M_does [.ref 0, .int a1, .int a2, .int a3, .int a4, .int a5] σ1 (sm_rv False (fun σ17 => Q (some (.int 0)) σ17))))))) : xC xM j_M_wants [.ref 0, .int a1, .int a2, .int a3, .int a4, .int a5] σ Q := sm_wp_C (M := m_M_wants) rfl [] 70 h
set_option maxRecDepth 100000 in
set_option maxHeartbeats 4000000 in
theorem w_M_does (a1 a2 a3 a4 a5 : Int32) (σ : sm_S) (Q : Option Value → sm_S → Prop) (h : ((a3 ≠ 2 → xC xM j_M_uses [.ref 0, .int a2] σ (sm_rv False (fun σ1 => ((a3 ≠ 0 → xC xM j_M_frameOf [.ref 0, .int a2] σ1 (sm_ri False (fun x3 σ2 => xC xM j_M_lays [.ref 0, .int (x3 + a4), .int a5] σ2 (sm_rv False (fun σ4 => Q none σ4))))) ∧ (¬ (a3 ≠ 0) → xC xM j_M_taskAt [.ref 0, .int a1] σ1 (sm_ri False (fun x6 σ5 => xC xM j_M_frameOf [.ref 0, .int a2] σ5 (sm_ri False (fun x8 σ7 => xC xM j_M_valueOf [.ref 0, .int (x8 + a4)] σ7 (sm_ri False (fun x10 σ9 => (vp_in (x6 + 5) 2662 ∧ ∀ σ11, σ11 = sm_set σ9 1 (upd (σ9 1) ((x6 + 5)).toNatClampNeg x10) → Q none σ11)))))))))))) ∧ (¬ (a3 ≠ 2) → xC xM j_M_of [.ref 0, .int a2, .int 5] σ (sm_ri False (fun x13 σ12 => xC xM j_M_lay [.ref 0, .int a2, .int 5, .int (x13 ||| ((1 : Int32) <<< (a1 &&& 31)))] σ12 (sm_rv False (fun σ14 => Q none σ14))))))) : xC xM j_M_does [.ref 0, .int a1, .int a2, .int a3, .int a4, .int a5] σ Q := sm_wp_C (M := m_M_does) rfl [] 26 h
set_option maxRecDepth 100000 in
set_option maxHeartbeats 4000000 in
theorem w_M_uses (a1 : Int32) (σ : sm_S) (Q : Option Value → sm_S → Prop) (h : xC xM j_M_more [.ref 0, .int 6, .int 1] σ (sm_rv False (fun σ1 => (vp_in (6 : Int32) 2662 ∧ xC xM j_M_lay [.ref 0, .int a1, .int 8, .int (σ1 1 ((6 : Int32)).toNatClampNeg)] σ1 (sm_rv False (fun σ2 => Q none σ2)))))) : xC xM j_M_uses [.ref 0, .int a1] σ Q := sm_wp_C (M := m_M_uses) rfl [] 14 h
set_option maxRecDepth 100000 in
set_option maxHeartbeats 4000000 in
theorem w_M_valueOf (a1 : Int32) (σ : sm_S) (Q : Option Value → sm_S → Prop) (h : xC xM j_M_frameAt [.ref 0, .int a1] σ (sm_ri False (fun x2 σ1 => (vp_in (x2 + 2) 2662 ∧ Q (some (.int (σ1 1 ((x2 + 2)).toNatClampNeg))) σ1)))) : xC xM j_M_valueOf [.ref 0, .int a1] σ Q := sm_wp_C (M := m_M_valueOf) rfl [] 10 h
set_option maxRecDepth 100000 in
set_option maxHeartbeats 4000000 in
theorem w_M_write (a1 a2 a3 a4 : Int32) (σ : sm_S) (Q : Option Value → sm_S → Prop) (h : (∀ σ1, σ1 = sm_set σ 0 (upd (σ 0) 0 0) → xC xM j_M_canDo [.ref 0, .int a1, .int a2] σ1 (sm_ri False (fun x3 σ2 => ((x3 = 0 → Q (some (.int (-1))) σ2) ∧ (¬ (x3 = 0) → xC xM j_M_longOf [.ref 0, .int a2] σ2 (sm_ri False (fun x5 σ4 => xC xM j_M_isIn [.ref 0, .int a3, .int 0, .int (x5 - 1)] σ4 (sm_ri False (fun x7 σ6 => ((x7 = 0 → Q (some (.int (-1))) σ6) ∧ (¬ (x7 = 0) → xC xM j_M_wants [.ref 0, .int a1, .int a2, .int 1, .int a3, .int a4] σ6 (sm_ri False (fun x9 σ8 => Q (some (.int x9)) σ8)))))))))))))) : xC xM j_M_write [.ref 0, .int a1, .int a2, .int a3, .int a4] σ Q := sm_wp_C (M := m_M_write) rfl [] 28 h
set_option maxRecDepth 100000 in
set_option maxHeartbeats 4000000 in
theorem w_M_pin (a1 a2 : Int32) (σ : sm_S) (Q : Option Value → sm_S → Prop) (h : (∀ σ1, σ1 = sm_set σ 0 (upd (σ 0) 0 0) → xC xM j_M_canDo [.ref 0, .int a1, .int a2] σ1 (sm_ri False (fun x3 σ2 => ((x3 = 0 → Q (some (.int (-1))) σ2) ∧ (¬ (x3 = 0) → xC xM j_M_hasPin [.ref 0, .int a1, .int a2] σ2 (sm_ri False (fun x5 σ4 => ((x5 ≠ 0 → Q (some (.int (-1))) σ4) ∧ (¬ (x5 ≠ 0) → xC xM j_M_wants [.ref 0, .int a1, .int a2, .int 2, .int 0, .int 0] σ4 (sm_ri False (fun x7 σ6 => Q (some (.int x7)) σ6)))))))))))) : xC xM j_M_pin [.ref 0, .int a1, .int a2] σ Q := sm_wp_C (M := m_M_pin) rfl [] 23 h
set_option maxRecDepth 100000 in
set_option maxHeartbeats 4000000 in
theorem w_M_hasPin (a1 a2 : Int32) (σ : sm_S) (Q : Option Value → sm_S → Prop) (h : xC xM j_M_of [.ref 0, .int a2, .int 5] σ (sm_ri False (fun x2 σ1 => ((((x2 >>> (a1 &&& 31)) &&& 1) ≠ 1 → (((0 : Int32) = 0 ∨ (0 : Int32) = 1) ∧ Q (some (.int 0)) σ1)) ∧ (¬ (((x2 >>> (a1 &&& 31)) &&& 1) ≠ 1) → (((1 : Int32) = 0 ∨ (1 : Int32) = 1) ∧ Q (some (.int 1)) σ1)))))) : xC xM j_M_hasPin [.ref 0, .int a1, .int a2] σ Q := sm_wp_C (M := m_M_hasPin) rfl [] 14 h
set_option maxRecDepth 100000 in
set_option maxHeartbeats 4000000 in
theorem w_M_unpin (a1 a2 : Int32) (σ : sm_S) (Q : Option Value → sm_S → Prop) (h : (∀ σ1, σ1 = sm_set σ 0 (upd (σ 0) 0 0) → xC xM j_M_isTask [.ref 0, .int a1] σ1 (sm_ri False (fun x3 σ2 => ((x3 = 0 → (((0 : Int32) = 0 ∨ (0 : Int32) = 1) ∧ Q (some (.int 0)) σ2)) ∧ (¬ (x3 = 0) → xC xM j_M_isBlock [.ref 0, .int a2] σ2 (sm_ri False (fun x5 σ4 => ((x5 = 0 → (((0 : Int32) = 0 ∨ (0 : Int32) = 1) ∧ Q (some (.int 0)) σ4)) ∧ (¬ (x5 = 0) → xC xM j_M_hasPin [.ref 0, .int a1, .int a2] σ4 (sm_ri False (fun x7 σ6 => ((x7 ≠ 0 → xC xM j_M_of [.ref 0, .int a2, .int 5] σ6 (sm_ri False (fun x9 σ8 => xC xM j_M_lay [.ref 0, .int a2, .int 5, .int (x9 &&& (((1 : Int32) <<< (a1 &&& 31)) ^^^ (-1)))] σ8 (sm_rv False (fun σ10 => (((1 : Int32) = 0 ∨ (1 : Int32) = 1) ∧ Q (some (.int 1)) σ10)))))) ∧ (¬ (x7 ≠ 0) → (((0 : Int32) = 0 ∨ (0 : Int32) = 1) ∧ Q (some (.int 0)) σ6))))))))))))))) : xC xM j_M_unpin [.ref 0, .int a1, .int a2] σ Q := sm_wp_C (M := m_M_unpin) rfl [] 33 h
set_option maxRecDepth 100000 in
set_option maxHeartbeats 4000000 in
theorem w_M_press (a1 : Int32) (σ : sm_S) (Q : Option Value → sm_S → Prop) (h : (∀ σ1, σ1 = sm_set σ 0 (upd (σ 0) 0 0) → xC xM j_M_isSpan [.ref 0, .int a1] σ1 (sm_ri False (fun x3 σ2 => ((x3 = 0 → Q (some (.int (-1))) σ2) ∧ (¬ (x3 = 0) → xC xM j_M_spanState [.ref 0, .int a1] σ2 (sm_ri False (fun x5 σ4 => ((x5 ≠ 1 → Q (some (.int (-1))) σ4) ∧ (¬ (x5 ≠ 1) → xC xM j_M_presses [.ref 0, .int a1] σ4 (sm_ri False (fun x7 σ6 => Q (some (.int x7)) σ6)))))))))))) : xC xM j_M_press [.ref 0, .int a1] σ Q := sm_wp_C (M := m_M_press) rfl [] 18 h
set_option maxRecDepth 100000 in
set_option maxHeartbeats 4000000 in
theorem w_M_isSpan (a1 : Int32) (σ : sm_S) (Q : Option Value → sm_S → Prop) (h : ((a1 < 0 → (((0 : Int32) = 0 ∨ (0 : Int32) = 1) ∧ Q (some (.int 0)) σ)) ∧ (¬ (a1 < 0) → ((8 ≤ a1 → (((0 : Int32) = 0 ∨ (0 : Int32) = 1) ∧ Q (some (.int 0)) σ)) ∧ (¬ (8 ≤ a1) → (((1 : Int32) = 0 ∨ (1 : Int32) = 1) ∧ Q (some (.int 1)) σ)))))) : xC xM j_M_isSpan [.ref 0, .int a1] σ Q := sm_wp_C (M := m_M_isSpan) rfl [] 9 h
set_option maxRecDepth 100000 in
set_option maxHeartbeats 4000000 in
theorem w_M_presses (a1 : Int32) (σ : sm_S) (Q : Option Value → sm_S → Prop) (h : xE xM m_M_presses 4 [.ref 0, .int a1, .int 0, .int 0, .null] [] σ Q) : xC xM j_M_presses [.ref 0, .int a1] σ Q := sm_wp_C (M := m_M_presses) rfl [4, 29, 47] 5 h
set_option maxRecDepth 100000 in
set_option maxHeartbeats 4000000 in
theorem w_M_presses_4 (a1 a2 a3 : Int32) (v4 : Value) (σ : sm_S) (Q : Option Value → sm_S → Prop) (h : ((96 ≤ a3 → xC xM j_M_nextToPress [.ref 0, .int a1] σ (sm_ri False (fun x2 σ1 => xE xM m_M_presses 29 [.ref 0, .int a1, .int a2, .int x2, v4] [] σ1 Q))) ∧ (¬ (96 ≤ a3) → (vp_in a3 96 ∧ (((0 : Int32) = 0 ∨ (0 : Int32) = 1) ∧ ∀ σ3, σ3 = sm_set σ 4 (upd (σ 4) (a3).toNatClampNeg 0) → xE xM m_M_presses 4 [.ref 0, .int a1, .int a2, .int (a3 + 1), v4] [] σ3 Q))))) : xE xM m_M_presses 4 [.ref 0, .int a1, .int a2, .int a3, v4] [] σ Q := sm_wp_E (M := m_M_presses) [4, 29, 47] 11 h
set_option maxRecDepth 100000 in
set_option maxHeartbeats 4000000 in
theorem w_M_presses_29 (a1 a2 a3 : Int32) (v4 : Value) (σ : sm_S) (Q : Option Value → sm_S → Prop) (h : ((a3 = (-1) → Q (some (.int a2)) σ) ∧ (¬ (a3 = (-1)) → (vp_in a3 96 ∧ (((1 : Int32) = 0 ∨ (1 : Int32) = 1) ∧ ∀ σ1, σ1 = sm_set σ 4 (upd (σ 4) (a3).toNatClampNeg 1) → xE xM m_M_presses 47 [.ref 0, .int a1, .int a2, .int a3, .int (32 * a1)] [] σ1 Q))))) : xE xM m_M_presses 29 [.ref 0, .int a1, .int a2, .int a3, v4] [] σ Q := sm_wp_E (M := m_M_presses) [4, 29, 47] 13 h
set_option maxRecDepth 100000 in
set_option maxHeartbeats 4000000 in
theorem w_M_presses_47 (a1 a2 a3 a4 : Int32) (σ : sm_S) (Q : Option Value → sm_S → Prop) (h : xC xM j_M_frameOf [.ref 0, .int a3] σ (sm_ri False (fun x2 σ1 => ((x2 ≤ a4 → xC xM j_M_frameOf [.ref 0, .int a3] σ1 (sm_ri False (fun x4 σ3 => ((a4 < x4 → xC xM j_M_movesTo [.ref 0, .int a3, .int a4] σ3 (sm_rv False (fun σ5 => xC xM j_M_nextToPress [.ref 0, .int a1] σ5 (sm_ri False (fun x7 σ6 => xE xM m_M_presses 29 [.ref 0, .int a1, .int (a2 + 1), .int x7, .int a4] [] σ6 Q))))) ∧ (¬ (a4 < x4) → xC xM j_M_nextToPress [.ref 0, .int a1] σ3 (sm_ri False (fun x9 σ8 => xE xM m_M_presses 29 [.ref 0, .int a1, .int a2, .int x9, .int a4] [] σ8 Q))))))) ∧ (¬ (x2 ≤ a4) → xC xM j_M_of [.ref 0, .int a3, .int 2] σ1 (sm_ri False (fun x11 σ10 => xC xM j_M_areFree [.ref 0, .int a4, .int x11] σ10 (sm_ri False (fun x13 σ12 => ((x13 ≠ 0 → xC xM j_M_frameOf [.ref 0, .int a3] σ12 (sm_ri False (fun x15 σ14 => ((a4 < x15 → xC xM j_M_movesTo [.ref 0, .int a3, .int a4] σ14 (sm_rv False (fun σ16 => xC xM j_M_nextToPress [.ref 0, .int a1] σ16 (sm_ri False (fun x18 σ17 => xE xM m_M_presses 29 [.ref 0, .int a1, .int (a2 + 1), .int x18, .int a4] [] σ17 Q))))) ∧ (¬ (a4 < x15) → xC xM j_M_nextToPress [.ref 0, .int a1] σ14 (sm_ri False (fun x20 σ19 => xE xM m_M_presses 29 [.ref 0, .int a1, .int a2, .int x20, .int a4] [] σ19 Q))))))) ∧ (¬ (x13 ≠ 0) → xC xM j_M_longOf [.ref 0, .int a3] σ12 (sm_ri False (fun x22 σ21 => xE xM m_M_presses 47 [.ref 0, .int a1, .int a2, .int a3, .int (a4 + x22)] [] σ21 Q))))))))))))) : xE xM m_M_presses 47 [.ref 0, .int a1, .int a2, .int a3, .int a4] [] σ Q := sm_wp_E (M := m_M_presses) [4, 29, 47] 32 h
set_option maxRecDepth 100000 in
set_option maxHeartbeats 4000000 in
theorem w_M_nextToPress (a1 : Int32) (σ : sm_S) (Q : Option Value → sm_S → Prop) (h : xE xM m_M_nextToPress 4 [.ref 0, .int a1, .int (-1), .int 0] [] σ Q) : xC xM j_M_nextToPress [.ref 0, .int a1] σ Q := sm_wp_C (M := m_M_nextToPress) rfl [4] 5 h
set_option maxRecDepth 100000 in
set_option maxHeartbeats 4000000 in
theorem w_M_nextToPress_4 (a1 a2 a3 : Int32) (σ : sm_S) (Q : Option Value → sm_S → Prop) (h : ((96 ≤ a3 → Q (some (.int a2)) σ) ∧ (¬ (96 ≤ a3) → xC xM j_M_isBlock [.ref 0, .int a3] σ (sm_ri False (fun x2 σ1 => ((x2 = 0 → xE xM m_M_nextToPress 4 [.ref 0, .int a1, .int a2, .int (a3 + 1)] [] σ1 Q) ∧ (¬ (x2 = 0) → (vp_in a3 96 ∧ (((σ1 4 (a3).toNatClampNeg) ≠ 0 → xE xM m_M_nextToPress 4 [.ref 0, .int a1, .int a2, .int (a3 + 1)] [] σ1 Q) ∧ (¬ ((σ1 4 (a3).toNatClampNeg) ≠ 0) → xC xM j_M_frameOf [.ref 0, .int a3] σ1 (sm_ri False (fun x4 σ3 => xC xM j_M_spanOf [.ref 0, .int x4] σ3 (sm_ri False (fun x6 σ5 => ((x6 ≠ a1 → xE xM m_M_nextToPress 4 [.ref 0, .int a1, .int a2, .int (a3 + 1)] [] σ5 Q) ∧ (¬ (x6 ≠ a1) → xC xM j_M_isLoose [.ref 0, .int a3] σ5 (sm_ri False (fun x8 σ7 => ((x8 = 0 → xE xM m_M_nextToPress 4 [.ref 0, .int a1, .int a2, .int (a3 + 1)] [] σ7 Q) ∧ (¬ (x8 = 0) → ((a2 = (-1) → xE xM m_M_nextToPress 4 [.ref 0, .int a1, .int a3, .int (a3 + 1)] [] σ7 Q) ∧ (¬ (a2 = (-1)) → xC xM j_M_frameOf [.ref 0, .int a3] σ7 (sm_ri False (fun x10 σ9 => xC xM j_M_frameOf [.ref 0, .int a2] σ9 (sm_ri False (fun x12 σ11 => ((x10 ≤ x12 → xE xM m_M_nextToPress 4 [.ref 0, .int a1, .int a2, .int (a3 + 1)] [] σ11 Q) ∧ (¬ (x10 ≤ x12) → xE xM m_M_nextToPress 4 [.ref 0, .int a1, .int a3, .int (a3 + 1)] [] σ11 Q)))))))))))))))))))))))))))) : xE xM m_M_nextToPress 4 [.ref 0, .int a1, .int a2, .int a3] [] σ Q := sm_wp_E (M := m_M_nextToPress) [4] 38 h
set_option maxRecDepth 100000 in
set_option maxHeartbeats 4000000 in
theorem w_M_isLoose (a1 : Int32) (σ : sm_S) (Q : Option Value → sm_S → Prop) (h : xC xM j_M_of [.ref 0, .int a1, .int 3] σ (sm_ri False (fun x2 σ1 => ((x2 ≠ 0 → (((0 : Int32) = 0 ∨ (0 : Int32) = 1) ∧ Q (some (.int 0)) σ1)) ∧ (¬ (x2 ≠ 0) → xC xM j_M_isPinned [.ref 0, .int a1] σ1 (sm_ri False (fun x4 σ3 => ((x4 ≠ 0 → (((0 : Int32) = 0 ∨ (0 : Int32) = 1) ∧ Q (some (.int 0)) σ3)) ∧ (¬ (x4 ≠ 0) → xC xM j_M_isOnWay [.ref 0, .int a1] σ3 (sm_ri False (fun x6 σ5 => ((x6 ≠ 0 → (((0 : Int32) = 0 ∨ (0 : Int32) = 1) ∧ Q (some (.int 0)) σ5)) ∧ (¬ (x6 ≠ 0) → (((1 : Int32) = 0 ∨ (1 : Int32) = 1) ∧ Q (some (.int 1)) σ5)))))))))))))) : xC xM j_M_isLoose [.ref 0, .int a1] σ Q := sm_wp_C (M := m_M_isLoose) rfl [] 17 h
set_option maxRecDepth 100000 in
set_option maxHeartbeats 4000000 in
theorem w_M_movesTo (a1 a2 : Int32) (σ : sm_S) (Q : Option Value → sm_S → Prop) (h : xC xM j_M_frameOf [.ref 0, .int a1] σ (sm_ri False (fun x2 σ1 => xE xM m_M_movesTo 9 [.ref 0, .int a1, .int a2, .int x2, .int 0] [] σ1 Q))) : xC xM j_M_movesTo [.ref 0, .int a1, .int a2] σ Q := sm_wp_C (M := m_M_movesTo) rfl [9] 7 h
set_option maxRecDepth 100000 in
set_option maxHeartbeats 4000000 in
theorem w_M_movesTo_9 (a1 a2 a3 a4 : Int32) (σ : sm_S) (Q : Option Value → sm_S → Prop) (h : xC xM j_M_longOf [.ref 0, .int a1] σ (sm_ri False (fun x2 σ1 => ((x2 ≤ a4 → xC xM j_M_lay [.ref 0, .int a1, .int 1, .int a2] σ1 (sm_rv False (fun σ3 => xC xM j_M_counts [.ref 0, .int 10, .int 1] σ3 (sm_rv False (fun σ4 => Q none σ4))))) ∧ (¬ (x2 ≤ a4) → xC xM j_M_has [.ref 0, .int (a2 + a4), .int a1, .int 3] σ1 (sm_rv False (fun σ5 => xC xM j_M_valueOf [.ref 0, .int (a3 + a4)] σ5 (sm_ri False (fun x7 σ6 => xC xM j_M_lays [.ref 0, .int (a2 + a4), .int x7] σ6 (sm_rv False (fun σ8 => xC xM j_M_leaves [.ref 0, .int (a3 + a4)] σ8 (sm_rv False (fun σ9 => xE xM m_M_movesTo 9 [.ref 0, .int a1, .int a2, .int a3, .int (a4 + 1)] [] σ9 Q))))))))))))) : xE xM m_M_movesTo 9 [.ref 0, .int a1, .int a2, .int a3, .int a4] [] σ Q := sm_wp_E (M := m_M_movesTo) [9] 30 h
set_option maxRecDepth 100000 in
set_option maxHeartbeats 4000000 in
theorem w_M_gather (a1 : Int32) (σ : sm_S) (Q : Option Value → sm_S → Prop) (h : (∀ σ1, σ1 = sm_set σ 0 (upd (σ 0) 0 0) → xC xM j_M_isTask [.ref 0, .int a1] σ1 (sm_ri False (fun x3 σ2 => ((x3 ≠ 0 → xE xM m_M_gather 19 [.ref 0, .int a1, .int 0, .int 0, .null] [] σ2 Q) ∧ (¬ (x3 ≠ 0) → Q (some (.int (-1))) σ2)))))) : xC xM j_M_gather [.ref 0, .int a1] σ Q := sm_wp_C (M := m_M_gather) rfl [19] 12 h
set_option maxRecDepth 100000 in
set_option maxHeartbeats 4000000 in
theorem w_M_gather_19 (a1 a2 a3 : Int32) (v4 : Value) (σ : sm_S) (Q : Option Value → sm_S → Prop) (h : ((96 ≤ a3 → Q (some (.int a2)) σ) ∧ (¬ (96 ≤ a3) → xC xM j_M_isBlock [.ref 0, .int a3] σ (sm_ri False (fun x2 σ1 => ((x2 = 0 → xE xM m_M_gather 19 [.ref 0, .int a1, .int a2, .int (a3 + 1), v4] [] σ1 Q) ∧ (¬ (x2 = 0) → xC xM j_M_of [.ref 0, .int a3, .int 4] σ1 (sm_ri False (fun x4 σ3 => ((x4 ≠ a1 → xE xM m_M_gather 19 [.ref 0, .int a1, .int a2, .int (a3 + 1), v4] [] σ3 Q) ∧ (¬ (x4 ≠ a1) → xC xM j_M_isLoose [.ref 0, .int a3] σ3 (sm_ri False (fun x6 σ5 => ((x6 = 0 → xE xM m_M_gather 19 [.ref 0, .int a1, .int a2, .int (a3 + 1), v4] [] σ5 Q) ∧ (¬ (x6 = 0) → xC xM j_M_frameOf [.ref 0, .int a3] σ5 (sm_ri False (fun x8 σ7 => xC xM j_M_spanOf [.ref 0, .int x8] σ7 (sm_ri False (fun x10 σ9 => xC xM j_M_spanState [.ref 0, .int x10] σ9 (sm_ri False (fun x12 σ11 => ((x12 = 1 → xC xM j_M_of [.ref 0, .int a3, .int 2] σ11 (sm_ri False (fun x14 σ13 => xC xM j_M_bestPlace [.ref 0, .int a1, .int 0, .int x14, .int 1] σ13 (sm_ri False (fun x16 σ15 => ((x16 = (-1) → xE xM m_M_gather 19 [.ref 0, .int a1, .int a2, .int (a3 + 1), .int x16] [] σ15 Q) ∧ (¬ (x16 = (-1)) → xC xM j_M_spanOf [.ref 0, .int x16] σ15 (sm_ri False (fun x18 σ17 => xC xM j_M_rankOf [.ref 0, .int x18, .int 0, .int a1] σ17 (sm_ri False (fun x20 σ19 => xC xM j_M_frameOf [.ref 0, .int a3] σ19 (sm_ri False (fun x22 σ21 => xC xM j_M_spanOf [.ref 0, .int x22] σ21 (sm_ri False (fun x24 σ23 => xC xM j_M_rankOf [.ref 0, .int x24, .int 0, .int a1] σ23 (sm_ri False (fun x26 σ25 => ((x20 < x26 → xC xM j_M_movesTo [.ref 0, .int a3, .int x16] σ25 (sm_rv False (fun σ27 => xE xM m_M_gather 19 [.ref 0, .int a1, .int (a2 + 1), .int (a3 + 1), .int x16] [] σ27 Q))) ∧ (¬ (x20 < x26) → xE xM m_M_gather 19 [.ref 0, .int a1, .int a2, .int (a3 + 1), .int x16] [] σ25 Q))))))))))))))))))) ∧ (¬ (x12 = 1) → xE xM m_M_gather 19 [.ref 0, .int a1, .int a2, .int (a3 + 1), v4] [] σ11 Q))))))))))))))))))))))) : xE xM m_M_gather 19 [.ref 0, .int a1, .int a2, .int a3, v4] [] σ Q := sm_wp_E (M := m_M_gather) [19] 67 h
set_option maxRecDepth 100000 in
set_option maxHeartbeats 4000000 in
theorem w_M_come (a1 a2 : Int32) (σ : sm_S) (Q : Option Value → sm_S → Prop) (h : (∀ σ1, σ1 = sm_set σ 0 (upd (σ 0) 0 0) → xC xM j_M_isSpan [.ref 0, .int a1] σ1 (sm_ri False (fun x3 σ2 => ((x3 = 0 → Q (some (.int (-1))) σ2) ∧ (¬ (x3 = 0) → xC xM j_M_spanState [.ref 0, .int a1] σ2 (sm_ri False (fun x5 σ4 => ((x5 ≠ 0 → Q (some (.int (-1))) σ4) ∧ (¬ (x5 ≠ 0) → xC xM j_M_isIn [.ref 0, .int a2, .int 0, .int 2] σ4 (sm_ri False (fun x7 σ6 => ((x7 ≠ 0 → ((a2 ≠ 2 → xC xM j_M_comesOn [.ref 0, .int a1, .int a2] σ6 (sm_ri False (fun x9 σ8 => Q (some (.int x9)) σ8))) ∧ (¬ (a2 ≠ 2) → xC xM j_M_zoneByRatio [.ref 0] σ6 (sm_ri False (fun x11 σ10 => xC xM j_M_comesOn [.ref 0, .int a1, .int x11] σ10 (sm_ri False (fun x13 σ12 => Q (some (.int x13)) σ12))))))) ∧ (¬ (x7 ≠ 0) → Q (some (.int (-1))) σ6)))))))))))))) : xC xM j_M_come [.ref 0, .int a1, .int a2] σ Q := sm_wp_C (M := m_M_come) rfl [] 28 h
set_option maxRecDepth 100000 in
set_option maxHeartbeats 4000000 in
theorem w_M_zoneByRatio (σ : sm_S) (Q : Option Value → sm_S → Prop) (h : xC xM j_M_framesOf [.ref 0, .int 1] σ (sm_ri False (fun x2 σ1 => xC xM j_M_settingOf [.ref 0, .int 2] σ1 (sm_ri False (fun x4 σ3 => xC xM j_M_framesOf [.ref 0, .int 0] σ3 (sm_ri False (fun x6 σ5 => (((x4 * x6) < (100 * (x2 + 32)) → Q (some (.int 0)) σ5) ∧ (¬ ((x4 * x6) < (100 * (x2 + 32))) → Q (some (.int 1)) σ5))))))))) : xC xM j_M_zoneByRatio [.ref 0] σ Q := sm_wp_C (M := m_M_zoneByRatio) rfl [] 19 h
set_option maxRecDepth 100000 in
set_option maxHeartbeats 4000000 in
theorem w_M_framesOf (a1 : Int32) (σ : sm_S) (Q : Option Value → sm_S → Prop) (h : xE xM m_M_framesOf 4 [.ref 0, .int a1, .int 0, .int 0] [] σ Q) : xC xM j_M_framesOf [.ref 0, .int a1] σ Q := sm_wp_C (M := m_M_framesOf) rfl [4] 5 h
set_option maxRecDepth 100000 in
set_option maxHeartbeats 4000000 in
theorem w_M_framesOf_4 (a1 a2 a3 : Int32) (σ : sm_S) (Q : Option Value → sm_S → Prop) (h : ((8 ≤ a3 → Q (some (.int a2)) σ) ∧ (¬ (8 ≤ a3) → xC xM j_M_zoneOf [.ref 0, .int a3] σ (sm_ri False (fun x2 σ1 => ((x2 ≠ a1 → xE xM m_M_framesOf 4 [.ref 0, .int a1, .int a2, .int (a3 + 1)] [] σ1 Q) ∧ (¬ (x2 ≠ a1) → xE xM m_M_framesOf 4 [.ref 0, .int a1, .int (a2 + 32), .int (a3 + 1)] [] σ1 Q))))))) : xE xM m_M_framesOf 4 [.ref 0, .int a1, .int a2, .int a3] [] σ Q := sm_wp_E (M := m_M_framesOf) [4] 15 h
set_option maxRecDepth 100000 in
set_option maxHeartbeats 4000000 in
theorem w_M_settingOf (a1 : Int32) (σ : sm_S) (Q : Option Value → sm_S → Prop) (h : (vp_in a1 2662 ∧ xC xM j_M_firstOf [.ref 0, .int a1] σ (sm_ri False (fun x2 σ1 => Q (some (.int ((σ 1 (a1).toNatClampNeg) + x2))) σ1)))) : xC xM j_M_settingOf [.ref 0, .int a1] σ Q := sm_wp_C (M := m_M_settingOf) rfl [] 10 h
set_option maxRecDepth 100000 in
set_option maxHeartbeats 4000000 in
theorem w_M_comesOn (a1 a2 : Int32) (σ : sm_S) (Q : Option Value → sm_S → Prop) (h : xC xM j_M_spanAt [.ref 0, .int a1] σ (sm_ri False (fun x2 σ1 => (vp_in (x2 + 0) 2662 ∧ ∀ σ3, σ3 = sm_set σ1 1 (upd (σ1 1) ((x2 + 0)).toNatClampNeg 1) → xC xM j_M_spanAt [.ref 0, .int a1] σ3 (sm_ri False (fun x5 σ4 => (vp_in (x5 + 1) 2662 ∧ ∀ σ6, σ6 = sm_set σ4 1 (upd (σ4 1) ((x5 + 1)).toNatClampNeg a2) → xE xM m_M_comesOn 31 [.ref 0, .int a1, .int a2, .int (32 * a1)] [] σ6 Q))))))) : xC xM j_M_comesOn [.ref 0, .int a1, .int a2] σ Q := sm_wp_C (M := m_M_comesOn) rfl [31] 23 h
set_option maxRecDepth 100000 in
set_option maxHeartbeats 4000000 in
theorem w_M_comesOn_31 (a1 a2 a3 : Int32) (σ : sm_S) (Q : Option Value → sm_S → Prop) (h : ((((32 * a1) + 32) ≤ a3 → xC xM j_M_writes [.ref 0, .int 3, .int a1, .int a2] σ (sm_rv False (fun σ1 => Q (some (.int a2)) σ1))) ∧ (¬ (((32 * a1) + 32) ≤ a3) → xC xM j_M_frameAt [.ref 0, .int a3] σ (sm_ri False (fun x3 σ2 => (vp_in (x3 + 0) 2662 ∧ ∀ σ4, σ4 = sm_set σ2 1 (upd (σ2 1) ((x3 + 0)).toNatClampNeg 1) → xE xM m_M_comesOn 31 [.ref 0, .int a1, .int a2, .int (a3 + 1)] [] σ4 Q)))))) : xE xM m_M_comesOn 31 [.ref 0, .int a1, .int a2, .int a3] [] σ Q := sm_wp_E (M := m_M_comesOn) [31] 19 h
set_option maxRecDepth 100000 in
set_option maxHeartbeats 4000000 in
theorem w_M_byTurns (a1 : Int32) (σ : sm_S) (Q : Option Value → sm_S → Prop) (h : (∀ σ1, σ1 = sm_set σ 0 (upd (σ 0) 0 0) → xC xM j_M_isIn [.ref 0, .int a1, .int 1, .int 8] σ1 (sm_ri False (fun x3 σ2 => ((x3 ≠ 0 → xE xM m_M_byTurns 20 [.ref 0, .int a1, .int 0] [] σ2 Q) ∧ (¬ (x3 ≠ 0) → Q (some (.int (-1))) σ2)))))) : xC xM j_M_byTurns [.ref 0, .int a1] σ Q := sm_wp_C (M := m_M_byTurns) rfl [20] 12 h
set_option maxRecDepth 100000 in
set_option maxHeartbeats 4000000 in
theorem w_M_byTurns_20 (a1 a2 : Int32) (σ : sm_S) (Q : Option Value → sm_S → Prop) (h : ((a1 ≤ a2 → Q (some (.int a2)) σ) ∧ (¬ (a1 ≤ a2) → xC xM j_M_turnOf [.ref 0] σ (sm_ri False (fun x2 σ1 => ((x2 = (-1) → Q (some (.int a2)) σ1) ∧ (¬ (x2 = (-1)) → xC xM j_M_turnOf [.ref 0] σ1 (sm_ri False (fun x4 σ3 => xC xM j_M_zoneByRatio [.ref 0] σ3 (sm_ri False (fun x6 σ5 => xC xM j_M_comesOn [.ref 0, .int x4, .int x6] σ5 (sm_ri False (fun x8 σ7 => xE xM m_M_byTurns 20 [.ref 0, .int a1, .int (a2 + 1)] [] σ7 Q))))))))))))) : xE xM m_M_byTurns 20 [.ref 0, .int a1, .int a2] [] σ Q := sm_wp_E (M := m_M_byTurns) [20] 20 h
set_option maxRecDepth 100000 in
set_option maxHeartbeats 4000000 in
theorem w_M_turnOf (σ : sm_S) (Q : Option Value → sm_S → Prop) (h : xC xM j_M_manyOfNode [.ref 0, .int 0, .int 1] σ (sm_ri False (fun x2 σ1 => ((x2 ≤ 0 → xE xM m_M_turnOf 41 [.ref 0, .int 1, .int 1] [] σ1 Q) ∧ (¬ (x2 ≤ 0) → xC xM j_M_manyOfNode [.ref 0, .int 1, .int 1] σ1 (sm_ri False (fun x4 σ3 => ((x4 = 0 → xE xM m_M_turnOf 41 [.ref 0, .int 0, .int 0] [] σ3 Q) ∧ (¬ (x4 = 0) → xC xM j_M_manyOfNode [.ref 0, .int 0, .int 0] σ3 (sm_ri False (fun x6 σ5 => xC xM j_M_manyOfNode [.ref 0, .int 1, .int 0] σ5 (sm_ri False (fun x8 σ7 => ((x8 < x6 → xE xM m_M_turnOf 41 [.ref 0, .int 1, .int 1] [] σ7 Q) ∧ (¬ (x8 < x6) → xE xM m_M_turnOf 41 [.ref 0, .int 0, .int 0] [] σ7 Q))))))))))))))) : xC xM j_M_turnOf [.ref 0] σ Q := sm_wp_C (M := m_M_turnOf) rfl [41] 25 h
set_option maxRecDepth 100000 in
set_option maxHeartbeats 4000000 in
theorem w_M_turnOf_41 (a1 a2 : Int32) (σ : sm_S) (Q : Option Value → sm_S → Prop) (h : ((8 ≤ a2 → Q (some (.int (-1))) σ) ∧ (¬ (8 ≤ a2) → xC xM j_M_spanState [.ref 0, .int a2] σ (sm_ri False (fun x2 σ1 => ((x2 ≠ 0 → xE xM m_M_turnOf 41 [.ref 0, .int a1, .int (a2 + 2)] [] σ1 Q) ∧ (¬ (x2 ≠ 0) → Q (some (.int a2)) σ1))))))) : xE xM m_M_turnOf 41 [.ref 0, .int a1, .int a2] [] σ Q := sm_wp_E (M := m_M_turnOf) [41] 13 h
set_option maxRecDepth 100000 in
set_option maxHeartbeats 4000000 in
theorem w_M_manyOfNode (a1 a2 : Int32) (σ : sm_S) (Q : Option Value → sm_S → Prop) (h : xE xM m_M_manyOfNode 5 [.ref 0, .int a1, .int a2, .int 0, .int a1] [] σ Q) : xC xM j_M_manyOfNode [.ref 0, .int a1, .int a2] σ Q := sm_wp_C (M := m_M_manyOfNode) rfl [5] 5 h
set_option maxRecDepth 100000 in
set_option maxHeartbeats 4000000 in
theorem w_M_manyOfNode_5 (a1 a2 a3 a4 : Int32) (σ : sm_S) (Q : Option Value → sm_S → Prop) (h : ((8 ≤ a4 → Q (some (.int a3)) σ) ∧ (¬ (8 ≤ a4) → xC xM j_M_spanState [.ref 0, .int a4] σ (sm_ri False (fun x2 σ1 => ((x2 ≠ 0 → ((0 ≠ a2 → xE xM m_M_manyOfNode 5 [.ref 0, .int a1, .int a2, .int a3, .int (a4 + 2)] [] σ1 Q) ∧ (¬ (0 ≠ a2) → xE xM m_M_manyOfNode 5 [.ref 0, .int a1, .int a2, .int (a3 + 1), .int (a4 + 2)] [] σ1 Q))) ∧ (¬ (x2 ≠ 0) → ((1 ≠ a2 → xE xM m_M_manyOfNode 5 [.ref 0, .int a1, .int a2, .int a3, .int (a4 + 2)] [] σ1 Q) ∧ (¬ (1 ≠ a2) → xE xM m_M_manyOfNode 5 [.ref 0, .int a1, .int a2, .int (a3 + 1), .int (a4 + 2)] [] σ1 Q))))))))) : xE xM m_M_manyOfNode 5 [.ref 0, .int a1, .int a2, .int a3, .int a4] [] σ Q := sm_wp_E (M := m_M_manyOfNode) [5] 21 h
set_option maxRecDepth 100000 in
set_option maxHeartbeats 4000000 in
theorem w_M_movable (σ : sm_S) (Q : Option Value → sm_S → Prop) (h : (∀ σ1, σ1 = sm_set σ 0 (upd (σ 0) 0 0) → xC xM j_M_thinks [.ref 0] σ1 (sm_rv False (fun σ2 => xE xM m_M_movable 11 [.ref 0, .int 0] [] σ2 Q)))) : xC xM j_M_movable [.ref 0] σ Q := sm_wp_C (M := m_M_movable) rfl [11] 8 h
set_option maxRecDepth 100000 in
set_option maxHeartbeats 4000000 in
theorem w_M_movable_11 (a1 : Int32) (σ : sm_S) (Q : Option Value → sm_S → Prop) (h : xC xM j_M_turnOf [.ref 0] σ (sm_ri False (fun x2 σ1 => ((x2 = (-1) → xC xM j_M_forgets [.ref 0] σ1 (sm_rv False (fun σ3 => Q (some (.int a1)) σ3))) ∧ (¬ (x2 = (-1)) → xC xM j_M_zoneByRatio [.ref 0] σ1 (sm_ri False (fun x5 σ4 => ((x5 ≠ 1 → xC xM j_M_forgets [.ref 0] σ4 (sm_rv False (fun σ6 => Q (some (.int a1)) σ6))) ∧ (¬ (x5 ≠ 1) → xC xM j_M_turnOf [.ref 0] σ4 (sm_ri False (fun x8 σ7 => xC xM j_M_comesOn [.ref 0, .int x8, .int 1] σ7 (sm_ri False (fun x10 σ9 => xE xM m_M_movable 11 [.ref 0, .int (a1 + 1)] [] σ9 Q))))))))))))) : xE xM m_M_movable 11 [.ref 0, .int a1] [] σ Q := sm_wp_E (M := m_M_movable) [11] 20 h
set_option maxRecDepth 100000 in
set_option maxHeartbeats 4000000 in
theorem w_M_thinks (σ : sm_S) (Q : Option Value → sm_S → Prop) (h : xE xM m_M_thinks 2 [.ref 0, .int 0] [] σ Q) : xC xM j_M_thinks [.ref 0] σ Q := sm_wp_C (M := m_M_thinks) rfl [2] 3 h
set_option maxRecDepth 100000 in
set_option maxHeartbeats 4000000 in
theorem w_M_thinks_2 (a1 : Int32) (σ : sm_S) (Q : Option Value → sm_S → Prop) (h : ((2662 ≤ a1 → Q none σ) ∧ (¬ (2662 ≤ a1) → (vp_in a1 2662 ∧ (vp_in a1 2662 ∧ ∀ σ1, σ1 = sm_set σ 2 (upd (σ 2) (a1).toNatClampNeg (σ 1 (a1).toNatClampNeg)) → xE xM m_M_thinks 2 [.ref 0, .int (a1 + 1)] [] σ1 Q))))) : xE xM m_M_thinks 2 [.ref 0, .int a1] [] σ Q := sm_wp_E (M := m_M_thinks) [2] 14 h
set_option maxRecDepth 100000 in
set_option maxHeartbeats 4000000 in
theorem w_M_forgets (σ : sm_S) (Q : Option Value → sm_S → Prop) (h : xE xM m_M_forgets 2 [.ref 0, .int 0] [] σ Q) : xC xM j_M_forgets [.ref 0] σ Q := sm_wp_C (M := m_M_forgets) rfl [2] 3 h
set_option maxRecDepth 100000 in
set_option maxHeartbeats 4000000 in
theorem w_M_forgets_2 (a1 : Int32) (σ : sm_S) (Q : Option Value → sm_S → Prop) (h : ((2662 ≤ a1 → Q none σ) ∧ (¬ (2662 ≤ a1) → (vp_in a1 2662 ∧ (vp_in a1 2662 ∧ ∀ σ1, σ1 = sm_set σ 1 (upd (σ 1) (a1).toNatClampNeg (σ 2 (a1).toNatClampNeg)) → xE xM m_M_forgets 2 [.ref 0, .int (a1 + 1)] [] σ1 Q))))) : xE xM m_M_forgets 2 [.ref 0, .int a1] [] σ Q := sm_wp_E (M := m_M_forgets) [2] 14 h
set_option maxRecDepth 100000 in
set_option maxHeartbeats 4000000 in
theorem w_M_go (a1 : Int32) (σ : sm_S) (Q : Option Value → sm_S → Prop) (h : (∀ σ1, σ1 = sm_set σ 0 (upd (σ 0) 0 0) → xC xM j_M_canGo [.ref 0, .int a1] σ1 (sm_ri False (fun x3 σ2 => ((x3 ≠ 0 → xC xM j_M_beginsToGo [.ref 0, .int a1] σ2 (sm_rv False (fun σ4 => (((1 : Int32) = 0 ∨ (1 : Int32) = 1) ∧ Q (some (.int 1)) σ4)))) ∧ (¬ (x3 ≠ 0) → (((0 : Int32) = 0 ∨ (0 : Int32) = 1) ∧ Q (some (.int 0)) σ2))))))) : xC xM j_M_go [.ref 0, .int a1] σ Q := sm_wp_C (M := m_M_go) rfl [] 13 h
set_option maxRecDepth 100000 in
set_option maxHeartbeats 4000000 in
theorem w_M_canGo (a1 : Int32) (σ : sm_S) (Q : Option Value → sm_S → Prop) (h : xC xM j_M_isSpan [.ref 0, .int a1] σ (sm_ri False (fun x2 σ1 => ((x2 = 0 → (((0 : Int32) = 0 ∨ (0 : Int32) = 1) ∧ Q (some (.int 0)) σ1)) ∧ (¬ (x2 = 0) → xC xM j_M_spanState [.ref 0, .int a1] σ1 (sm_ri False (fun x4 σ3 => ((x4 ≠ 1 → (((0 : Int32) = 0 ∨ (0 : Int32) = 1) ∧ Q (some (.int 0)) σ3)) ∧ (¬ (x4 ≠ 1) → xC xM j_M_onMany [.ref 0, .int 0, .int a1] σ3 (sm_ri False (fun x6 σ5 => ((x6 ≤ 0 → (((0 : Int32) = 0 ∨ (0 : Int32) = 1) ∧ Q (some (.int 0)) σ5)) ∧ (¬ (x6 ≤ 0) → (((1 : Int32) = 0 ∨ (1 : Int32) = 1) ∧ Q (some (.int 1)) σ5)))))))))))))) : xC xM j_M_canGo [.ref 0, .int a1] σ Q := sm_wp_C (M := m_M_canGo) rfl [] 18 h
set_option maxRecDepth 100000 in
set_option maxHeartbeats 4000000 in
theorem w_M_onMany (a1 a2 : Int32) (σ : sm_S) (Q : Option Value → sm_S → Prop) (h : xE xM m_M_onMany 5 [.ref 0, .int a1, .int a2, .int 0, .int 0] [] σ Q) : xC xM j_M_onMany [.ref 0, .int a1, .int a2] σ Q := sm_wp_C (M := m_M_onMany) rfl [5] 5 h
set_option maxRecDepth 100000 in
set_option maxHeartbeats 4000000 in
theorem w_M_onMany_5 (a1 a2 a3 a4 : Int32) (σ : sm_S) (Q : Option Value → sm_S → Prop) (h : ((8 ≤ a4 → Q (some (.int a3)) σ) ∧ (¬ (8 ≤ a4) → ((a4 = a2 → xE xM m_M_onMany 5 [.ref 0, .int a1, .int a2, .int a3, .int (a4 + 1)] [] σ Q) ∧ (¬ (a4 = a2) → xC xM j_M_spanState [.ref 0, .int a4] σ (sm_ri False (fun x2 σ1 => ((x2 ≠ 1 → xE xM m_M_onMany 5 [.ref 0, .int a1, .int a2, .int a3, .int (a4 + 1)] [] σ1 Q) ∧ (¬ (x2 ≠ 1) → xC xM j_M_zoneOf [.ref 0, .int a4] σ1 (sm_ri False (fun x4 σ3 => ((x4 ≠ a1 → xE xM m_M_onMany 5 [.ref 0, .int a1, .int a2, .int a3, .int (a4 + 1)] [] σ3 Q) ∧ (¬ (x4 ≠ a1) → xE xM m_M_onMany 5 [.ref 0, .int a1, .int a2, .int (a3 + 1), .int (a4 + 1)] [] σ3 Q))))))))))))) : xE xM m_M_onMany 5 [.ref 0, .int a1, .int a2, .int a3, .int a4] [] σ Q := sm_wp_E (M := m_M_onMany) [5] 23 h
set_option maxRecDepth 100000 in
set_option maxHeartbeats 4000000 in
theorem w_M_beginsToGo (a1 : Int32) (σ : sm_S) (Q : Option Value → sm_S → Prop) (h : xC xM j_M_spanAt [.ref 0, .int a1] σ (sm_ri False (fun x2 σ1 => (vp_in (x2 + 0) 2662 ∧ ∀ σ3, σ3 = sm_set σ1 1 (upd (σ1 1) ((x2 + 0)).toNatClampNeg 2) → (vp_in (x2 + 2) 2662 ∧ ∀ σ4, σ4 = sm_set σ3 1 (upd (σ3 1) ((x2 + 2)).toNatClampNeg 0) → (vp_in (x2 + 3) 2662 ∧ ∀ σ5, σ5 = sm_set σ4 1 (upd (σ4 1) ((x2 + 3)).toNatClampNeg 0) → (vp_in (x2 + 4) 2662 ∧ ∀ σ6, σ6 = sm_set σ5 1 (upd (σ5 1) ((x2 + 4)).toNatClampNeg 0) → (vp_in (x2 + 5) 2662 ∧ ∀ σ7, σ7 = sm_set σ6 1 (upd (σ6 1) ((x2 + 5)).toNatClampNeg 0) → (vp_in (x2 + 6) 2662 ∧ ∀ σ8, σ8 = sm_set σ7 1 (upd (σ7 1) ((x2 + 6)).toNatClampNeg 0) → (¬ (2 : Int32) = 0 ∧ xC xM j_M_writes [.ref 0, .int 0, .int a1, .int (a1 - a1 / (2 : Int32) * (2 : Int32))] σ8 (sm_rv False (fun σ9 => Q none σ9)))))))))))) : xC xM j_M_beginsToGo [.ref 0, .int a1] σ Q := sm_wp_C (M := m_M_beginsToGo) rfl [] 55 h
set_option maxRecDepth 100000 in
set_option maxHeartbeats 4000000 in
theorem w_M_giveUp (a1 : Int32) (σ : sm_S) (Q : Option Value → sm_S → Prop) (h : (∀ σ1, σ1 = sm_set σ 0 (upd (σ 0) 0 0) → xC xM j_M_isSpan [.ref 0, .int a1] σ1 (sm_ri False (fun x3 σ2 => ((x3 = 0 → (((0 : Int32) = 0 ∨ (0 : Int32) = 1) ∧ Q (some (.int 0)) σ2)) ∧ (¬ (x3 = 0) → xC xM j_M_isGoing [.ref 0, .int a1] σ2 (sm_ri False (fun x5 σ4 => ((x5 ≠ 0 → xC xM j_M_fails [.ref 0, .int a1, .int 3] σ4 (sm_rv False (fun σ6 => (((1 : Int32) = 0 ∨ (1 : Int32) = 1) ∧ Q (some (.int 1)) σ6)))) ∧ (¬ (x5 ≠ 0) → (((0 : Int32) = 0 ∨ (0 : Int32) = 1) ∧ Q (some (.int 0)) σ4))))))))))) : xC xM j_M_giveUp [.ref 0, .int a1] σ Q := sm_wp_C (M := m_M_giveUp) rfl [] 18 h
set_option maxRecDepth 100000 in
set_option maxHeartbeats 4000000 in
theorem w_M_isGoing (a1 : Int32) (σ : sm_S) (Q : Option Value → sm_S → Prop) (h : xC xM j_M_spanState [.ref 0, .int a1] σ (sm_ri False (fun x2 σ1 => ((x2 < 2 → (((0 : Int32) = 0 ∨ (0 : Int32) = 1) ∧ Q (some (.int 0)) σ1)) ∧ (¬ (x2 < 2) → (((1 : Int32) = 0 ∨ (1 : Int32) = 1) ∧ Q (some (.int 1)) σ1)))))) : xC xM j_M_isGoing [.ref 0, .int a1] σ Q := sm_wp_C (M := m_M_isGoing) rfl [] 9 h
set_option maxRecDepth 100000 in
set_option maxHeartbeats 4000000 in
theorem w_M_fails (a1 a2 : Int32) (σ : sm_S) (Q : Option Value → sm_S → Prop) (h : xC xM j_M_staysBack [.ref 0, .int a1] σ (sm_rv False (fun σ1 => xC xM j_M_opens [.ref 0, .int a1] σ1 (sm_rv False (fun σ2 => xC xM j_M_spanAt [.ref 0, .int a1] σ2 (sm_ri False (fun x4 σ3 => (vp_in (x4 + 7) 2662 ∧ ∀ σ5, σ5 = sm_set σ3 1 (upd (σ3 1) ((x4 + 7)).toNatClampNeg (a2 + 1)) → xC xM j_M_counts [.ref 0, .int 7, .int 1] σ5 (sm_rv False (fun σ6 => xC xM j_M_writes [.ref 0, .int 2, .int a1, .int a2] σ6 (sm_rv False (fun σ7 => Q none σ7)))))))))))) : xC xM j_M_fails [.ref 0, .int a1, .int a2] σ Q := sm_wp_C (M := m_M_fails) rfl [] 28 h
set_option maxRecDepth 100000 in
set_option maxHeartbeats 4000000 in
theorem w_M_staysBack (a1 : Int32) (σ : sm_S) (Q : Option Value → sm_S → Prop) (h : xC xM j_M_spanAt [.ref 0, .int a1] σ (sm_ri False (fun x2 σ1 => (vp_in (x2 + 6) 2662 ∧ ((((σ1 1 ((x2 + 6)).toNatClampNeg) - 1) ≠ (-1) → xC xM j_M_of [.ref 0, .int ((σ1 1 ((x2 + 6)).toNatClampNeg) - 1), .int 6] σ1 (sm_ri False (fun x4 σ3 => xE xM m_M_staysBack 35 [.ref 0, .int a1, .int ((σ1 1 ((x2 + 6)).toNatClampNeg) - 1), .int (x4 - 1), .int 0] [] σ3 Q))) ∧ (¬ (((σ1 1 ((x2 + 6)).toNatClampNeg) - 1) ≠ (-1)) → Q none σ1)))))) : xC xM j_M_staysBack [.ref 0, .int a1] σ Q := sm_wp_C (M := m_M_staysBack) rfl [35] 24 h
set_option maxRecDepth 100000 in
set_option maxHeartbeats 4000000 in
theorem w_M_staysBack_35 (a1 a2 a3 a4 : Int32) (σ : sm_S) (Q : Option Value → sm_S → Prop) (h : xC xM j_M_longOf [.ref 0, .int a2] σ (sm_ri False (fun x2 σ1 => ((x2 ≤ a4 → xC xM j_M_lay [.ref 0, .int a2, .int 6, .int 0] σ1 (sm_rv False (fun σ3 => xC xM j_M_lay [.ref 0, .int a2, .int 7, .int 0] σ3 (sm_rv False (fun σ4 => xC xM j_M_spanAt [.ref 0, .int a1] σ4 (sm_ri False (fun x6 σ5 => (vp_in (x6 + 6) 2662 ∧ ∀ σ7, σ7 = sm_set σ5 1 (upd (σ5 1) ((x6 + 6)).toNatClampNeg 0) → xC xM j_M_wakes [.ref 0, .int a2] σ7 (sm_rv False (fun σ8 => Q none σ8)))))))))) ∧ (¬ (x2 ≤ a4) → xC xM j_M_leaves [.ref 0, .int (a3 + a4)] σ1 (sm_rv False (fun σ9 => xE xM m_M_staysBack 35 [.ref 0, .int a1, .int a2, .int a3, .int (a4 + 1)] [] σ9 Q))))))) : xE xM m_M_staysBack 35 [.ref 0, .int a1, .int a2, .int a3, .int a4] [] σ Q := sm_wp_E (M := m_M_staysBack) [35] 29 h
set_option maxRecDepth 100000 in
set_option maxHeartbeats 4000000 in
theorem w_M_wakes (a1 : Int32) (σ : sm_S) (Q : Option Value → sm_S → Prop) (h : xC xM j_M_of [.ref 0, .int a1, .int 9] σ (sm_ri False (fun x2 σ1 => xC xM j_M_lay [.ref 0, .int a1, .int 9, .int 0] σ1 (sm_rv False (fun σ3 => xE xM m_M_wakes 18 [.ref 0, .int a1, .int x2, .int 0, .null, .null] [] σ3 Q))))) : xC xM j_M_wakes [.ref 0, .int a1] σ Q := sm_wp_C (M := m_M_wakes) rfl [18] 13 h
set_option maxRecDepth 100000 in
set_option maxHeartbeats 4000000 in
theorem w_M_wakes_18 (a1 a2 a3 : Int32) (v4 v5 : Value) (σ : sm_S) (Q : Option Value → sm_S → Prop) (h : ((a2 ≤ a3 → Q none σ) ∧ (¬ (a2 ≤ a3) → xC xM j_M_of [.ref 0, .int a1, .int (10 + a3)] σ (sm_ri False (fun x2 σ1 => xC xM j_M_taskAt [.ref 0, .int x2] σ1 (sm_ri False (fun x4 σ3 => (vp_in (x4 + 1) 2662 ∧ ∀ σ5, σ5 = sm_set σ3 1 (upd (σ3 1) ((x4 + 1)).toNatClampNeg 0) → (vp_in (x4 + 2) 2662 ∧ (vp_in (x4 + 3) 2662 ∧ (vp_in (x4 + 4) 2662 ∧ xC xM j_M_does [.ref 0, .int x2, .int a1, .int (σ5 1 ((x4 + 2)).toNatClampNeg), .int (σ5 1 ((x4 + 3)).toNatClampNeg), .int (σ5 1 ((x4 + 4)).toNatClampNeg)] σ5 (sm_rv False (fun σ6 => xC xM j_M_writes [.ref 0, .int 8, .int x2, .int a1] σ6 (sm_rv False (fun σ7 => xE xM m_M_wakes 18 [.ref 0, .int a1, .int a2, .int (a3 + 1), .int x2, .int x4] [] σ7 Q))))))))))))))) : xE xM m_M_wakes 18 [.ref 0, .int a1, .int a2, .int a3, v4, v5] [] σ Q := sm_wp_E (M := m_M_wakes) [18] 51 h
set_option maxRecDepth 100000 in
set_option maxHeartbeats 4000000 in
theorem w_M_opens (a1 : Int32) (σ : sm_S) (Q : Option Value → sm_S → Prop) (h : xC xM j_M_spanAt [.ref 0, .int a1] σ (sm_ri False (fun x2 σ1 => (vp_in (x2 + 0) 2662 ∧ ∀ σ3, σ3 = sm_set σ1 1 (upd (σ1 1) ((x2 + 0)).toNatClampNeg 1) → (vp_in (x2 + 2) 2662 ∧ ∀ σ4, σ4 = sm_set σ3 1 (upd (σ3 1) ((x2 + 2)).toNatClampNeg 0) → (vp_in (x2 + 3) 2662 ∧ ∀ σ5, σ5 = sm_set σ4 1 (upd (σ4 1) ((x2 + 3)).toNatClampNeg 0) → (vp_in (x2 + 4) 2662 ∧ ∀ σ6, σ6 = sm_set σ5 1 (upd (σ5 1) ((x2 + 4)).toNatClampNeg 0) → xE xM m_M_opens 47 [.ref 0, .int a1, .int x2, .int (32 * a1)] [] σ6 Q))))))) : xC xM j_M_opens [.ref 0, .int a1] σ Q := sm_wp_C (M := m_M_opens) rfl [47] 37 h
set_option maxRecDepth 100000 in
set_option maxHeartbeats 4000000 in
theorem w_M_opens_47 (a1 a2 a3 : Int32) (σ : sm_S) (Q : Option Value → sm_S → Prop) (h : ((((32 * a1) + 32) ≤ a3 → Q none σ) ∧ (¬ (((32 * a1) + 32) ≤ a3) → xC xM j_M_stateOf [.ref 0, .int a3] σ (sm_ri False (fun x2 σ1 => ((x2 ≠ 2 → xE xM m_M_opens 47 [.ref 0, .int a1, .int a2, .int (a3 + 1)] [] σ1 Q) ∧ (¬ (x2 ≠ 2) → xC xM j_M_frameAt [.ref 0, .int a3] σ1 (sm_ri False (fun x4 σ3 => (vp_in (x4 + 0) 2662 ∧ ∀ σ5, σ5 = sm_set σ3 1 (upd (σ3 1) ((x4 + 0)).toNatClampNeg 1) → xE xM m_M_opens 47 [.ref 0, .int a1, .int a2, .int (a3 + 1)] [] σ5 Q)))))))))) : xE xM m_M_opens 47 [.ref 0, .int a1, .int a2, .int a3] [] σ Q := sm_wp_E (M := m_M_opens) [47] 24 h
set_option maxRecDepth 100000 in
set_option maxHeartbeats 4000000 in
theorem w_M_tick (a1 : Int32) (σ : sm_S) (Q : Option Value → sm_S → Prop) (h : (∀ σ1, σ1 = sm_set σ 0 (upd (σ 0) 0 0) → xC xM j_M_isIn [.ref 0, .int a1, .int 1, .int 60] σ1 (sm_ri False (fun x3 σ2 => ((x3 = 0 → Q (some (.int (-1))) σ2) ∧ (¬ (x3 = 0) → (vp_in (4 : Int32) 2662 ∧ ((((σ2 1 ((4 : Int32)).toNatClampNeg) + a1) ≤ 9999 → xE xM m_M_tick 34 [.ref 0, .int a1, .int 0] [] σ2 Q) ∧ (¬ (((σ2 1 ((4 : Int32)).toNatClampNeg) + a1) ≤ 9999) → Q (some (.int (-1))) σ2))))))))) : xC xM j_M_tick [.ref 0, .int a1] σ Q := sm_wp_C (M := m_M_tick) rfl [34] 20 h
set_option maxRecDepth 100000 in
set_option maxHeartbeats 4000000 in
theorem w_M_tick_34 (a1 a2 : Int32) (σ : sm_S) (Q : Option Value → sm_S → Prop) (h : ((a1 ≤ a2 → (vp_in (4 : Int32) 2662 ∧ Q (some (.int (σ 1 ((4 : Int32)).toNatClampNeg))) σ)) ∧ (¬ (a1 ≤ a2) → xC xM j_M_ticks [.ref 0] σ (sm_rv False (fun σ1 => xE xM m_M_tick 34 [.ref 0, .int a1, .int (a2 + 1)] [] σ1 Q))))) : xE xM m_M_tick 34 [.ref 0, .int a1, .int a2] [] σ Q := sm_wp_E (M := m_M_tick) [34] 9 h
set_option maxRecDepth 100000 in
set_option maxHeartbeats 4000000 in
theorem w_M_ticks (σ : sm_S) (Q : Option Value → sm_S → Prop) (h : xC xM j_M_more [.ref 0, .int 4, .int 1] σ (sm_rv False (fun σ1 => xE xM m_M_ticks 8 [.ref 0, .int 0] [] σ1 Q))) : xC xM j_M_ticks [.ref 0] σ Q := sm_wp_C (M := m_M_ticks) rfl [8] 7 h
set_option maxRecDepth 100000 in
set_option maxHeartbeats 4000000 in
theorem w_M_ticks_8 (a1 : Int32) (σ : sm_S) (Q : Option Value → sm_S → Prop) (h : ((8 ≤ a1 → Q none σ) ∧ (¬ (8 ≤ a1) → xC xM j_M_spanState [.ref 0, .int a1] σ (sm_ri False (fun x2 σ1 => ((x2 ≠ 2 → xC xM j_M_spanState [.ref 0, .int a1] σ1 (sm_ri False (fun x4 σ3 => ((x4 ≠ 3 → xE xM m_M_ticks 8 [.ref 0, .int (a1 + 1)] [] σ3 Q) ∧ (¬ (x4 ≠ 3) → xC xM j_M_moves [.ref 0, .int a1] σ3 (sm_rv False (fun σ5 => xE xM m_M_ticks 8 [.ref 0, .int (a1 + 1)] [] σ5 Q))))))) ∧ (¬ (x2 ≠ 2) → xC xM j_M_shuts [.ref 0, .int a1] σ1 (sm_rv False (fun σ6 => xE xM m_M_ticks 8 [.ref 0, .int (a1 + 1)] [] σ6 Q))))))))) : xE xM m_M_ticks 8 [.ref 0, .int a1] [] σ Q := sm_wp_E (M := m_M_ticks) [8] 19 h
set_option maxRecDepth 100000 in
set_option maxHeartbeats 4000000 in
theorem w_M_shuts (a1 : Int32) (σ : sm_S) (Q : Option Value → sm_S → Prop) (h : xC xM j_M_spanAt [.ref 0, .int a1] σ (sm_ri False (fun x2 σ1 => (vp_in (x2 + 2) 2662 ∧ xE xM m_M_shuts 26 [.ref 0, .int a1, .int x2, .int ((32 * a1) + (8 * (σ1 1 ((x2 + 2)).toNatClampNeg))), .int ((32 * a1) + (8 * (σ1 1 ((x2 + 2)).toNatClampNeg)))] [] σ1 Q)))) : xC xM j_M_shuts [.ref 0, .int a1] σ Q := sm_wp_C (M := m_M_shuts) rfl [26, 88] 20 h
set_option maxRecDepth 100000 in
set_option maxHeartbeats 4000000 in
theorem w_M_shuts_26 (a1 a2 a3 a4 : Int32) (σ : sm_S) (Q : Option Value → sm_S → Prop) (h : (((a3 + 8) ≤ a4 → xE xM m_M_shuts 88 [.ref 0, .int a1, .int a2, .int a3, .int a3] [] σ Q) ∧ (¬ ((a3 + 8) ≤ a4) → xC xM j_M_stateOf [.ref 0, .int a4] σ (sm_ri False (fun x2 σ1 => ((x2 ≠ 3 → xE xM m_M_shuts 26 [.ref 0, .int a1, .int a2, .int a3, .int (a4 + 1)] [] σ1 Q) ∧ (¬ (x2 ≠ 3) → xC xM j_M_frameAt [.ref 0, .int a4] σ1 (sm_ri False (fun x4 σ3 => (vp_in (x4 + 1) 2662 ∧ xC xM j_M_of [.ref 0, .int ((σ3 1 ((x4 + 1)).toNatClampNeg) - 1), .int 3] σ3 (sm_ri False (fun x6 σ5 => ((x6 = 1 → xC xM j_M_fails [.ref 0, .int a1, .int 0] σ5 (sm_rv False (fun σ7 => Q none σ7))) ∧ (¬ (x6 = 1) → xE xM m_M_shuts 26 [.ref 0, .int a1, .int a2, .int a3, .int (a4 + 1)] [] σ5 Q)))))))))))))) : xE xM m_M_shuts 26 [.ref 0, .int a1, .int a2, .int a3, .int a4] [] σ Q := sm_wp_E (M := m_M_shuts) [26, 88] 31 h
set_option maxRecDepth 100000 in
set_option maxHeartbeats 4000000 in
theorem w_M_shuts_88 (a1 a2 a3 a4 : Int32) (σ : sm_S) (Q : Option Value → sm_S → Prop) (h : (((a3 + 8) ≤ a4 → xC xM j_M_more [.ref 0, .int (a2 + 2), .int 1] σ (sm_rv False (fun σ1 => (vp_in (a2 + 2) 2662 ∧ ((4 ≤ (σ1 1 ((a2 + 2)).toNatClampNeg) → (vp_in (a2 + 0) 2662 ∧ ∀ σ2, σ2 = sm_set σ1 1 (upd (σ1 1) ((a2 + 0)).toNatClampNeg 3) → (vp_in (a2 + 3) 2662 ∧ ∀ σ3, σ3 = sm_set σ2 1 (upd (σ2 1) ((a2 + 3)).toNatClampNeg 1) → (vp_in (a2 + 5) 2662 ∧ ∀ σ4, σ4 = sm_set σ3 1 (upd (σ3 1) ((a2 + 5)).toNatClampNeg 0) → Q none σ4)))) ∧ (¬ (4 ≤ (σ1 1 ((a2 + 2)).toNatClampNeg)) → Q none σ1)))))) ∧ (¬ ((a3 + 8) ≤ a4) → xC xM j_M_isFree [.ref 0, .int a4] σ (sm_ri False (fun x6 σ5 => ((x6 = 0 → xE xM m_M_shuts 88 [.ref 0, .int a1, .int a2, .int a3, .int (a4 + 1)] [] σ5 Q) ∧ (¬ (x6 = 0) → xC xM j_M_frameAt [.ref 0, .int a4] σ5 (sm_ri False (fun x8 σ7 => (vp_in (x8 + 0) 2662 ∧ ∀ σ9, σ9 = sm_set σ7 1 (upd (σ7 1) ((x8 + 0)).toNatClampNeg 2) → xE xM m_M_shuts 88 [.ref 0, .int a1, .int a2, .int a3, .int (a4 + 1)] [] σ9 Q)))))))))) : xE xM m_M_shuts 88 [.ref 0, .int a1, .int a2, .int a3, .int a4] [] σ Q := sm_wp_E (M := m_M_shuts) [26, 88] 42 h
set_option maxRecDepth 100000 in
set_option maxHeartbeats 4000000 in
theorem w_M_moves (a1 : Int32) (σ : sm_S) (Q : Option Value → sm_S → Prop) (h : xC xM j_M_spanAt [.ref 0, .int a1] σ (sm_ri False (fun x2 σ1 => (vp_in (x2 + 4) 2662 ∧ (((σ1 1 ((x2 + 4)).toNatClampNeg) ≤ 0 → xC xM j_M_settingOf [.ref 0, .int 0] σ1 (sm_ri False (fun x4 σ3 => xE xM m_M_moves 32 [.ref 0, .int a1, .int x2, .int x4] [] σ3 Q))) ∧ (¬ ((σ1 1 ((x2 + 4)).toNatClampNeg) ≤ 0) → xC xM j_M_more [.ref 0, .int (x2 + 4), .int (-1)] σ1 (sm_rv False (fun σ5 => Q none σ5)))))))) : xC xM j_M_moves [.ref 0, .int a1] σ Q := sm_wp_C (M := m_M_moves) rfl [32] 19 h
set_option maxRecDepth 100000 in
set_option maxHeartbeats 4000000 in
theorem w_M_moves_32 (a1 a2 a3 : Int32) (σ : sm_S) (Q : Option Value → sm_S → Prop) (h : (vp_in (a2 + 6) 2662 ∧ ((0 < (σ 1 ((a2 + 6)).toNatClampNeg) → xC xM j_M_copies [.ref 0, .int a1, .int a3] σ (sm_ri False (fun x2 σ1 => (vp_in (a2 + 6) 2662 ∧ (((σ1 1 ((a2 + 6)).toNatClampNeg) ≤ 0 → xE xM m_M_moves 32 [.ref 0, .int a1, .int a2, .int x2] [] σ1 Q) ∧ (¬ ((σ1 1 ((a2 + 6)).toNatClampNeg) ≤ 0) → Q none σ1)))))) ∧ (¬ (0 < (σ 1 ((a2 + 6)).toNatClampNeg)) → xC xM j_M_looks [.ref 0, .int a1] σ (sm_ri False (fun x4 σ3 => ((x4 = 0 → xC xM j_M_isOver [.ref 0, .int a1] σ3 (sm_rv False (fun σ5 => Q none σ5))) ∧ (¬ (x4 = 0) → xC xM j_M_copies [.ref 0, .int a1, .int a3] σ3 (sm_ri False (fun x7 σ6 => (vp_in (a2 + 6) 2662 ∧ (((σ6 1 ((a2 + 6)).toNatClampNeg) ≤ 0 → xE xM m_M_moves 32 [.ref 0, .int a1, .int a2, .int x7] [] σ6 Q) ∧ (¬ ((σ6 1 ((a2 + 6)).toNatClampNeg) ≤ 0) → Q none σ6))))))))))))) : xE xM m_M_moves 32 [.ref 0, .int a1, .int a2, .int a3] [] σ Q := sm_wp_E (M := m_M_moves) [32] 25 h
set_option maxRecDepth 100000 in
set_option maxHeartbeats 4000000 in
theorem w_M_looks (a1 : Int32) (σ : sm_S) (Q : Option Value → sm_S → Prop) (h : xC xM j_M_spanAt [.ref 0, .int a1] σ (sm_ri False (fun x2 σ1 => (vp_in (x2 + 5) 2662 ∧ xC xM j_M_firstBlock [.ref 0, .int a1, .int (σ1 1 ((x2 + 5)).toNatClampNeg)] σ1 (sm_ri False (fun x4 σ3 => xE xM m_M_looks 20 [.ref 0, .int a1, .int x2, .int x4, .null, .null] [] σ3 Q)))))) : xC xM j_M_looks [.ref 0, .int a1] σ Q := sm_wp_C (M := m_M_looks) rfl [20, 123] 15 h
set_option maxRecDepth 100000 in
set_option maxHeartbeats 4000000 in
theorem w_M_looks_20 (a1 a2 a3 : Int32) (v4 v5 : Value) (σ : sm_S) (Q : Option Value → sm_S → Prop) (h : ((a3 = (-1) → (((0 : Int32) = 0 ∨ (0 : Int32) = 1) ∧ Q (some (.int 0)) σ)) ∧ (¬ (a3 = (-1)) → xC xM j_M_of [.ref 0, .int a3, .int 3] σ (sm_ri False (fun x2 σ1 => ((x2 = 1 → xC xM j_M_isPassed [.ref 0, .int a1, .int a3] σ1 (sm_rv False (fun σ3 => (vp_in (a2 + 5) 2662 ∧ xC xM j_M_firstBlock [.ref 0, .int a1, .int (σ3 1 ((a2 + 5)).toNatClampNeg)] σ3 (sm_ri False (fun x5 σ4 => xE xM m_M_looks 20 [.ref 0, .int a1, .int a2, .int x5, v4, v5] [] σ4 Q)))))) ∧ (¬ (x2 = 1) → xC xM j_M_isPinned [.ref 0, .int a3] σ1 (sm_ri False (fun x7 σ6 => ((x7 = 0 → xC xM j_M_of [.ref 0, .int a3, .int 3] σ6 (sm_ri False (fun x9 σ8 => ((x9 ≠ 2 → xC xM j_M_of [.ref 0, .int a3, .int 4] σ8 (sm_ri False (fun x11 σ10 => xC xM j_M_of [.ref 0, .int a3, .int 3] σ10 (sm_ri False (fun x13 σ12 => xC xM j_M_of [.ref 0, .int a3, .int 2] σ12 (sm_ri False (fun x15 σ14 => xC xM j_M_bestPlace [.ref 0, .int x11, .int x13, .int x15, .int 1] σ14 (sm_ri False (fun x17 σ16 => ((x17 = (-1) → xC xM j_M_of [.ref 0, .int a3, .int 2] σ16 (sm_ri False (fun x19 σ18 => ((x19 ≤ 0 → xC xM j_M_isPassed [.ref 0, .int a1, .int a3] σ18 (sm_rv False (fun σ20 => (vp_in (a2 + 5) 2662 ∧ xC xM j_M_firstBlock [.ref 0, .int a1, .int (σ20 1 ((a2 + 5)).toNatClampNeg)] σ20 (sm_ri False (fun x22 σ21 => xE xM m_M_looks 20 [.ref 0, .int a1, .int a2, .int x22, .int x17, v5] [] σ21 Q)))))) ∧ (¬ (x19 ≤ 0) → xC xM j_M_freeNumber [.ref 0] σ18 (sm_ri False (fun x24 σ23 => ((x24 = (-1) → xC xM j_M_isPassed [.ref 0, .int a1, .int a3] σ23 (sm_rv False (fun σ25 => (vp_in (a2 + 5) 2662 ∧ xC xM j_M_firstBlock [.ref 0, .int a1, .int (σ25 1 ((a2 + 5)).toNatClampNeg)] σ25 (sm_ri False (fun x27 σ26 => xE xM m_M_looks 20 [.ref 0, .int a1, .int a2, .int x27, .int x17, v5] [] σ26 Q)))))) ∧ (¬ (x24 = (-1)) → xC xM j_M_splits [.ref 0, .int a3] σ23 (sm_rv False (fun σ28 => (vp_in (a2 + 5) 2662 ∧ xC xM j_M_firstBlock [.ref 0, .int a1, .int (σ28 1 ((a2 + 5)).toNatClampNeg)] σ28 (sm_ri False (fun x30 σ29 => xE xM m_M_looks 20 [.ref 0, .int a1, .int a2, .int x30, .int x17, v5] [] σ29 Q)))))))))))))) ∧ (¬ (x17 = (-1)) → xC xM j_M_lay [.ref 0, .int a3, .int 6, .int (x17 + 1)] σ16 (sm_rv False (fun σ31 => xC xM j_M_lay [.ref 0, .int a3, .int 7, .int 0] σ31 (sm_rv False (fun σ32 => xE xM m_M_looks 123 [.ref 0, .int a1, .int a2, .int a3, .int x17, .int 0] [] σ32 Q))))))))))))))) ∧ (¬ (x9 ≠ 2) → xC xM j_M_drops [.ref 0, .int a3] σ8 (sm_rv False (fun σ33 => (vp_in (a2 + 5) 2662 ∧ xC xM j_M_firstBlock [.ref 0, .int a1, .int (σ33 1 ((a2 + 5)).toNatClampNeg)] σ33 (sm_ri False (fun x35 σ34 => xE xM m_M_looks 20 [.ref 0, .int a1, .int a2, .int x35, v4, v5] [] σ34 Q)))))))))) ∧ (¬ (x7 = 0) → xC xM j_M_isPassed [.ref 0, .int a1, .int a3] σ6 (sm_rv False (fun σ36 => (vp_in (a2 + 5) 2662 ∧ xC xM j_M_firstBlock [.ref 0, .int a1, .int (σ36 1 ((a2 + 5)).toNatClampNeg)] σ36 (sm_ri False (fun x38 σ37 => xE xM m_M_looks 20 [.ref 0, .int a1, .int a2, .int x38, v4, v5] [] σ37 Q)))))))))))))))) : xE xM m_M_looks 20 [.ref 0, .int a1, .int a2, .int a3, v4, v5] [] σ Q := sm_wp_E (M := m_M_looks) [20, 123] 63 h
set_option maxRecDepth 100000 in
set_option maxHeartbeats 4000000 in
theorem w_M_looks_123 (a1 a2 a3 a4 a5 : Int32) (σ : sm_S) (Q : Option Value → sm_S → Prop) (h : xC xM j_M_longOf [.ref 0, .int a3] σ (sm_ri False (fun x2 σ1 => ((x2 ≤ a5 → (vp_in (a2 + 6) 2662 ∧ ∀ σ3, σ3 = sm_set σ1 1 (upd (σ1 1) ((a2 + 6)).toNatClampNeg (a3 + 1)) → xC xM j_M_isPassed [.ref 0, .int a1, .int a3] σ3 (sm_rv False (fun σ4 => (((1 : Int32) = 0 ∨ (1 : Int32) = 1) ∧ Q (some (.int 1)) σ4))))) ∧ (¬ (x2 ≤ a5) → xC xM j_M_has [.ref 0, .int (a4 + a5), .int a3, .int 4] σ1 (sm_rv False (fun σ5 => xE xM m_M_looks 123 [.ref 0, .int a1, .int a2, .int a3, .int a4, .int (a5 + 1)] [] σ5 Q))))))) : xE xM m_M_looks 123 [.ref 0, .int a1, .int a2, .int a3, .int a4, .int a5] [] σ Q := sm_wp_E (M := m_M_looks) [20, 123] 21 h
set_option maxRecDepth 100000 in
set_option maxHeartbeats 4000000 in
theorem w_M_firstBlock (a1 a2 : Int32) (σ : sm_S) (Q : Option Value → sm_S → Prop) (h : xE xM m_M_firstBlock 2 [.ref 0, .int a1, .int a2, .int a2, .null, .null] [] σ Q) : xC xM j_M_firstBlock [.ref 0, .int a1, .int a2] σ Q := sm_wp_C (M := m_M_firstBlock) rfl [2] 3 h
set_option maxRecDepth 100000 in
set_option maxHeartbeats 4000000 in
theorem w_M_firstBlock_2 (a1 a2 a3 : Int32) (v4 v5 : Value) (σ : sm_S) (Q : Option Value → sm_S → Prop) (h : ((32 ≤ a3 → Q (some (.int (-1))) σ) ∧ (¬ (32 ≤ a3) → xC xM j_M_frameAt [.ref 0, .int ((32 * a1) + a3)] σ (sm_ri False (fun x2 σ1 => (vp_in (x2 + 1) 2662 ∧ xC xM j_M_stateOf [.ref 0, .int ((32 * a1) + a3)] σ1 (sm_ri False (fun x4 σ3 => ((x4 ≠ 3 → xE xM m_M_firstBlock 2 [.ref 0, .int a1, .int a2, .int (a3 + 1), .int ((32 * a1) + a3), .int ((σ1 1 ((x2 + 1)).toNatClampNeg) - 1)] [] σ3 Q) ∧ (¬ (x4 ≠ 3) → xC xM j_M_frameOf [.ref 0, .int ((σ1 1 ((x2 + 1)).toNatClampNeg) - 1)] σ3 (sm_ri False (fun x6 σ5 => ((x6 ≠ ((32 * a1) + a3) → xE xM m_M_firstBlock 2 [.ref 0, .int a1, .int a2, .int (a3 + 1), .int ((32 * a1) + a3), .int ((σ1 1 ((x2 + 1)).toNatClampNeg) - 1)] [] σ5 Q) ∧ (¬ (x6 ≠ ((32 * a1) + a3)) → Q (some (.int ((σ1 1 ((x2 + 1)).toNatClampNeg) - 1))) σ5)))))))))))))) : xE xM m_M_firstBlock 2 [.ref 0, .int a1, .int a2, .int a3, v4, v5] [] σ Q := sm_wp_E (M := m_M_firstBlock) [2] 33 h
set_option maxRecDepth 100000 in
set_option maxHeartbeats 4000000 in
theorem w_M_isPassed (a1 a2 : Int32) (σ : sm_S) (Q : Option Value → sm_S → Prop) (h : xC xM j_M_spanAt [.ref 0, .int a1] σ (sm_ri False (fun x2 σ1 => xC xM j_M_frameOf [.ref 0, .int a2] σ1 (sm_ri False (fun x4 σ3 => (¬ (32 : Int32) = 0 ∧ xC xM j_M_longOf [.ref 0, .int a2] σ3 (sm_ri False (fun x6 σ5 => (vp_in (x2 + 5) 2662 ∧ ∀ σ7, σ7 = sm_set σ5 1 (upd (σ5 1) ((x2 + 5)).toNatClampNeg ((x4 - x4 / (32 : Int32) * (32 : Int32)) + x6)) → Q none σ7))))))))) : xC xM j_M_isPassed [.ref 0, .int a1, .int a2] σ Q := sm_wp_C (M := m_M_isPassed) rfl [] 19 h
set_option maxRecDepth 100000 in
set_option maxHeartbeats 4000000 in
theorem w_M_splits (a1 : Int32) (σ : sm_S) (Q : Option Value → sm_S → Prop) (h : xC xM j_M_freeNumber [.ref 0] σ (sm_ri False (fun x2 σ1 => xC xM j_M_of [.ref 0, .int a1, .int 2] σ1 (sm_ri False (fun x4 σ3 => xC xM j_M_lay [.ref 0, .int a1, .int 2, .int (x4 - 1)] σ3 (sm_rv False (fun σ5 => xC xM j_M_frameOf [.ref 0, .int a1] σ5 (sm_ri False (fun x7 σ6 => xC xM j_M_of [.ref 0, .int a1, .int 3] σ6 (sm_ri False (fun x9 σ8 => xC xM j_M_of [.ref 0, .int a1, .int 4] σ8 (sm_ri False (fun x11 σ10 => xC xM j_M_of [.ref 0, .int a1, .int 8] σ10 (sm_ri False (fun x13 σ12 => xC xM j_M_comes [.ref 0, .int x2, .int (x7 + ((1 : Int32) <<< ((x4 - 1) &&& 31))), .int (x4 - 1), .int x9, .int x11, .int x13] σ12 (sm_rv False (fun σ14 => xC xM j_M_counts [.ref 0, .int 4, .int 1] σ14 (sm_rv False (fun σ15 => xC xM j_M_writes [.ref 0, .int 5, .int a1, .int x2] σ15 (sm_rv False (fun σ16 => Q none σ16))))))))))))))))))))) : xC xM j_M_splits [.ref 0, .int a1] σ Q := sm_wp_C (M := m_M_splits) rfl [] 49 h
set_option maxRecDepth 100000 in
set_option maxHeartbeats 4000000 in
theorem w_M_copies (a1 a2 : Int32) (σ : sm_S) (Q : Option Value → sm_S → Prop) (h : xC xM j_M_spanAt [.ref 0, .int a1] σ (sm_ri False (fun x2 σ1 => (vp_in (x2 + 6) 2662 ∧ xE xM m_M_copies 19 [.ref 0, .int a1, .int a2, .int ((σ1 1 ((x2 + 6)).toNatClampNeg) - 1), .int a2, .null] [] σ1 Q)))) : xC xM j_M_copies [.ref 0, .int a1, .int a2] σ Q := sm_wp_C (M := m_M_copies) rfl [19] 14 h
set_option maxRecDepth 100000 in
set_option maxHeartbeats 4000000 in
theorem w_M_copies_19 (a1 a2 a3 a4 : Int32) (v5 : Value) (σ : sm_S) (Q : Option Value → sm_S → Prop) (h : ((a4 ≤ 0 → xC xM j_M_of [.ref 0, .int a3, .int 7] σ (sm_ri False (fun x2 σ1 => xC xM j_M_longOf [.ref 0, .int a3] σ1 (sm_ri False (fun x4 σ3 => ((x2 ≠ x4 → Q (some (.int a4)) σ3) ∧ (¬ (x2 ≠ x4) → xC xM j_M_arrives [.ref 0, .int a1, .int a3] σ3 (sm_rv False (fun σ5 => Q (some (.int a4)) σ5))))))))) ∧ (¬ (a4 ≤ 0) → xC xM j_M_of [.ref 0, .int a3, .int 7] σ (sm_ri False (fun x7 σ6 => xC xM j_M_longOf [.ref 0, .int a3] σ6 (sm_ri False (fun x9 σ8 => ((x9 ≤ x7 → xC xM j_M_of [.ref 0, .int a3, .int 7] σ8 (sm_ri False (fun x11 σ10 => xC xM j_M_longOf [.ref 0, .int a3] σ10 (sm_ri False (fun x13 σ12 => ((x11 ≠ x13 → Q (some (.int a4)) σ12) ∧ (¬ (x11 ≠ x13) → xC xM j_M_arrives [.ref 0, .int a1, .int a3] σ12 (sm_rv False (fun σ14 => Q (some (.int a4)) σ14))))))))) ∧ (¬ (x9 ≤ x7) → xC xM j_M_of [.ref 0, .int a3, .int 7] σ8 (sm_ri False (fun x16 σ15 => xC xM j_M_of [.ref 0, .int a3, .int 6] σ15 (sm_ri False (fun x18 σ17 => xC xM j_M_frameOf [.ref 0, .int a3] σ17 (sm_ri False (fun x20 σ19 => xC xM j_M_valueOf [.ref 0, .int (x20 + x16)] σ19 (sm_ri False (fun x22 σ21 => xC xM j_M_lays [.ref 0, .int ((x18 - 1) + x16), .int x22] σ21 (sm_rv False (fun σ23 => xC xM j_M_lay [.ref 0, .int a3, .int 7, .int (x16 + 1)] σ23 (sm_rv False (fun σ24 => xC xM j_M_counts [.ref 0, .int 3, .int 1] σ24 (sm_rv False (fun σ25 => xE xM m_M_copies 19 [.ref 0, .int a1, .int a2, .int a3, .int (a4 - 1), .int x16] [] σ25 Q))))))))))))))))))))))) : xE xM m_M_copies 19 [.ref 0, .int a1, .int a2, .int a3, .int a4, v5] [] σ Q := sm_wp_E (M := m_M_copies) [19] 49 h
set_option maxRecDepth 100000 in
set_option maxHeartbeats 4000000 in
theorem w_M_arrives (a1 a2 : Int32) (σ : sm_S) (Q : Option Value → sm_S → Prop) (h : xC xM j_M_of [.ref 0, .int a2, .int 6] σ (sm_ri False (fun x2 σ1 => xE xM m_M_arrives 13 [.ref 0, .int a1, .int a2, .int (x2 - 1), .int 0] [] σ1 Q))) : xC xM j_M_arrives [.ref 0, .int a1, .int a2] σ Q := sm_wp_C (M := m_M_arrives) rfl [13] 10 h
set_option maxRecDepth 100000 in
set_option maxHeartbeats 4000000 in
theorem w_M_arrives_13 (a1 a2 a3 a4 : Int32) (σ : sm_S) (Q : Option Value → sm_S → Prop) (h : xC xM j_M_longOf [.ref 0, .int a2] σ (sm_ri False (fun x2 σ1 => ((x2 ≤ a4 → xC xM j_M_lay [.ref 0, .int a2, .int 1, .int a3] σ1 (sm_rv False (fun σ3 => xC xM j_M_lay [.ref 0, .int a2, .int 6, .int 0] σ3 (sm_rv False (fun σ4 => xC xM j_M_lay [.ref 0, .int a2, .int 7, .int 0] σ4 (sm_rv False (fun σ5 => xC xM j_M_spanAt [.ref 0, .int a1] σ5 (sm_ri False (fun x7 σ6 => (vp_in (x7 + 6) 2662 ∧ ∀ σ8, σ8 = sm_set σ6 1 (upd (σ6 1) ((x7 + 6)).toNatClampNeg 0) → xC xM j_M_counts [.ref 0, .int 2, .int 1] σ8 (sm_rv False (fun σ9 => xC xM j_M_writes [.ref 0, .int 4, .int a2, .int a3] σ9 (sm_rv False (fun σ10 => xC xM j_M_wakes [.ref 0, .int a2] σ10 (sm_rv False (fun σ11 => Q none σ11)))))))))))))))) ∧ (¬ (x2 ≤ a4) → xC xM j_M_frameOf [.ref 0, .int a2] σ1 (sm_ri False (fun x13 σ12 => xC xM j_M_leaves [.ref 0, .int (x13 + a4)] σ12 (sm_rv False (fun σ14 => xC xM j_M_has [.ref 0, .int (a3 + a4), .int a2, .int 3] σ14 (sm_rv False (fun σ15 => xE xM m_M_arrives 13 [.ref 0, .int a1, .int a2, .int a3, .int (a4 + 1)] [] σ15 Q))))))))))) : xE xM m_M_arrives 13 [.ref 0, .int a1, .int a2, .int a3, .int a4] [] σ Q := sm_wp_E (M := m_M_arrives) [13] 43 h
set_option maxRecDepth 100000 in
set_option maxHeartbeats 4000000 in
theorem w_M_isOver (a1 : Int32) (σ : sm_S) (Q : Option Value → sm_S → Prop) (h : xC xM j_M_spanAt [.ref 0, .int a1] σ (sm_ri False (fun x2 σ1 => xC xM j_M_counts [.ref 0, .int 9, .int 1] σ1 (sm_rv False (fun σ3 => xC xM j_M_manyIn [.ref 0, .int a1, .int 3] σ3 (sm_ri False (fun x5 σ4 => xC xM j_M_manyIn [.ref 0, .int a1, .int 4] σ4 (sm_ri False (fun x7 σ6 => (((x5 + x7) ≠ 0 → (vp_in (x2 + 3) 2662 ∧ xC xM j_M_settingOf [.ref 0, .int 1] σ6 (sm_ri False (fun x9 σ8 => (((σ6 1 ((x2 + 3)).toNatClampNeg) < x9 → xC xM j_M_more [.ref 0, .int (x2 + 3), .int 1] σ8 (sm_rv False (fun σ10 => xC xM j_M_settingOf [.ref 0, .int 3] σ10 (sm_ri False (fun x12 σ11 => (vp_in (x2 + 4) 2662 ∧ ∀ σ13, σ13 = sm_set σ11 1 (upd (σ11 1) ((x2 + 4)).toNatClampNeg x12) → (vp_in (x2 + 5) 2662 ∧ ∀ σ14, σ14 = sm_set σ13 1 (upd (σ13 1) ((x2 + 5)).toNatClampNeg 0) → Q none σ14))))))) ∧ (¬ ((σ6 1 ((x2 + 3)).toNatClampNeg) < x9) → xC xM j_M_whyOf [.ref 0, .int a1] σ8 (sm_ri False (fun x16 σ15 => xC xM j_M_fails [.ref 0, .int a1, .int x16] σ15 (sm_rv False (fun σ17 => Q none σ17)))))))))) ∧ (¬ ((x5 + x7) ≠ 0) → (vp_in (x2 + 3) 2662 ∧ xC xM j_M_writes [.ref 0, .int 1, .int a1, .int (σ6 1 ((x2 + 3)).toNatClampNeg)] σ6 (sm_rv False (fun σ18 => (vp_in (x2 + 0) 2662 ∧ ∀ σ19, σ19 = sm_set σ18 1 (upd (σ18 1) ((x2 + 0)).toNatClampNeg 0) → (vp_in (x2 + 1) 2662 ∧ ∀ σ20, σ20 = sm_set σ19 1 (upd (σ19 1) ((x2 + 1)).toNatClampNeg 0) → (vp_in (x2 + 2) 2662 ∧ ∀ σ21, σ21 = sm_set σ20 1 (upd (σ20 1) ((x2 + 2)).toNatClampNeg 0) → (vp_in (x2 + 3) 2662 ∧ ∀ σ22, σ22 = sm_set σ21 1 (upd (σ21 1) ((x2 + 3)).toNatClampNeg 0) → xE xM m_M_isOver 84 [.ref 0, .int a1, .int x2, .int (32 * a1)] [] σ22 Q)))))))))))))))))) : xC xM j_M_isOver [.ref 0, .int a1] σ Q := sm_wp_C (M := m_M_isOver) rfl [84] 61 h
set_option maxRecDepth 100000 in
set_option maxHeartbeats 4000000 in
theorem w_M_isOver_84 (a1 a2 a3 : Int32) (σ : sm_S) (Q : Option Value → sm_S → Prop) (h : ((((32 * a1) + 32) ≤ a3 → xC xM j_M_counts [.ref 0, .int 6, .int 1] σ (sm_rv False (fun σ1 => Q none σ1))) ∧ (¬ (((32 * a1) + 32) ≤ a3) → xC xM j_M_frameAt [.ref 0, .int a3] σ (sm_ri False (fun x3 σ2 => (vp_in (x3 + 0) 2662 ∧ ∀ σ4, σ4 = sm_set σ2 1 (upd (σ2 1) ((x3 + 0)).toNatClampNeg 0) → xE xM m_M_isOver 84 [.ref 0, .int a1, .int a2, .int (a3 + 1)] [] σ4 Q)))))) : xE xM m_M_isOver 84 [.ref 0, .int a1, .int a2, .int a3] [] σ Q := sm_wp_E (M := m_M_isOver) [84] 19 h
set_option maxRecDepth 100000 in
set_option maxHeartbeats 4000000 in
theorem w_M_manyIn (a1 a2 : Int32) (σ : sm_S) (Q : Option Value → sm_S → Prop) (h : xE xM m_M_manyIn 8 [.ref 0, .int a1, .int a2, .int 0, .int (32 * a1)] [] σ Q) : xC xM j_M_manyIn [.ref 0, .int a1, .int a2] σ Q := sm_wp_C (M := m_M_manyIn) rfl [8] 7 h
set_option maxRecDepth 100000 in
set_option maxHeartbeats 4000000 in
theorem w_M_manyIn_8 (a1 a2 a3 a4 : Int32) (σ : sm_S) (Q : Option Value → sm_S → Prop) (h : ((((32 * a1) + 32) ≤ a4 → Q (some (.int a3)) σ) ∧ (¬ (((32 * a1) + 32) ≤ a4) → xC xM j_M_stateOf [.ref 0, .int a4] σ (sm_ri False (fun x2 σ1 => ((x2 ≠ a2 → xE xM m_M_manyIn 8 [.ref 0, .int a1, .int a2, .int a3, .int (a4 + 1)] [] σ1 Q) ∧ (¬ (x2 ≠ a2) → xE xM m_M_manyIn 8 [.ref 0, .int a1, .int a2, .int (a3 + 1), .int (a4 + 1)] [] σ1 Q))))))) : xE xM m_M_manyIn 8 [.ref 0, .int a1, .int a2, .int a3, .int a4] [] σ Q := sm_wp_E (M := m_M_manyIn) [8] 19 h
set_option maxRecDepth 100000 in
set_option maxHeartbeats 4000000 in
theorem w_M_whyOf (a1 : Int32) (σ : sm_S) (Q : Option Value → sm_S → Prop) (h : xC xM j_M_firstBlock [.ref 0, .int a1, .int 0] σ (sm_ri False (fun x2 σ1 => ((x2 ≠ (-1) → xC xM j_M_of [.ref 0, .int x2, .int 3] σ1 (sm_ri False (fun x4 σ3 => ((x4 ≠ 1 → xC xM j_M_isPinned [.ref 0, .int x2] σ3 (sm_ri False (fun x6 σ5 => ((x6 = 0 → Q (some (.int 2)) σ5) ∧ (¬ (x6 = 0) → Q (some (.int 1)) σ5))))) ∧ (¬ (x4 ≠ 1) → Q (some (.int 0)) σ3))))) ∧ (¬ (x2 ≠ (-1)) → Q (some (.int 2)) σ1))))) : xC xM j_M_whyOf [.ref 0, .int a1] σ Q := sm_wp_C (M := m_M_whyOf) rfl [] 22 h
set_option maxRecDepth 100000 in
set_option maxHeartbeats 4000000 in
theorem w_M_keeps (a1 a2 a3 : Int32) (σ : sm_S) (Q : Option Value → sm_S → Prop) (h : (∀ σ1, σ1 = sm_set σ 0 (upd (σ 0) 0 0) → xC xM j_M_isSpan [.ref 0, .int a1] σ1 (sm_ri False (fun x3 σ2 => ((x3 ≠ 0 → ((a2 ≠ (-1) → ((0 ≤ a2 → xC xM j_M_keeperAt [.ref 0, .int a1, .int a2] σ2 (sm_ri False (fun x5 σ4 => ((x5 ≠ (-1) → ((a3 ≠ 0 → ((a3 ≠ 1 → ((a3 ≠ 2 → ((a3 ≠ 3 → Q (some (.int (-1))) σ4) ∧ (¬ (a3 ≠ 3) → xC xM j_M_of [.ref 0, .int x5, .int 5] σ4 (sm_ri False (fun x7 σ6 => Q (some (.int x7)) σ6))))) ∧ (¬ (a3 ≠ 2) → xC xM j_M_of [.ref 0, .int x5, .int 4] σ4 (sm_ri False (fun x9 σ8 => Q (some (.int x9)) σ8))))) ∧ (¬ (a3 ≠ 1) → xC xM j_M_keepsWhy [.ref 0, .int x5, .int a1] σ4 (sm_ri False (fun x11 σ10 => Q (some (.int x11)) σ10))))) ∧ (¬ (a3 ≠ 0) → Q (some (.int x5)) σ4))) ∧ (¬ (x5 ≠ (-1)) → Q (some (.int (-1))) σ4))))) ∧ (¬ (0 ≤ a2) → ((((-1) : Int32) ≠ (-1) → ((a3 ≠ 0 → ((a3 ≠ 1 → ((a3 ≠ 2 → ((a3 ≠ 3 → Q (some (.int (-1))) σ2) ∧ (¬ (a3 ≠ 3) → xC xM j_M_of [.ref 0, .int (-1), .int 5] σ2 (sm_ri False (fun x13 σ12 => Q (some (.int x13)) σ12))))) ∧ (¬ (a3 ≠ 2) → xC xM j_M_of [.ref 0, .int (-1), .int 4] σ2 (sm_ri False (fun x15 σ14 => Q (some (.int x15)) σ14))))) ∧ (¬ (a3 ≠ 1) → xC xM j_M_keepsWhy [.ref 0, .int (-1), .int a1] σ2 (sm_ri False (fun x17 σ16 => Q (some (.int x17)) σ16))))) ∧ (¬ (a3 ≠ 0) → Q (some (.int (-1))) σ2))) ∧ (¬ (((-1) : Int32) ≠ (-1)) → Q (some (.int (-1))) σ2))))) ∧ (¬ (a2 ≠ (-1)) → xC xM j_M_keeperAt [.ref 0, .int a1, .int (-1)] σ2 (sm_ri False (fun x19 σ18 => Q (some (.int x19)) σ18))))) ∧ (¬ (x3 ≠ 0) → Q (some (.int (-1))) σ2)))))) : xC xM j_M_keeps [.ref 0, .int a1, .int a2, .int a3] σ Q := sm_wp_C (M := m_M_keeps) rfl [] 38 h
set_option maxRecDepth 100000 in
set_option maxHeartbeats 4000000 in
theorem w_M_keeperAt (a1 a2 : Int32) (σ : sm_S) (Q : Option Value → sm_S → Prop) (h : xC xM j_M_firstBlock [.ref 0, .int a1, .int 0] σ (sm_ri False (fun x2 σ1 => xE xM m_M_keeperAt 10 [.ref 0, .int a1, .int a2, .int 0, .int x2] [] σ1 Q))) : xC xM j_M_keeperAt [.ref 0, .int a1, .int a2] σ Q := sm_wp_C (M := m_M_keeperAt) rfl [10] 8 h
set_option maxRecDepth 100000 in
set_option maxHeartbeats 4000000 in
theorem w_M_keeperAt_10 (a1 a2 a3 a4 : Int32) (σ : sm_S) (Q : Option Value → sm_S → Prop) (h : ((a4 = (-1) → ((a2 ≠ (-1) → Q (some (.int (-1))) σ) ∧ (¬ (a2 ≠ (-1)) → Q (some (.int a3)) σ))) ∧ (¬ (a4 = (-1)) → xC xM j_M_keepsWhy [.ref 0, .int a4, .int a1] σ (sm_ri False (fun x2 σ1 => ((x2 ≠ (-1) → ((a3 ≠ a2 → xC xM j_M_frameOf [.ref 0, .int a4] σ1 (sm_ri False (fun x4 σ3 => (¬ (32 : Int32) = 0 ∧ xC xM j_M_firstBlock [.ref 0, .int a1, .int ((x4 - x4 / (32 : Int32) * (32 : Int32)) + 1)] σ3 (sm_ri False (fun x6 σ5 => xE xM m_M_keeperAt 10 [.ref 0, .int a1, .int a2, .int (a3 + 1), .int x6] [] σ5 Q)))))) ∧ (¬ (a3 ≠ a2) → Q (some (.int a4)) σ1))) ∧ (¬ (x2 ≠ (-1)) → xC xM j_M_frameOf [.ref 0, .int a4] σ1 (sm_ri False (fun x8 σ7 => (¬ (32 : Int32) = 0 ∧ xC xM j_M_firstBlock [.ref 0, .int a1, .int ((x8 - x8 / (32 : Int32) * (32 : Int32)) + 1)] σ7 (sm_ri False (fun x10 σ9 => xE xM m_M_keeperAt 10 [.ref 0, .int a1, .int a2, .int a3, .int x10] [] σ9 Q)))))))))))) : xE xM m_M_keeperAt 10 [.ref 0, .int a1, .int a2, .int a3, .int a4] [] σ Q := sm_wp_E (M := m_M_keeperAt) [10] 29 h
set_option maxRecDepth 100000 in
set_option maxHeartbeats 4000000 in
theorem w_M_keepsWhy (a1 a2 : Int32) (σ : sm_S) (Q : Option Value → sm_S → Prop) (h : xC xM j_M_of [.ref 0, .int a1, .int 3] σ (sm_ri False (fun x2 σ1 => ((x2 ≠ 1 → xC xM j_M_isPinned [.ref 0, .int a1] σ1 (sm_ri False (fun x4 σ3 => ((x4 = 0 → xC xM j_M_of [.ref 0, .int a1, .int 3] σ3 (sm_ri False (fun x6 σ5 => ((x6 ≠ 2 → xE xM m_M_keepsWhy 36 [.ref 0, .int a1, .int a2, .int 0] [] σ5 Q) ∧ (¬ (x6 ≠ 2) → Q (some (.int (-1))) σ5))))) ∧ (¬ (x4 = 0) → Q (some (.int 1)) σ3))))) ∧ (¬ (x2 ≠ 1) → Q (some (.int 0)) σ1))))) : xC xM j_M_keepsWhy [.ref 0, .int a1, .int a2] σ Q := sm_wp_C (M := m_M_keepsWhy) rfl [36] 19 h
set_option maxRecDepth 100000 in
set_option maxHeartbeats 4000000 in
theorem w_M_keepsWhy_36 (a1 a2 a3 : Int32) (σ : sm_S) (Q : Option Value → sm_S → Prop) (h : ((256 ≤ a3 → Q (some (.int 2)) σ) ∧ (¬ (256 ≤ a3) → xC xM j_M_spanOf [.ref 0, .int a3] σ (sm_ri False (fun x2 σ1 => ((x2 = a2 → xC xM j_M_longOf [.ref 0, .int a1] σ1 (sm_ri False (fun x4 σ3 => xE xM m_M_keepsWhy 36 [.ref 0, .int a1, .int a2, .int (a3 + x4)] [] σ3 Q))) ∧ (¬ (x2 = a2) → xC xM j_M_spanOf [.ref 0, .int a3] σ1 (sm_ri False (fun x6 σ5 => xC xM j_M_spanState [.ref 0, .int x6] σ5 (sm_ri False (fun x8 σ7 => ((x8 ≠ 1 → xC xM j_M_longOf [.ref 0, .int a1] σ7 (sm_ri False (fun x10 σ9 => xE xM m_M_keepsWhy 36 [.ref 0, .int a1, .int a2, .int (a3 + x10)] [] σ9 Q))) ∧ (¬ (x8 ≠ 1) → xC xM j_M_spanOf [.ref 0, .int a3] σ7 (sm_ri False (fun x12 σ11 => xC xM j_M_of [.ref 0, .int a1, .int 3] σ11 (sm_ri False (fun x14 σ13 => xC xM j_M_of [.ref 0, .int a1, .int 4] σ13 (sm_ri False (fun x16 σ15 => xC xM j_M_rankOf [.ref 0, .int x12, .int x14, .int x16] σ15 (sm_ri False (fun x18 σ17 => ((x18 = (-1) → xC xM j_M_longOf [.ref 0, .int a1] σ17 (sm_ri False (fun x20 σ19 => xE xM m_M_keepsWhy 36 [.ref 0, .int a1, .int a2, .int (a3 + x20)] [] σ19 Q))) ∧ (¬ (x18 = (-1)) → xC xM j_M_of [.ref 0, .int a1, .int 2] σ17 (sm_ri False (fun x22 σ21 => xC xM j_M_areFree [.ref 0, .int a3, .int x22] σ21 (sm_ri False (fun x24 σ23 => ((x24 = 0 → xC xM j_M_longOf [.ref 0, .int a1] σ23 (sm_ri False (fun x26 σ25 => xE xM m_M_keepsWhy 36 [.ref 0, .int a1, .int a2, .int (a3 + x26)] [] σ25 Q))) ∧ (¬ (x24 = 0) → Q (some (.int (-1))) σ23))))))))))))))))))))))))))))) : xE xM m_M_keepsWhy 36 [.ref 0, .int a1, .int a2, .int a3] [] σ Q := sm_wp_E (M := m_M_keepsWhy) [36] 46 h
set_option maxRecDepth 100000 in
set_option maxHeartbeats 4000000 in
theorem w_M_holders (a1 : Int32) (σ : sm_S) (Q : Option Value → sm_S → Prop) (h : (∀ σ1, σ1 = sm_set σ 0 (upd (σ 0) 0 0) → xC xM j_M_isSpan [.ref 0, .int a1] σ1 (sm_ri False (fun x3 σ2 => ((x3 ≠ 0 → xE xM m_M_holders 19 [.ref 0, .int a1, .int 0, .int 0, .null] [] σ2 Q) ∧ (¬ (x3 ≠ 0) → Q (some (.int (-1))) σ2)))))) : xC xM j_M_holders [.ref 0, .int a1] σ Q := sm_wp_C (M := m_M_holders) rfl [19] 12 h
set_option maxRecDepth 100000 in
set_option maxHeartbeats 4000000 in
theorem w_M_holders_19 (a1 a2 a3 : Int32) (v4 : Value) (σ : sm_S) (Q : Option Value → sm_S → Prop) (h : xC xM j_M_keeperAt [.ref 0, .int a1, .int (-1)] σ (sm_ri False (fun x2 σ1 => ((x2 ≤ a3 → Q (some (.int a2)) σ1) ∧ (¬ (x2 ≤ a3) → xC xM j_M_keeperAt [.ref 0, .int a1, .int a3] σ1 (sm_ri False (fun x4 σ3 => xC xM j_M_of [.ref 0, .int x4, .int 3] σ3 (sm_ri False (fun x6 σ5 => ((x6 ≠ 1 → xC xM j_M_of [.ref 0, .int x4, .int 5] σ5 (sm_ri False (fun x8 σ7 => xE xM m_M_holders 19 [.ref 0, .int a1, .int (a2 ||| x8), .int (a3 + 1), .int x4] [] σ7 Q))) ∧ (¬ (x6 ≠ 1) → xC xM j_M_of [.ref 0, .int x4, .int 4] σ5 (sm_ri False (fun x10 σ9 => xC xM j_M_of [.ref 0, .int x4, .int 5] σ9 (sm_ri False (fun x12 σ11 => xE xM m_M_holders 19 [.ref 0, .int a1, .int ((a2 ||| ((1 : Int32) <<< (x10 &&& 31))) ||| x12), .int (a3 + 1), .int x4] [] σ11 Q))))))))))))))) : xE xM m_M_holders 19 [.ref 0, .int a1, .int a2, .int a3, v4] [] σ Q := sm_wp_E (M := m_M_holders) [19] 36 h
set_option maxRecDepth 100000 in
set_option maxHeartbeats 4000000 in
theorem w_M_would (a1 a2 : Int32) (σ : sm_S) (Q : Option Value → sm_S → Prop) (h : (∀ σ1, σ1 = sm_set σ 0 (upd (σ 0) 0 0) → xC xM j_M_canGo [.ref 0, .int a1] σ1 (sm_ri False (fun x3 σ2 => ((x3 = 0 → Q (some (.int (-1))) σ2) ∧ (¬ (x3 = 0) → xC xM j_M_isIn [.ref 0, .int a2, .int 0, .int 4] σ2 (sm_ri False (fun x5 σ4 => ((x5 ≠ 0 → xC xM j_M_thinks [.ref 0] σ4 (sm_rv False (fun σ6 => (vp_in (10 : Int32) 2662 ∧ (vp_in (11 : Int32) 2662 ∧ (vp_in (12 : Int32) 2662 ∧ xC xM j_M_goesAway [.ref 0, .int a1] σ6 (sm_ri False (fun x8 σ7 => ((a2 ≠ 0 → ((a2 ≠ 2 → ((a2 ≠ 3 → ((a2 ≠ 4 → xC xM j_M_forgets [.ref 0] σ7 (sm_rv False (fun σ9 => Q (some (.int x8)) σ9))) ∧ (¬ (a2 ≠ 4) → (vp_in (12 : Int32) 2662 ∧ xC xM j_M_forgets [.ref 0] σ7 (sm_rv False (fun σ10 => Q (some (.int ((σ7 1 ((12 : Int32)).toNatClampNeg) - (σ6 1 ((12 : Int32)).toNatClampNeg)))) σ10)))))) ∧ (¬ (a2 ≠ 3) → (vp_in (11 : Int32) 2662 ∧ ((a2 ≠ 4 → xC xM j_M_forgets [.ref 0] σ7 (sm_rv False (fun σ11 => Q (some (.int ((σ7 1 ((11 : Int32)).toNatClampNeg) - (σ6 1 ((11 : Int32)).toNatClampNeg)))) σ11))) ∧ (¬ (a2 ≠ 4) → (vp_in (12 : Int32) 2662 ∧ xC xM j_M_forgets [.ref 0] σ7 (sm_rv False (fun σ12 => Q (some (.int ((σ7 1 ((12 : Int32)).toNatClampNeg) - (σ6 1 ((12 : Int32)).toNatClampNeg)))) σ12))))))))) ∧ (¬ (a2 ≠ 2) → (vp_in (10 : Int32) 2662 ∧ ((a2 ≠ 3 → ((a2 ≠ 4 → xC xM j_M_forgets [.ref 0] σ7 (sm_rv False (fun σ13 => Q (some (.int ((σ7 1 ((10 : Int32)).toNatClampNeg) - (σ6 1 ((10 : Int32)).toNatClampNeg)))) σ13))) ∧ (¬ (a2 ≠ 4) → (vp_in (12 : Int32) 2662 ∧ xC xM j_M_forgets [.ref 0] σ7 (sm_rv False (fun σ14 => Q (some (.int ((σ7 1 ((12 : Int32)).toNatClampNeg) - (σ6 1 ((12 : Int32)).toNatClampNeg)))) σ14)))))) ∧ (¬ (a2 ≠ 3) → (vp_in (11 : Int32) 2662 ∧ ((a2 ≠ 4 → xC xM j_M_forgets [.ref 0] σ7 (sm_rv False (fun σ15 => Q (some (.int ((σ7 1 ((11 : Int32)).toNatClampNeg) - (σ6 1 ((11 : Int32)).toNatClampNeg)))) σ15))) ∧ (¬ (a2 ≠ 4) → (vp_in (12 : Int32) 2662 ∧ xC xM j_M_forgets [.ref 0] σ7 (sm_rv False (fun σ16 => Q (some (.int ((σ7 1 ((12 : Int32)).toNatClampNeg) - (σ6 1 ((12 : Int32)).toNatClampNeg)))) σ16)))))))))))) ∧ (¬ (a2 ≠ 0) → xC xM j_M_spanState [.ref 0, .int a1] σ7 (sm_ri False (fun x18 σ17 => ((x18 ≠ 0 → ((a2 ≠ 2 → ((a2 ≠ 3 → ((a2 ≠ 4 → xC xM j_M_forgets [.ref 0] σ17 (sm_rv False (fun σ19 => Q (some (.int 0)) σ19))) ∧ (¬ (a2 ≠ 4) → (vp_in (12 : Int32) 2662 ∧ xC xM j_M_forgets [.ref 0] σ17 (sm_rv False (fun σ20 => Q (some (.int ((σ17 1 ((12 : Int32)).toNatClampNeg) - (σ6 1 ((12 : Int32)).toNatClampNeg)))) σ20)))))) ∧ (¬ (a2 ≠ 3) → (vp_in (11 : Int32) 2662 ∧ ((a2 ≠ 4 → xC xM j_M_forgets [.ref 0] σ17 (sm_rv False (fun σ21 => Q (some (.int ((σ17 1 ((11 : Int32)).toNatClampNeg) - (σ6 1 ((11 : Int32)).toNatClampNeg)))) σ21))) ∧ (¬ (a2 ≠ 4) → (vp_in (12 : Int32) 2662 ∧ xC xM j_M_forgets [.ref 0] σ17 (sm_rv False (fun σ22 => Q (some (.int ((σ17 1 ((12 : Int32)).toNatClampNeg) - (σ6 1 ((12 : Int32)).toNatClampNeg)))) σ22))))))))) ∧ (¬ (a2 ≠ 2) → (vp_in (10 : Int32) 2662 ∧ ((a2 ≠ 3 → ((a2 ≠ 4 → xC xM j_M_forgets [.ref 0] σ17 (sm_rv False (fun σ23 => Q (some (.int ((σ17 1 ((10 : Int32)).toNatClampNeg) - (σ6 1 ((10 : Int32)).toNatClampNeg)))) σ23))) ∧ (¬ (a2 ≠ 4) → (vp_in (12 : Int32) 2662 ∧ xC xM j_M_forgets [.ref 0] σ17 (sm_rv False (fun σ24 => Q (some (.int ((σ17 1 ((12 : Int32)).toNatClampNeg) - (σ6 1 ((12 : Int32)).toNatClampNeg)))) σ24)))))) ∧ (¬ (a2 ≠ 3) → (vp_in (11 : Int32) 2662 ∧ ((a2 ≠ 4 → xC xM j_M_forgets [.ref 0] σ17 (sm_rv False (fun σ25 => Q (some (.int ((σ17 1 ((11 : Int32)).toNatClampNeg) - (σ6 1 ((11 : Int32)).toNatClampNeg)))) σ25))) ∧ (¬ (a2 ≠ 4) → (vp_in (12 : Int32) 2662 ∧ xC xM j_M_forgets [.ref 0] σ17 (sm_rv False (fun σ26 => Q (some (.int ((σ17 1 ((12 : Int32)).toNatClampNeg) - (σ6 1 ((12 : Int32)).toNatClampNeg)))) σ26)))))))))))) ∧ (¬ (x18 ≠ 0) → ((a2 ≠ 2 → ((a2 ≠ 3 → ((a2 ≠ 4 → xC xM j_M_forgets [.ref 0] σ17 (sm_rv False (fun σ27 => Q (some (.int 1)) σ27))) ∧ (¬ (a2 ≠ 4) → (vp_in (12 : Int32) 2662 ∧ xC xM j_M_forgets [.ref 0] σ17 (sm_rv False (fun σ28 => Q (some (.int ((σ17 1 ((12 : Int32)).toNatClampNeg) - (σ6 1 ((12 : Int32)).toNatClampNeg)))) σ28)))))) ∧ (¬ (a2 ≠ 3) → (vp_in (11 : Int32) 2662 ∧ ((a2 ≠ 4 → xC xM j_M_forgets [.ref 0] σ17 (sm_rv False (fun σ29 => Q (some (.int ((σ17 1 ((11 : Int32)).toNatClampNeg) - (σ6 1 ((11 : Int32)).toNatClampNeg)))) σ29))) ∧ (¬ (a2 ≠ 4) → (vp_in (12 : Int32) 2662 ∧ xC xM j_M_forgets [.ref 0] σ17 (sm_rv False (fun σ30 => Q (some (.int ((σ17 1 ((12 : Int32)).toNatClampNeg) - (σ6 1 ((12 : Int32)).toNatClampNeg)))) σ30))))))))) ∧ (¬ (a2 ≠ 2) → (vp_in (10 : Int32) 2662 ∧ ((a2 ≠ 3 → ((a2 ≠ 4 → xC xM j_M_forgets [.ref 0] σ17 (sm_rv False (fun σ31 => Q (some (.int ((σ17 1 ((10 : Int32)).toNatClampNeg) - (σ6 1 ((10 : Int32)).toNatClampNeg)))) σ31))) ∧ (¬ (a2 ≠ 4) → (vp_in (12 : Int32) 2662 ∧ xC xM j_M_forgets [.ref 0] σ17 (sm_rv False (fun σ32 => Q (some (.int ((σ17 1 ((12 : Int32)).toNatClampNeg) - (σ6 1 ((12 : Int32)).toNatClampNeg)))) σ32)))))) ∧ (¬ (a2 ≠ 3) → (vp_in (11 : Int32) 2662 ∧ ((a2 ≠ 4 → xC xM j_M_forgets [.ref 0] σ17 (sm_rv False (fun σ33 => Q (some (.int ((σ17 1 ((11 : Int32)).toNatClampNeg) - (σ6 1 ((11 : Int32)).toNatClampNeg)))) σ33))) ∧ (¬ (a2 ≠ 4) → (vp_in (12 : Int32) 2662 ∧ xC xM j_M_forgets [.ref 0] σ17 (sm_rv False (fun σ34 => Q (some (.int ((σ17 1 ((12 : Int32)).toNatClampNeg) - (σ6 1 ((12 : Int32)).toNatClampNeg)))) σ34))))))))))))))))))))))))) ∧ (¬ (x5 ≠ 0) → Q (some (.int (-1))) σ4)))))))))) : xC xM j_M_would [.ref 0, .int a1, .int a2] σ Q := sm_wp_C (M := m_M_would) rfl [] 78 h
set_option maxRecDepth 100000 in
set_option maxHeartbeats 4000000 in
theorem w_M_goesAway (a1 : Int32) (σ : sm_S) (Q : Option Value → sm_S → Prop) (h : xC xM j_M_beginsToGo [.ref 0, .int a1] σ (sm_rv False (fun σ1 => xE xM m_M_goesAway 7 [.ref 0, .int a1, .int 0] [] σ1 Q))) : xC xM j_M_goesAway [.ref 0, .int a1] σ Q := sm_wp_C (M := m_M_goesAway) rfl [7] 6 h
set_option maxRecDepth 100000 in
set_option maxHeartbeats 4000000 in
theorem w_M_goesAway_7 (a1 a2 : Int32) (σ : sm_S) (Q : Option Value → sm_S → Prop) (h : ((500 ≤ a2 → Q (some (.int a2)) σ) ∧ (¬ (500 ≤ a2) → xC xM j_M_isGoing [.ref 0, .int a1] σ (sm_ri False (fun x2 σ1 => ((x2 = 0 → Q (some (.int a2)) σ1) ∧ (¬ (x2 = 0) → xC xM j_M_ticks [.ref 0] σ1 (sm_rv False (fun σ3 => xE xM m_M_goesAway 7 [.ref 0, .int a1, .int (a2 + 1)] [] σ3 Q))))))))) : xE xM m_M_goesAway 7 [.ref 0, .int a1, .int a2] [] σ Q := sm_wp_E (M := m_M_goesAway) [7] 15 h
set_option maxRecDepth 100000 in
set_option maxHeartbeats 4000000 in
theorem w_M_pressed (a1 : Int32) (σ : sm_S) (Q : Option Value → sm_S → Prop) (h : (∀ σ1, σ1 = sm_set σ 0 (upd (σ 0) 0 0) → xC xM j_M_isSpan [.ref 0, .int a1] σ1 (sm_ri False (fun x3 σ2 => ((x3 = 0 → Q (some (.int (-1))) σ2) ∧ (¬ (x3 = 0) → xC xM j_M_spanState [.ref 0, .int a1] σ2 (sm_ri False (fun x5 σ4 => ((x5 = 1 → xC xM j_M_thinks [.ref 0] σ4 (sm_rv False (fun σ6 => xC xM j_M_presses [.ref 0, .int a1] σ6 (sm_ri False (fun x8 σ7 => xC xM j_M_greatestIn [.ref 0, .int a1] σ7 (sm_ri False (fun x10 σ9 => xC xM j_M_forgets [.ref 0] σ9 (sm_rv False (fun σ11 => Q (some (.int x10)) σ11))))))))) ∧ (¬ (x5 = 1) → Q (some (.int (-1))) σ4)))))))))) : xC xM j_M_pressed [.ref 0, .int a1] σ Q := sm_wp_C (M := m_M_pressed) rfl [] 27 h
set_option maxRecDepth 100000 in
set_option maxHeartbeats 4000000 in
theorem w_M_greatestIn (a1 : Int32) (σ : sm_S) (Q : Option Value → sm_S → Prop) (h : xE xM m_M_greatestIn 4 [.ref 0, .int a1, .int (-1), .int 0, .null] [] σ Q) : xC xM j_M_greatestIn [.ref 0, .int a1] σ Q := sm_wp_C (M := m_M_greatestIn) rfl [4, 15] 5 h
set_option maxRecDepth 100000 in
set_option maxHeartbeats 4000000 in
theorem w_M_greatestIn_4 (a1 a2 a3 : Int32) (v4 : Value) (σ : sm_S) (Q : Option Value → sm_S → Prop) (h : ((5 < a3 → Q (some (.int a2)) σ) ∧ (¬ (5 < a3) → xE xM m_M_greatestIn 15 [.ref 0, .int a1, .int a2, .int a3, .int (32 * a1)] [] σ Q))) : xE xM m_M_greatestIn 4 [.ref 0, .int a1, .int a2, .int a3, v4] [] σ Q := sm_wp_E (M := m_M_greatestIn) [4, 15] 8 h
set_option maxRecDepth 100000 in
set_option maxHeartbeats 4000000 in
theorem w_M_greatestIn_15 (a1 a2 a3 a4 : Int32) (σ : sm_S) (Q : Option Value → sm_S → Prop) (h : ((((32 * a1) + 32) ≤ a4 → xE xM m_M_greatestIn 4 [.ref 0, .int a1, .int a2, .int (a3 + 1), .int a4] [] σ Q) ∧ (¬ (((32 * a1) + 32) ≤ a4) → xC xM j_M_areFree [.ref 0, .int a4, .int a3] σ (sm_ri False (fun x2 σ1 => ((x2 = 0 → xE xM m_M_greatestIn 15 [.ref 0, .int a1, .int a2, .int a3, .int (a4 + ((1 : Int32) <<< (a3 &&& 31)))] [] σ1 Q) ∧ (¬ (x2 = 0) → xE xM m_M_greatestIn 15 [.ref 0, .int a1, .int a3, .int a3, .int (a4 + ((1 : Int32) <<< (a3 &&& 31)))] [] σ1 Q))))))) : xE xM m_M_greatestIn 15 [.ref 0, .int a1, .int a2, .int a3, .int a4] [] σ Q := sm_wp_E (M := m_M_greatestIn) [4, 15] 22 h
set_option maxRecDepth 100000 in
set_option maxHeartbeats 4000000 in
theorem w_M_frame (a1 a2 : Int32) (σ : sm_S) (Q : Option Value → sm_S → Prop) (h : (∀ σ1, σ1 = sm_set σ 0 (upd (σ 0) 0 0) → xC xM j_M_isIn [.ref 0, .int a1, .int 0, .int 255] σ1 (sm_ri False (fun x3 σ2 => ((x3 = 0 → Q (some (.int (-1))) σ2) ∧ (¬ (x3 = 0) → xC xM j_M_isIn [.ref 0, .int a2, .int 0, .int 2] σ2 (sm_ri False (fun x5 σ4 => ((x5 ≠ 0 → xC xM j_M_frameAt [.ref 0, .int a1] σ4 (sm_ri False (fun x7 σ6 => (vp_in (x7 + a2) 2662 ∧ ((a2 ≠ 1 → Q (some (.int (σ6 1 ((x7 + a2)).toNatClampNeg))) σ6) ∧ (¬ (a2 ≠ 1) → Q (some (.int ((σ6 1 ((x7 + a2)).toNatClampNeg) - 1))) σ6)))))) ∧ (¬ (x5 ≠ 0) → Q (some (.int (-1))) σ4)))))))))) : xC xM j_M_frame [.ref 0, .int a1, .int a2] σ Q := sm_wp_C (M := m_M_frame) rfl [] 33 h
set_option maxRecDepth 100000 in
set_option maxHeartbeats 4000000 in
theorem w_M_block (a1 a2 : Int32) (σ : sm_S) (Q : Option Value → sm_S → Prop) (h : (∀ σ1, σ1 = sm_set σ 0 (upd (σ 0) 0 0) → xC xM j_M_isBlock [.ref 0, .int a1] σ1 (sm_ri False (fun x3 σ2 => ((x3 = 0 → Q (some (.int (-1))) σ2) ∧ (¬ (x3 = 0) → xC xM j_M_isIn [.ref 0, .int a2, .int 0, .int 8] σ2 (sm_ri False (fun x5 σ4 => ((x5 ≠ 0 → xC xM j_M_of [.ref 0, .int a1, .int (a2 + 1)] σ4 (sm_ri False (fun x7 σ6 => (((a2 + 1) ≠ 6 → Q (some (.int x7)) σ6) ∧ (¬ ((a2 + 1) ≠ 6) → Q (some (.int (x7 - 1))) σ6))))) ∧ (¬ (x5 ≠ 0) → Q (some (.int (-1))) σ4)))))))))) : xC xM j_M_block [.ref 0, .int a1, .int a2] σ Q := sm_wp_C (M := m_M_block) rfl [] 31 h
set_option maxRecDepth 100000 in
set_option maxHeartbeats 4000000 in
theorem w_M_span (a1 a2 : Int32) (σ : sm_S) (Q : Option Value → sm_S → Prop) (h : (∀ σ1, σ1 = sm_set σ 0 (upd (σ 0) 0 0) → xC xM j_M_isSpan [.ref 0, .int a1] σ1 (sm_ri False (fun x3 σ2 => ((x3 = 0 → Q (some (.int (-1))) σ2) ∧ (¬ (x3 = 0) → xC xM j_M_isIn [.ref 0, .int a2, .int 0, .int 10] σ2 (sm_ri False (fun x5 σ4 => ((x5 ≠ 0 → xC xM j_M_spanAt [.ref 0, .int a1] σ4 (sm_ri False (fun x7 σ6 => ((a2 ≠ 0 → ((a2 ≠ 1 → ((6 ≤ a2 → ((a2 ≠ 6 → ((a2 ≠ 7 → ((a2 ≠ 8 → ((a2 ≠ 9 → (vp_in (x7 + 7) 2662 ∧ Q (some (.int ((σ6 1 ((x7 + 7)).toNatClampNeg) - 1))) σ6)) ∧ (¬ (a2 ≠ 9) → (vp_in (x7 + 6) 2662 ∧ Q (some (.int ((σ6 1 ((x7 + 6)).toNatClampNeg) - 1))) σ6)))) ∧ (¬ (a2 ≠ 8) → (vp_in (x7 + 4) 2662 ∧ Q (some (.int (σ6 1 ((x7 + 4)).toNatClampNeg))) σ6)))) ∧ (¬ (a2 ≠ 7) → (vp_in (x7 + 3) 2662 ∧ Q (some (.int (σ6 1 ((x7 + 3)).toNatClampNeg))) σ6)))) ∧ (¬ (a2 ≠ 6) → (vp_in (x7 + 2) 2662 ∧ Q (some (.int (σ6 1 ((x7 + 2)).toNatClampNeg))) σ6)))) ∧ (¬ (6 ≤ a2) → xC xM j_M_manyIn [.ref 0, .int a1, .int (a2 - 1)] σ6 (sm_ri False (fun x9 σ8 => Q (some (.int x9)) σ8))))) ∧ (¬ (a2 ≠ 1) → xC xM j_M_zoneOf [.ref 0, .int a1] σ6 (sm_ri False (fun x11 σ10 => Q (some (.int x11)) σ10))))) ∧ (¬ (a2 ≠ 0) → (vp_in (x7 + 0) 2662 ∧ Q (some (.int (σ6 1 ((x7 + 0)).toNatClampNeg))) σ6)))))) ∧ (¬ (x5 ≠ 0) → Q (some (.int (-1))) σ4)))))))))) : xC xM j_M_span [.ref 0, .int a1, .int a2] σ Q := sm_wp_C (M := m_M_span) rfl [] 48 h
set_option maxRecDepth 100000 in
set_option maxHeartbeats 4000000 in
theorem w_M_task (a1 a2 : Int32) (σ : sm_S) (Q : Option Value → sm_S → Prop) (h : (∀ σ1, σ1 = sm_set σ 0 (upd (σ 0) 0 0) → xC xM j_M_isTask [.ref 0, .int a1] σ1 (sm_ri False (fun x3 σ2 => ((x3 = 0 → Q (some (.int (-1))) σ2) ∧ (¬ (x3 = 0) → xC xM j_M_isIn [.ref 0, .int a2, .int 0, .int 5] σ2 (sm_ri False (fun x5 σ4 => ((x5 ≠ 0 → xC xM j_M_taskAt [.ref 0, .int a1] σ4 (sm_ri False (fun x7 σ6 => ((a2 ≠ 0 → ((a2 ≠ 1 → ((a2 ≠ 2 → ((a2 ≠ 3 → ((a2 ≠ 4 → xC xM j_M_ownsMany [.ref 0, .int a1, .int 0] σ6 (sm_ri False (fun x9 σ8 => Q (some (.int x9)) σ8))) ∧ (¬ (a2 ≠ 4) → xC xM j_M_ownsMany [.ref 0, .int a1, .int 1] σ6 (sm_ri False (fun x11 σ10 => Q (some (.int x11)) σ10))))) ∧ (¬ (a2 ≠ 3) → (vp_in (x7 + 5) 2662 ∧ Q (some (.int (σ6 1 ((x7 + 5)).toNatClampNeg))) σ6)))) ∧ (¬ (a2 ≠ 2) → (vp_in (x7 + 1) 2662 ∧ Q (some (.int ((σ6 1 ((x7 + 1)).toNatClampNeg) - 1))) σ6)))) ∧ (¬ (a2 ≠ 1) → (vp_in (x7 + 1) 2662 ∧ (((σ6 1 ((x7 + 1)).toNatClampNeg) ≤ 0 → Q (some (.int 0)) σ6) ∧ (¬ ((σ6 1 ((x7 + 1)).toNatClampNeg) ≤ 0) → Q (some (.int 1)) σ6)))))) ∧ (¬ (a2 ≠ 0) → (vp_in (x7 + 0) 2662 ∧ Q (some (.int (σ6 1 ((x7 + 0)).toNatClampNeg))) σ6)))))) ∧ (¬ (x5 ≠ 0) → Q (some (.int (-1))) σ4)))))))))) : xC xM j_M_task [.ref 0, .int a1, .int a2] σ Q := sm_wp_C (M := m_M_task) rfl [] 38 h
set_option maxRecDepth 100000 in
set_option maxHeartbeats 4000000 in
theorem w_M_ownsMany (a1 a2 : Int32) (σ : sm_S) (Q : Option Value → sm_S → Prop) (h : xE xM m_M_ownsMany 5 [.ref 0, .int a1, .int a2, .int 0, .int 0] [] σ Q) : xC xM j_M_ownsMany [.ref 0, .int a1, .int a2] σ Q := sm_wp_C (M := m_M_ownsMany) rfl [5] 5 h
set_option maxRecDepth 100000 in
set_option maxHeartbeats 4000000 in
theorem w_M_ownsMany_5 (a1 a2 a3 a4 : Int32) (σ : sm_S) (Q : Option Value → sm_S → Prop) (h : ((96 ≤ a4 → Q (some (.int a3)) σ) ∧ (¬ (96 ≤ a4) → xC xM j_M_isBlock [.ref 0, .int a4] σ (sm_ri False (fun x2 σ1 => ((x2 = 0 → xE xM m_M_ownsMany 5 [.ref 0, .int a1, .int a2, .int a3, .int (a4 + 1)] [] σ1 Q) ∧ (¬ (x2 = 0) → ((a2 = 0 → xC xM j_M_hasPin [.ref 0, .int a1, .int a4] σ1 (sm_ri False (fun x4 σ3 => ((x4 = 0 → xE xM m_M_ownsMany 5 [.ref 0, .int a1, .int a2, .int a3, .int (a4 + 1)] [] σ3 Q) ∧ (¬ (x4 = 0) → xE xM m_M_ownsMany 5 [.ref 0, .int a1, .int a2, .int (a3 + 1), .int (a4 + 1)] [] σ3 Q))))) ∧ (¬ (a2 = 0) → xC xM j_M_of [.ref 0, .int a4, .int 4] σ1 (sm_ri False (fun x6 σ5 => ((x6 ≠ a1 → xE xM m_M_ownsMany 5 [.ref 0, .int a1, .int a2, .int a3, .int (a4 + 1)] [] σ5 Q) ∧ (¬ (x6 ≠ a1) → xE xM m_M_ownsMany 5 [.ref 0, .int a1, .int a2, .int (a3 + 1), .int (a4 + 1)] [] σ5 Q))))))))))))) : xE xM m_M_ownsMany 5 [.ref 0, .int a1, .int a2, .int a3, .int a4] [] σ Q := sm_wp_E (M := m_M_ownsMany) [5] 23 h
set_option maxRecDepth 100000 in
set_option maxHeartbeats 4000000 in
theorem w_M_zone (a1 a2 : Int32) (σ : sm_S) (Q : Option Value → sm_S → Prop) (h : (∀ σ1, σ1 = sm_set σ 0 (upd (σ 0) 0 0) → xC xM j_M_isIn [.ref 0, .int a1, .int 0, .int 1] σ1 (sm_ri False (fun x3 σ2 => ((x3 = 0 → Q (some (.int (-1))) σ2) ∧ (¬ (x3 = 0) → xC xM j_M_isIn [.ref 0, .int a2, .int 0, .int 2] σ2 (sm_ri False (fun x5 σ4 => ((x5 ≠ 0 → ((a2 ≠ 0 → ((a2 ≠ 1 → xE xM m_M_zone 56 [.ref 0, .int a1, .int a2, .int (-1), .int 0] [] σ4 Q) ∧ (¬ (a2 ≠ 1) → xC xM j_M_freeIn [.ref 0, .int a1] σ4 (sm_ri False (fun x7 σ6 => Q (some (.int x7)) σ6))))) ∧ (¬ (a2 ≠ 0) → xC xM j_M_framesOf [.ref 0, .int a1] σ4 (sm_ri False (fun x9 σ8 => (¬ (32 : Int32) = 0 ∧ Q (some (.int (x9 / (32 : Int32)))) σ8)))))) ∧ (¬ (x5 ≠ 0) → Q (some (.int (-1))) σ4)))))))))) : xC xM j_M_zone [.ref 0, .int a1, .int a2] σ Q := sm_wp_C (M := m_M_zone) rfl [56] 25 h
set_option maxRecDepth 100000 in
set_option maxHeartbeats 4000000 in
theorem w_M_zone_56 (a1 a2 a3 a4 : Int32) (σ : sm_S) (Q : Option Value → sm_S → Prop) (h : ((8 ≤ a4 → Q (some (.int a3)) σ) ∧ (¬ (8 ≤ a4) → xC xM j_M_zoneOf [.ref 0, .int a4] σ (sm_ri False (fun x2 σ1 => ((x2 ≠ a1 → xE xM m_M_zone 56 [.ref 0, .int a1, .int a2, .int a3, .int (a4 + 1)] [] σ1 Q) ∧ (¬ (x2 ≠ a1) → xC xM j_M_greatestIn [.ref 0, .int a4] σ1 (sm_ri False (fun x4 σ3 => ((x4 ≤ a3 → xE xM m_M_zone 56 [.ref 0, .int a1, .int a2, .int a3, .int (a4 + 1)] [] σ3 Q) ∧ (¬ (x4 ≤ a3) → xC xM j_M_greatestIn [.ref 0, .int a4] σ3 (sm_ri False (fun x6 σ5 => xE xM m_M_zone 56 [.ref 0, .int a1, .int a2, .int x6, .int (a4 + 1)] [] σ5 Q))))))))))))) : xE xM m_M_zone 56 [.ref 0, .int a1, .int a2, .int a3, .int a4] [] σ Q := sm_wp_E (M := m_M_zone) [56] 20 h
set_option maxRecDepth 100000 in
set_option maxHeartbeats 4000000 in
theorem w_M_freeIn (a1 : Int32) (σ : sm_S) (Q : Option Value → sm_S → Prop) (h : xE xM m_M_freeIn 4 [.ref 0, .int a1, .int 0, .int 0] [] σ Q) : xC xM j_M_freeIn [.ref 0, .int a1] σ Q := sm_wp_C (M := m_M_freeIn) rfl [4] 5 h
set_option maxRecDepth 100000 in
set_option maxHeartbeats 4000000 in
theorem w_M_freeIn_4 (a1 a2 a3 : Int32) (σ : sm_S) (Q : Option Value → sm_S → Prop) (h : ((256 ≤ a3 → Q (some (.int a2)) σ) ∧ (¬ (256 ≤ a3) → xC xM j_M_isFree [.ref 0, .int a3] σ (sm_ri False (fun x2 σ1 => ((x2 = 0 → xE xM m_M_freeIn 4 [.ref 0, .int a1, .int a2, .int (a3 + 1)] [] σ1 Q) ∧ (¬ (x2 = 0) → xC xM j_M_spanOf [.ref 0, .int a3] σ1 (sm_ri False (fun x4 σ3 => xC xM j_M_zoneOf [.ref 0, .int x4] σ3 (sm_ri False (fun x6 σ5 => ((x6 ≠ a1 → xE xM m_M_freeIn 4 [.ref 0, .int a1, .int a2, .int (a3 + 1)] [] σ5 Q) ∧ (¬ (x6 ≠ a1) → xE xM m_M_freeIn 4 [.ref 0, .int a1, .int (a2 + 1), .int (a3 + 1)] [] σ5 Q))))))))))))) : xE xM m_M_freeIn 4 [.ref 0, .int a1, .int a2, .int a3] [] σ Q := sm_wp_E (M := m_M_freeIn) [4] 21 h
set_option maxRecDepth 100000 in
set_option maxHeartbeats 4000000 in
theorem w_M_loose (a1 a2 : Int32) (σ : sm_S) (Q : Option Value → sm_S → Prop) (h : (∀ σ1, σ1 = sm_set σ 0 (upd (σ 0) 0 0) → xC xM j_M_isIn [.ref 0, .int a1, .int 0, .int 1] σ1 (sm_ri False (fun x3 σ2 => ((x3 = 0 → Q (some (.int (-1))) σ2) ∧ (¬ (x3 = 0) → xC xM j_M_isIn [.ref 0, .int a2, .int 0, .int 5] σ2 (sm_ri False (fun x5 σ4 => ((x5 ≠ 0 → xE xM m_M_loose 32 [.ref 0, .int a1, .int a2, .int 0, .int 0] [] σ4 Q) ∧ (¬ (x5 ≠ 0) → Q (some (.int (-1))) σ4)))))))))) : xC xM j_M_loose [.ref 0, .int a1, .int a2] σ Q := sm_wp_C (M := m_M_loose) rfl [32] 20 h
set_option maxRecDepth 100000 in
set_option maxHeartbeats 4000000 in
theorem w_M_loose_32 (a1 a2 a3 a4 : Int32) (σ : sm_S) (Q : Option Value → sm_S → Prop) (h : ((256 ≤ a4 → Q (some (.int a3)) σ) ∧ (¬ (256 ≤ a4) → xC xM j_M_isFree [.ref 0, .int a4] σ (sm_ri False (fun x2 σ1 => ((x2 = 0 → xE xM m_M_loose 32 [.ref 0, .int a1, .int a2, .int a3, .int (a4 + 1)] [] σ1 Q) ∧ (¬ (x2 = 0) → xC xM j_M_spanOf [.ref 0, .int a4] σ1 (sm_ri False (fun x4 σ3 => xC xM j_M_zoneOf [.ref 0, .int x4] σ3 (sm_ri False (fun x6 σ5 => ((x6 ≠ a1 → xE xM m_M_loose 32 [.ref 0, .int a1, .int a2, .int a3, .int (a4 + 1)] [] σ5 Q) ∧ (¬ (x6 ≠ a1) → xC xM j_M_areFree [.ref 0, .int a4, .int a2] σ5 (sm_ri False (fun x8 σ7 => ((x8 ≠ 0 → xE xM m_M_loose 32 [.ref 0, .int a1, .int a2, .int a3, .int (a4 + 1)] [] σ7 Q) ∧ (¬ (x8 ≠ 0) → xE xM m_M_loose 32 [.ref 0, .int a1, .int a2, .int (a3 + 1), .int (a4 + 1)] [] σ7 Q))))))))))))))))) : xE xM m_M_loose 32 [.ref 0, .int a1, .int a2, .int a3, .int a4] [] σ Q := sm_wp_E (M := m_M_loose) [32] 26 h
set_option maxRecDepth 100000 in
set_option maxHeartbeats 4000000 in
theorem w_M_place (a1 a2 a3 : Int32) (σ : sm_S) (Q : Option Value → sm_S → Prop) (h : (∀ σ1, σ1 = sm_set σ 0 (upd (σ 0) 0 0) → xC xM j_M_isTask [.ref 0, .int a1] σ1 (sm_ri False (fun x3 σ2 => ((x3 = 0 → Q (some (.int (-1))) σ2) ∧ (¬ (x3 = 0) → xC xM j_M_isIn [.ref 0, .int a2, .int 0, .int 2] σ2 (sm_ri False (fun x5 σ4 => ((x5 = 0 → Q (some (.int (-1))) σ4) ∧ (¬ (x5 = 0) → xC xM j_M_isIn [.ref 0, .int a3, .int 0, .int 4] σ4 (sm_ri False (fun x7 σ6 => ((x7 = 0 → Q (some (.int (-1))) σ6) ∧ (¬ (x7 = 0) → xC xM j_M_bestPlace [.ref 0, .int a1, .int a2, .int a3, .int 0] σ6 (sm_ri False (fun x9 σ8 => Q (some (.int x9)) σ8)))))))))))))))) : xC xM j_M_place [.ref 0, .int a1, .int a2, .int a3] σ Q := sm_wp_C (M := m_M_place) rfl [] 28 h
set_option maxRecDepth 100000 in
set_option maxHeartbeats 4000000 in
theorem w_M_hole (a1 : Int32) (σ : sm_S) (Q : Option Value → sm_S → Prop) (h : (∀ σ1, σ1 = sm_set σ 0 (upd (σ 0) 0 0) → xC xM j_M_isIn [.ref 0, .int a1, .int 0, .int 255] σ1 (sm_ri False (fun x3 σ2 => ((x3 = 0 → Q (some (.int (-1))) σ2) ∧ (¬ (x3 = 0) → xC xM j_M_isFree [.ref 0, .int a1] σ2 (sm_ri False (fun x5 σ4 => ((x5 = 0 → Q (some (.int (-1))) σ4) ∧ (¬ (x5 = 0) → xC xM j_M_holeOf [.ref 0, .int a1] σ4 (sm_ri False (fun x7 σ6 => Q (some (.int x7)) σ6)))))))))))) : xC xM j_M_hole [.ref 0, .int a1] σ Q := sm_wp_C (M := m_M_hole) rfl [] 19 h
set_option maxRecDepth 100000 in
set_option maxHeartbeats 4000000 in
theorem w_M_holeOf (a1 : Int32) (σ : sm_S) (Q : Option Value → sm_S → Prop) (h : xE xM m_M_holeOf 2 [.ref 0, .int a1, .int 0] [] σ Q) : xC xM j_M_holeOf [.ref 0, .int a1] σ Q := sm_wp_C (M := m_M_holeOf) rfl [2] 3 h
set_option maxRecDepth 100000 in
set_option maxHeartbeats 4000000 in
theorem w_M_holeOf_2 (a1 a2 : Int32) (σ : sm_S) (Q : Option Value → sm_S → Prop) (h : ((5 ≤ a2 → Q (some (.int a2)) σ) ∧ (¬ (5 ≤ a2) → xC xM j_M_areFree [.ref 0, .int a1, .int (a2 + 1)] σ (sm_ri False (fun x2 σ1 => ((x2 = 0 → Q (some (.int a2)) σ1) ∧ (¬ (x2 = 0) → xE xM m_M_holeOf 2 [.ref 0, .int a1, .int (a2 + 1)] [] σ1 Q))))))) : xE xM m_M_holeOf 2 [.ref 0, .int a1, .int a2] [] σ Q := sm_wp_E (M := m_M_holeOf) [2] 16 h
set_option maxRecDepth 100000 in
set_option maxHeartbeats 4000000 in
theorem w_M_at (a1 a2 : Int32) (σ : sm_S) (Q : Option Value → sm_S → Prop) (h : (∀ σ1, σ1 = sm_set σ 0 (upd (σ 0) 0 0) → xC xM j_M_isTask [.ref 0, .int a1] σ1 (sm_ri False (fun x3 σ2 => ((x3 = 0 → Q (some (.int (-1))) σ2) ∧ (¬ (x3 = 0) → xC xM j_M_isIn [.ref 0, .int a2, .int 0, .int 1] σ2 (sm_ri False (fun x5 σ4 => ((x5 ≠ 0 → xE xM m_M_at 30 [.ref 0, .int a1, .int a2, .int 0, .int 0] [] σ4 Q) ∧ (¬ (x5 ≠ 0) → Q (some (.int (-1))) σ4)))))))))) : xC xM j_M_at [.ref 0, .int a1, .int a2] σ Q := sm_wp_C (M := m_M_at) rfl [30] 18 h
set_option maxRecDepth 100000 in
set_option maxHeartbeats 4000000 in
theorem w_M_at_30 (a1 a2 a3 a4 : Int32) (σ : sm_S) (Q : Option Value → sm_S → Prop) (h : ((256 ≤ a4 → Q (some (.int a3)) σ) ∧ (¬ (256 ≤ a4) → xC xM j_M_spanOf [.ref 0, .int a4] σ (sm_ri False (fun x2 σ1 => (¬ (2 : Int32) = 0 ∧ (((x2 - x2 / (2 : Int32) * (2 : Int32)) ≠ a2 → xE xM m_M_at 30 [.ref 0, .int a1, .int a2, .int a3, .int (a4 + 1)] [] σ1 Q) ∧ (¬ ((x2 - x2 / (2 : Int32) * (2 : Int32)) ≠ a2) → xC xM j_M_stateOf [.ref 0, .int a4] σ1 (sm_ri False (fun x4 σ3 => ((x4 ≠ 3 → xE xM m_M_at 30 [.ref 0, .int a1, .int a2, .int a3, .int (a4 + 1)] [] σ3 Q) ∧ (¬ (x4 ≠ 3) → xC xM j_M_frameAt [.ref 0, .int a4] σ3 (sm_ri False (fun x6 σ5 => (vp_in (x6 + 1) 2662 ∧ xC xM j_M_of [.ref 0, .int ((σ5 1 ((x6 + 1)).toNatClampNeg) - 1), .int 4] σ5 (sm_ri False (fun x8 σ7 => ((x8 ≠ a1 → xE xM m_M_at 30 [.ref 0, .int a1, .int a2, .int a3, .int (a4 + 1)] [] σ7 Q) ∧ (¬ (x8 ≠ a1) → xE xM m_M_at 30 [.ref 0, .int a1, .int a2, .int (a3 + 1), .int (a4 + 1)] [] σ7 Q))))))))))))))))))) : xE xM m_M_at 30 [.ref 0, .int a1, .int a2, .int a3, .int a4] [] σ Q := sm_wp_E (M := m_M_at) [30] 37 h
set_option maxRecDepth 100000 in
set_option maxHeartbeats 4000000 in
theorem w_M_log (a1 a2 : Int32) (σ : sm_S) (Q : Option Value → sm_S → Prop) (h : (∀ σ1, σ1 = sm_set σ 0 (upd (σ 0) 0 0) → ((a1 < 0 → Q (some (.int (-1))) σ1) ∧ (¬ (a1 < 0) → ((60 ≤ a1 → Q (some (.int (-1))) σ1) ∧ (¬ (60 ≤ a1) → (vp_in (5 : Int32) 2662 ∧ (((σ1 1 ((5 : Int32)).toNatClampNeg) ≤ a1 → Q (some (.int (-1))) σ1) ∧ (¬ ((σ1 1 ((5 : Int32)).toNatClampNeg) ≤ a1) → xC xM j_M_isIn [.ref 0, .int a2, .int 0, .int 3] σ1 (sm_ri False (fun x3 σ2 => ((x3 ≠ 0 → (vp_in (5 : Int32) 2662 ∧ (¬ (60 : Int32) = 0 ∧ (vp_in ((2422 + (4 * ((((σ2 1 ((5 : Int32)).toNatClampNeg) - 1) - a1) - (((σ2 1 ((5 : Int32)).toNatClampNeg) - 1) - a1) / (60 : Int32) * (60 : Int32)))) + a2) 2662 ∧ Q (some (.int (σ2 1 (((2422 + (4 * ((((σ2 1 ((5 : Int32)).toNatClampNeg) - 1) - a1) - (((σ2 1 ((5 : Int32)).toNatClampNeg) - 1) - a1) / (60 : Int32) * (60 : Int32)))) + a2)).toNatClampNeg))) σ2)))) ∧ (¬ (x3 ≠ 0) → Q (some (.int (-1))) σ2))))))))))))) : xC xM j_M_log [.ref 0, .int a1, .int a2] σ Q := sm_wp_C (M := m_M_log) rfl [] 41 h
set_option maxRecDepth 100000 in
set_option maxHeartbeats 4000000 in
theorem w_M_count (a1 : Int32) (σ : sm_S) (Q : Option Value → sm_S → Prop) (h : (∀ σ1, σ1 = sm_set σ 0 (upd (σ 0) 0 0) → xC xM j_M_isIn [.ref 0, .int a1, .int 0, .int 10] σ1 (sm_ri False (fun x3 σ2 => ((x3 = 0 → Q (some (.int (-1))) σ2) ∧ (¬ (x3 = 0) → (vp_in (7 + a1) 2662 ∧ Q (some (.int (σ2 1 ((7 + a1)).toNatClampNeg))) σ2))))))) : xC xM j_M_count [.ref 0, .int a1] σ Q := sm_wp_C (M := m_M_count) rfl [] 18 h
set_option maxRecDepth 100000 in
set_option maxHeartbeats 4000000 in
theorem w_M_look (a1 : Int32) (σ : sm_S) (Q : Option Value → sm_S → Prop) (h : (∀ σ1, σ1 = sm_set σ 0 (upd (σ 0) 0 0) → xC xM j_M_isIn [.ref 0, .int a1, .int 0, .int 3] σ1 (sm_ri False (fun x3 σ2 => ((x3 = 0 → ((a1 ≠ 4 → ((a1 ≠ 5 → ((a1 ≠ 6 → xC xM j_M_isIn [.ref 0, .int a1, .int 7, .int 10] σ2 (sm_ri False (fun x5 σ4 => ((x5 = 0 → ((a1 ≠ 11 → ((a1 ≠ 12 → ((a1 ≠ 13 → ((a1 ≠ 14 → Q (some (.int (-1))) σ4) ∧ (¬ (a1 ≠ 14) → xC xM j_M_framesOf [.ref 0, .int 1] σ4 (sm_ri False (fun x7 σ6 => xC xM j_M_framesOf [.ref 0, .int 0] σ6 (sm_ri False (fun x9 σ8 => (¬ x9 = 0 ∧ Q (some (.int ((100 * x7) / x9))) σ8)))))))) ∧ (¬ (a1 ≠ 13) → (vp_in (5 : Int32) 2662 ∧ Q (some (.int (σ4 1 ((5 : Int32)).toNatClampNeg))) σ4)))) ∧ (¬ (a1 ≠ 12) → xC xM j_M_goers [.ref 0] σ4 (sm_ri False (fun x11 σ10 => Q (some (.int x11)) σ10))))) ∧ (¬ (a1 ≠ 11) → xC xM j_M_waiters [.ref 0] σ4 (sm_ri False (fun x13 σ12 => Q (some (.int x13)) σ12))))) ∧ (¬ (x5 = 0) → xC xM j_M_framesIn [.ref 0, .int (a1 - 6)] σ4 (sm_ri False (fun x15 σ14 => Q (some (.int x15)) σ14))))))) ∧ (¬ (a1 ≠ 6) → xC xM j_M_framesOf [.ref 0, .int 0] σ2 (sm_ri False (fun x17 σ16 => xC xM j_M_framesOf [.ref 0, .int 1] σ16 (sm_ri False (fun x19 σ18 => (¬ (32 : Int32) = 0 ∧ Q (some (.int ((x17 + x19) / (32 : Int32)))) σ18)))))))) ∧ (¬ (a1 ≠ 5) → xC xM j_M_blocks [.ref 0] σ2 (sm_ri False (fun x21 σ20 => Q (some (.int x21)) σ20))))) ∧ (¬ (a1 ≠ 4) → (vp_in (4 : Int32) 2662 ∧ Q (some (.int (σ2 1 ((4 : Int32)).toNatClampNeg))) σ2)))) ∧ (¬ (x3 = 0) → xC xM j_M_settingOf [.ref 0, .int a1] σ2 (sm_ri False (fun x23 σ22 => Q (some (.int x23)) σ22)))))))) : xC xM j_M_look [.ref 0, .int a1] σ Q := sm_wp_C (M := m_M_look) rfl [] 48 h
set_option maxRecDepth 100000 in
set_option maxHeartbeats 4000000 in
theorem w_M_blocks (σ : sm_S) (Q : Option Value → sm_S → Prop) (h : xE xM m_M_blocks 4 [.ref 0, .int 0, .int 0] [] σ Q) : xC xM j_M_blocks [.ref 0] σ Q := sm_wp_C (M := m_M_blocks) rfl [4] 5 h
set_option maxRecDepth 100000 in
set_option maxHeartbeats 4000000 in
theorem w_M_blocks_4 (a1 a2 : Int32) (σ : sm_S) (Q : Option Value → sm_S → Prop) (h : ((96 ≤ a2 → Q (some (.int a1)) σ) ∧ (¬ (96 ≤ a2) → xC xM j_M_of [.ref 0, .int a2, .int 0] σ (sm_ri False (fun x2 σ1 => xE xM m_M_blocks 4 [.ref 0, .int (a1 + x2), .int (a2 + 1)] [] σ1 Q))))) : xE xM m_M_blocks 4 [.ref 0, .int a1, .int a2] [] σ Q := sm_wp_E (M := m_M_blocks) [4] 13 h
set_option maxRecDepth 100000 in
set_option maxHeartbeats 4000000 in
theorem w_M_framesIn (a1 : Int32) (σ : sm_S) (Q : Option Value → sm_S → Prop) (h : xE xM m_M_framesIn 4 [.ref 0, .int a1, .int 0, .int 0] [] σ Q) : xC xM j_M_framesIn [.ref 0, .int a1] σ Q := sm_wp_C (M := m_M_framesIn) rfl [4] 5 h
set_option maxRecDepth 100000 in
set_option maxHeartbeats 4000000 in
theorem w_M_framesIn_4 (a1 a2 a3 : Int32) (σ : sm_S) (Q : Option Value → sm_S → Prop) (h : ((8 ≤ a3 → Q (some (.int a2)) σ) ∧ (¬ (8 ≤ a3) → xC xM j_M_manyIn [.ref 0, .int a3, .int a1] σ (sm_ri False (fun x2 σ1 => xE xM m_M_framesIn 4 [.ref 0, .int a1, .int (a2 + x2), .int (a3 + 1)] [] σ1 Q))))) : xE xM m_M_framesIn 4 [.ref 0, .int a1, .int a2, .int a3] [] σ Q := sm_wp_E (M := m_M_framesIn) [4] 13 h
set_option maxRecDepth 100000 in
set_option maxHeartbeats 4000000 in
theorem w_M_waiters (σ : sm_S) (Q : Option Value → sm_S → Prop) (h : xE xM m_M_waiters 4 [.ref 0, .int 0, .int 0] [] σ Q) : xC xM j_M_waiters [.ref 0] σ Q := sm_wp_C (M := m_M_waiters) rfl [4] 5 h
set_option maxRecDepth 100000 in
set_option maxHeartbeats 4000000 in
theorem w_M_waiters_4 (a1 a2 : Int32) (σ : sm_S) (Q : Option Value → sm_S → Prop) (h : ((6 ≤ a2 → Q (some (.int a1)) σ) ∧ (¬ (6 ≤ a2) → xC xM j_M_taskAt [.ref 0, .int a2] σ (sm_ri False (fun x2 σ1 => (vp_in (x2 + 1) 2662 ∧ (((σ1 1 ((x2 + 1)).toNatClampNeg) ≤ 0 → xE xM m_M_waiters 4 [.ref 0, .int a1, .int (a2 + 1)] [] σ1 Q) ∧ (¬ ((σ1 1 ((x2 + 1)).toNatClampNeg) ≤ 0) → xE xM m_M_waiters 4 [.ref 0, .int (a1 ||| ((1 : Int32) <<< (a2 &&& 31))), .int (a2 + 1)] [] σ1 Q)))))))) : xE xM m_M_waiters 4 [.ref 0, .int a1, .int a2] [] σ Q := sm_wp_E (M := m_M_waiters) [4] 21 h
set_option maxRecDepth 100000 in
set_option maxHeartbeats 4000000 in
theorem w_M_goers (σ : sm_S) (Q : Option Value → sm_S → Prop) (h : xE xM m_M_goers 4 [.ref 0, .int 0, .int 0] [] σ Q) : xC xM j_M_goers [.ref 0] σ Q := sm_wp_C (M := m_M_goers) rfl [4] 5 h
set_option maxRecDepth 100000 in
set_option maxHeartbeats 4000000 in
theorem w_M_goers_4 (a1 a2 : Int32) (σ : sm_S) (Q : Option Value → sm_S → Prop) (h : ((8 ≤ a2 → Q (some (.int a1)) σ) ∧ (¬ (8 ≤ a2) → xC xM j_M_isGoing [.ref 0, .int a2] σ (sm_ri False (fun x2 σ1 => ((x2 = 0 → xE xM m_M_goers 4 [.ref 0, .int a1, .int (a2 + 1)] [] σ1 Q) ∧ (¬ (x2 = 0) → xE xM m_M_goers 4 [.ref 0, .int (a1 ||| ((1 : Int32) <<< (a2 &&& 31))), .int (a2 + 1)] [] σ1 Q))))))) : xE xM m_M_goers 4 [.ref 0, .int a1, .int a2] [] σ Q := sm_wp_E (M := m_M_goers) [4] 16 h
set_option maxRecDepth 100000 in
set_option maxHeartbeats 4000000 in
theorem w_M_image (a1 : Int32) (σ : sm_S) (Q : Option Value → sm_S → Prop) (h : (∀ σ1, σ1 = sm_set σ 0 (upd (σ 0) 0 0) → ((a1 ≠ 0 → (((1 : Int32) = 0 ∨ (1 : Int32) = 1) ∧ ∀ σ2, σ2 = sm_set σ1 0 (upd (σ1 0) 6 1) → xE xM m_M_image 25 [.ref 0, .int a1, .int 0] [] σ2 Q)) ∧ (¬ (a1 ≠ 0) → (((σ1 0 6) ≠ 0 → (((1 : Int32) = 0 ∨ (1 : Int32) = 1) ∧ ∀ σ3, σ3 = sm_set σ1 0 (upd (σ1 0) 6 1) → xE xM m_M_image 25 [.ref 0, .int a1, .int 0] [] σ3 Q)) ∧ (¬ ((σ1 0 6) ≠ 0) → (((0 : Int32) = 0 ∨ (0 : Int32) = 1) ∧ Q (some (.int 0)) σ1))))))) : xC xM j_M_image [.ref 0, .int a1] σ Q := sm_wp_C (M := m_M_image) rfl [25] 14 h
set_option maxRecDepth 100000 in
set_option maxHeartbeats 4000000 in
theorem w_M_image_25 (a1 a2 : Int32) (σ : sm_S) (Q : Option Value → sm_S → Prop) (h : ((2662 ≤ a2 → (((1 : Int32) = 0 ∨ (1 : Int32) = 1) ∧ Q (some (.int 1)) σ)) ∧ (¬ (2662 ≤ a2) → ((a1 = 0 → (vp_in a2 2662 ∧ (vp_in a2 2662 ∧ ∀ σ1, σ1 = sm_set σ 1 (upd (σ 1) (a2).toNatClampNeg (σ 5 (a2).toNatClampNeg)) → xE xM m_M_image 25 [.ref 0, .int a1, .int (a2 + 1)] [] σ1 Q))) ∧ (¬ (a1 = 0) → (vp_in a2 2662 ∧ (vp_in a2 2662 ∧ ∀ σ2, σ2 = sm_set σ 5 (upd (σ 5) (a2).toNatClampNeg (σ 1 (a2).toNatClampNeg)) → xE xM m_M_image 25 [.ref 0, .int a1, .int (a2 + 1)] [] σ2 Q))))))) : xE xM m_M_image 25 [.ref 0, .int a1, .int a2] [] σ Q := sm_wp_E (M := m_M_image) [25] 17 h
