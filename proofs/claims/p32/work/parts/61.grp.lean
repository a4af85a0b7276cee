section
/-! ===== the class: the world of one Memory (0 .. 40) and its Going (41) ===== -/
abbrev xT (k : Nat) : List Int32 := sm_TB.getD k []
def xD : List sm_Sh := [.inr (4, [.inr 1, .inr 8, .inr 17, .inr 26, .inr 34, .inr 39, .inr 40, .inl 0]), .inr (1, [.inr 2, .inr 3, .inr 4, .inr 5, .inr 6, .inr 7]), .inl (0, 8), .inl (0, 8), .inl (0, 8), .inl (0, 8), .inl (0, 256), .inl (0, 256), .inr (0, [.inr 9, .inr 10, .inr 11, .inr 12, .inr 13, .inr 14, .inr 15, .inr 16, .inl 0]), .inl (0, 96), .inl (0, 96), .inl (0, 96), .inl (0, 96), .inl (0, 96), .inl (0, 96), .inl (0, 96), .inl (0, 96), .inr (5, [.inr 18, .inr 19, .inr 20, .inr 21, .inr 22, .inr 23, .inr 24, .inr 25]), .inl (0, 8), .inl (0, 8), .inl (0, 8), .inl (0, 8), .inl (0, 8), .inl (0, 8), .inl (0, 8), .inl (0, 8), .inr (6, [.inr 27, .inr 28, .inr 29, .inr 30, .inr 31, .inr 32, .inr 33, .inl 0]), .inl (0, 6), .inl (0, 6), .inl (0, 6), .inl (0, 6), .inl (0, 6), .inl (0, 6), .inl (0, 6), .inr (3, [.inr 35, .inr 36, .inr 37, .inr 38, .inl 0, .inl 0]), .inl (0, 60), .inl (0, 60), .inl (0, 60), .inl (0, 60), .inl (0, 4), .inl (0, 11), .inr (2, [.inr 0, .inr 1, .inr 8, .inr 17])]
set_option maxRecDepth 100000 in
set_option maxHeartbeats 4000000 in
theorem d_A_isTask (a0 : Int32) (σ : sm_S) (Q : Option Value → sm_S → Prop) (h : ((a0 < 0 → (((0 : Int32) = 0 ∨ (0 : Int32) = 1) ∧ Q (some (.int 0)) σ)) ∧ (¬ (a0 < 0) → ((6 ≤ a0 → (((0 : Int32) = 0 ∨ (0 : Int32) = 1) ∧ Q (some (.int 0)) σ)) ∧ (¬ (6 ≤ a0) → (((1 : Int32) = 0 ∨ (1 : Int32) = 1) ∧ Q (some (.int 1)) σ)))))) : xC xD j_A_isTask [.int a0] σ Q := sm_wp_C (M := m_A_isTask) rfl [] 9 h
set_option maxRecDepth 100000 in
set_option maxHeartbeats 4000000 in
theorem d_A_isNode (a0 : Int32) (σ : sm_S) (Q : Option Value → sm_S → Prop) (h : ((a0 < 0 → (((0 : Int32) = 0 ∨ (0 : Int32) = 1) ∧ Q (some (.int 0)) σ)) ∧ (¬ (a0 < 0) → ((2 ≤ a0 → (((0 : Int32) = 0 ∨ (0 : Int32) = 1) ∧ Q (some (.int 0)) σ)) ∧ (¬ (2 ≤ a0) → (((1 : Int32) = 0 ∨ (1 : Int32) = 1) ∧ Q (some (.int 1)) σ)))))) : xC xD j_A_isNode [.int a0] σ Q := sm_wp_C (M := m_A_isNode) rfl [] 9 h
set_option maxRecDepth 100000 in
set_option maxHeartbeats 4000000 in
theorem d_A_isKind (a0 : Int32) (σ : sm_S) (Q : Option Value → sm_S → Prop) (h : ((a0 < 0 → (((0 : Int32) = 0 ∨ (0 : Int32) = 1) ∧ Q (some (.int 0)) σ)) ∧ (¬ (a0 < 0) → ((3 ≤ a0 → (((0 : Int32) = 0 ∨ (0 : Int32) = 1) ∧ Q (some (.int 0)) σ)) ∧ (¬ (3 ≤ a0) → (((1 : Int32) = 0 ∨ (1 : Int32) = 1) ∧ Q (some (.int 1)) σ)))))) : xC xD j_A_isKind [.int a0] σ Q := sm_wp_C (M := m_A_isKind) rfl [] 9 h
set_option maxRecDepth 100000 in
set_option maxHeartbeats 4000000 in
theorem d_A_isBlockOrder (a0 : Int32) (σ : sm_S) (Q : Option Value → sm_S → Prop) (h : ((a0 < 0 → (((0 : Int32) = 0 ∨ (0 : Int32) = 1) ∧ Q (some (.int 0)) σ)) ∧ (¬ (a0 < 0) → ((5 ≤ a0 → (((0 : Int32) = 0 ∨ (0 : Int32) = 1) ∧ Q (some (.int 0)) σ)) ∧ (¬ (5 ≤ a0) → (((1 : Int32) = 0 ∨ (1 : Int32) = 1) ∧ Q (some (.int 1)) σ)))))) : xC xD j_A_isBlockOrder [.int a0] σ Q := sm_wp_C (M := m_A_isBlockOrder) rfl [] 9 h
set_option maxRecDepth 100000 in
set_option maxHeartbeats 4000000 in
theorem d_Y_bring (a1 a2 a3 a4 : Int32) (σ : sm_S) (Q : Option Value → sm_S → Prop) (h : xC xD j_Y_bestPlace [.ref 0, .int a1, .int a2, .int a3, .int 0] σ (sm_ri False (fun x2 σ1 => xE xD m_Y_bring 13 [.ref 0, .int a1, .int a2, .int a3, .int a4, .int x2, .int 0, .null] [] σ1 Q))) : xC xD j_Y_bring [.ref 0, .int a1, .int a2, .int a3, .int a4] σ Q := sm_wp_C (M := m_Y_bring) rfl [13, 166] 10 h
set_option maxRecDepth 100000 in
set_option maxHeartbeats 4000000 in
theorem d_Y_bring_13 (a1 a2 a3 a4 a5 a6 : Int32) (v7 : Value) (σ : sm_S) (Q : Option Value → sm_S → Prop) (h : ((96 ≤ a6 → xC xD j_B_leastNumber [.ref 8] σ (sm_ri False (fun x2 σ1 => ((a5 = (-1) → (vp_in (1 : Int32) 11 ∧ (vp_in (1 : Int32) 11 ∧ ∀ σ3, σ3 = sm_set σ1 40 (upd (σ1 40) ((1 : Int32)).toNatClampNeg ((σ1 40 ((1 : Int32)).toNatClampNeg) + 1)) → Q (some (.int (-1))) σ3))) ∧ (¬ (a5 = (-1)) → ((x2 ≠ (-1) → xC xD j_B_begin [.ref 8, .int x2, .int a5, .int a3, .int a2, .int a1] σ1 (sm_rv False (fun σ4 => (∀ σ5, σ5 = sm_set σ4 8 (upd (σ4 8) 8 ((σ4 8 8) + 1)) → (vp_in x2 96 ∧ ∀ σ6, σ6 = sm_set σ5 16 (upd (σ5 16) (x2).toNatClampNeg (σ5 8 8)) → xC xD j_F_give [.ref 1, .int x2, .int a5, .int ((1 : Int32) <<< (a3 &&& 31))] σ6 (sm_rv False (fun σ7 => xE xD m_Y_bring 166 [.ref 0, .int a1, .int a2, .int a3, .int a4, .int a5, .int x2, .int 0] [] σ7 Q))))))) ∧ (¬ (x2 ≠ (-1)) → (vp_in (1 : Int32) 11 ∧ (vp_in (1 : Int32) 11 ∧ ∀ σ8, σ8 = sm_set σ1 40 (upd (σ1 40) ((1 : Int32)).toNatClampNeg ((σ1 40 ((1 : Int32)).toNatClampNeg) + 1)) → Q (some (.int (-1))) σ8))))))))) ∧ (¬ (96 ≤ a6) → ((a5 ≠ (-1) → xC xD j_B_leastNumber [.ref 8] σ (sm_ri False (fun x10 σ9 => ((a5 = (-1) → (vp_in (1 : Int32) 11 ∧ (vp_in (1 : Int32) 11 ∧ ∀ σ11, σ11 = sm_set σ9 40 (upd (σ9 40) ((1 : Int32)).toNatClampNeg ((σ9 40 ((1 : Int32)).toNatClampNeg) + 1)) → Q (some (.int (-1))) σ11))) ∧ (¬ (a5 = (-1)) → ((x10 ≠ (-1) → xC xD j_B_begin [.ref 8, .int x10, .int a5, .int a3, .int a2, .int a1] σ9 (sm_rv False (fun σ12 => (∀ σ13, σ13 = sm_set σ12 8 (upd (σ12 8) 8 ((σ12 8 8) + 1)) → (vp_in x10 96 ∧ ∀ σ14, σ14 = sm_set σ13 16 (upd (σ13 16) (x10).toNatClampNeg (σ13 8 8)) → xC xD j_F_give [.ref 1, .int x10, .int a5, .int ((1 : Int32) <<< (a3 &&& 31))] σ14 (sm_rv False (fun σ15 => xE xD m_Y_bring 166 [.ref 0, .int a1, .int a2, .int a3, .int a4, .int a5, .int x10, .int 0] [] σ15 Q))))))) ∧ (¬ (x10 ≠ (-1)) → (vp_in (1 : Int32) 11 ∧ (vp_in (1 : Int32) 11 ∧ ∀ σ16, σ16 = sm_set σ9 40 (upd (σ9 40) ((1 : Int32)).toNatClampNeg ((σ9 40 ((1 : Int32)).toNatClampNeg) + 1)) → Q (some (.int (-1))) σ16))))))))) ∧ (¬ (a5 ≠ (-1)) → xC xD j_B_leastUsedCache [.ref 8] σ (sm_ri False (fun x18 σ17 => ((x18 ≠ (-1) → xC xD j_Y_noteDrop [.ref 0, .int x18] σ17 (sm_rv False (fun σ19 => xC xD j_Y_remove [.ref 0, .int x18] σ19 (sm_rv False (fun σ20 => xC xD j_Y_bestPlace [.ref 0, .int a1, .int a2, .int a3, .int 0] σ20 (sm_ri False (fun x22 σ21 => xE xD m_Y_bring 13 [.ref 0, .int a1, .int a2, .int a3, .int a4, .int x22, .int (a6 + 1), .int x18] [] σ21 Q))))))) ∧ (¬ (x18 ≠ (-1)) → xC xD j_B_leastNumber [.ref 8] σ17 (sm_ri False (fun x24 σ23 => ((a5 = (-1) → (vp_in (1 : Int32) 11 ∧ (vp_in (1 : Int32) 11 ∧ ∀ σ25, σ25 = sm_set σ23 40 (upd (σ23 40) ((1 : Int32)).toNatClampNeg ((σ23 40 ((1 : Int32)).toNatClampNeg) + 1)) → Q (some (.int (-1))) σ25))) ∧ (¬ (a5 = (-1)) → ((x24 ≠ (-1) → xC xD j_B_begin [.ref 8, .int x24, .int a5, .int a3, .int a2, .int a1] σ23 (sm_rv False (fun σ26 => (∀ σ27, σ27 = sm_set σ26 8 (upd (σ26 8) 8 ((σ26 8 8) + 1)) → (vp_in x24 96 ∧ ∀ σ28, σ28 = sm_set σ27 16 (upd (σ27 16) (x24).toNatClampNeg (σ27 8 8)) → xC xD j_F_give [.ref 1, .int x24, .int a5, .int ((1 : Int32) <<< (a3 &&& 31))] σ28 (sm_rv False (fun σ29 => xE xD m_Y_bring 166 [.ref 0, .int a1, .int a2, .int a3, .int a4, .int a5, .int x24, .int 0] [] σ29 Q))))))) ∧ (¬ (x24 ≠ (-1)) → (vp_in (1 : Int32) 11 ∧ (vp_in (1 : Int32) 11 ∧ ∀ σ30, σ30 = sm_set σ23 40 (upd (σ23 40) ((1 : Int32)).toNatClampNeg ((σ23 40 ((1 : Int32)).toNatClampNeg) + 1)) → Q (some (.int (-1))) σ30))))))))))))))))) : xE xD m_Y_bring 13 [.ref 0, .int a1, .int a2, .int a3, .int a4, .int a5, .int a6, v7] [] σ Q := sm_wp_E (M := m_Y_bring) [13, 166] 58 h
set_option maxRecDepth 100000 in
set_option maxHeartbeats 4000000 in
theorem d_Y_bring_166 (a1 a2 a3 a4 a5 a6 a7 : Int32) (σ : sm_S) (Q : Option Value → sm_S → Prop) (h : ((((1 : Int32) <<< (a3 &&& 31)) ≤ a7 → (vp_in (0 : Int32) 11 ∧ (vp_in (0 : Int32) 11 ∧ ∀ σ1, σ1 = sm_set σ 40 (upd (σ 40) ((0 : Int32)).toNatClampNeg ((σ 40 ((0 : Int32)).toNatClampNeg) + 1)) → Q (some (.int a6)) σ1))) ∧ (¬ (((1 : Int32) <<< (a3 &&& 31)) ≤ a7) → (vp_in (a5 + a7) 256 ∧ ∀ σ2, σ2 = sm_set σ 7 (upd (σ 7) ((a5 + a7)).toNatClampNeg (a4 + a7)) → xE xD m_Y_bring 166 [.ref 0, .int a1, .int a2, .int a3, .int a4, .int a5, .int a6, .int (a7 + 1)] [] σ2 Q)))) : xE xD m_Y_bring 166 [.ref 0, .int a1, .int a2, .int a3, .int a4, .int a5, .int a6, .int a7] [] σ Q := sm_wp_E (M := m_Y_bring) [13, 166] 18 h
set_option maxRecDepth 100000 in
set_option maxHeartbeats 4000000 in
theorem d_Y_bestPlace (a1 a2 a3 a4 : Int32) (σ : sm_S) (Q : Option Value → sm_S → Prop) (h : xE xD m_Y_bestPlace 12 [.ref 0, .int a1, .int a2, .int a3, .int a4, .int (-1), .int 0, .int 0, .int 0, .null, .null, .null] [] σ Q) : xC xD j_Y_bestPlace [.ref 0, .int a1, .int a2, .int a3, .int a4] σ Q := sm_wp_C (M := m_Y_bestPlace) rfl [12] 9 h
set_option maxRecDepth 100000 in
set_option maxHeartbeats 4000000 in
theorem d_Y_bestPlace_12 (a1 a2 a3 a4 a5 a6 a7 a8 : Int32) (v9 v10 v11 : Value) (σ : sm_S) (Q : Option Value → sm_S → Prop) (h : ((8 ≤ a8 → ((a5 ≠ (-1) → (vp_in a5 8 ∧ xC xD j_R_starts [.int (σ 2 (a5).toNatClampNeg), .int a7] σ (sm_ri False (fun x2 σ1 => xC xD j_R_alone [.int x2, .int a7] σ1 (sm_ri False (fun x4 σ3 => xC xD j_I_numberOfTrailingZeros [.int x4] σ3 (sm_ri False (fun x6 σ5 => Q (some (.int ((a5 * 32) + x6))) σ5)))))))) ∧ (¬ (a5 ≠ (-1)) → Q (some (.int (-1))) σ))) ∧ (¬ (8 ≤ a8) → (vp_in a8 8 ∧ xC xD j_R_starts [.int (σ 2 (a8).toNatClampNeg), .int a3] σ (sm_ri False (fun x8 σ7 => ((x8 = 0 → xE xD m_Y_bestPlace 12 [.ref 0, .int a1, .int a2, .int a3, .int a4, .int a5, .int a6, .int a7, .int (a8 + 1), .int x8, v10, v11] [] σ7 Q) ∧ (¬ (x8 = 0) → ((a4 = 0 → (vp_in a1 6 ∧ xC xD j_Y_rank [.ref 0, .int a8, .int a2, .int (σ7 27 (a1).toNatClampNeg)] σ7 (sm_ri False (fun x10 σ9 => ((x10 = (-1) → xE xD m_Y_bestPlace 12 [.ref 0, .int a1, .int a2, .int a3, .int a4, .int a5, .int a6, .int a7, .int (a8 + 1), .int x8, .int x10, v11] [] σ9 Q) ∧ (¬ (x10 = (-1)) → ((a5 = (-1) → xC xD j_R_leastHole [.int x8, .int a3] σ9 (sm_ri False (fun x12 σ11 => ((a5 = (-1) → xE xD m_Y_bestPlace 12 [.ref 0, .int a1, .int a2, .int a3, .int a4, .int a8, .int x10, .int x12, .int (a8 + 1), .int x8, .int x10, .int x12] [] σ11 Q) ∧ (¬ (a5 = (-1)) → ((x10 < a6 → xE xD m_Y_bestPlace 12 [.ref 0, .int a1, .int a2, .int a3, .int a4, .int a8, .int x10, .int x12, .int (a8 + 1), .int x8, .int x10, .int x12] [] σ11 Q) ∧ (¬ (x10 < a6) → ((a7 ≤ x12 → xE xD m_Y_bestPlace 12 [.ref 0, .int a1, .int a2, .int a3, .int a4, .int a5, .int a6, .int a7, .int (a8 + 1), .int x8, .int x10, .int x12] [] σ11 Q) ∧ (¬ (a7 ≤ x12) → xE xD m_Y_bestPlace 12 [.ref 0, .int a1, .int a2, .int a3, .int a4, .int a8, .int x10, .int x12, .int (a8 + 1), .int x8, .int x10, .int x12] [] σ11 Q))))))))) ∧ (¬ (a5 = (-1)) → ((x10 ≤ a6 → xC xD j_R_leastHole [.int x8, .int a3] σ9 (sm_ri False (fun x14 σ13 => ((a5 = (-1) → xE xD m_Y_bestPlace 12 [.ref 0, .int a1, .int a2, .int a3, .int a4, .int a8, .int x10, .int x14, .int (a8 + 1), .int x8, .int x10, .int x14] [] σ13 Q) ∧ (¬ (a5 = (-1)) → ((x10 < a6 → xE xD m_Y_bestPlace 12 [.ref 0, .int a1, .int a2, .int a3, .int a4, .int a8, .int x10, .int x14, .int (a8 + 1), .int x8, .int x10, .int x14] [] σ13 Q) ∧ (¬ (x10 < a6) → ((a7 ≤ x14 → xE xD m_Y_bestPlace 12 [.ref 0, .int a1, .int a2, .int a3, .int a4, .int a5, .int a6, .int a7, .int (a8 + 1), .int x8, .int x10, .int x14] [] σ13 Q) ∧ (¬ (a7 ≤ x14) → xE xD m_Y_bestPlace 12 [.ref 0, .int a1, .int a2, .int a3, .int a4, .int a8, .int x10, .int x14, .int (a8 + 1), .int x8, .int x10, .int x14] [] σ13 Q))))))))) ∧ (¬ (x10 ≤ a6) → xE xD m_Y_bestPlace 12 [.ref 0, .int a1, .int a2, .int a3, .int a4, .int a5, .int a6, .int a7, .int (a8 + 1), .int x8, .int x10, v11] [] σ9 Q)))))))))) ∧ (¬ (a4 = 0) → (vp_in a8 8 ∧ (((σ7 18 (a8).toNatClampNeg) = 1 → (vp_in a1 6 ∧ xC xD j_Y_rank [.ref 0, .int a8, .int a2, .int (σ7 27 (a1).toNatClampNeg)] σ7 (sm_ri False (fun x16 σ15 => ((x16 = (-1) → xE xD m_Y_bestPlace 12 [.ref 0, .int a1, .int a2, .int a3, .int a4, .int a5, .int a6, .int a7, .int (a8 + 1), .int x8, .int x16, v11] [] σ15 Q) ∧ (¬ (x16 = (-1)) → ((a5 = (-1) → xC xD j_R_leastHole [.int x8, .int a3] σ15 (sm_ri False (fun x18 σ17 => ((a5 = (-1) → xE xD m_Y_bestPlace 12 [.ref 0, .int a1, .int a2, .int a3, .int a4, .int a8, .int x16, .int x18, .int (a8 + 1), .int x8, .int x16, .int x18] [] σ17 Q) ∧ (¬ (a5 = (-1)) → ((x16 < a6 → xE xD m_Y_bestPlace 12 [.ref 0, .int a1, .int a2, .int a3, .int a4, .int a8, .int x16, .int x18, .int (a8 + 1), .int x8, .int x16, .int x18] [] σ17 Q) ∧ (¬ (x16 < a6) → ((a7 ≤ x18 → xE xD m_Y_bestPlace 12 [.ref 0, .int a1, .int a2, .int a3, .int a4, .int a5, .int a6, .int a7, .int (a8 + 1), .int x8, .int x16, .int x18] [] σ17 Q) ∧ (¬ (a7 ≤ x18) → xE xD m_Y_bestPlace 12 [.ref 0, .int a1, .int a2, .int a3, .int a4, .int a8, .int x16, .int x18, .int (a8 + 1), .int x8, .int x16, .int x18] [] σ17 Q))))))))) ∧ (¬ (a5 = (-1)) → ((x16 ≤ a6 → xC xD j_R_leastHole [.int x8, .int a3] σ15 (sm_ri False (fun x20 σ19 => ((a5 = (-1) → xE xD m_Y_bestPlace 12 [.ref 0, .int a1, .int a2, .int a3, .int a4, .int a8, .int x16, .int x20, .int (a8 + 1), .int x8, .int x16, .int x20] [] σ19 Q) ∧ (¬ (a5 = (-1)) → ((x16 < a6 → xE xD m_Y_bestPlace 12 [.ref 0, .int a1, .int a2, .int a3, .int a4, .int a8, .int x16, .int x20, .int (a8 + 1), .int x8, .int x16, .int x20] [] σ19 Q) ∧ (¬ (x16 < a6) → ((a7 ≤ x20 → xE xD m_Y_bestPlace 12 [.ref 0, .int a1, .int a2, .int a3, .int a4, .int a5, .int a6, .int a7, .int (a8 + 1), .int x8, .int x16, .int x20] [] σ19 Q) ∧ (¬ (a7 ≤ x20) → xE xD m_Y_bestPlace 12 [.ref 0, .int a1, .int a2, .int a3, .int a4, .int a8, .int x16, .int x20, .int (a8 + 1), .int x8, .int x16, .int x20] [] σ19 Q))))))))) ∧ (¬ (x16 ≤ a6) → xE xD m_Y_bestPlace 12 [.ref 0, .int a1, .int a2, .int a3, .int a4, .int a5, .int a6, .int a7, .int (a8 + 1), .int x8, .int x16, v11] [] σ15 Q)))))))))) ∧ (¬ ((σ7 18 (a8).toNatClampNeg) = 1) → xE xD m_Y_bestPlace 12 [.ref 0, .int a1, .int a2, .int a3, .int a4, .int a5, .int a6, .int a7, .int (a8 + 1), .int x8, v10, v11] [] σ7 Q))))))))))))) : xE xD m_Y_bestPlace 12 [.ref 0, .int a1, .int a2, .int a3, .int a4, .int a5, .int a6, .int a7, .int a8, v9, v10, v11] [] σ Q := sm_wp_E (M := m_Y_bestPlace) [12] 63 h
set_option maxRecDepth 100000 in
set_option maxHeartbeats 4000000 in
theorem d_R_starts (a0 a1 : Int32) (σ : sm_S) (Q : Option Value → sm_S → Prop) (h : xE xD m_R_starts 4 [.int a0, .int a1, .int a0, .int 0] [] σ Q) : xC xD j_R_starts [.int a0, .int a1] σ Q := sm_wp_C (M := m_R_starts) rfl [4] 5 h
set_option maxRecDepth 100000 in
set_option maxHeartbeats 4000000 in
theorem d_R_starts_4 (a0 a1 a2 a3 : Int32) (σ : sm_S) (Q : Option Value → sm_S → Prop) (h : ((a1 ≤ a3 → Q (some (.int a2)) σ) ∧ (¬ (a1 ≤ a3) → ((5 ≤ a3 → Q (some (.int a2)) σ) ∧ (¬ (5 ≤ a3) → (vp_in (a3 + 1) (xT 2).length ∧ xE xD m_R_starts 4 [.int a0, .int a1, .int (a2 &&& (((a2.toUInt32 >>> (((1 : Int32) <<< (a3 &&& 31)).toUInt32 &&& Int32.toUInt32 31)).toInt32) &&& ((xT 2).getD ((a3 + 1)).toNatClampNeg 0))), .int (a3 + 1)] [] σ Q)))))) : xE xD m_R_starts 4 [.int a0, .int a1, .int a2, .int a3] [] σ Q := sm_wp_E (M := m_R_starts) [4] 23 h
set_option maxRecDepth 100000 in
set_option maxHeartbeats 4000000 in
theorem d_Y_rank (a1 a2 a3 : Int32) (σ : sm_S) (Q : Option Value → sm_S → Prop) (h : (¬ (2 : Int32) = 0 ∧ (((a1 - a1 / (2 : Int32) * (2 : Int32)) ≠ a3 → ((a2 ≠ 0 → (vp_in a1 8 ∧ (((σ 19 (a1).toNatClampNeg) ≠ 0 → Q (some (.int (-1))) σ) ∧ (¬ ((σ 19 (a1).toNatClampNeg) ≠ 0) → Q (some (.int 1)) σ)))) ∧ (¬ (a2 ≠ 0) → (vp_in a1 8 ∧ (((σ 19 (a1).toNatClampNeg) ≠ 1 → Q (some (.int ((2 : Int32) + 1))) σ) ∧ (¬ ((σ 19 (a1).toNatClampNeg) ≠ 1) → Q (some (.int 1)) σ)))))) ∧ (¬ ((a1 - a1 / (2 : Int32) * (2 : Int32)) ≠ a3) → ((a2 ≠ 0 → (vp_in a1 8 ∧ (((σ 19 (a1).toNatClampNeg) ≠ 0 → Q (some (.int (-1))) σ) ∧ (¬ ((σ 19 (a1).toNatClampNeg) ≠ 0) → Q (some (.int 0)) σ)))) ∧ (¬ (a2 ≠ 0) → (vp_in a1 8 ∧ (((σ 19 (a1).toNatClampNeg) ≠ 1 → Q (some (.int ((2 : Int32) + 0))) σ) ∧ (¬ ((σ 19 (a1).toNatClampNeg) ≠ 1) → Q (some (.int 0)) σ))))))))) : xC xD j_Y_rank [.ref 0, .int a1, .int a2, .int a3] σ Q := sm_wp_C (M := m_Y_rank) rfl [] 22 h
set_option maxRecDepth 100000 in
set_option maxHeartbeats 4000000 in
theorem d_R_leastHole (a0 a1 : Int32) (σ : sm_S) (Q : Option Value → sm_S → Prop) (h : xE xD m_R_leastHole 4 [.int a0, .int a1, .int a0, .int a1, .null, .null] [] σ Q) : xC xD j_R_leastHole [.int a0, .int a1] σ Q := sm_wp_C (M := m_R_leastHole) rfl [4] 5 h
set_option maxRecDepth 100000 in
set_option maxHeartbeats 4000000 in
theorem d_R_leastHole_4 (a0 a1 a2 a3 : Int32) (v4 v5 : Value) (σ : sm_S) (Q : Option Value → sm_S → Prop) (h : ((a3 < 0 → Q (some (.int 5)) σ) ∧ (¬ (a3 < 0) → ((5 ≤ a3 → Q (some (.int 5)) σ) ∧ (¬ (5 ≤ a3) → (vp_in (a3 + 1) (xT 2).length ∧ (((a2 &&& ((((a2 &&& ((a2.toUInt32 >>> (((1 : Int32) <<< (a3 &&& 31)).toUInt32 &&& Int32.toUInt32 31)).toInt32)) &&& ((xT 2).getD ((a3 + 1)).toNatClampNeg 0)) ||| (((a2 &&& ((a2.toUInt32 >>> (((1 : Int32) <<< (a3 &&& 31)).toUInt32 &&& Int32.toUInt32 31)).toInt32)) &&& ((xT 2).getD ((a3 + 1)).toNatClampNeg 0)) <<< (((1 : Int32) <<< (a3 &&& 31)) &&& 31))) ^^^ (-1))) = 0 → xE xD m_R_leastHole 4 [.int a0, .int a1, .int ((a2 &&& ((a2.toUInt32 >>> (((1 : Int32) <<< (a3 &&& 31)).toUInt32 &&& Int32.toUInt32 31)).toInt32)) &&& ((xT 2).getD ((a3 + 1)).toNatClampNeg 0)), .int (a3 + 1), .int ((1 : Int32) <<< (a3 &&& 31)), .int ((a2 &&& ((a2.toUInt32 >>> (((1 : Int32) <<< (a3 &&& 31)).toUInt32 &&& Int32.toUInt32 31)).toInt32)) &&& ((xT 2).getD ((a3 + 1)).toNatClampNeg 0))] [] σ Q) ∧ (¬ ((a2 &&& ((((a2 &&& ((a2.toUInt32 >>> (((1 : Int32) <<< (a3 &&& 31)).toUInt32 &&& Int32.toUInt32 31)).toInt32)) &&& ((xT 2).getD ((a3 + 1)).toNatClampNeg 0)) ||| (((a2 &&& ((a2.toUInt32 >>> (((1 : Int32) <<< (a3 &&& 31)).toUInt32 &&& Int32.toUInt32 31)).toInt32)) &&& ((xT 2).getD ((a3 + 1)).toNatClampNeg 0)) <<< (((1 : Int32) <<< (a3 &&& 31)) &&& 31))) ^^^ (-1))) = 0) → Q (some (.int a3)) σ)))))))) : xE xD m_R_leastHole 4 [.int a0, .int a1, .int a2, .int a3, v4, v5] [] σ Q := sm_wp_E (M := m_R_leastHole) [4] 36 h
set_option maxRecDepth 100000 in
set_option maxHeartbeats 4000000 in
theorem d_R_alone (a0 a1 : Int32) (σ : sm_S) (Q : Option Value → sm_S → Prop) (h : ((a1 < 0 → Q (some (.int a0)) σ) ∧ (¬ (a1 < 0) → ((a1 < 5 → (vp_in (a1 + 1) (xT 2).length ∧ Q (some (.int (a0 &&& ((((a0 &&& ((a0.toUInt32 >>> (((1 : Int32) <<< (a1 &&& 31)).toUInt32 &&& Int32.toUInt32 31)).toInt32)) &&& ((xT 2).getD ((a1 + 1)).toNatClampNeg 0)) ||| (((a0 &&& ((a0.toUInt32 >>> (((1 : Int32) <<< (a1 &&& 31)).toUInt32 &&& Int32.toUInt32 31)).toInt32)) &&& ((xT 2).getD ((a1 + 1)).toNatClampNeg 0)) <<< (((1 : Int32) <<< (a1 &&& 31)) &&& 31))) ^^^ (-1))))) σ)) ∧ (¬ (a1 < 5) → Q (some (.int a0)) σ))))) : xC xD j_R_alone [.int a0, .int a1] σ Q := sm_wp_C (M := m_R_alone) rfl [] 32 h
set_option maxRecDepth 100000 in
set_option maxHeartbeats 4000000 in
theorem d_I_numberOfTrailingZeros (a0 : Int32) (σ : sm_S) (Q : Option Value → sm_S → Prop) (h : ((0 < ((a0 ^^^ (-1)) &&& (a0 - 1)) → ((((a0 ^^^ (-1)) &&& (a0 - 1)) ≤ 65536 → ((((a0 ^^^ (-1)) &&& (a0 - 1)) ≤ 256 → ((((a0 ^^^ (-1)) &&& (a0 - 1)) ≤ 16 → ((((a0 ^^^ (-1)) &&& (a0 - 1)) ≤ 4 → Q (some (.int (1 + ((((a0 ^^^ (-1)) &&& (a0 - 1)).toUInt32 >>> ((1 : Int32).toUInt32 &&& Int32.toUInt32 31)).toInt32)))) σ) ∧ (¬ (((a0 ^^^ (-1)) &&& (a0 - 1)) ≤ 4) → Q (some (.int ((1 + 2) + ((((((a0 ^^^ (-1)) &&& (a0 - 1)).toUInt32 >>> ((2 : Int32).toUInt32 &&& Int32.toUInt32 31)).toInt32).toUInt32 >>> ((1 : Int32).toUInt32 &&& Int32.toUInt32 31)).toInt32)))) σ))) ∧ (¬ (((a0 ^^^ (-1)) &&& (a0 - 1)) ≤ 16) → ((((((a0 ^^^ (-1)) &&& (a0 - 1)).toUInt32 >>> ((4 : Int32).toUInt32 &&& Int32.toUInt32 31)).toInt32) ≤ 4 → Q (some (.int ((1 + 4) + ((((((a0 ^^^ (-1)) &&& (a0 - 1)).toUInt32 >>> ((4 : Int32).toUInt32 &&& Int32.toUInt32 31)).toInt32).toUInt32 >>> ((1 : Int32).toUInt32 &&& Int32.toUInt32 31)).toInt32)))) σ) ∧ (¬ (((((a0 ^^^ (-1)) &&& (a0 - 1)).toUInt32 >>> ((4 : Int32).toUInt32 &&& Int32.toUInt32 31)).toInt32) ≤ 4) → Q (some (.int (((1 + 4) + 2) + ((((((((a0 ^^^ (-1)) &&& (a0 - 1)).toUInt32 >>> ((4 : Int32).toUInt32 &&& Int32.toUInt32 31)).toInt32).toUInt32 >>> ((2 : Int32).toUInt32 &&& Int32.toUInt32 31)).toInt32).toUInt32 >>> ((1 : Int32).toUInt32 &&& Int32.toUInt32 31)).toInt32)))) σ))))) ∧ (¬ (((a0 ^^^ (-1)) &&& (a0 - 1)) ≤ 256) → ((((((a0 ^^^ (-1)) &&& (a0 - 1)).toUInt32 >>> ((8 : Int32).toUInt32 &&& Int32.toUInt32 31)).toInt32) ≤ 16 → ((((((a0 ^^^ (-1)) &&& (a0 - 1)).toUInt32 >>> ((8 : Int32).toUInt32 &&& Int32.toUInt32 31)).toInt32) ≤ 4 → Q (some (.int ((1 + 8) + ((((((a0 ^^^ (-1)) &&& (a0 - 1)).toUInt32 >>> ((8 : Int32).toUInt32 &&& Int32.toUInt32 31)).toInt32).toUInt32 >>> ((1 : Int32).toUInt32 &&& Int32.toUInt32 31)).toInt32)))) σ) ∧ (¬ (((((a0 ^^^ (-1)) &&& (a0 - 1)).toUInt32 >>> ((8 : Int32).toUInt32 &&& Int32.toUInt32 31)).toInt32) ≤ 4) → Q (some (.int (((1 + 8) + 2) + ((((((((a0 ^^^ (-1)) &&& (a0 - 1)).toUInt32 >>> ((8 : Int32).toUInt32 &&& Int32.toUInt32 31)).toInt32).toUInt32 >>> ((2 : Int32).toUInt32 &&& Int32.toUInt32 31)).toInt32).toUInt32 >>> ((1 : Int32).toUInt32 &&& Int32.toUInt32 31)).toInt32)))) σ))) ∧ (¬ (((((a0 ^^^ (-1)) &&& (a0 - 1)).toUInt32 >>> ((8 : Int32).toUInt32 &&& Int32.toUInt32 31)).toInt32) ≤ 16) → ((((((((a0 ^^^ (-1)) &&& (a0 - 1)).toUInt32 >>> ((8 : Int32).toUInt32 &&& Int32.toUInt32 31)).toInt32).toUInt32 >>> ((4 : Int32).toUInt32 &&& Int32.toUInt32 31)).toInt32) ≤ 4 → Q (some (.int (((1 + 8) + 4) + ((((((((a0 ^^^ (-1)) &&& (a0 - 1)).toUInt32 >>> ((8 : Int32).toUInt32 &&& Int32.toUInt32 31)).toInt32).toUInt32 >>> ((4 : Int32).toUInt32 &&& Int32.toUInt32 31)).toInt32).toUInt32 >>> ((1 : Int32).toUInt32 &&& Int32.toUInt32 31)).toInt32)))) σ) ∧ (¬ (((((((a0 ^^^ (-1)) &&& (a0 - 1)).toUInt32 >>> ((8 : Int32).toUInt32 &&& Int32.toUInt32 31)).toInt32).toUInt32 >>> ((4 : Int32).toUInt32 &&& Int32.toUInt32 31)).toInt32) ≤ 4) → Q (some (.int ((((1 + 8) + 4) + 2) + ((((((((((a0 ^^^ (-1)) &&& (a0 - 1)).toUInt32 >>> ((8 : Int32).toUInt32 &&& Int32.toUInt32 31)).toInt32).toUInt32 >>> ((4 : Int32).toUInt32 &&& Int32.toUInt32 31)).toInt32).toUInt32 >>> ((2 : Int32).toUInt32 &&& Int32.toUInt32 31)).toInt32).toUInt32 >>> ((1 : Int32).toUInt32 &&& Int32.toUInt32 31)).toInt32)))) σ))))))) ∧ (¬ (((a0 ^^^ (-1)) &&& (a0 - 1)) ≤ 65536) → ((((((a0 ^^^ (-1)) &&& (a0 - 1)).toUInt32 >>> ((16 : Int32).toUInt32 &&& Int32.toUInt32 31)).toInt32) ≤ 256 → ((((((a0 ^^^ (-1)) &&& (a0 - 1)).toUInt32 >>> ((16 : Int32).toUInt32 &&& Int32.toUInt32 31)).toInt32) ≤ 16 → ((((((a0 ^^^ (-1)) &&& (a0 - 1)).toUInt32 >>> ((16 : Int32).toUInt32 &&& Int32.toUInt32 31)).toInt32) ≤ 4 → Q (some (.int ((1 + 16) + ((((((a0 ^^^ (-1)) &&& (a0 - 1)).toUInt32 >>> ((16 : Int32).toUInt32 &&& Int32.toUInt32 31)).toInt32).toUInt32 >>> ((1 : Int32).toUInt32 &&& Int32.toUInt32 31)).toInt32)))) σ) ∧ (¬ (((((a0 ^^^ (-1)) &&& (a0 - 1)).toUInt32 >>> ((16 : Int32).toUInt32 &&& Int32.toUInt32 31)).toInt32) ≤ 4) → Q (some (.int (((1 + 16) + 2) + ((((((((a0 ^^^ (-1)) &&& (a0 - 1)).toUInt32 >>> ((16 : Int32).toUInt32 &&& Int32.toUInt32 31)).toInt32).toUInt32 >>> ((2 : Int32).toUInt32 &&& Int32.toUInt32 31)).toInt32).toUInt32 >>> ((1 : Int32).toUInt32 &&& Int32.toUInt32 31)).toInt32)))) σ))) ∧ (¬ (((((a0 ^^^ (-1)) &&& (a0 - 1)).toUInt32 >>> ((16 : Int32).toUInt32 &&& Int32.toUInt32 31)).toInt32) ≤ 16) → ((((((((a0 ^^^ (-1)) &&& (a0 - 1)).toUInt32 >>> ((16 : Int32).toUInt32 &&& Int32.toUInt32 31)).toInt32).toUInt32 >>> ((4 : Int32).toUInt32 &&& Int32.toUInt32 31)).toInt32) ≤ 4 → Q (some (.int (((1 + 16) + 4) + ((((((((a0 ^^^ (-1)) &&& (a0 - 1)).toUInt32 >>> ((16 : Int32).toUInt32 &&& Int32.toUInt32 31)).toInt32).toUInt32 >>> ((4 : Int32).toUInt32 &&& Int32.toUInt32 31)).toInt32).toUInt32 >>> ((1 : Int32).toUInt32 &&& Int32.toUInt32 31)).toInt32)))) σ) ∧ (¬ (((((((a0 ^^^ (-1)) &&& (a0 - 1)).toUInt32 >>> ((16 : Int32).toUInt32 &&& Int32.toUInt32 31)).toInt32).toUInt32 >>> ((4 : Int32).toUInt32 &&& Int32.toUInt32 31)).toInt32) ≤ 4) → Q (some (.int ((((1 + 16) + 4) + 2) + ((((((((((a0 ^^^ (-1)) &&& (a0 - 1)).toUInt32 >>> ((16 : Int32).toUInt32 &&& Int32.toUInt32 31)).toInt32).toUInt32 >>> ((4 : Int32).toUInt32 &&& Int32.toUInt32 31)).toInt32).toUInt32 >>> ((2 : Int32).toUInt32 &&& Int32.toUInt32 31)).toInt32).toUInt32 >>> ((1 : Int32).toUInt32 &&& Int32.toUInt32 31)).toInt32)))) σ))))) ∧ (¬ (((((a0 ^^^ (-1)) &&& (a0 - 1)).toUInt32 >>> ((16 : Int32).toUInt32 &&& Int32.toUInt32 31)).toInt32) ≤ 256) → ((((((((a0 ^^^ (-1)) &&& (a0 - 1)).toUInt32 >>> ((16 : Int32).toUInt32 &&& Int32.toUInt32 31)).toInt32).toUInt32 >>> ((8 : Int32).toUInt32 &&& Int32.toUInt32 31)).toInt32) ≤ 16 → ((((((((a0 ^^^ (-1)) &&& (a0 - 1)).toUInt32 >>> ((16 : Int32).toUInt32 &&& Int32.toUInt32 31)).toInt32).toUInt32 >>> ((8 : Int32).toUInt32 &&& Int32.toUInt32 31)).toInt32) ≤ 4 → Q (some (.int (((1 + 16) + 8) + ((((((((a0 ^^^ (-1)) &&& (a0 - 1)).toUInt32 >>> ((16 : Int32).toUInt32 &&& Int32.toUInt32 31)).toInt32).toUInt32 >>> ((8 : Int32).toUInt32 &&& Int32.toUInt32 31)).toInt32).toUInt32 >>> ((1 : Int32).toUInt32 &&& Int32.toUInt32 31)).toInt32)))) σ) ∧ (¬ (((((((a0 ^^^ (-1)) &&& (a0 - 1)).toUInt32 >>> ((16 : Int32).toUInt32 &&& Int32.toUInt32 31)).toInt32).toUInt32 >>> ((8 : Int32).toUInt32 &&& Int32.toUInt32 31)).toInt32) ≤ 4) → Q (some (.int ((((1 + 16) + 8) + 2) + ((((((((((a0 ^^^ (-1)) &&& (a0 - 1)).toUInt32 >>> ((16 : Int32).toUInt32 &&& Int32.toUInt32 31)).toInt32).toUInt32 >>> ((8 : Int32).toUInt32 &&& Int32.toUInt32 31)).toInt32).toUInt32 >>> ((2 : Int32).toUInt32 &&& Int32.toUInt32 31)).toInt32).toUInt32 >>> ((1 : Int32).toUInt32 &&& Int32.toUInt32 31)).toInt32)))) σ))) ∧ (¬ (((((((a0 ^^^ (-1)) &&& (a0 - 1)).toUInt32 >>> ((16 : Int32).toUInt32 &&& Int32.toUInt32 31)).toInt32).toUInt32 >>> ((8 : Int32).toUInt32 &&& Int32.toUInt32 31)).toInt32) ≤ 16) → ((((((((((a0 ^^^ (-1)) &&& (a0 - 1)).toUInt32 >>> ((16 : Int32).toUInt32 &&& Int32.toUInt32 31)).toInt32).toUInt32 >>> ((8 : Int32).toUInt32 &&& Int32.toUInt32 31)).toInt32).toUInt32 >>> ((4 : Int32).toUInt32 &&& Int32.toUInt32 31)).toInt32) ≤ 4 → Q (some (.int ((((1 + 16) + 8) + 4) + ((((((((((a0 ^^^ (-1)) &&& (a0 - 1)).toUInt32 >>> ((16 : Int32).toUInt32 &&& Int32.toUInt32 31)).toInt32).toUInt32 >>> ((8 : Int32).toUInt32 &&& Int32.toUInt32 31)).toInt32).toUInt32 >>> ((4 : Int32).toUInt32 &&& Int32.toUInt32 31)).toInt32).toUInt32 >>> ((1 : Int32).toUInt32 &&& Int32.toUInt32 31)).toInt32)))) σ) ∧ (¬ (((((((((a0 ^^^ (-1)) &&& (a0 - 1)).toUInt32 >>> ((16 : Int32).toUInt32 &&& Int32.toUInt32 31)).toInt32).toUInt32 >>> ((8 : Int32).toUInt32 &&& Int32.toUInt32 31)).toInt32).toUInt32 >>> ((4 : Int32).toUInt32 &&& Int32.toUInt32 31)).toInt32) ≤ 4) → Q (some (.int (((((1 + 16) + 8) + 4) + 2) + ((((((((((((a0 ^^^ (-1)) &&& (a0 - 1)).toUInt32 >>> ((16 : Int32).toUInt32 &&& Int32.toUInt32 31)).toInt32).toUInt32 >>> ((8 : Int32).toUInt32 &&& Int32.toUInt32 31)).toInt32).toUInt32 >>> ((4 : Int32).toUInt32 &&& Int32.toUInt32 31)).toInt32).toUInt32 >>> ((2 : Int32).toUInt32 &&& Int32.toUInt32 31)).toInt32).toUInt32 >>> ((1 : Int32).toUInt32 &&& Int32.toUInt32 31)).toInt32)))) σ))))))))) ∧ (¬ (0 < ((a0 ^^^ (-1)) &&& (a0 - 1))) → Q (some (.int (((a0 ^^^ (-1)) &&& (a0 - 1)) &&& 32))) σ))) : xC xD j_I_numberOfTrailingZeros [.int a0] σ Q := sm_wp_C (M := m_I_numberOfTrailingZeros) rfl [] 51 h
set_option maxRecDepth 100000 in
set_option maxHeartbeats 4000000 in
theorem d_B_leastUsedCache (σ : sm_S) (Q : Option Value → sm_S → Prop) (h : xE xD m_B_leastUsedCache 4 [.ref 8, .int (-1), .int 0] [] σ Q) : xC xD j_B_leastUsedCache [.ref 8] σ Q := sm_wp_C (M := m_B_leastUsedCache) rfl [4] 5 h
set_option maxRecDepth 100000 in
set_option maxHeartbeats 4000000 in
theorem d_B_leastUsedCache_4 (a1 a2 : Int32) (σ : sm_S) (Q : Option Value → sm_S → Prop) (h : ((96 ≤ a2 → Q (some (.int a1)) σ) ∧ (¬ (96 ≤ a2) → (vp_in a2 96 ∧ (((σ 9 (a2).toNatClampNeg) = (-1) → xE xD m_B_leastUsedCache 4 [.ref 8, .int a1, .int (a2 + 1)] [] σ Q) ∧ (¬ ((σ 9 (a2).toNatClampNeg) = (-1)) → (vp_in a2 96 ∧ (((σ 11 (a2).toNatClampNeg) ≠ 2 → xE xD m_B_leastUsedCache 4 [.ref 8, .int a1, .int (a2 + 1)] [] σ Q) ∧ (¬ ((σ 11 (a2).toNatClampNeg) ≠ 2) → xC xD j_B_isLoose [.ref 8, .int a2] σ (sm_ri False (fun x2 σ1 => ((x2 = 0 → xE xD m_B_leastUsedCache 4 [.ref 8, .int a1, .int (a2 + 1)] [] σ1 Q) ∧ (¬ (x2 = 0) → ((a1 = (-1) → xE xD m_B_leastUsedCache 4 [.ref 8, .int a2, .int (a2 + 1)] [] σ1 Q) ∧ (¬ (a1 = (-1)) → (vp_in a2 96 ∧ (vp_in a1 96 ∧ (((σ1 16 (a1).toNatClampNeg) ≤ (σ1 16 (a2).toNatClampNeg) → xE xD m_B_leastUsedCache 4 [.ref 8, .int a1, .int (a2 + 1)] [] σ1 Q) ∧ (¬ ((σ1 16 (a1).toNatClampNeg) ≤ (σ1 16 (a2).toNatClampNeg)) → xE xD m_B_leastUsedCache 4 [.ref 8, .int a2, .int (a2 + 1)] [] σ1 Q))))))))))))))))))) : xE xD m_B_leastUsedCache 4 [.ref 8, .int a1, .int a2] [] σ Q := sm_wp_E (M := m_B_leastUsedCache) [4] 36 h
set_option maxRecDepth 100000 in
set_option maxHeartbeats 4000000 in
theorem d_B_isLoose (a1 : Int32) (σ : sm_S) (Q : Option Value → sm_S → Prop) (h : (vp_in a1 96 ∧ (((σ 13 (a1).toNatClampNeg) ≠ 0 → (((0 : Int32) = 0 ∨ (0 : Int32) = 1) ∧ Q (some (.int 0)) σ)) ∧ (¬ ((σ 13 (a1).toNatClampNeg) ≠ 0) → (vp_in a1 96 ∧ (((σ 14 (a1).toNatClampNeg) ≠ (-1) → (((0 : Int32) = 0 ∨ (0 : Int32) = 1) ∧ Q (some (.int 0)) σ)) ∧ (¬ ((σ 14 (a1).toNatClampNeg) ≠ (-1)) → (((1 : Int32) = 0 ∨ (1 : Int32) = 1) ∧ Q (some (.int 1)) σ)))))))) : xC xD j_B_isLoose [.ref 8, .int a1] σ Q := sm_wp_C (M := m_B_isLoose) rfl [] 15 h
set_option maxRecDepth 100000 in
set_option maxHeartbeats 4000000 in
theorem d_Y_noteDrop (a1 : Int32) (σ : sm_S) (Q : Option Value → sm_S → Prop) (h : (vp_in (5 : Int32) 11 ∧ (vp_in (5 : Int32) 11 ∧ ∀ σ1, σ1 = sm_set σ 40 (upd (σ 40) ((5 : Int32)).toNatClampNeg ((σ 40 ((5 : Int32)).toNatClampNeg) + 1)) → (vp_in a1 96 ∧ xC xD j_L_add [.ref 34, .int (σ1 0 7), .int 6, .int a1, .int (σ1 9 (a1).toNatClampNeg)] σ1 (sm_rv False (fun σ2 => Q none σ2)))))) : xC xD j_Y_noteDrop [.ref 0, .int a1] σ Q := sm_wp_C (M := m_Y_noteDrop) rfl [] 22 h
set_option maxRecDepth 100000 in
set_option maxHeartbeats 4000000 in
theorem d_L_add (a1 a2 a3 a4 : Int32) (σ : sm_S) (Q : Option Value → sm_S → Prop) (h : (vp_in (σ 34 5) 60 ∧ ∀ σ1, σ1 = sm_set σ 35 (upd (σ 35) ((σ 34 5)).toNatClampNeg a1) → (vp_in (σ1 34 5) 60 ∧ ∀ σ2, σ2 = sm_set σ1 36 (upd (σ1 36) ((σ1 34 5)).toNatClampNeg a2) → (vp_in (σ2 34 5) 60 ∧ ∀ σ3, σ3 = sm_set σ2 37 (upd (σ2 37) ((σ2 34 5)).toNatClampNeg a3) → (vp_in (σ3 34 5) 60 ∧ ∀ σ4, σ4 = sm_set σ3 38 (upd (σ3 38) ((σ3 34 5)).toNatClampNeg a4) → ((60 ≤ ((σ4 34 5) + 1) → (∀ σ5, σ5 = sm_set σ4 34 (upd (σ4 34) 5 0) → (∀ σ6, σ6 = sm_set σ5 34 (upd (σ5 34) 4 ((σ5 34 4) + 1)) → Q none σ6))) ∧ (¬ (60 ≤ ((σ4 34 5) + 1)) → (∀ σ7, σ7 = sm_set σ4 34 (upd (σ4 34) 5 ((σ4 34 5) + 1)) → (∀ σ8, σ8 = sm_set σ7 34 (upd (σ7 34) 4 ((σ7 34 4) + 1)) → Q none σ8))))))))) : xC xD j_L_add [.ref 34, .int a1, .int a2, .int a3, .int a4] σ Q := sm_wp_C (M := m_L_add) rfl [] 45 h
set_option maxRecDepth 100000 in
set_option maxHeartbeats 4000000 in
theorem d_Y_remove (a1 : Int32) (σ : sm_S) (Q : Option Value → sm_S → Prop) (h : (vp_in a1 96 ∧ (vp_in a1 96 ∧ (¬ (32 : Int32) = 0 ∧ xC xD j_S_shutBits [.ref 17, .int ((σ 9 (a1).toNatClampNeg) / (32 : Int32))] σ (sm_ri False (fun x2 σ1 => xC xD j_F_letGo [.ref 1, .int (σ 9 (a1).toNatClampNeg), .int ((1 : Int32) <<< ((σ 10 (a1).toNatClampNeg) &&& 31)), .int x2] σ1 (sm_rv False (fun σ3 => (vp_in a1 96 ∧ ∀ σ4, σ4 = sm_set σ3 9 (upd (σ3 9) (a1).toNatClampNeg (-1)) → Q none σ4))))))))) : xC xD j_Y_remove [.ref 0, .int a1] σ Q := sm_wp_C (M := m_Y_remove) rfl [] 31 h
set_option maxRecDepth 100000 in
set_option maxHeartbeats 4000000 in
theorem d_S_shutBits (a1 : Int32) (σ : sm_S) (Q : Option Value → sm_S → Prop) (h : (vp_in a1 8 ∧ (((σ 20 (a1).toNatClampNeg) < 4 → (vp_in a1 8 ∧ Q (some (.int (((1 : Int32) <<< (((σ 20 (a1).toNatClampNeg) * 8) &&& 31)) - 1))) σ)) ∧ (¬ ((σ 20 (a1).toNatClampNeg) < 4) → Q (some (.int (-1))) σ)))) : xC xD j_S_shutBits [.ref 17, .int a1] σ Q := sm_wp_C (M := m_S_shutBits) rfl [] 18 h
set_option maxRecDepth 100000 in
set_option maxHeartbeats 4000000 in
theorem d_F_letGo (a1 a2 a3 : Int32) (σ : sm_S) (Q : Option Value → sm_S → Prop) (h : (¬ (32 : Int32) = 0 ∧ (¬ (32 : Int32) = 0 ∧ (vp_in (a1 / (32 : Int32)) 8 ∧ (vp_in (a1 / (32 : Int32)) 8 ∧ ∀ σ1, σ1 = sm_set σ 4 (upd (σ 4) ((a1 / (32 : Int32))).toNatClampNeg ((σ 4 ((a1 / (32 : Int32))).toNatClampNeg) &&& (((((1 : Int32) <<< (a2 &&& 31)) - 1) <<< ((a1 - a1 / (32 : Int32) * (32 : Int32)) &&& 31)) ^^^ (-1)))) → (vp_in (a1 / (32 : Int32)) 8 ∧ (vp_in (a1 / (32 : Int32)) 8 ∧ ∀ σ2, σ2 = sm_set σ1 5 (upd (σ1 5) ((a1 / (32 : Int32))).toNatClampNeg ((σ1 5 ((a1 / (32 : Int32))).toNatClampNeg) &&& (((((1 : Int32) <<< (a2 &&& 31)) - 1) <<< ((a1 - a1 / (32 : Int32) * (32 : Int32)) &&& 31)) ^^^ (-1)))) → (vp_in (a1 / (32 : Int32)) 8 ∧ (vp_in (a1 / (32 : Int32)) 8 ∧ ∀ σ3, σ3 = sm_set σ2 2 (upd (σ2 2) ((a1 / (32 : Int32))).toNatClampNeg ((σ2 2 ((a1 / (32 : Int32))).toNatClampNeg) ||| (((((1 : Int32) <<< (a2 &&& 31)) - 1) <<< ((a1 - a1 / (32 : Int32) * (32 : Int32)) &&& 31)) &&& (a3 ^^^ (-1))))) → (vp_in (a1 / (32 : Int32)) 8 ∧ (vp_in (a1 / (32 : Int32)) 8 ∧ ∀ σ4, σ4 = sm_set σ3 3 (upd (σ3 3) ((a1 / (32 : Int32))).toNatClampNeg ((σ3 3 ((a1 / (32 : Int32))).toNatClampNeg) ||| (((((1 : Int32) <<< (a2 &&& 31)) - 1) <<< ((a1 - a1 / (32 : Int32) * (32 : Int32)) &&& 31)) &&& a3))) → xE xD m_F_letGo 79 [.ref 1, .int a1, .int a2, .int a3, .int (a1 / (32 : Int32)), .int ((((1 : Int32) <<< (a2 &&& 31)) - 1) <<< ((a1 - a1 / (32 : Int32) * (32 : Int32)) &&& 31)), .int a1] [] σ4 Q))))))))))) : xC xD j_F_letGo [.ref 1, .int a1, .int a2, .int a3] σ Q := sm_wp_C (M := m_F_letGo) rfl [79] 59 h
set_option maxRecDepth 100000 in
set_option maxHeartbeats 4000000 in
theorem d_F_letGo_79 (a1 a2 a3 a4 a5 a6 : Int32) (σ : sm_S) (Q : Option Value → sm_S → Prop) (h : (((a1 + a2) ≤ a6 → Q none σ) ∧ (¬ ((a1 + a2) ≤ a6) → (vp_in a6 256 ∧ ∀ σ1, σ1 = sm_set σ 6 (upd (σ 6) (a6).toNatClampNeg (-1)) → (vp_in a6 256 ∧ ∀ σ2, σ2 = sm_set σ1 7 (upd (σ1 7) (a6).toNatClampNeg 0) → xE xD m_F_letGo 79 [.ref 1, .int a1, .int a2, .int a3, .int a4, .int a5, .int (a6 + 1)] [] σ2 Q))))) : xE xD m_F_letGo 79 [.ref 1, .int a1, .int a2, .int a3, .int a4, .int a5, .int a6] [] σ Q := sm_wp_E (M := m_F_letGo) [79] 18 h
set_option maxRecDepth 100000 in
set_option maxHeartbeats 4000000 in
theorem d_B_leastNumber (σ : sm_S) (Q : Option Value → sm_S → Prop) (h : xE xD m_B_leastNumber 2 [.ref 8, .int 0] [] σ Q) : xC xD j_B_leastNumber [.ref 8] σ Q := sm_wp_C (M := m_B_leastNumber) rfl [2] 3 h
set_option maxRecDepth 100000 in
set_option maxHeartbeats 4000000 in
theorem d_B_leastNumber_2 (a1 : Int32) (σ : sm_S) (Q : Option Value → sm_S → Prop) (h : ((96 ≤ a1 → Q (some (.int (-1))) σ) ∧ (¬ (96 ≤ a1) → (vp_in a1 96 ∧ (((σ 9 (a1).toNatClampNeg) ≠ (-1) → xE xD m_B_leastNumber 2 [.ref 8, .int (a1 + 1)] [] σ Q) ∧ (¬ ((σ 9 (a1).toNatClampNeg) ≠ (-1)) → Q (some (.int a1)) σ)))))) : xE xD m_B_leastNumber 2 [.ref 8, .int a1] [] σ Q := sm_wp_E (M := m_B_leastNumber) [2] 12 h
set_option maxRecDepth 100000 in
set_option maxHeartbeats 4000000 in
theorem d_B_begin (a1 a2 a3 a4 a5 : Int32) (σ : sm_S) (Q : Option Value → sm_S → Prop) (h : (vp_in a1 96 ∧ ∀ σ1, σ1 = sm_set σ 9 (upd (σ 9) (a1).toNatClampNeg a2) → (vp_in a1 96 ∧ ∀ σ2, σ2 = sm_set σ1 10 (upd (σ1 10) (a1).toNatClampNeg a3) → (vp_in a1 96 ∧ ∀ σ3, σ3 = sm_set σ2 11 (upd (σ2 11) (a1).toNatClampNeg a4) → (vp_in a1 96 ∧ ∀ σ4, σ4 = sm_set σ3 12 (upd (σ3 12) (a1).toNatClampNeg a5) → (vp_in a1 96 ∧ ∀ σ5, σ5 = sm_set σ4 13 (upd (σ4 13) (a1).toNatClampNeg 0) → (vp_in a1 96 ∧ ∀ σ6, σ6 = sm_set σ5 14 (upd (σ5 14) (a1).toNatClampNeg (-1)) → (vp_in a1 96 ∧ ∀ σ7, σ7 = sm_set σ6 15 (upd (σ6 15) (a1).toNatClampNeg 0) → Q none σ7)))))))) : xC xD j_B_begin [.ref 8, .int a1, .int a2, .int a3, .int a4, .int a5] σ Q := sm_wp_C (M := m_B_begin) rfl [] 37 h
set_option maxRecDepth 100000 in
set_option maxHeartbeats 4000000 in
theorem d_F_give (a1 a2 a3 : Int32) (σ : sm_S) (Q : Option Value → sm_S → Prop) (h : (¬ (32 : Int32) = 0 ∧ (vp_in (a2 / (32 : Int32)) 8 ∧ xC xD j_F_claim [.ref 1, .int a1, .int a2, .int a3] σ (sm_ri False (fun x2 σ1 => (vp_in (a2 / (32 : Int32)) 8 ∧ ∀ σ3, σ3 = sm_set σ1 4 (upd (σ1 4) ((a2 / (32 : Int32))).toNatClampNeg ((σ 4 ((a2 / (32 : Int32))).toNatClampNeg) ||| x2)) → Q none σ3)))))) : xC xD j_F_give [.ref 1, .int a1, .int a2, .int a3] σ Q := sm_wp_C (M := m_F_give) rfl [] 16 h
set_option maxRecDepth 100000 in
set_option maxHeartbeats 4000000 in
theorem d_F_claim (a1 a2 a3 : Int32) (σ : sm_S) (Q : Option Value → sm_S → Prop) (h : (¬ (32 : Int32) = 0 ∧ (¬ (32 : Int32) = 0 ∧ (vp_in (a2 / (32 : Int32)) 8 ∧ (vp_in (a2 / (32 : Int32)) 8 ∧ ∀ σ1, σ1 = sm_set σ 2 (upd (σ 2) ((a2 / (32 : Int32))).toNatClampNeg ((σ 2 ((a2 / (32 : Int32))).toNatClampNeg) &&& (((((1 : Int32) <<< (a3 &&& 31)) - 1) <<< ((a2 - a2 / (32 : Int32) * (32 : Int32)) &&& 31)) ^^^ (-1)))) → xE xD m_F_claim 31 [.ref 1, .int a1, .int a2, .int a3, .int ((((1 : Int32) <<< (a3 &&& 31)) - 1) <<< ((a2 - a2 / (32 : Int32) * (32 : Int32)) &&& 31)), .int a2] [] σ1 Q))))) : xC xD j_F_claim [.ref 1, .int a1, .int a2, .int a3] σ Q := sm_wp_C (M := m_F_claim) rfl [31] 25 h
set_option maxRecDepth 100000 in
set_option maxHeartbeats 4000000 in
theorem d_F_claim_31 (a1 a2 a3 a4 a5 : Int32) (σ : sm_S) (Q : Option Value → sm_S → Prop) (h : (((a2 + a3) ≤ a5 → Q (some (.int a4)) σ) ∧ (¬ ((a2 + a3) ≤ a5) → (vp_in a5 256 ∧ ∀ σ1, σ1 = sm_set σ 6 (upd (σ 6) (a5).toNatClampNeg a1) → xE xD m_F_claim 31 [.ref 1, .int a1, .int a2, .int a3, .int a4, .int (a5 + 1)] [] σ1 Q)))) : xE xD m_F_claim 31 [.ref 1, .int a1, .int a2, .int a3, .int a4, .int a5] [] σ Q := sm_wp_E (M := m_F_claim) [31] 13 h
set_option maxRecDepth 100000 in
set_option maxHeartbeats 4000000 in
theorem d_B_has (a1 : Int32) (σ : sm_S) (Q : Option Value → sm_S → Prop) (h : ((a1 < 0 → (((0 : Int32) = 0 ∨ (0 : Int32) = 1) ∧ Q (some (.int 0)) σ)) ∧ (¬ (a1 < 0) → ((96 ≤ a1 → (((0 : Int32) = 0 ∨ (0 : Int32) = 1) ∧ Q (some (.int 0)) σ)) ∧ (¬ (96 ≤ a1) → (vp_in a1 96 ∧ (((σ 9 (a1).toNatClampNeg) = (-1) → (((0 : Int32) = 0 ∨ (0 : Int32) = 1) ∧ Q (some (.int 0)) σ)) ∧ (¬ ((σ 9 (a1).toNatClampNeg) = (-1)) → (((1 : Int32) = 0 ∨ (1 : Int32) = 1) ∧ Q (some (.int 1)) σ))))))))) : xC xD j_B_has [.ref 8, .int a1] σ Q := sm_wp_C (M := m_B_has) rfl [] 15 h
set_option maxRecDepth 100000 in
set_option maxHeartbeats 4000000 in
theorem d_B_size (a1 : Int32) (σ : sm_S) (Q : Option Value → sm_S → Prop) (h : (vp_in a1 96 ∧ Q (some (.int ((1 : Int32) <<< ((σ 10 (a1).toNatClampNeg) &&& 31)))) σ)) : xC xD j_B_size [.ref 8, .int a1] σ Q := sm_wp_C (M := m_B_size) rfl [] 8 h
set_option maxRecDepth 100000 in
set_option maxHeartbeats 4000000 in
theorem d_K_wants (a1 a2 a3 a4 : Int32) (σ : sm_S) (Q : Option Value → sm_S → Prop) (h : (vp_in a1 6 ∧ ∀ σ1, σ1 = sm_set σ 30 (upd (σ 30) (a1).toNatClampNeg a2) → (vp_in a1 6 ∧ ∀ σ2, σ2 = sm_set σ1 31 (upd (σ1 31) (a1).toNatClampNeg a3) → (vp_in a1 6 ∧ ∀ σ3, σ3 = sm_set σ2 32 (upd (σ2 32) (a1).toNatClampNeg a4) → Q none σ3)))) : xC xD j_K_wants [.ref 26, .int a1, .int a2, .int a3, .int a4] σ Q := sm_wp_C (M := m_K_wants) rfl [] 17 h
set_option maxRecDepth 100000 in
set_option maxHeartbeats 4000000 in
theorem d_Y_doOrWait (a1 a2 : Int32) (σ : sm_S) (Q : Option Value → sm_S → Prop) (h : (vp_in a2 96 ∧ (((σ 14 (a2).toNatClampNeg) ≠ (-1) → xC xD j_K_queue [.ref 26, .int a1, .int a2] σ (sm_rv False (fun σ1 => (vp_in (8 : Int32) 11 ∧ (vp_in (8 : Int32) 11 ∧ ∀ σ2, σ2 = sm_set σ1 40 (upd (σ1 40) ((8 : Int32)).toNatClampNeg ((σ1 40 ((8 : Int32)).toNatClampNeg) + 1)) → xC xD j_L_add [.ref 34, .int (σ2 0 7), .int 7, .int a1, .int a2] σ2 (sm_rv False (fun σ3 => Q (some (.int 1)) σ3))))))) ∧ (¬ ((σ 14 (a2).toNatClampNeg) ≠ (-1)) → xC xD j_Y_fulfil [.ref 0, .int a1, .int a2] σ (sm_rv False (fun σ4 => Q (some (.int 0)) σ4)))))) : xC xD j_Y_doOrWait [.ref 0, .int a1, .int a2] σ Q := sm_wp_C (M := m_Y_doOrWait) rfl [] 31 h
set_option maxRecDepth 100000 in
set_option maxHeartbeats 4000000 in
theorem d_Y_fulfil (a1 a2 : Int32) (σ : sm_S) (Q : Option Value → sm_S → Prop) (h : (vp_in a1 6 ∧ (((σ 30 (a1).toNatClampNeg) ≠ 2 → (vp_in a2 96 ∧ (vp_in a1 6 ∧ (vp_in a1 6 ∧ (((σ 30 (a1).toNatClampNeg) ≠ 0 → (vp_in a1 6 ∧ (vp_in ((σ 9 (a2).toNatClampNeg) + (σ 31 (a1).toNatClampNeg)) 256 ∧ ∀ σ1, σ1 = sm_set σ 7 (upd (σ 7) (((σ 9 (a2).toNatClampNeg) + (σ 31 (a1).toNatClampNeg))).toNatClampNeg (σ 32 (a1).toNatClampNeg)) → (∀ σ2, σ2 = sm_set σ1 8 (upd (σ1 8) 8 ((σ1 8 8) + 1)) → (vp_in a2 96 ∧ ∀ σ3, σ3 = sm_set σ2 16 (upd (σ2 16) (a2).toNatClampNeg (σ2 8 8)) → Q none σ3))))) ∧ (¬ ((σ 30 (a1).toNatClampNeg) ≠ 0) → (vp_in ((σ 9 (a2).toNatClampNeg) + (σ 31 (a1).toNatClampNeg)) 256 ∧ (vp_in a1 6 ∧ ∀ σ4, σ4 = sm_set σ 29 (upd (σ 29) (a1).toNatClampNeg (σ 7 (((σ 9 (a2).toNatClampNeg) + (σ 31 (a1).toNatClampNeg))).toNatClampNeg)) → (∀ σ5, σ5 = sm_set σ4 8 (upd (σ4 8) 8 ((σ4 8 8) + 1)) → (vp_in a2 96 ∧ ∀ σ6, σ6 = sm_set σ5 16 (upd (σ5 16) (a2).toNatClampNeg (σ5 8 8)) → Q none σ6)))))))))) ∧ (¬ ((σ 30 (a1).toNatClampNeg) ≠ 2) → (vp_in a2 96 ∧ (vp_in a2 96 ∧ ∀ σ7, σ7 = sm_set σ 13 (upd (σ 13) (a2).toNatClampNeg ((σ 13 (a2).toNatClampNeg) ||| ((1 : Int32) <<< (a1 &&& 31)))) → Q none σ7)))))) : xC xD j_Y_fulfil [.ref 0, .int a1, .int a2] σ Q := sm_wp_C (M := m_Y_fulfil) rfl [] 53 h
set_option maxRecDepth 100000 in
set_option maxHeartbeats 4000000 in
theorem d_K_queue (a1 a2 : Int32) (σ : sm_S) (Q : Option Value → sm_S → Prop) (h : ((6 ≤ (σ 26 7) → Q none σ) ∧ (¬ (6 ≤ (σ 26 7)) → (vp_in (σ 26 7) 6 ∧ ∀ σ1, σ1 = sm_set σ 33 (upd (σ 33) ((σ 26 7)).toNatClampNeg a1) → (∀ σ2, σ2 = sm_set σ1 26 (upd (σ1 26) 7 ((σ1 26 7) + 1)) → (vp_in a1 6 ∧ ∀ σ3, σ3 = sm_set σ2 28 (upd (σ2 28) (a1).toNatClampNeg a2) → Q none σ3)))))) : xC xD j_K_queue [.ref 26, .int a1, .int a2] σ Q := sm_wp_C (M := m_K_queue) rfl [] 23 h
set_option maxRecDepth 100000 in
set_option maxHeartbeats 4000000 in
theorem d_A_isSpan (a0 : Int32) (σ : sm_S) (Q : Option Value → sm_S → Prop) (h : ((a0 < 0 → (((0 : Int32) = 0 ∨ (0 : Int32) = 1) ∧ Q (some (.int 0)) σ)) ∧ (¬ (a0 < 0) → ((8 ≤ a0 → (((0 : Int32) = 0 ∨ (0 : Int32) = 1) ∧ Q (some (.int 0)) σ)) ∧ (¬ (8 ≤ a0) → (((1 : Int32) = 0 ∨ (1 : Int32) = 1) ∧ Q (some (.int 1)) σ)))))) : xC xD j_A_isSpan [.int a0] σ Q := sm_wp_C (M := m_A_isSpan) rfl [] 9 h
set_option maxRecDepth 100000 in
set_option maxHeartbeats 4000000 in
theorem d_Y_zoneByRatio (σ : sm_S) (Q : Option Value → sm_S → Prop) (h : xC xD j_S_inZone [.ref 17, .int 1] σ (sm_ri False (fun x2 σ1 => xC xD j_S_inZone [.ref 17, .int 0] σ1 (sm_ri False (fun x4 σ3 => xC xD j_Y_staysInRatio [.ref 0, .int (x2 + 1), .int x4] σ3 (sm_ri False (fun x6 σ5 => ((x6 = 0 → Q (some (.int 0)) σ5) ∧ (¬ (x6 = 0) → Q (some (.int 1)) σ5))))))))) : xC xD j_Y_zoneByRatio [.ref 0] σ Q := sm_wp_C (M := m_Y_zoneByRatio) rfl [] 19 h
set_option maxRecDepth 100000 in
set_option maxHeartbeats 4000000 in
theorem d_S_inZone (a1 : Int32) (σ : sm_S) (Q : Option Value → sm_S → Prop) (h : xE xD m_S_inZone 4 [.ref 17, .int a1, .int 0, .int 0] [] σ Q) : xC xD j_S_inZone [.ref 17, .int a1] σ Q := sm_wp_C (M := m_S_inZone) rfl [4] 5 h
set_option maxRecDepth 100000 in
set_option maxHeartbeats 4000000 in
theorem d_S_inZone_4 (a1 a2 a3 : Int32) (σ : sm_S) (Q : Option Value → sm_S → Prop) (h : ((8 ≤ a3 → Q (some (.int a2)) σ) ∧ (¬ (8 ≤ a3) → (vp_in a3 8 ∧ (((σ 19 (a3).toNatClampNeg) ≠ a1 → xE xD m_S_inZone 4 [.ref 17, .int a1, .int (a2 + 0), .int (a3 + 1)] [] σ Q) ∧ (¬ ((σ 19 (a3).toNatClampNeg) ≠ a1) → xE xD m_S_inZone 4 [.ref 17, .int a1, .int (a2 + 1), .int (a3 + 1)] [] σ Q)))))) : xE xD m_S_inZone 4 [.ref 17, .int a1, .int a2, .int a3] [] σ Q := sm_wp_E (M := m_S_inZone) [4] 17 h
set_option maxRecDepth 100000 in
set_option maxHeartbeats 4000000 in
theorem d_Y_staysInRatio (a1 a2 : Int32) (σ : sm_S) (Q : Option Value → sm_S → Prop) (h : (vp_in (2 : Int32) 4 ∧ ((((σ 39 ((2 : Int32)).toNatClampNeg) * a2) < (100 * a1) → (((0 : Int32) = 0 ∨ (0 : Int32) = 1) ∧ Q (some (.int 0)) σ)) ∧ (¬ (((σ 39 ((2 : Int32)).toNatClampNeg) * a2) < (100 * a1)) → (((1 : Int32) = 0 ∨ (1 : Int32) = 1) ∧ Q (some (.int 1)) σ))))) : xC xD j_Y_staysInRatio [.ref 0, .int a1, .int a2] σ Q := sm_wp_C (M := m_Y_staysInRatio) rfl [] 14 h
set_option maxRecDepth 100000 in
set_option maxHeartbeats 4000000 in
theorem d_Y_open (a1 a2 : Int32) (σ : sm_S) (Q : Option Value → sm_S → Prop) (h : (vp_in a1 8 ∧ ∀ σ1, σ1 = sm_set σ 18 (upd (σ 18) (a1).toNatClampNeg 1) → (vp_in a1 8 ∧ ∀ σ2, σ2 = sm_set σ1 19 (upd (σ1 19) (a1).toNatClampNeg a2) → (vp_in a1 8 ∧ ∀ σ3, σ3 = sm_set σ2 2 (upd (σ2 2) (a1).toNatClampNeg (-1)) → xC xD j_L_add [.ref 34, .int (σ3 0 7), .int 3, .int a1, .int a2] σ3 (sm_rv False (fun σ4 => Q none σ4)))))) : xC xD j_Y_open [.ref 0, .int a1, .int a2] σ Q := sm_wp_C (M := m_Y_open) rfl [] 28 h
set_option maxRecDepth 100000 in
set_option maxHeartbeats 4000000 in
theorem d_S_nextByTurns (σ : sm_S) (Q : Option Value → sm_S → Prop) (h : xE xD m_S_nextByTurns 7 [.ref 17, .int (-1), .int 8, .int 0, .null, .null, .null] [] σ Q) : xC xD j_S_nextByTurns [.ref 17] σ Q := sm_wp_C (M := m_S_nextByTurns) rfl [7, 21] 7 h
set_option maxRecDepth 100000 in
set_option maxHeartbeats 4000000 in
theorem d_S_nextByTurns_7 (a1 a2 a3 : Int32) (v4 v5 v6 : Value) (σ : sm_S) (Q : Option Value → sm_S → Prop) (h : ((2 ≤ a3 → Q (some (.int a1)) σ) ∧ (¬ (2 ≤ a3) → xE xD m_S_nextByTurns 21 [.ref 17, .int a1, .int a2, .int a3, .int 0, .int (-1), .int a3] [] σ Q))) : xE xD m_S_nextByTurns 7 [.ref 17, .int a1, .int a2, .int a3, v4, v5, v6] [] σ Q := sm_wp_E (M := m_S_nextByTurns) [7, 21] 10 h
set_option maxRecDepth 100000 in
set_option maxHeartbeats 4000000 in
theorem d_S_nextByTurns_21 (a1 a2 a3 a4 a5 a6 : Int32) (σ : sm_S) (Q : Option Value → sm_S → Prop) (h : ((8 ≤ a6 → ((a5 = (-1) → xE xD m_S_nextByTurns 7 [.ref 17, .int a1, .int a2, .int (a3 + 1), .int a4, .int a5, .int a6] [] σ Q) ∧ (¬ (a5 = (-1)) → ((a2 ≤ a4 → xE xD m_S_nextByTurns 7 [.ref 17, .int a1, .int a2, .int (a3 + 1), .int a4, .int a5, .int a6] [] σ Q) ∧ (¬ (a2 ≤ a4) → xE xD m_S_nextByTurns 7 [.ref 17, .int a5, .int a4, .int (a3 + 1), .int a4, .int a5, .int a6] [] σ Q))))) ∧ (¬ (8 ≤ a6) → (vp_in a6 8 ∧ (((σ 18 (a6).toNatClampNeg) = 0 → ((a5 ≠ (-1) → xE xD m_S_nextByTurns 21 [.ref 17, .int a1, .int a2, .int a3, .int a4, .int a5, .int (a6 + 2)] [] σ Q) ∧ (¬ (a5 ≠ (-1)) → xE xD m_S_nextByTurns 21 [.ref 17, .int a1, .int a2, .int a3, .int a4, .int a6, .int (a6 + 2)] [] σ Q))) ∧ (¬ ((σ 18 (a6).toNatClampNeg) = 0) → xE xD m_S_nextByTurns 21 [.ref 17, .int a1, .int a2, .int a3, .int (a4 + 1), .int a5, .int (a6 + 2)] [] σ Q)))))) : xE xD m_S_nextByTurns 21 [.ref 17, .int a1, .int a2, .int a3, .int a4, .int a5, .int a6] [] σ Q := sm_wp_E (M := m_S_nextByTurns) [7, 21] 16 h
set_option maxRecDepth 100000 in
set_option maxHeartbeats 4000000 in
theorem d_Y_pack (a1 : Int32) (σ : sm_S) (Q : Option Value → sm_S → Prop) (h : xE xD m_Y_pack 5 [.ref 0, .int a1, .int 0, .int 31, .null, .null, .null] [] σ Q) : xC xD j_Y_pack [.ref 0, .int a1] σ Q := sm_wp_C (M := m_Y_pack) rfl [5] 5 h
set_option maxRecDepth 100000 in
set_option maxHeartbeats 4000000 in
theorem d_Y_pack_5 (a1 a2 a3 : Int32) (v4 v5 v6 : Value) (σ : sm_S) (Q : Option Value → sm_S → Prop) (h : ((a3 < 0 → Q (some (.int a2)) σ) ∧ (¬ (a3 < 0) → xC xD j_Y_blockAt [.ref 0, .int ((a1 * 32) + a3)] σ (sm_ri False (fun x2 σ1 => ((x2 = (-1) → xE xD m_Y_pack 5 [.ref 0, .int a1, .int a2, .int (a3 + (-1)), .int x2, v5, v6] [] σ1 Q) ∧ (¬ (x2 = (-1)) → (vp_in x2 96 ∧ (((σ1 11 (x2).toNatClampNeg) ≠ 0 → xE xD m_Y_pack 5 [.ref 0, .int a1, .int a2, .int (a3 + (-1)), .int x2, v5, v6] [] σ1 Q) ∧ (¬ ((σ1 11 (x2).toNatClampNeg) ≠ 0) → xC xD j_B_isLoose [.ref 8, .int x2] σ1 (sm_ri False (fun x4 σ3 => ((x4 ≠ 0 → (vp_in a1 8 ∧ (vp_in x2 96 ∧ xC xD j_R_starts [.int (σ3 2 (a1).toNatClampNeg), .int (σ3 10 (x2).toNatClampNeg)] σ3 (sm_ri False (fun x6 σ5 => xC xD j_I_numberOfTrailingZeros [.int x6] σ5 (sm_ri False (fun x8 σ7 => ((a3 ≤ x8 → xE xD m_Y_pack 5 [.ref 0, .int a1, .int a2, .int (a3 + (-1)), .int x2, .int x6, .int x8] [] σ7 Q) ∧ (¬ (a3 ≤ x8) → xC xD j_Y_moveAtOnce [.ref 0, .int x2, .int ((a1 * 32) + x8)] σ7 (sm_rv False (fun σ9 => xE xD m_Y_pack 5 [.ref 0, .int a1, .int (a2 + 1), .int (a3 + (-1)), .int x2, .int x6, .int x8] [] σ9 Q))))))))))) ∧ (¬ (x4 ≠ 0) → xE xD m_Y_pack 5 [.ref 0, .int a1, .int a2, .int (a3 + (-1)), .int x2, v5, v6] [] σ3 Q)))))))))))))) : xE xD m_Y_pack 5 [.ref 0, .int a1, .int a2, .int a3, v4, v5, v6] [] σ Q := sm_wp_E (M := m_Y_pack) [5] 54 h
set_option maxRecDepth 100000 in
set_option maxHeartbeats 4000000 in
theorem d_Y_blockAt (a1 : Int32) (σ : sm_S) (Q : Option Value → sm_S → Prop) (h : (vp_in a1 256 ∧ (((σ 6 (a1).toNatClampNeg) = (-1) → Q (some (.int (-1))) σ) ∧ (¬ ((σ 6 (a1).toNatClampNeg) = (-1)) → (vp_in (σ 6 (a1).toNatClampNeg) 96 ∧ (((σ 9 ((σ 6 (a1).toNatClampNeg)).toNatClampNeg) ≠ a1 → Q (some (.int (-1))) σ) ∧ (¬ ((σ 9 ((σ 6 (a1).toNatClampNeg)).toNatClampNeg) ≠ a1) → Q (some (.int (σ 6 (a1).toNatClampNeg))) σ))))))) : xC xD j_Y_blockAt [.ref 0, .int a1] σ Q := sm_wp_C (M := m_Y_blockAt) rfl [] 20 h
set_option maxRecDepth 100000 in
set_option maxHeartbeats 4000000 in
theorem d_Y_moveAtOnce (a1 a2 : Int32) (σ : sm_S) (Q : Option Value → sm_S → Prop) (h : (vp_in a1 96 ∧ xC xD j_B_size [.ref 8, .int a1] σ (sm_ri False (fun x2 σ1 => xC xD j_F_give [.ref 1, .int a1, .int a2, .int x2] σ1 (sm_rv False (fun σ3 => xC xD j_F_copyValues [.ref 1, .int (σ 9 (a1).toNatClampNeg), .int a2, .int x2] σ3 (sm_rv False (fun σ4 => xC xD j_F_letGo [.ref 1, .int (σ 9 (a1).toNatClampNeg), .int x2, .int 0] σ4 (sm_rv False (fun σ5 => (vp_in a1 96 ∧ ∀ σ6, σ6 = sm_set σ5 9 (upd (σ5 9) (a1).toNatClampNeg a2) → (vp_in (10 : Int32) 11 ∧ (vp_in (10 : Int32) 11 ∧ ∀ σ7, σ7 = sm_set σ6 40 (upd (σ6 40) ((10 : Int32)).toNatClampNeg ((σ6 40 ((10 : Int32)).toNatClampNeg) + 1)) → Q none σ7))))))))))))) : xC xD j_Y_moveAtOnce [.ref 0, .int a1, .int a2] σ Q := sm_wp_C (M := m_Y_moveAtOnce) rfl [] 45 h
set_option maxRecDepth 100000 in
set_option maxHeartbeats 4000000 in
theorem d_F_copyValues (a1 a2 a3 : Int32) (σ : sm_S) (Q : Option Value → sm_S → Prop) (h : xE xD m_F_copyValues 3 [.ref 1, .int a1, .int a2, .int a3, .int 0] [] σ Q) : xC xD j_F_copyValues [.ref 1, .int a1, .int a2, .int a3] σ Q := sm_wp_C (M := m_F_copyValues) rfl [3] 3 h
set_option maxRecDepth 100000 in
set_option maxHeartbeats 4000000 in
theorem d_F_copyValues_3 (a1 a2 a3 a4 : Int32) (σ : sm_S) (Q : Option Value → sm_S → Prop) (h : ((a3 ≤ a4 → Q none σ) ∧ (¬ (a3 ≤ a4) → (vp_in (a1 + a4) 256 ∧ (vp_in (a2 + a4) 256 ∧ ∀ σ1, σ1 = sm_set σ 7 (upd (σ 7) ((a2 + a4)).toNatClampNeg (σ 7 ((a1 + a4)).toNatClampNeg)) → xE xD m_F_copyValues 3 [.ref 1, .int a1, .int a2, .int a3, .int (a4 + 1)] [] σ1 Q))))) : xE xD m_F_copyValues 3 [.ref 1, .int a1, .int a2, .int a3, .int a4] [] σ Q := sm_wp_E (M := m_F_copyValues) [3] 18 h
set_option maxRecDepth 100000 in
set_option maxHeartbeats 4000000 in
theorem d_Y_bringNearer (a1 : Int32) (σ : sm_S) (Q : Option Value → sm_S → Prop) (h : xE xD m_Y_bringNearer 4 [.ref 0, .int a1, .int 0, .int 0, .null] [] σ Q) : xC xD j_Y_bringNearer [.ref 0, .int a1] σ Q := sm_wp_C (M := m_Y_bringNearer) rfl [4] 5 h
set_option maxRecDepth 100000 in
set_option maxHeartbeats 4000000 in
theorem d_Y_bringNearer_4 (a1 a2 a3 : Int32) (v4 : Value) (σ : sm_S) (Q : Option Value → sm_S → Prop) (h : ((96 ≤ a3 → Q (some (.int a2)) σ) ∧ (¬ (96 ≤ a3) → xC xD j_B_has [.ref 8, .int a3] σ (sm_ri False (fun x2 σ1 => ((x2 = 0 → ((((-1) : Int32) = (-1) → xE xD m_Y_bringNearer 4 [.ref 0, .int a1, .int a2, .int (a3 + 1), .int (-1)] [] σ1 Q) ∧ (¬ (((-1) : Int32) = (-1)) → xC xD j_Y_moveAtOnce [.ref 0, .int a3, .int (-1)] σ1 (sm_rv False (fun σ3 => xE xD m_Y_bringNearer 4 [.ref 0, .int a1, .int (a2 + 1), .int (a3 + 1), .int (-1)] [] σ3 Q))))) ∧ (¬ (x2 = 0) → (vp_in a3 96 ∧ (((σ1 12 (a3).toNatClampNeg) ≠ a1 → ((((-1) : Int32) = (-1) → xE xD m_Y_bringNearer 4 [.ref 0, .int a1, .int a2, .int (a3 + 1), .int (-1)] [] σ1 Q) ∧ (¬ (((-1) : Int32) = (-1)) → xC xD j_Y_moveAtOnce [.ref 0, .int a3, .int (-1)] σ1 (sm_rv False (fun σ4 => xE xD m_Y_bringNearer 4 [.ref 0, .int a1, .int (a2 + 1), .int (a3 + 1), .int (-1)] [] σ4 Q))))) ∧ (¬ ((σ1 12 (a3).toNatClampNeg) ≠ a1) → xC xD j_Y_nearerPlace [.ref 0, .int a3] σ1 (sm_ri False (fun x6 σ5 => ((x6 = (-1) → xE xD m_Y_bringNearer 4 [.ref 0, .int a1, .int a2, .int (a3 + 1), .int x6] [] σ5 Q) ∧ (¬ (x6 = (-1)) → xC xD j_Y_moveAtOnce [.ref 0, .int a3, .int x6] σ5 (sm_rv False (fun σ7 => xE xD m_Y_bringNearer 4 [.ref 0, .int a1, .int (a2 + 1), .int (a3 + 1), .int x6] [] σ7 Q)))))))))))))))) : xE xD m_Y_bringNearer 4 [.ref 0, .int a1, .int a2, .int a3, v4] [] σ Q := sm_wp_E (M := m_Y_bringNearer) [4] 31 h
set_option maxRecDepth 100000 in
set_option maxHeartbeats 4000000 in
theorem d_Y_nearerPlace (a1 : Int32) (σ : sm_S) (Q : Option Value → sm_S → Prop) (h : (vp_in a1 96 ∧ (¬ (32 : Int32) = 0 ∧ (vp_in a1 96 ∧ (((σ 11 (a1).toNatClampNeg) ≠ 0 → Q (some (.int (-1))) σ) ∧ (¬ ((σ 11 (a1).toNatClampNeg) ≠ 0) → xC xD j_B_isLoose [.ref 8, .int a1] σ (sm_ri False (fun x2 σ1 => ((x2 = 0 → Q (some (.int (-1))) σ1) ∧ (¬ (x2 = 0) → (vp_in ((σ 9 (a1).toNatClampNeg) / (32 : Int32)) 8 ∧ (((σ1 18 (((σ 9 (a1).toNatClampNeg) / (32 : Int32))).toNatClampNeg) = 1 → (vp_in a1 96 ∧ (vp_in a1 96 ∧ xC xD j_Y_bestPlace [.ref 0, .int (σ1 12 (a1).toNatClampNeg), .int 0, .int (σ1 10 (a1).toNatClampNeg), .int 1] σ1 (sm_ri False (fun x4 σ3 => ((x4 ≠ (-1) → (vp_in (σ1 12 (a1).toNatClampNeg) 6 ∧ (¬ (32 : Int32) = 0 ∧ xC xD j_Y_rank [.ref 0, .int (x4 / (32 : Int32)), .int 0, .int (σ3 27 ((σ1 12 (a1).toNatClampNeg)).toNatClampNeg)] σ3 (sm_ri False (fun x6 σ5 => xC xD j_Y_rank [.ref 0, .int ((σ 9 (a1).toNatClampNeg) / (32 : Int32)), .int 0, .int (σ3 27 ((σ1 12 (a1).toNatClampNeg)).toNatClampNeg)] σ5 (sm_ri False (fun x8 σ7 => ((x8 ≤ x6 → (((0 : Int32) = 0 → Q (some (.int (-1))) σ7) ∧ (¬ ((0 : Int32) = 0) → Q (some (.int x4)) σ7))) ∧ (¬ (x8 ≤ x6) → (((1 : Int32) = 0 → Q (some (.int (-1))) σ7) ∧ (¬ ((1 : Int32) = 0) → Q (some (.int x4)) σ7))))))))))) ∧ (¬ (x4 ≠ (-1)) → Q (some (.int (-1))) σ3))))))) ∧ (¬ ((σ1 18 (((σ 9 (a1).toNatClampNeg) / (32 : Int32))).toNatClampNeg) = 1) → Q (some (.int (-1))) σ1))))))))))))) : xC xD j_Y_nearerPlace [.ref 0, .int a1] σ Q := sm_wp_C (M := m_Y_nearerPlace) rfl [] 74 h
set_option maxRecDepth 100000 in
set_option maxHeartbeats 4000000 in
theorem d_S_canGo (a1 : Int32) (σ : sm_S) (Q : Option Value → sm_S → Prop) (h : (vp_in a1 8 ∧ (((σ 18 (a1).toNatClampNeg) = 1 → xE xD m_S_canGo 14 [.ref 17, .int a1, .int 0] [] σ Q) ∧ (¬ ((σ 18 (a1).toNatClampNeg) = 1) → (((0 : Int32) = 0 ∨ (0 : Int32) = 1) ∧ Q (some (.int 0)) σ))))) : xC xD j_S_canGo [.ref 17, .int a1] σ Q := sm_wp_C (M := m_S_canGo) rfl [14] 9 h
set_option maxRecDepth 100000 in
set_option maxHeartbeats 4000000 in
theorem d_S_canGo_14 (a1 a2 : Int32) (σ : sm_S) (Q : Option Value → sm_S → Prop) (h : ((8 ≤ a2 → (((0 : Int32) = 0 ∨ (0 : Int32) = 1) ∧ Q (some (.int 0)) σ)) ∧ (¬ (8 ≤ a2) → ((a2 = a1 → xE xD m_S_canGo 14 [.ref 17, .int a1, .int (a2 + 1)] [] σ Q) ∧ (¬ (a2 = a1) → (vp_in a2 8 ∧ (((σ 18 (a2).toNatClampNeg) ≠ 1 → xE xD m_S_canGo 14 [.ref 17, .int a1, .int (a2 + 1)] [] σ Q) ∧ (¬ ((σ 18 (a2).toNatClampNeg) ≠ 1) → (vp_in a2 8 ∧ (((σ 19 (a2).toNatClampNeg) ≠ 0 → xE xD m_S_canGo 14 [.ref 17, .int a1, .int (a2 + 1)] [] σ Q) ∧ (¬ ((σ 19 (a2).toNatClampNeg) ≠ 0) → (((1 : Int32) = 0 ∨ (1 : Int32) = 1) ∧ Q (some (.int 1)) σ)))))))))))) : xE xD m_S_canGo 14 [.ref 17, .int a1, .int a2] [] σ Q := sm_wp_E (M := m_S_canGo) [14] 20 h
set_option maxRecDepth 100000 in
set_option maxHeartbeats 4000000 in
theorem d_G_begin (a1 : Int32) (σ : sm_S) (Q : Option Value → sm_S → Prop) (h : (vp_in a1 8 ∧ ∀ σ1, σ1 = sm_set σ 18 (upd (σ 18) (a1).toNatClampNeg 2) → (¬ (2 : Int32) = 0 ∧ xC xD j_L_add [.ref 34, .int (σ1 0 7), .int 0, .int a1, .int (a1 - a1 / (2 : Int32) * (2 : Int32))] σ1 (sm_rv False (fun σ2 => Q none σ2))))) : xC xD j_G_begin [.ref 41, .int a1] σ Q := sm_wp_C (M := m_G_begin) rfl [] 20 h
set_option maxRecDepth 100000 in
set_option maxHeartbeats 4000000 in
theorem d_S_isGoing (a1 : Int32) (σ : sm_S) (Q : Option Value → sm_S → Prop) (h : (vp_in a1 8 ∧ (((σ 18 (a1).toNatClampNeg) = 2 → (((1 : Int32) = 0 ∨ (1 : Int32) = 1) ∧ Q (some (.int 1)) σ)) ∧ (¬ ((σ 18 (a1).toNatClampNeg) = 2) → (vp_in a1 8 ∧ (((σ 18 (a1).toNatClampNeg) ≠ 3 → (((0 : Int32) = 0 ∨ (0 : Int32) = 1) ∧ Q (some (.int 0)) σ)) ∧ (¬ ((σ 18 (a1).toNatClampNeg) ≠ 3) → (((1 : Int32) = 0 ∨ (1 : Int32) = 1) ∧ Q (some (.int 1)) σ)))))))) : xC xD j_S_isGoing [.ref 17, .int a1] σ Q := sm_wp_C (M := m_S_isGoing) rfl [] 16 h
set_option maxRecDepth 100000 in
set_option maxHeartbeats 4000000 in
theorem d_G_callOff (a1 : Int32) (σ : sm_S) (Q : Option Value → sm_S → Prop) (h : (vp_in a1 8 ∧ (((σ 24 (a1).toNatClampNeg) = (-1) → xC xD j_G_fail [.ref 41, .int a1, .int 3] σ (sm_rv False (fun σ1 => Q none σ1))) ∧ (¬ ((σ 24 (a1).toNatClampNeg) = (-1)) → (vp_in (σ 24 (a1).toNatClampNeg) 96 ∧ xC xD j_B_size [.ref 8, .int (σ 24 (a1).toNatClampNeg)] σ (sm_ri False (fun x3 σ2 => (¬ (32 : Int32) = 0 ∧ xC xD j_S_shutBits [.ref 17, .int ((σ 14 ((σ 24 (a1).toNatClampNeg)).toNatClampNeg) / (32 : Int32))] σ2 (sm_ri False (fun x5 σ4 => xC xD j_F_letGo [.ref 1, .int (σ 14 ((σ 24 (a1).toNatClampNeg)).toNatClampNeg), .int x3, .int x5] σ4 (sm_rv False (fun σ6 => xC xD j_G_endWay [.ref 41, .int a1, .int (σ 24 (a1).toNatClampNeg)] σ6 (sm_rv False (fun σ7 => xC xD j_Y_serveLine [.ref 0, .int (σ 24 (a1).toNatClampNeg)] σ7 (sm_rv False (fun σ8 => xC xD j_G_fail [.ref 41, .int a1, .int 3] σ8 (sm_rv False (fun σ9 => Q none σ9)))))))))))))))))) : xC xD j_G_callOff [.ref 41, .int a1] σ Q := sm_wp_C (M := m_G_callOff) rfl [] 43 h
set_option maxRecDepth 100000 in
set_option maxHeartbeats 4000000 in
theorem d_G_endWay (a1 a2 : Int32) (σ : sm_S) (Q : Option Value → sm_S → Prop) (h : (vp_in a2 96 ∧ ∀ σ1, σ1 = sm_set σ 14 (upd (σ 14) (a2).toNatClampNeg (-1)) → (vp_in a2 96 ∧ ∀ σ2, σ2 = sm_set σ1 15 (upd (σ1 15) (a2).toNatClampNeg 0) → (vp_in a1 8 ∧ ∀ σ3, σ3 = sm_set σ2 24 (upd (σ2 24) (a1).toNatClampNeg (-1)) → Q none σ3)))) : xC xD j_G_endWay [.ref 41, .int a1, .int a2] σ Q := sm_wp_C (M := m_G_endWay) rfl [] 20 h
set_option maxRecDepth 100000 in
set_option maxHeartbeats 4000000 in
theorem d_Y_serveLine (a1 : Int32) (σ : sm_S) (Q : Option Value → sm_S → Prop) (h : xE xD m_Y_serveLine 4 [.ref 0, .int a1, .int 0, .int 0, .null] [] σ Q) : xC xD j_Y_serveLine [.ref 0, .int a1] σ Q := sm_wp_C (M := m_Y_serveLine) rfl [4] 5 h
set_option maxRecDepth 100000 in
set_option maxHeartbeats 4000000 in
theorem d_Y_serveLine_4 (a1 a2 a3 : Int32) (v4 : Value) (σ : sm_S) (Q : Option Value → sm_S → Prop) (h : (((σ 26 7) ≤ a3 → (∀ σ1, σ1 = sm_set σ 26 (upd (σ 26) 7 a2) → Q none σ1)) ∧ (¬ ((σ 26 7) ≤ a3) → (vp_in a3 6 ∧ (vp_in (σ 33 (a3).toNatClampNeg) 6 ∧ (((σ 28 ((σ 33 (a3).toNatClampNeg)).toNatClampNeg) ≠ a1 → (vp_in a2 6 ∧ ∀ σ2, σ2 = sm_set σ 33 (upd (σ 33) (a2).toNatClampNeg (σ 33 (a3).toNatClampNeg)) → xE xD m_Y_serveLine 4 [.ref 0, .int a1, .int (a2 + 1), .int (a3 + 1), .int (σ 33 (a3).toNatClampNeg)] [] σ2 Q)) ∧ (¬ ((σ 28 ((σ 33 (a3).toNatClampNeg)).toNatClampNeg) ≠ a1) → xC xD j_Y_fulfil [.ref 0, .int (σ 33 (a3).toNatClampNeg), .int a1] σ (sm_rv False (fun σ3 => (vp_in (σ 33 (a3).toNatClampNeg) 6 ∧ ∀ σ4, σ4 = sm_set σ3 28 (upd (σ3 28) ((σ 33 (a3).toNatClampNeg)).toNatClampNeg (-1)) → xC xD j_L_add [.ref 34, .int (σ4 0 7), .int 8, .int (σ 33 (a3).toNatClampNeg), .int a1] σ4 (sm_rv False (fun σ5 => xE xD m_Y_serveLine 4 [.ref 0, .int a1, .int a2, .int (a3 + 1), .int (σ 33 (a3).toNatClampNeg)] [] σ5 Q)))))))))))) : xE xD m_Y_serveLine 4 [.ref 0, .int a1, .int a2, .int a3, v4] [] σ Q := sm_wp_E (M := m_Y_serveLine) [4] 40 h
set_option maxRecDepth 100000 in
set_option maxHeartbeats 4000000 in
theorem d_G_fail (a1 a2 : Int32) (σ : sm_S) (Q : Option Value → sm_S → Prop) (h : (vp_in a1 8 ∧ (vp_in a1 8 ∧ (vp_in a1 8 ∧ ∀ σ1, σ1 = sm_set σ 2 (upd (σ 2) (a1).toNatClampNeg ((σ 2 (a1).toNatClampNeg) ||| (σ 3 (a1).toNatClampNeg))) → (vp_in a1 8 ∧ ∀ σ2, σ2 = sm_set σ1 3 (upd (σ1 3) (a1).toNatClampNeg 0) → xC xD j_S_endGoing [.ref 17, .int a1, .int 1] σ2 (sm_rv False (fun σ3 => (vp_in a1 8 ∧ ∀ σ4, σ4 = sm_set σ3 25 (upd (σ3 25) (a1).toNatClampNeg a2) → (vp_in (7 : Int32) 11 ∧ (vp_in (7 : Int32) 11 ∧ ∀ σ5, σ5 = sm_set σ4 40 (upd (σ4 40) ((7 : Int32)).toNatClampNeg ((σ4 40 ((7 : Int32)).toNatClampNeg) + 1)) → xC xD j_L_add [.ref 34, .int (σ5 0 7), .int 2, .int a1, .int a2] σ5 (sm_rv False (fun σ6 => Q none σ6)))))))))))) : xC xD j_G_fail [.ref 41, .int a1, .int a2] σ Q := sm_wp_C (M := m_G_fail) rfl [] 51 h
set_option maxRecDepth 100000 in
set_option maxHeartbeats 4000000 in
theorem d_S_endGoing (a1 a2 : Int32) (σ : sm_S) (Q : Option Value → sm_S → Prop) (h : (vp_in a1 8 ∧ ∀ σ1, σ1 = sm_set σ 18 (upd (σ 18) (a1).toNatClampNeg a2) → (vp_in a1 8 ∧ ∀ σ2, σ2 = sm_set σ1 20 (upd (σ1 20) (a1).toNatClampNeg 0) → (vp_in a1 8 ∧ ∀ σ3, σ3 = sm_set σ2 21 (upd (σ2 21) (a1).toNatClampNeg 0) → (vp_in a1 8 ∧ ∀ σ4, σ4 = sm_set σ3 22 (upd (σ3 22) (a1).toNatClampNeg 0) → (vp_in a1 8 ∧ ∀ σ5, σ5 = sm_set σ4 23 (upd (σ4 23) (a1).toNatClampNeg 0) → (vp_in a1 8 ∧ ∀ σ6, σ6 = sm_set σ5 24 (upd (σ5 24) (a1).toNatClampNeg (-1)) → Q none σ6))))))) : xC xD j_S_endGoing [.ref 17, .int a1, .int a2] σ Q := sm_wp_C (M := m_S_endGoing) rfl [] 32 h
set_option maxRecDepth 100000 in
set_option maxHeartbeats 4000000 in
theorem d_G_oneTick (σ : sm_S) (Q : Option Value → sm_S → Prop) (h : (∀ σ1, σ1 = sm_set σ 0 (upd (σ 0) 7 ((σ 0 7) + 1)) → xE xD m_G_oneTick 15 [.ref 41, .int 0] [] σ1 Q)) : xC xD j_G_oneTick [.ref 41] σ Q := sm_wp_C (M := m_G_oneTick) rfl [15] 10 h
set_option maxRecDepth 100000 in
set_option maxHeartbeats 4000000 in
theorem d_G_oneTick_15 (a1 : Int32) (σ : sm_S) (Q : Option Value → sm_S → Prop) (h : ((8 ≤ a1 → Q none σ) ∧ (¬ (8 ≤ a1) → (vp_in a1 8 ∧ (((σ 18 (a1).toNatClampNeg) ≠ 2 → (vp_in a1 8 ∧ (((σ 18 (a1).toNatClampNeg) ≠ 3 → xE xD m_G_oneTick 15 [.ref 41, .int (a1 + 1)] [] σ Q) ∧ (¬ ((σ 18 (a1).toNatClampNeg) ≠ 3) → xC xD j_G_moveOn [.ref 41, .int a1] σ (sm_rv False (fun σ1 => xE xD m_G_oneTick 15 [.ref 41, .int (a1 + 1)] [] σ1 Q)))))) ∧ (¬ ((σ 18 (a1).toNatClampNeg) ≠ 2) → xC xD j_G_shutNextPart [.ref 41, .int a1] σ (sm_rv False (fun σ2 => xE xD m_G_oneTick 15 [.ref 41, .int (a1 + 1)] [] σ2 Q)))))))) : xE xD m_G_oneTick 15 [.ref 41, .int a1] [] σ Q := sm_wp_E (M := m_G_oneTick) [15] 23 h
set_option maxRecDepth 100000 in
set_option maxHeartbeats 4000000 in
theorem d_G_shutNextPart (a1 : Int32) (σ : sm_S) (Q : Option Value → sm_S → Prop) (h : (vp_in a1 8 ∧ xC xD j_G_hasUnmovable [.ref 41, .int ((a1 * 32) + ((σ 20 (a1).toNatClampNeg) * 8))] σ (sm_ri False (fun x2 σ1 => ((x2 = 0 → (vp_in a1 8 ∧ (vp_in a1 8 ∧ (vp_in a1 8 ∧ ∀ σ3, σ3 = sm_set σ1 2 (upd (σ1 2) (a1).toNatClampNeg ((σ1 2 (a1).toNatClampNeg) &&& (((σ1 2 (a1).toNatClampNeg) &&& ((255 : Int32) <<< (((σ 20 (a1).toNatClampNeg) * 8) &&& 31))) ^^^ (-1)))) → (vp_in a1 8 ∧ (vp_in a1 8 ∧ ∀ σ4, σ4 = sm_set σ3 3 (upd (σ3 3) (a1).toNatClampNeg ((σ3 3 (a1).toNatClampNeg) ||| ((σ1 2 (a1).toNatClampNeg) &&& ((255 : Int32) <<< (((σ 20 (a1).toNatClampNeg) * 8) &&& 31))))) → (vp_in a1 8 ∧ (vp_in a1 8 ∧ ∀ σ5, σ5 = sm_set σ4 20 (upd (σ4 20) (a1).toNatClampNeg ((σ4 20 (a1).toNatClampNeg) + 1)) → (vp_in a1 8 ∧ (((σ5 20 (a1).toNatClampNeg) < 4 → Q none σ5) ∧ (¬ ((σ5 20 (a1).toNatClampNeg) < 4) → (vp_in a1 8 ∧ ∀ σ6, σ6 = sm_set σ5 18 (upd (σ5 18) (a1).toNatClampNeg 3) → (vp_in a1 8 ∧ ∀ σ7, σ7 = sm_set σ6 21 (upd (σ6 21) (a1).toNatClampNeg 1) → (vp_in a1 8 ∧ ∀ σ8, σ8 = sm_set σ7 23 (upd (σ7 23) (a1).toNatClampNeg 0) → Q none σ8)))))))))))))) ∧ (¬ (x2 = 0) → xC xD j_G_fail [.ref 41, .int a1, .int 0] σ1 (sm_rv False (fun σ9 => Q none σ9)))))))) : xC xD j_G_shutNextPart [.ref 41, .int a1] σ Q := sm_wp_C (M := m_G_shutNextPart) rfl [] 82 h
set_option maxRecDepth 100000 in
set_option maxHeartbeats 4000000 in
theorem d_G_hasUnmovable (a1 : Int32) (σ : sm_S) (Q : Option Value → sm_S → Prop) (h : xE xD m_G_hasUnmovable 2 [.ref 41, .int a1, .int a1, .null] [] σ Q) : xC xD j_G_hasUnmovable [.ref 41, .int a1] σ Q := sm_wp_C (M := m_G_hasUnmovable) rfl [2] 3 h
set_option maxRecDepth 100000 in
set_option maxHeartbeats 4000000 in
theorem d_G_hasUnmovable_2 (a1 a2 : Int32) (v3 : Value) (σ : sm_S) (Q : Option Value → sm_S → Prop) (h : (((a1 + 8) ≤ a2 → (((0 : Int32) = 0 ∨ (0 : Int32) = 1) ∧ Q (some (.int 0)) σ)) ∧ (¬ ((a1 + 8) ≤ a2) → ((256 ≤ a2 → (((0 : Int32) = 0 ∨ (0 : Int32) = 1) ∧ Q (some (.int 0)) σ)) ∧ (¬ (256 ≤ a2) → (vp_in a2 256 ∧ (((σ 6 (a2).toNatClampNeg) = (-1) → xE xD m_G_hasUnmovable 2 [.ref 41, .int a1, .int (a2 + 1), .int (σ 6 (a2).toNatClampNeg)] [] σ Q) ∧ (¬ ((σ 6 (a2).toNatClampNeg) = (-1)) → (vp_in (σ 6 (a2).toNatClampNeg) 96 ∧ (((σ 11 ((σ 6 (a2).toNatClampNeg)).toNatClampNeg) ≠ 1 → xE xD m_G_hasUnmovable 2 [.ref 41, .int a1, .int (a2 + 1), .int (σ 6 (a2).toNatClampNeg)] [] σ Q) ∧ (¬ ((σ 11 ((σ 6 (a2).toNatClampNeg)).toNatClampNeg) ≠ 1) → (((1 : Int32) = 0 ∨ (1 : Int32) = 1) ∧ Q (some (.int 1)) σ)))))))))))) : xE xD m_G_hasUnmovable 2 [.ref 41, .int a1, .int a2, v3] [] σ Q := sm_wp_E (M := m_G_hasUnmovable) [2] 27 h
set_option maxRecDepth 100000 in
set_option maxHeartbeats 4000000 in
theorem d_G_moveOn (a1 : Int32) (σ : sm_S) (Q : Option Value → sm_S → Prop) (h : (vp_in a1 8 ∧ (((σ 22 (a1).toNatClampNeg) ≤ 0 → (vp_in (0 : Int32) 4 ∧ xE xD m_G_moveOn 38 [.ref 41, .int a1, .int (σ 39 ((0 : Int32)).toNatClampNeg), .int 0, .null, .null] [] σ Q)) ∧ (¬ ((σ 22 (a1).toNatClampNeg) ≤ 0) → (vp_in a1 8 ∧ (vp_in a1 8 ∧ ∀ σ1, σ1 = sm_set σ 22 (upd (σ 22) (a1).toNatClampNeg ((σ 22 (a1).toNatClampNeg) - 1)) → Q none σ1)))))) : xC xD j_G_moveOn [.ref 41, .int a1] σ Q := sm_wp_C (M := m_G_moveOn) rfl [38] 17 h
set_option maxRecDepth 100000 in
set_option maxHeartbeats 4000000 in
theorem d_G_moveOn_38 (a1 a2 a3 : Int32) (v4 v5 : Value) (σ : sm_S) (Q : Option Value → sm_S → Prop) (h : ((1000 ≤ a3 → Q none σ) ∧ (¬ (1000 ≤ a3) → (vp_in a1 8 ∧ (((σ 24 (a1).toNatClampNeg) ≠ (-1) → xC xD j_G_copySome [.ref 41, .int (σ 24 (a1).toNatClampNeg), .int a2] σ (sm_ri False (fun x2 σ1 => (vp_in (σ 24 (a1).toNatClampNeg) 96 ∧ xC xD j_B_size [.ref 8, .int (σ 24 (a1).toNatClampNeg)] σ1 (sm_ri False (fun x4 σ3 => ((x4 ≤ (σ1 15 ((σ 24 (a1).toNatClampNeg)).toNatClampNeg) → xC xD j_G_arrive [.ref 41, .int a1, .int (σ 24 (a1).toNatClampNeg)] σ3 (sm_rv False (fun σ5 => xE xD m_G_moveOn 38 [.ref 41, .int a1, .int (a2 - x2), .int (a3 + 1), .int (σ 24 (a1).toNatClampNeg), v5] [] σ5 Q))) ∧ (¬ (x4 ≤ (σ1 15 ((σ 24 (a1).toNatClampNeg)).toNatClampNeg)) → Q none σ3)))))))) ∧ (¬ ((σ 24 (a1).toNatClampNeg) ≠ (-1)) → (vp_in a1 8 ∧ xC xD j_G_blockFrom [.ref 41, .int a1, .int (σ 23 (a1).toNatClampNeg)] σ (sm_ri False (fun x7 σ6 => ((x7 ≠ (-1) → xC xD j_G_lookAt [.ref 41, .int a1, .int x7] σ6 (sm_rv False (fun σ8 => xE xD m_G_moveOn 38 [.ref 41, .int a1, .int a2, .int (a3 + 1), .int (σ 24 (a1).toNatClampNeg), .int x7] [] σ8 Q))) ∧ (¬ (x7 ≠ (-1)) → xC xD j_G_endPass [.ref 41, .int a1] σ6 (sm_rv False (fun σ9 => Q none σ9))))))))))))) : xE xD m_G_moveOn 38 [.ref 41, .int a1, .int a2, .int a3, v4, v5] [] σ Q := sm_wp_E (M := m_G_moveOn) [38] 36 h
set_option maxRecDepth 100000 in
set_option maxHeartbeats 4000000 in
theorem d_G_blockFrom (a1 a2 : Int32) (σ : sm_S) (Q : Option Value → sm_S → Prop) (h : xE xD m_G_blockFrom 7 [.ref 41, .int a1, .int a2, .int ((a1 * 32) + a2), .null] [] σ Q) : xC xD j_G_blockFrom [.ref 41, .int a1, .int a2] σ Q := sm_wp_C (M := m_G_blockFrom) rfl [7] 7 h
set_option maxRecDepth 100000 in
set_option maxHeartbeats 4000000 in
theorem d_G_blockFrom_7 (a1 a2 a3 : Int32) (v4 : Value) (σ : sm_S) (Q : Option Value → sm_S → Prop) (h : ((((a1 + 1) * 32) ≤ a3 → Q (some (.int (-1))) σ) ∧ (¬ (((a1 + 1) * 32) ≤ a3) → (vp_in a3 256 ∧ (((σ 6 (a3).toNatClampNeg) = (-1) → xE xD m_G_blockFrom 7 [.ref 41, .int a1, .int a2, .int (a3 + 1), .int (σ 6 (a3).toNatClampNeg)] [] σ Q) ∧ (¬ ((σ 6 (a3).toNatClampNeg) = (-1)) → (vp_in (σ 6 (a3).toNatClampNeg) 96 ∧ (((σ 9 ((σ 6 (a3).toNatClampNeg)).toNatClampNeg) ≠ a3 → xE xD m_G_blockFrom 7 [.ref 41, .int a1, .int a2, .int (a3 + 1), .int (σ 6 (a3).toNatClampNeg)] [] σ Q) ∧ (¬ ((σ 9 ((σ 6 (a3).toNatClampNeg)).toNatClampNeg) ≠ a3) → Q (some (.int (σ 6 (a3).toNatClampNeg))) σ))))))))) : xE xD m_G_blockFrom 7 [.ref 41, .int a1, .int a2, .int a3, v4] [] σ Q := sm_wp_E (M := m_G_blockFrom) [7] 26 h
set_option maxRecDepth 100000 in
set_option maxHeartbeats 4000000 in
theorem d_G_endPass (a1 : Int32) (σ : sm_S) (Q : Option Value → sm_S → Prop) (h : (vp_in (9 : Int32) 11 ∧ (vp_in (9 : Int32) 11 ∧ ∀ σ1, σ1 = sm_set σ 40 (upd (σ 40) ((9 : Int32)).toNatClampNeg ((σ 40 ((9 : Int32)).toNatClampNeg) + 1)) → (vp_in a1 8 ∧ (((σ1 4 (a1).toNatClampNeg) ≠ 0 → (vp_in a1 8 ∧ (vp_in (1 : Int32) 4 ∧ (((σ1 21 (a1).toNatClampNeg) < (σ1 39 ((1 : Int32)).toNatClampNeg) → (vp_in a1 8 ∧ (vp_in a1 8 ∧ ∀ σ2, σ2 = sm_set σ1 21 (upd (σ1 21) (a1).toNatClampNeg ((σ1 21 (a1).toNatClampNeg) + 1)) → (vp_in (3 : Int32) 4 ∧ (vp_in a1 8 ∧ ∀ σ3, σ3 = sm_set σ2 22 (upd (σ2 22) (a1).toNatClampNeg (σ2 39 ((3 : Int32)).toNatClampNeg)) → (vp_in a1 8 ∧ ∀ σ4, σ4 = sm_set σ3 23 (upd (σ3 23) (a1).toNatClampNeg 0) → Q none σ4)))))) ∧ (¬ ((σ1 21 (a1).toNatClampNeg) < (σ1 39 ((1 : Int32)).toNatClampNeg)) → xC xD j_G_whyFails [.ref 41, .int a1] σ1 (sm_ri False (fun x6 σ5 => xC xD j_G_fail [.ref 41, .int a1, .int x6] σ5 (sm_rv False (fun σ7 => Q none σ7))))))))) ∧ (¬ ((σ1 4 (a1).toNatClampNeg) ≠ 0) → (vp_in a1 8 ∧ (((σ1 5 (a1).toNatClampNeg) ≠ 0 → (vp_in a1 8 ∧ (vp_in (1 : Int32) 4 ∧ (((σ1 21 (a1).toNatClampNeg) < (σ1 39 ((1 : Int32)).toNatClampNeg) → (vp_in a1 8 ∧ (vp_in a1 8 ∧ ∀ σ8, σ8 = sm_set σ1 21 (upd (σ1 21) (a1).toNatClampNeg ((σ1 21 (a1).toNatClampNeg) + 1)) → (vp_in (3 : Int32) 4 ∧ (vp_in a1 8 ∧ ∀ σ9, σ9 = sm_set σ8 22 (upd (σ8 22) (a1).toNatClampNeg (σ8 39 ((3 : Int32)).toNatClampNeg)) → (vp_in a1 8 ∧ ∀ σ10, σ10 = sm_set σ9 23 (upd (σ9 23) (a1).toNatClampNeg 0) → Q none σ10)))))) ∧ (¬ ((σ1 21 (a1).toNatClampNeg) < (σ1 39 ((1 : Int32)).toNatClampNeg)) → xC xD j_G_whyFails [.ref 41, .int a1] σ1 (sm_ri False (fun x12 σ11 => xC xD j_G_fail [.ref 41, .int a1, .int x12] σ11 (sm_rv False (fun σ13 => Q none σ13))))))))) ∧ (¬ ((σ1 5 (a1).toNatClampNeg) ≠ 0) → xC xD j_G_turnOff [.ref 41, .int a1] σ1 (sm_rv False (fun σ14 => Q none σ14))))))))))) : xC xD j_G_endPass [.ref 41, .int a1] σ Q := sm_wp_C (M := m_G_endPass) rfl [] 59 h
set_option maxRecDepth 100000 in
set_option maxHeartbeats 4000000 in
theorem d_G_turnOff (a1 : Int32) (σ : sm_S) (Q : Option Value → sm_S → Prop) (h : (vp_in (6 : Int32) 11 ∧ (vp_in (6 : Int32) 11 ∧ ∀ σ1, σ1 = sm_set σ 40 (upd (σ 40) ((6 : Int32)).toNatClampNeg ((σ 40 ((6 : Int32)).toNatClampNeg) + 1)) → (vp_in a1 8 ∧ xC xD j_L_add [.ref 34, .int (σ1 0 7), .int 1, .int a1, .int (σ1 21 (a1).toNatClampNeg)] σ1 (sm_rv False (fun σ2 => (vp_in a1 8 ∧ ∀ σ3, σ3 = sm_set σ2 2 (upd (σ2 2) (a1).toNatClampNeg 0) → (vp_in a1 8 ∧ ∀ σ4, σ4 = sm_set σ3 3 (upd (σ3 3) (a1).toNatClampNeg 0) → (vp_in a1 8 ∧ ∀ σ5, σ5 = sm_set σ4 19 (upd (σ4 19) (a1).toNatClampNeg (-1)) → xC xD j_S_endGoing [.ref 17, .int a1, .int 0] σ5 (sm_rv False (fun σ6 => Q none σ6))))))))))) : xC xD j_G_turnOff [.ref 41, .int a1] σ Q := sm_wp_C (M := m_G_turnOff) rfl [] 48 h
set_option maxRecDepth 100000 in
set_option maxHeartbeats 4000000 in
theorem d_G_whyFails (a1 : Int32) (σ : sm_S) (Q : Option Value → sm_S → Prop) (h : xC xD j_G_blockFrom [.ref 41, .int a1, .int 0] σ (sm_ri False (fun x2 σ1 => ((x2 ≠ (-1) → (vp_in x2 96 ∧ (((σ1 11 (x2).toNatClampNeg) ≠ 1 → (vp_in x2 96 ∧ (((σ1 13 (x2).toNatClampNeg) = 0 → Q (some (.int 2)) σ1) ∧ (¬ ((σ1 13 (x2).toNatClampNeg) = 0) → Q (some (.int 1)) σ1)))) ∧ (¬ ((σ1 11 (x2).toNatClampNeg) ≠ 1) → Q (some (.int 0)) σ1)))) ∧ (¬ (x2 ≠ (-1)) → Q (some (.int 2)) σ1))))) : xC xD j_G_whyFails [.ref 41, .int a1] σ Q := sm_wp_C (M := m_G_whyFails) rfl [] 25 h
set_option maxRecDepth 100000 in
set_option maxHeartbeats 4000000 in
theorem d_G_lookAt (a1 a2 : Int32) (σ : sm_S) (Q : Option Value → sm_S → Prop) (h : (vp_in a2 96 ∧ (vp_in a2 96 ∧ (¬ (32 : Int32) = 0 ∧ xC xD j_B_size [.ref 8, .int a2] σ (sm_ri False (fun x2 σ1 => (vp_in a2 96 ∧ (((σ1 11 (a2).toNatClampNeg) = 1 → (vp_in a1 8 ∧ ∀ σ3, σ3 = sm_set σ1 23 (upd (σ1 23) (a1).toNatClampNeg (((σ 9 (a2).toNatClampNeg) - (σ 9 (a2).toNatClampNeg) / (32 : Int32) * (32 : Int32)) + x2)) → Q none σ3)) ∧ (¬ ((σ1 11 (a2).toNatClampNeg) = 1) → (vp_in a2 96 ∧ (((σ1 13 (a2).toNatClampNeg) = 0 → (vp_in a2 96 ∧ (((σ1 11 (a2).toNatClampNeg) ≠ 2 → (vp_in a2 96 ∧ (vp_in a2 96 ∧ xC xD j_Y_bestPlace [.ref 0, .int (σ1 12 (a2).toNatClampNeg), .int (σ1 11 (a2).toNatClampNeg), .int (σ 10 (a2).toNatClampNeg), .int 1] σ1 (sm_ri False (fun x5 σ4 => ((x5 = (-1) → (((σ 10 (a2).toNatClampNeg) ≤ 0 → ((((-1) : Int32) ≠ (-1) → xC xD j_G_split [.ref 41, .int a2, .int (-1)] σ4 (sm_rv False (fun σ6 => Q none σ6))) ∧ (¬ (((-1) : Int32) ≠ (-1)) → (vp_in a1 8 ∧ ∀ σ7, σ7 = sm_set σ4 23 (upd (σ4 23) (a1).toNatClampNeg (((σ 9 (a2).toNatClampNeg) - (σ 9 (a2).toNatClampNeg) / (32 : Int32) * (32 : Int32)) + x2)) → Q none σ7)))) ∧ (¬ ((σ 10 (a2).toNatClampNeg) ≤ 0) → xC xD j_B_leastNumber [.ref 8] σ4 (sm_ri False (fun x9 σ8 => ((x9 ≠ (-1) → xC xD j_G_split [.ref 41, .int a2, .int x9] σ8 (sm_rv False (fun σ10 => Q none σ10))) ∧ (¬ (x9 ≠ (-1)) → (vp_in a1 8 ∧ ∀ σ11, σ11 = sm_set σ8 23 (upd (σ8 23) (a1).toNatClampNeg (((σ 9 (a2).toNatClampNeg) - (σ 9 (a2).toNatClampNeg) / (32 : Int32) * (32 : Int32)) + x2)) → Q none σ11)))))))) ∧ (¬ (x5 = (-1)) → (vp_in a1 8 ∧ ∀ σ12, σ12 = sm_set σ4 23 (upd (σ4 23) (a1).toNatClampNeg (((σ 9 (a2).toNatClampNeg) - (σ 9 (a2).toNatClampNeg) / (32 : Int32) * (32 : Int32)) + x2)) → (vp_in a1 8 ∧ ∀ σ13, σ13 = sm_set σ12 24 (upd (σ12 24) (a1).toNatClampNeg a2) → (vp_in a2 96 ∧ ∀ σ14, σ14 = sm_set σ13 14 (upd (σ13 14) (a2).toNatClampNeg x5) → xC xD j_F_hold [.ref 1, .int a2, .int x5, .int ((1 : Int32) <<< ((σ 10 (a2).toNatClampNeg) &&& 31))] σ14 (sm_rv False (fun σ15 => Q none σ15)))))))))))) ∧ (¬ ((σ1 11 (a2).toNatClampNeg) ≠ 2) → xC xD j_Y_noteDrop [.ref 0, .int a2] σ1 (sm_rv False (fun σ16 => xC xD j_Y_remove [.ref 0, .int a2] σ16 (sm_rv False (fun σ17 => Q none σ17)))))))) ∧ (¬ ((σ1 13 (a2).toNatClampNeg) = 0) → (vp_in a1 8 ∧ ∀ σ18, σ18 = sm_set σ1 23 (upd (σ1 23) (a1).toNatClampNeg (((σ 9 (a2).toNatClampNeg) - (σ 9 (a2).toNatClampNeg) / (32 : Int32) * (32 : Int32)) + x2)) → Q none σ18))))))))))))) : xC xD j_G_lookAt [.ref 41, .int a1, .int a2] σ Q := sm_wp_C (M := m_G_lookAt) rfl [] 86 h
set_option maxRecDepth 100000 in
set_option maxHeartbeats 4000000 in
theorem d_F_hold (a1 a2 a3 : Int32) (σ : sm_S) (Q : Option Value → sm_S → Prop) (h : (¬ (32 : Int32) = 0 ∧ (vp_in (a2 / (32 : Int32)) 8 ∧ xC xD j_F_claim [.ref 1, .int a1, .int a2, .int a3] σ (sm_ri False (fun x2 σ1 => (vp_in (a2 / (32 : Int32)) 8 ∧ ∀ σ3, σ3 = sm_set σ1 5 (upd (σ1 5) ((a2 / (32 : Int32))).toNatClampNeg ((σ 5 ((a2 / (32 : Int32))).toNatClampNeg) ||| x2)) → Q none σ3)))))) : xC xD j_F_hold [.ref 1, .int a1, .int a2, .int a3] σ Q := sm_wp_C (M := m_F_hold) rfl [] 16 h
set_option maxRecDepth 100000 in
set_option maxHeartbeats 4000000 in
theorem d_G_split (a1 a2 : Int32) (σ : sm_S) (Q : Option Value → sm_S → Prop) (h : (vp_in a1 96 ∧ (vp_in a1 96 ∧ (vp_in a1 96 ∧ ∀ σ1, σ1 = sm_set σ 10 (upd (σ 10) (a1).toNatClampNeg ((σ 10 (a1).toNatClampNeg) - 1)) → (vp_in a1 96 ∧ (vp_in a1 96 ∧ xC xD j_B_begin [.ref 8, .int a2, .int ((σ 9 (a1).toNatClampNeg) + ((1 : Int32) <<< (((σ 10 (a1).toNatClampNeg) - 1) &&& 31))), .int ((σ 10 (a1).toNatClampNeg) - 1), .int (σ1 11 (a1).toNatClampNeg), .int (σ1 12 (a1).toNatClampNeg)] σ1 (sm_rv False (fun σ2 => (vp_in a1 96 ∧ (vp_in a2 96 ∧ ∀ σ3, σ3 = sm_set σ2 16 (upd (σ2 16) (a2).toNatClampNeg (σ2 16 (a1).toNatClampNeg)) → xE xD m_G_split 87 [.ref 41, .int a1, .int a2, .int ((σ 10 (a1).toNatClampNeg) - 1), .int ((σ 9 (a1).toNatClampNeg) + ((1 : Int32) <<< (((σ 10 (a1).toNatClampNeg) - 1) &&& 31))), .int 0] [] σ3 Q)))))))))) : xC xD j_G_split [.ref 41, .int a1, .int a2] σ Q := sm_wp_C (M := m_G_split) rfl [87] 53 h
set_option maxRecDepth 100000 in
set_option maxHeartbeats 4000000 in
theorem d_G_split_87 (a1 a2 a3 a4 a5 : Int32) (σ : sm_S) (Q : Option Value → sm_S → Prop) (h : ((((1 : Int32) <<< (a3 &&& 31)) ≤ a5 → (vp_in (4 : Int32) 11 ∧ (vp_in (4 : Int32) 11 ∧ ∀ σ1, σ1 = sm_set σ 40 (upd (σ 40) ((4 : Int32)).toNatClampNeg ((σ 40 ((4 : Int32)).toNatClampNeg) + 1)) → xC xD j_L_add [.ref 34, .int (σ1 0 7), .int 5, .int a1, .int a2] σ1 (sm_rv False (fun σ2 => Q none σ2))))) ∧ (¬ (((1 : Int32) <<< (a3 &&& 31)) ≤ a5) → (vp_in (a4 + a5) 256 ∧ ∀ σ3, σ3 = sm_set σ 6 (upd (σ 6) ((a4 + a5)).toNatClampNeg a2) → xE xD m_G_split 87 [.ref 41, .int a1, .int a2, .int a3, .int a4, .int (a5 + 1)] [] σ3 Q)))) : xE xD m_G_split 87 [.ref 41, .int a1, .int a2, .int a3, .int a4, .int a5] [] σ Q := sm_wp_E (M := m_G_split) [87] 26 h
set_option maxRecDepth 100000 in
set_option maxHeartbeats 4000000 in
theorem d_G_copySome (a1 a2 : Int32) (σ : sm_S) (Q : Option Value → sm_S → Prop) (h : (vp_in a1 96 ∧ (vp_in a1 96 ∧ (vp_in a1 96 ∧ (vp_in a1 96 ∧ xC xD j_B_size [.ref 8, .int a1] σ (sm_ri False (fun x2 σ1 => (vp_in a1 96 ∧ xC xD j_F_copyValues [.ref 1, .int ((σ 9 (a1).toNatClampNeg) + (σ 15 (a1).toNatClampNeg)), .int ((σ 14 (a1).toNatClampNeg) + (σ 15 (a1).toNatClampNeg)), .int (if (x2 - (σ1 15 (a1).toNatClampNeg)) < a2 then (x2 - (σ1 15 (a1).toNatClampNeg)) else a2)] σ1 (sm_rv False (fun σ3 => (vp_in a1 96 ∧ (vp_in a1 96 ∧ ∀ σ4, σ4 = sm_set σ3 15 (upd (σ3 15) (a1).toNatClampNeg ((σ3 15 (a1).toNatClampNeg) + (if (x2 - (σ1 15 (a1).toNatClampNeg)) < a2 then (x2 - (σ1 15 (a1).toNatClampNeg)) else a2))) → (vp_in (3 : Int32) 11 ∧ (vp_in (3 : Int32) 11 ∧ ∀ σ5, σ5 = sm_set σ4 40 (upd (σ4 40) ((3 : Int32)).toNatClampNeg ((σ4 40 ((3 : Int32)).toNatClampNeg) + (if (x2 - (σ1 15 (a1).toNatClampNeg)) < a2 then (x2 - (σ1 15 (a1).toNatClampNeg)) else a2))) → Q (some (.int (if (x2 - (σ1 15 (a1).toNatClampNeg)) < a2 then (x2 - (σ1 15 (a1).toNatClampNeg)) else a2))) σ5)))))))))))))) : xC xD j_G_copySome [.ref 41, .int a1, .int a2] σ Q := sm_wp_C (M := m_G_copySome) rfl [] 64 h
set_option maxRecDepth 100000 in
set_option maxHeartbeats 4000000 in
theorem d_G_arrive (a1 a2 : Int32) (σ : sm_S) (Q : Option Value → sm_S → Prop) (h : (vp_in a2 96 ∧ (vp_in a2 96 ∧ xC xD j_B_size [.ref 8, .int a2] σ (sm_ri False (fun x2 σ1 => xC xD j_S_shutBits [.ref 17, .int a1] σ1 (sm_ri False (fun x4 σ3 => xC xD j_F_letGo [.ref 1, .int (σ 9 (a2).toNatClampNeg), .int x2, .int x4] σ3 (sm_rv False (fun σ5 => xC xD j_F_settle [.ref 1, .int (σ 14 (a2).toNatClampNeg), .int x2] σ5 (sm_rv False (fun σ6 => (vp_in a2 96 ∧ ∀ σ7, σ7 = sm_set σ6 9 (upd (σ6 9) (a2).toNatClampNeg (σ 14 (a2).toNatClampNeg)) → xC xD j_G_endWay [.ref 41, .int a1, .int a2] σ7 (sm_rv False (fun σ8 => (vp_in (2 : Int32) 11 ∧ (vp_in (2 : Int32) 11 ∧ ∀ σ9, σ9 = sm_set σ8 40 (upd (σ8 40) ((2 : Int32)).toNatClampNeg ((σ8 40 ((2 : Int32)).toNatClampNeg) + 1)) → xC xD j_L_add [.ref 34, .int (σ9 0 7), .int 4, .int a2, .int (σ 14 (a2).toNatClampNeg)] σ9 (sm_rv False (fun σ10 => xC xD j_Y_serveLine [.ref 0, .int a2] σ10 (sm_rv False (fun σ11 => Q none σ11)))))))))))))))))))) : xC xD j_G_arrive [.ref 41, .int a1, .int a2] σ Q := sm_wp_C (M := m_G_arrive) rfl [] 66 h
set_option maxRecDepth 100000 in
set_option maxHeartbeats 4000000 in
theorem d_F_settle (a1 a2 : Int32) (σ : sm_S) (Q : Option Value → sm_S → Prop) (h : (¬ (32 : Int32) = 0 ∧ (¬ (32 : Int32) = 0 ∧ (vp_in (a1 / (32 : Int32)) 8 ∧ (vp_in (a1 / (32 : Int32)) 8 ∧ ∀ σ1, σ1 = sm_set σ 5 (upd (σ 5) ((a1 / (32 : Int32))).toNatClampNeg ((σ 5 ((a1 / (32 : Int32))).toNatClampNeg) &&& (((((1 : Int32) <<< (a2 &&& 31)) - 1) <<< ((a1 - a1 / (32 : Int32) * (32 : Int32)) &&& 31)) ^^^ (-1)))) → (¬ (32 : Int32) = 0 ∧ (vp_in (a1 / (32 : Int32)) 8 ∧ (vp_in (a1 / (32 : Int32)) 8 ∧ ∀ σ2, σ2 = sm_set σ1 4 (upd (σ1 4) ((a1 / (32 : Int32))).toNatClampNeg ((σ1 4 ((a1 / (32 : Int32))).toNatClampNeg) ||| ((((1 : Int32) <<< (a2 &&& 31)) - 1) <<< ((a1 - a1 / (32 : Int32) * (32 : Int32)) &&& 31)))) → Q none σ2)))))))) : xC xD j_F_settle [.ref 1, .int a1, .int a2] σ Q := sm_wp_C (M := m_F_settle) rfl [] 34 h
set_option maxRecDepth 100000 in
set_option maxHeartbeats 4000000 in
theorem d_F_stateOf (a1 : Int32) (σ : sm_S) (Q : Option Value → sm_S → Prop) (h : (¬ (32 : Int32) = 0 ∧ (¬ (32 : Int32) = 0 ∧ (vp_in (a1 / (32 : Int32)) 8 ∧ ((((σ 2 ((a1 / (32 : Int32))).toNatClampNeg) &&& ((1 : Int32) <<< ((a1 - a1 / (32 : Int32) * (32 : Int32)) &&& 31))) = 0 → (vp_in (a1 / (32 : Int32)) 8 ∧ ((((σ 3 ((a1 / (32 : Int32))).toNatClampNeg) &&& ((1 : Int32) <<< ((a1 - a1 / (32 : Int32) * (32 : Int32)) &&& 31))) = 0 → (vp_in (a1 / (32 : Int32)) 8 ∧ ((((σ 4 ((a1 / (32 : Int32))).toNatClampNeg) &&& ((1 : Int32) <<< ((a1 - a1 / (32 : Int32) * (32 : Int32)) &&& 31))) = 0 → (vp_in (a1 / (32 : Int32)) 8 ∧ ((((σ 5 ((a1 / (32 : Int32))).toNatClampNeg) &&& ((1 : Int32) <<< ((a1 - a1 / (32 : Int32) * (32 : Int32)) &&& 31))) = 0 → Q (some (.int 0)) σ) ∧ (¬ (((σ 5 ((a1 / (32 : Int32))).toNatClampNeg) &&& ((1 : Int32) <<< ((a1 - a1 / (32 : Int32) * (32 : Int32)) &&& 31))) = 0) → Q (some (.int 4)) σ)))) ∧ (¬ (((σ 4 ((a1 / (32 : Int32))).toNatClampNeg) &&& ((1 : Int32) <<< ((a1 - a1 / (32 : Int32) * (32 : Int32)) &&& 31))) = 0) → Q (some (.int 3)) σ)))) ∧ (¬ (((σ 3 ((a1 / (32 : Int32))).toNatClampNeg) &&& ((1 : Int32) <<< ((a1 - a1 / (32 : Int32) * (32 : Int32)) &&& 31))) = 0) → Q (some (.int 2)) σ)))) ∧ (¬ (((σ 2 ((a1 / (32 : Int32))).toNatClampNeg) &&& ((1 : Int32) <<< ((a1 - a1 / (32 : Int32) * (32 : Int32)) &&& 31))) = 0) → Q (some (.int 1)) σ)))))) : xC xD j_F_stateOf [.ref 1, .int a1] σ Q := sm_wp_C (M := m_F_stateOf) rfl [] 42 h
set_option maxRecDepth 100000 in
set_option maxHeartbeats 4000000 in
theorem d_K_lineOf (a1 : Int32) (σ : sm_S) (Q : Option Value → sm_S → Prop) (h : xE xD m_K_lineOf 4 [.ref 26, .int a1, .int 0, .int 0] [] σ Q) : xC xD j_K_lineOf [.ref 26, .int a1] σ Q := sm_wp_C (M := m_K_lineOf) rfl [4] 5 h
set_option maxRecDepth 100000 in
set_option maxHeartbeats 4000000 in
theorem d_K_lineOf_4 (a1 a2 a3 : Int32) (σ : sm_S) (Q : Option Value → sm_S → Prop) (h : ((6 ≤ a3 → Q (some (.int a2)) σ) ∧ (¬ (6 ≤ a3) → (vp_in a3 6 ∧ (((σ 28 (a3).toNatClampNeg) ≠ a1 → xE xD m_K_lineOf 4 [.ref 26, .int a1, .int (a2 + 0), .int (a3 + 1)] [] σ Q) ∧ (¬ ((σ 28 (a3).toNatClampNeg) ≠ a1) → xE xD m_K_lineOf 4 [.ref 26, .int a1, .int (a2 + 1), .int (a3 + 1)] [] σ Q)))))) : xE xD m_K_lineOf 4 [.ref 26, .int a1, .int a2, .int a3] [] σ Q := sm_wp_E (M := m_K_lineOf) [4] 17 h
set_option maxRecDepth 100000 in
set_option maxHeartbeats 4000000 in
theorem d_I_bitCount (a0 : Int32) (σ : sm_S) (Q : Option Value → sm_S → Prop) (h : Q (some (.int ((((((((a0 - (((a0.toUInt32 >>> ((1 : Int32).toUInt32 &&& Int32.toUInt32 31)).toInt32) &&& 1431655765)) &&& 858993459) + ((((a0 - (((a0.toUInt32 >>> ((1 : Int32).toUInt32 &&& Int32.toUInt32 31)).toInt32) &&& 1431655765)).toUInt32 >>> ((2 : Int32).toUInt32 &&& Int32.toUInt32 31)).toInt32) &&& 858993459)) + (((((a0 - (((a0.toUInt32 >>> ((1 : Int32).toUInt32 &&& Int32.toUInt32 31)).toInt32) &&& 1431655765)) &&& 858993459) + ((((a0 - (((a0.toUInt32 >>> ((1 : Int32).toUInt32 &&& Int32.toUInt32 31)).toInt32) &&& 1431655765)).toUInt32 >>> ((2 : Int32).toUInt32 &&& Int32.toUInt32 31)).toInt32) &&& 858993459)).toUInt32 >>> ((4 : Int32).toUInt32 &&& Int32.toUInt32 31)).toInt32)) &&& 252645135) + (((((((a0 - (((a0.toUInt32 >>> ((1 : Int32).toUInt32 &&& Int32.toUInt32 31)).toInt32) &&& 1431655765)) &&& 858993459) + ((((a0 - (((a0.toUInt32 >>> ((1 : Int32).toUInt32 &&& Int32.toUInt32 31)).toInt32) &&& 1431655765)).toUInt32 >>> ((2 : Int32).toUInt32 &&& Int32.toUInt32 31)).toInt32) &&& 858993459)) + (((((a0 - (((a0.toUInt32 >>> ((1 : Int32).toUInt32 &&& Int32.toUInt32 31)).toInt32) &&& 1431655765)) &&& 858993459) + ((((a0 - (((a0.toUInt32 >>> ((1 : Int32).toUInt32 &&& Int32.toUInt32 31)).toInt32) &&& 1431655765)).toUInt32 >>> ((2 : Int32).toUInt32 &&& Int32.toUInt32 31)).toInt32) &&& 858993459)).toUInt32 >>> ((4 : Int32).toUInt32 &&& Int32.toUInt32 31)).toInt32)) &&& 252645135).toUInt32 >>> ((8 : Int32).toUInt32 &&& Int32.toUInt32 31)).toInt32)) + ((((((((a0 - (((a0.toUInt32 >>> ((1 : Int32).toUInt32 &&& Int32.toUInt32 31)).toInt32) &&& 1431655765)) &&& 858993459) + ((((a0 - (((a0.toUInt32 >>> ((1 : Int32).toUInt32 &&& Int32.toUInt32 31)).toInt32) &&& 1431655765)).toUInt32 >>> ((2 : Int32).toUInt32 &&& Int32.toUInt32 31)).toInt32) &&& 858993459)) + (((((a0 - (((a0.toUInt32 >>> ((1 : Int32).toUInt32 &&& Int32.toUInt32 31)).toInt32) &&& 1431655765)) &&& 858993459) + ((((a0 - (((a0.toUInt32 >>> ((1 : Int32).toUInt32 &&& Int32.toUInt32 31)).toInt32) &&& 1431655765)).toUInt32 >>> ((2 : Int32).toUInt32 &&& Int32.toUInt32 31)).toInt32) &&& 858993459)).toUInt32 >>> ((4 : Int32).toUInt32 &&& Int32.toUInt32 31)).toInt32)) &&& 252645135) + (((((((a0 - (((a0.toUInt32 >>> ((1 : Int32).toUInt32 &&& Int32.toUInt32 31)).toInt32) &&& 1431655765)) &&& 858993459) + ((((a0 - (((a0.toUInt32 >>> ((1 : Int32).toUInt32 &&& Int32.toUInt32 31)).toInt32) &&& 1431655765)).toUInt32 >>> ((2 : Int32).toUInt32 &&& Int32.toUInt32 31)).toInt32) &&& 858993459)) + (((((a0 - (((a0.toUInt32 >>> ((1 : Int32).toUInt32 &&& Int32.toUInt32 31)).toInt32) &&& 1431655765)) &&& 858993459) + ((((a0 - (((a0.toUInt32 >>> ((1 : Int32).toUInt32 &&& Int32.toUInt32 31)).toInt32) &&& 1431655765)).toUInt32 >>> ((2 : Int32).toUInt32 &&& Int32.toUInt32 31)).toInt32) &&& 858993459)).toUInt32 >>> ((4 : Int32).toUInt32 &&& Int32.toUInt32 31)).toInt32)) &&& 252645135).toUInt32 >>> ((8 : Int32).toUInt32 &&& Int32.toUInt32 31)).toInt32)).toUInt32 >>> ((16 : Int32).toUInt32 &&& Int32.toUInt32 31)).toInt32)) &&& 63))) σ) : xC xD j_I_bitCount [.int a0] σ Q := sm_wp_C (M := m_I_bitCount) rfl [] 43 h
set_option maxRecDepth 100000 in
set_option maxHeartbeats 4000000 in
theorem d_B_ownedBy (a1 : Int32) (σ : sm_S) (Q : Option Value → sm_S → Prop) (h : xE xD m_B_ownedBy 4 [.ref 8, .int a1, .int 0, .int 0] [] σ Q) : xC xD j_B_ownedBy [.ref 8, .int a1] σ Q := sm_wp_C (M := m_B_ownedBy) rfl [4] 5 h
set_option maxRecDepth 100000 in
set_option maxHeartbeats 4000000 in
theorem d_B_ownedBy_4 (a1 a2 a3 : Int32) (σ : sm_S) (Q : Option Value → sm_S → Prop) (h : ((96 ≤ a3 → Q (some (.int a2)) σ) ∧ (¬ (96 ≤ a3) → (vp_in a3 96 ∧ (((σ 9 (a3).toNatClampNeg) = (-1) → xE xD m_B_ownedBy 4 [.ref 8, .int a1, .int (a2 + 0), .int (a3 + 1)] [] σ Q) ∧ (¬ ((σ 9 (a3).toNatClampNeg) = (-1)) → (vp_in a3 96 ∧ (((σ 12 (a3).toNatClampNeg) ≠ a1 → xE xD m_B_ownedBy 4 [.ref 8, .int a1, .int (a2 + 0), .int (a3 + 1)] [] σ Q) ∧ (¬ ((σ 12 (a3).toNatClampNeg) ≠ a1) → xE xD m_B_ownedBy 4 [.ref 8, .int a1, .int (a2 + 1), .int (a3 + 1)] [] σ Q))))))))) : xE xD m_B_ownedBy 4 [.ref 8, .int a1, .int a2, .int a3] [] σ Q := sm_wp_E (M := m_B_ownedBy) [4] 23 h
set_option maxRecDepth 100000 in
set_option maxHeartbeats 4000000 in
theorem d_B_pinnedBy (a1 : Int32) (σ : sm_S) (Q : Option Value → sm_S → Prop) (h : xE xD m_B_pinnedBy 4 [.ref 8, .int a1, .int 0, .int 0] [] σ Q) : xC xD j_B_pinnedBy [.ref 8, .int a1] σ Q := sm_wp_C (M := m_B_pinnedBy) rfl [4] 5 h
set_option maxRecDepth 100000 in
set_option maxHeartbeats 4000000 in
theorem d_B_pinnedBy_4 (a1 a2 a3 : Int32) (σ : sm_S) (Q : Option Value → sm_S → Prop) (h : ((96 ≤ a3 → Q (some (.int a2)) σ) ∧ (¬ (96 ≤ a3) → (vp_in a3 96 ∧ (((σ 9 (a3).toNatClampNeg) = (-1) → xE xD m_B_pinnedBy 4 [.ref 8, .int a1, .int (a2 + 0), .int (a3 + 1)] [] σ Q) ∧ (¬ ((σ 9 (a3).toNatClampNeg) = (-1)) → (vp_in a3 96 ∧ xE xD m_B_pinnedBy 4 [.ref 8, .int a1, .int (a2 + (((σ 13 (a3).toNatClampNeg) >>> (a1 &&& 31)) &&& 1)), .int (a3 + 1)] [] σ Q))))))) : xE xD m_B_pinnedBy 4 [.ref 8, .int a1, .int a2, .int a3] [] σ Q := sm_wp_E (M := m_B_pinnedBy) [4] 24 h
set_option maxRecDepth 100000 in
set_option maxHeartbeats 4000000 in
theorem d_A_isZone (a0 : Int32) (σ : sm_S) (Q : Option Value → sm_S → Prop) (h : ((a0 < 0 → (((0 : Int32) = 0 ∨ (0 : Int32) = 1) ∧ Q (some (.int 0)) σ)) ∧ (¬ (a0 < 0) → ((2 ≤ a0 → (((0 : Int32) = 0 ∨ (0 : Int32) = 1) ∧ Q (some (.int 0)) σ)) ∧ (¬ (2 ≤ a0) → (((1 : Int32) = 0 ∨ (1 : Int32) = 1) ∧ Q (some (.int 1)) σ)))))) : xC xD j_A_isZone [.int a0] σ Q := sm_wp_C (M := m_A_isZone) rfl [] 9 h
set_option maxRecDepth 100000 in
set_option maxHeartbeats 4000000 in
theorem d_Y_freeInZone (a1 : Int32) (σ : sm_S) (Q : Option Value → sm_S → Prop) (h : xE xD m_Y_freeInZone 4 [.ref 0, .int a1, .int 0, .int 0] [] σ Q) : xC xD j_Y_freeInZone [.ref 0, .int a1] σ Q := sm_wp_C (M := m_Y_freeInZone) rfl [4] 5 h
set_option maxRecDepth 100000 in
set_option maxHeartbeats 4000000 in
theorem d_Y_freeInZone_4 (a1 a2 a3 : Int32) (σ : sm_S) (Q : Option Value → sm_S → Prop) (h : ((8 ≤ a3 → Q (some (.int a2)) σ) ∧ (¬ (8 ≤ a3) → (vp_in a3 8 ∧ (((σ 19 (a3).toNatClampNeg) ≠ a1 → xE xD m_Y_freeInZone 4 [.ref 0, .int a1, .int (a2 + 0), .int (a3 + 1)] [] σ Q) ∧ (¬ ((σ 19 (a3).toNatClampNeg) ≠ a1) → (vp_in a3 8 ∧ xC xD j_I_bitCount [.int (σ 2 (a3).toNatClampNeg)] σ (sm_ri False (fun x2 σ1 => xE xD m_Y_freeInZone 4 [.ref 0, .int a1, .int (a2 + x2), .int (a3 + 1)] [] σ1 Q))))))))) : xE xD m_Y_freeInZone 4 [.ref 0, .int a1, .int a2, .int a3] [] σ Q := sm_wp_E (M := m_Y_freeInZone) [4] 23 h
set_option maxRecDepth 100000 in
set_option maxHeartbeats 4000000 in
theorem d_Y_widestInZone (a1 : Int32) (σ : sm_S) (Q : Option Value → sm_S → Prop) (h : xE xD m_Y_widestInZone 4 [.ref 0, .int a1, .int (-1), .int 0] [] σ Q) : xC xD j_Y_widestInZone [.ref 0, .int a1] σ Q := sm_wp_C (M := m_Y_widestInZone) rfl [4] 5 h
set_option maxRecDepth 100000 in
set_option maxHeartbeats 4000000 in
theorem d_Y_widestInZone_4 (a1 a2 a3 : Int32) (σ : sm_S) (Q : Option Value → sm_S → Prop) (h : ((8 ≤ a3 → Q (some (.int a2)) σ) ∧ (¬ (8 ≤ a3) → (vp_in a3 8 ∧ (((σ 19 (a3).toNatClampNeg) ≠ a1 → xE xD m_Y_widestInZone 4 [.ref 0, .int a1, .int a2, .int (a3 + 1)] [] σ Q) ∧ (¬ ((σ 19 (a3).toNatClampNeg) ≠ a1) → (vp_in a3 8 ∧ xC xD j_R_widest [.int (σ 2 (a3).toNatClampNeg)] σ (sm_ri False (fun x2 σ1 => xE xD m_Y_widestInZone 4 [.ref 0, .int a1, .int (if a2 < x2 then x2 else a2), .int (a3 + 1)] [] σ1 Q))))))))) : xE xD m_Y_widestInZone 4 [.ref 0, .int a1, .int a2, .int a3] [] σ Q := sm_wp_E (M := m_Y_widestInZone) [4] 22 h
set_option maxRecDepth 100000 in
set_option maxHeartbeats 4000000 in
theorem d_R_widest (a0 : Int32) (σ : sm_S) (Q : Option Value → sm_S → Prop) (h : xE xD m_R_widest 2 [.int a0, .int 5] [] σ Q) : xC xD j_R_widest [.int a0] σ Q := sm_wp_C (M := m_R_widest) rfl [2] 3 h
set_option maxRecDepth 100000 in
set_option maxHeartbeats 4000000 in
theorem d_R_widest_2 (a0 a1 : Int32) (σ : sm_S) (Q : Option Value → sm_S → Prop) (h : ((a1 < 0 → Q (some (.int (-1))) σ) ∧ (¬ (a1 < 0) → xC xD j_R_starts [.int a0, .int a1] σ (sm_ri False (fun x2 σ1 => ((x2 = 0 → xE xD m_R_widest 2 [.int a0, .int (a1 + (-1))] [] σ1 Q) ∧ (¬ (x2 = 0) → Q (some (.int a1)) σ1))))))) : xE xD m_R_widest 2 [.int a0, .int a1] [] σ Q := sm_wp_E (M := m_R_widest) [2] 9 h
set_option maxRecDepth 100000 in
set_option maxHeartbeats 4000000 in
theorem d_R_holeRound (a0 a1 : Int32) (σ : sm_S) (Q : Option Value → sm_S → Prop) (h : xE xD m_R_holeRound 4 [.int a0, .int a1, .int (-1), .int 0, .null] [] σ Q) : xC xD j_R_holeRound [.int a0, .int a1] σ Q := sm_wp_C (M := m_R_holeRound) rfl [4] 5 h
set_option maxRecDepth 100000 in
set_option maxHeartbeats 4000000 in
theorem d_R_holeRound_4 (a0 a1 a2 a3 : Int32) (v4 : Value) (σ : sm_S) (Q : Option Value → sm_S → Prop) (h : ((5 < a3 → Q (some (.int a2)) σ) ∧ (¬ (5 < a3) → xC xD j_R_starts [.int a0, .int a3] σ (sm_ri False (fun x2 σ1 => (((((x2.toUInt32 >>> (((a1 >>> (a3 &&& 31)) <<< (a3 &&& 31)).toUInt32 &&& Int32.toUInt32 31)).toInt32) &&& 1) ≠ 0 → xE xD m_R_holeRound 4 [.int a0, .int a1, .int a3, .int (a3 + 1), .int ((a1 >>> (a3 &&& 31)) <<< (a3 &&& 31))] [] σ1 Q) ∧ (¬ ((((x2.toUInt32 >>> (((a1 >>> (a3 &&& 31)) <<< (a3 &&& 31)).toUInt32 &&& Int32.toUInt32 31)).toInt32) &&& 1) ≠ 0) → Q (some (.int a2)) σ1))))))) : xE xD m_R_holeRound 4 [.int a0, .int a1, .int a2, .int a3, v4] [] σ Q := sm_wp_E (M := m_R_holeRound) [4] 22 h
set_option maxRecDepth 100000 in
set_option maxHeartbeats 4000000 in
theorem d_Y_keepers (a1 : Int32) (σ : sm_S) (Q : Option Value → sm_S → Prop) (h : xE xD m_Y_keepers 7 [.ref 0, .int a1, .int 0, .int (a1 * 32), .null] [] σ Q) : xC xD j_Y_keepers [.ref 0, .int a1] σ Q := sm_wp_C (M := m_Y_keepers) rfl [7] 7 h
set_option maxRecDepth 100000 in
set_option maxHeartbeats 4000000 in
theorem d_Y_keepers_7 (a1 a2 a3 : Int32) (v4 : Value) (σ : sm_S) (Q : Option Value → sm_S → Prop) (h : ((((a1 + 1) * 32) ≤ a3 → Q (some (.int a2)) σ) ∧ (¬ (((a1 + 1) * 32) ≤ a3) → xC xD j_Y_blockAt [.ref 0, .int a3] σ (sm_ri False (fun x2 σ1 => ((x2 = (-1) → xE xD m_Y_keepers 7 [.ref 0, .int a1, .int (a2 + 0), .int (a3 + 1), .int x2] [] σ1 Q) ∧ (¬ (x2 = (-1)) → xC xD j_Y_whyKeeps [.ref 0, .int a1, .int x2] σ1 (sm_ri False (fun x4 σ3 => ((x4 = (-1) → xE xD m_Y_keepers 7 [.ref 0, .int a1, .int (a2 + 0), .int (a3 + 1), .int x2] [] σ3 Q) ∧ (¬ (x4 = (-1)) → xE xD m_Y_keepers 7 [.ref 0, .int a1, .int (a2 + 1), .int (a3 + 1), .int x2] [] σ3 Q))))))))))) : xE xD m_Y_keepers 7 [.ref 0, .int a1, .int a2, .int a3, v4] [] σ Q := sm_wp_E (M := m_Y_keepers) [7] 28 h
set_option maxRecDepth 100000 in
set_option maxHeartbeats 4000000 in
theorem d_Y_whyKeeps (a1 a2 : Int32) (σ : sm_S) (Q : Option Value → sm_S → Prop) (h : (vp_in a2 96 ∧ (((σ 11 (a2).toNatClampNeg) ≠ 1 → (vp_in a2 96 ∧ (((σ 13 (a2).toNatClampNeg) = 0 → (vp_in a2 96 ∧ (((σ 11 (a2).toNatClampNeg) = 2 → Q (some (.int (-1))) σ) ∧ (¬ ((σ 11 (a2).toNatClampNeg) = 2) → xC xD j_Y_hasPlaceBeside [.ref 0, .int a1, .int a2] σ (sm_ri False (fun x2 σ1 => ((x2 = 0 → Q (some (.int 2)) σ1) ∧ (¬ (x2 = 0) → Q (some (.int (-1))) σ1)))))))) ∧ (¬ ((σ 13 (a2).toNatClampNeg) = 0) → Q (some (.int 1)) σ)))) ∧ (¬ ((σ 11 (a2).toNatClampNeg) ≠ 1) → Q (some (.int 0)) σ)))) : xC xD j_Y_whyKeeps [.ref 0, .int a1, .int a2] σ Q := sm_wp_C (M := m_Y_whyKeeps) rfl [] 29 h
set_option maxRecDepth 100000 in
set_option maxHeartbeats 4000000 in
theorem d_Y_hasPlaceBeside (a1 a2 : Int32) (σ : sm_S) (Q : Option Value → sm_S → Prop) (h : (vp_in a2 96 ∧ (vp_in (σ 12 (a2).toNatClampNeg) 6 ∧ xE xD m_Y_hasPlaceBeside 21 [.ref 0, .int a1, .int a2, .int (σ 27 ((σ 12 (a2).toNatClampNeg)).toNatClampNeg), .int 0] [] σ Q))) : xC xD j_Y_hasPlaceBeside [.ref 0, .int a1, .int a2] σ Q := sm_wp_C (M := m_Y_hasPlaceBeside) rfl [21] 13 h
set_option maxRecDepth 100000 in
set_option maxHeartbeats 4000000 in
theorem d_Y_hasPlaceBeside_21 (a1 a2 a3 a4 : Int32) (σ : sm_S) (Q : Option Value → sm_S → Prop) (h : ((8 ≤ a4 → (((0 : Int32) = 0 ∨ (0 : Int32) = 1) ∧ Q (some (.int 0)) σ)) ∧ (¬ (8 ≤ a4) → ((a4 = a1 → xE xD m_Y_hasPlaceBeside 21 [.ref 0, .int a1, .int a2, .int a3, .int (a4 + 1)] [] σ Q) ∧ (¬ (a4 = a1) → (vp_in a4 8 ∧ (((σ 18 (a4).toNatClampNeg) ≠ 1 → xE xD m_Y_hasPlaceBeside 21 [.ref 0, .int a1, .int a2, .int a3, .int (a4 + 1)] [] σ Q) ∧ (¬ ((σ 18 (a4).toNatClampNeg) ≠ 1) → (vp_in a2 96 ∧ xC xD j_Y_rank [.ref 0, .int a4, .int (σ 11 (a2).toNatClampNeg), .int a3] σ (sm_ri False (fun x2 σ1 => ((x2 = (-1) → xE xD m_Y_hasPlaceBeside 21 [.ref 0, .int a1, .int a2, .int a3, .int (a4 + 1)] [] σ1 Q) ∧ (¬ (x2 = (-1)) → (vp_in a4 8 ∧ (vp_in a2 96 ∧ xC xD j_R_starts [.int (σ1 2 (a4).toNatClampNeg), .int (σ1 10 (a2).toNatClampNeg)] σ1 (sm_ri False (fun x4 σ3 => ((x4 = 0 → xE xD m_Y_hasPlaceBeside 21 [.ref 0, .int a1, .int a2, .int a3, .int (a4 + 1)] [] σ3 Q) ∧ (¬ (x4 = 0) → (((1 : Int32) = 0 ∨ (1 : Int32) = 1) ∧ Q (some (.int 1)) σ3)))))))))))))))))))) : xE xD m_Y_hasPlaceBeside 21 [.ref 0, .int a1, .int a2, .int a3, .int a4] [] σ Q := sm_wp_E (M := m_Y_hasPlaceBeside) [21] 39 h
set_option maxRecDepth 100000 in
set_option maxHeartbeats 4000000 in
theorem d_Y_keeper (a1 a2 : Int32) (σ : sm_S) (Q : Option Value → sm_S → Prop) (h : xE xD m_Y_keeper 8 [.ref 0, .int a1, .int a2, .int 0, .int (a1 * 32), .null] [] σ Q) : xC xD j_Y_keeper [.ref 0, .int a1, .int a2] σ Q := sm_wp_C (M := m_Y_keeper) rfl [8] 7 h
set_option maxRecDepth 100000 in
set_option maxHeartbeats 4000000 in
theorem d_Y_keeper_8 (a1 a2 a3 a4 : Int32) (v5 : Value) (σ : sm_S) (Q : Option Value → sm_S → Prop) (h : ((((a1 + 1) * 32) ≤ a4 → Q (some (.int (-1))) σ) ∧ (¬ (((a1 + 1) * 32) ≤ a4) → xC xD j_Y_blockAt [.ref 0, .int a4] σ (sm_ri False (fun x2 σ1 => ((x2 = (-1) → xE xD m_Y_keeper 8 [.ref 0, .int a1, .int a2, .int a3, .int (a4 + 1), .int x2] [] σ1 Q) ∧ (¬ (x2 = (-1)) → xC xD j_Y_whyKeeps [.ref 0, .int a1, .int x2] σ1 (sm_ri False (fun x4 σ3 => ((x4 = (-1) → xE xD m_Y_keeper 8 [.ref 0, .int a1, .int a2, .int a3, .int (a4 + 1), .int x2] [] σ3 Q) ∧ (¬ (x4 = (-1)) → ((a3 ≠ a2 → xE xD m_Y_keeper 8 [.ref 0, .int a1, .int a2, .int (a3 + 1), .int (a4 + 1), .int x2] [] σ3 Q) ∧ (¬ (a3 ≠ a2) → Q (some (.int x2)) σ3))))))))))))) : xE xD m_Y_keeper 8 [.ref 0, .int a1, .int a2, .int a3, .int a4, v5] [] σ Q := sm_wp_E (M := m_Y_keeper) [8] 27 h
set_option maxRecDepth 100000 in
set_option maxHeartbeats 4000000 in
theorem d_Y_holdersOf (a1 : Int32) (σ : sm_S) (Q : Option Value → sm_S → Prop) (h : xE xD m_Y_holdersOf 7 [.ref 0, .int a1, .int 0, .int (a1 * 32), .null] [] σ Q) : xC xD j_Y_holdersOf [.ref 0, .int a1] σ Q := sm_wp_C (M := m_Y_holdersOf) rfl [7] 7 h
set_option maxRecDepth 100000 in
set_option maxHeartbeats 4000000 in
theorem d_Y_holdersOf_7 (a1 a2 a3 : Int32) (v4 : Value) (σ : sm_S) (Q : Option Value → sm_S → Prop) (h : ((((a1 + 1) * 32) ≤ a3 → Q (some (.int a2)) σ) ∧ (¬ (((a1 + 1) * 32) ≤ a3) → xC xD j_Y_blockAt [.ref 0, .int a3] σ (sm_ri False (fun x2 σ1 => ((x2 = (-1) → xE xD m_Y_holdersOf 7 [.ref 0, .int a1, .int a2, .int (a3 + 1), .int x2] [] σ1 Q) ∧ (¬ (x2 = (-1)) → (vp_in x2 96 ∧ (vp_in x2 96 ∧ (((σ1 11 (x2).toNatClampNeg) ≠ 1 → xE xD m_Y_holdersOf 7 [.ref 0, .int a1, .int ((a2 ||| (σ1 13 (x2).toNatClampNeg)) ||| 0), .int (a3 + 1), .int x2] [] σ1 Q) ∧ (¬ ((σ1 11 (x2).toNatClampNeg) ≠ 1) → (vp_in x2 96 ∧ xE xD m_Y_holdersOf 7 [.ref 0, .int a1, .int ((a2 ||| (σ1 13 (x2).toNatClampNeg)) ||| ((1 : Int32) <<< ((σ1 12 (x2).toNatClampNeg) &&& 31))), .int (a3 + 1), .int x2] [] σ1 Q)))))))))))) : xE xD m_Y_holdersOf 7 [.ref 0, .int a1, .int a2, .int a3, v4] [] σ Q := sm_wp_E (M := m_Y_holdersOf) [7] 43 h
set_option maxRecDepth 100000 in
set_option maxHeartbeats 4000000 in
theorem d_B_framesAt (a1 a2 : Int32) (σ : sm_S) (Q : Option Value → sm_S → Prop) (h : xE xD m_B_framesAt 5 [.ref 8, .int a1, .int a2, .int 0, .int 0] [] σ Q) : xC xD j_B_framesAt [.ref 8, .int a1, .int a2] σ Q := sm_wp_C (M := m_B_framesAt) rfl [5] 5 h
set_option maxRecDepth 100000 in
set_option maxHeartbeats 4000000 in
theorem d_B_framesAt_5 (a1 a2 a3 a4 : Int32) (σ : sm_S) (Q : Option Value → sm_S → Prop) (h : ((96 ≤ a4 → Q (some (.int a3)) σ) ∧ (¬ (96 ≤ a4) → (vp_in a4 96 ∧ (((σ 9 (a4).toNatClampNeg) = (-1) → xE xD m_B_framesAt 5 [.ref 8, .int a1, .int a2, .int a3, .int (a4 + 1)] [] σ Q) ∧ (¬ ((σ 9 (a4).toNatClampNeg) = (-1)) → (vp_in a4 96 ∧ (((σ 12 (a4).toNatClampNeg) ≠ a1 → xE xD m_B_framesAt 5 [.ref 8, .int a1, .int a2, .int a3, .int (a4 + 1)] [] σ Q) ∧ (¬ ((σ 12 (a4).toNatClampNeg) ≠ a1) → (vp_in a4 96 ∧ (¬ (32 : Int32) = 0 ∧ (¬ (2 : Int32) = 0 ∧ (((((σ 9 (a4).toNatClampNeg) / (32 : Int32)) - ((σ 9 (a4).toNatClampNeg) / (32 : Int32)) / (2 : Int32) * (2 : Int32)) ≠ a2 → xE xD m_B_framesAt 5 [.ref 8, .int a1, .int a2, .int a3, .int (a4 + 1)] [] σ Q) ∧ (¬ ((((σ 9 (a4).toNatClampNeg) / (32 : Int32)) - ((σ 9 (a4).toNatClampNeg) / (32 : Int32)) / (2 : Int32) * (2 : Int32)) ≠ a2) → xC xD j_B_size [.ref 8, .int a4] σ (sm_ri False (fun x2 σ1 => xE xD m_B_framesAt 5 [.ref 8, .int a1, .int a2, .int (a3 + x2), .int (a4 + 1)] [] σ1 Q)))))))))))))))) : xE xD m_B_framesAt 5 [.ref 8, .int a1, .int a2, .int a3, .int a4] [] σ Q := sm_wp_E (M := m_B_framesAt) [5] 34 h
set_option maxRecDepth 100000 in
set_option maxHeartbeats 4000000 in
theorem d_L_cell (a1 a2 : Int32) (σ : sm_S) (Q : Option Value → sm_S → Prop) (h : ((a1 < 0 → Q (some (.int (-1))) σ) ∧ (¬ (a1 < 0) → ((60 ≤ a1 → Q (some (.int (-1))) σ) ∧ (¬ (60 ≤ a1) → ((a1 < (σ 34 4) → (((σ 34 5) ≤ a1 → ((a2 = 0 → (vp_in ((((σ 34 5) - 1) - a1) + 60) 60 ∧ Q (some (.int (σ 35 (((((σ 34 5) - 1) - a1) + 60)).toNatClampNeg))) σ)) ∧ (¬ (a2 = 0) → ((a2 = 1 → (vp_in ((((σ 34 5) - 1) - a1) + 60) 60 ∧ Q (some (.int (σ 36 (((((σ 34 5) - 1) - a1) + 60)).toNatClampNeg))) σ)) ∧ (¬ (a2 = 1) → ((a2 = 2 → (vp_in ((((σ 34 5) - 1) - a1) + 60) 60 ∧ Q (some (.int (σ 37 (((((σ 34 5) - 1) - a1) + 60)).toNatClampNeg))) σ)) ∧ (¬ (a2 = 2) → ((a2 = 3 → (vp_in ((((σ 34 5) - 1) - a1) + 60) 60 ∧ Q (some (.int (σ 38 (((((σ 34 5) - 1) - a1) + 60)).toNatClampNeg))) σ)) ∧ (¬ (a2 = 3) → Q (some (.int (-1))) σ))))))))) ∧ (¬ ((σ 34 5) ≤ a1) → ((a2 = 0 → (vp_in (((σ 34 5) - 1) - a1) 60 ∧ Q (some (.int (σ 35 ((((σ 34 5) - 1) - a1)).toNatClampNeg))) σ)) ∧ (¬ (a2 = 0) → ((a2 = 1 → (vp_in (((σ 34 5) - 1) - a1) 60 ∧ Q (some (.int (σ 36 ((((σ 34 5) - 1) - a1)).toNatClampNeg))) σ)) ∧ (¬ (a2 = 1) → ((a2 = 2 → (vp_in (((σ 34 5) - 1) - a1) 60 ∧ Q (some (.int (σ 37 ((((σ 34 5) - 1) - a1)).toNatClampNeg))) σ)) ∧ (¬ (a2 = 2) → ((a2 = 3 → (vp_in (((σ 34 5) - 1) - a1) 60 ∧ Q (some (.int (σ 38 ((((σ 34 5) - 1) - a1)).toNatClampNeg))) σ)) ∧ (¬ (a2 = 3) → Q (some (.int (-1))) σ))))))))))) ∧ (¬ (a1 < (σ 34 4)) → Q (some (.int (-1))) σ))))))) : xC xD j_L_cell [.ref 34, .int a1, .int a2] σ Q := sm_wp_C (M := m_L_cell) rfl [] 30 h
set_option maxRecDepth 100000 in
set_option maxHeartbeats 4000000 in
theorem d_B_howMany (σ : sm_S) (Q : Option Value → sm_S → Prop) (h : xE xD m_B_howMany 4 [.ref 8, .int 0, .int 0] [] σ Q) : xC xD j_B_howMany [.ref 8] σ Q := sm_wp_C (M := m_B_howMany) rfl [4] 5 h
set_option maxRecDepth 100000 in
set_option maxHeartbeats 4000000 in
theorem d_B_howMany_4 (a1 a2 : Int32) (σ : sm_S) (Q : Option Value → sm_S → Prop) (h : ((96 ≤ a2 → Q (some (.int a1)) σ) ∧ (¬ (96 ≤ a2) → (vp_in a2 96 ∧ (((σ 9 (a2).toNatClampNeg) = (-1) → xE xD m_B_howMany 4 [.ref 8, .int (a1 + 0), .int (a2 + 1)] [] σ Q) ∧ (¬ ((σ 9 (a2).toNatClampNeg) = (-1)) → xE xD m_B_howMany 4 [.ref 8, .int (a1 + 1), .int (a2 + 1)] [] σ Q)))))) : xE xD m_B_howMany 4 [.ref 8, .int a1, .int a2] [] σ Q := sm_wp_E (M := m_B_howMany) [4] 17 h
set_option maxRecDepth 100000 in
set_option maxHeartbeats 4000000 in
theorem d_K_waitingSet (σ : sm_S) (Q : Option Value → sm_S → Prop) (h : xE xD m_K_waitingSet 4 [.ref 26, .int 0, .int 0] [] σ Q) : xC xD j_K_waitingSet [.ref 26] σ Q := sm_wp_C (M := m_K_waitingSet) rfl [4] 5 h
set_option maxRecDepth 100000 in
set_option maxHeartbeats 4000000 in
theorem d_K_waitingSet_4 (a1 a2 : Int32) (σ : sm_S) (Q : Option Value → sm_S → Prop) (h : ((6 ≤ a2 → Q (some (.int a1)) σ) ∧ (¬ (6 ≤ a2) → (vp_in a2 6 ∧ (((σ 28 (a2).toNatClampNeg) = (-1) → xE xD m_K_waitingSet 4 [.ref 26, .int (a1 ||| 0), .int (a2 + 1)] [] σ Q) ∧ (¬ ((σ 28 (a2).toNatClampNeg) = (-1)) → xE xD m_K_waitingSet 4 [.ref 26, .int (a1 ||| ((1 : Int32) <<< (a2 &&& 31))), .int (a2 + 1)] [] σ Q)))))) : xE xD m_K_waitingSet 4 [.ref 26, .int a1, .int a2] [] σ Q := sm_wp_E (M := m_K_waitingSet) [4] 19 h
set_option maxRecDepth 100000 in
set_option maxHeartbeats 4000000 in
theorem d_S_goingSet (σ : sm_S) (Q : Option Value → sm_S → Prop) (h : xE xD m_S_goingSet 4 [.ref 17, .int 0, .int 0] [] σ Q) : xC xD j_S_goingSet [.ref 17] σ Q := sm_wp_C (M := m_S_goingSet) rfl [4] 5 h
set_option maxRecDepth 100000 in
set_option maxHeartbeats 4000000 in
theorem d_S_goingSet_4 (a1 a2 : Int32) (σ : sm_S) (Q : Option Value → sm_S → Prop) (h : ((8 ≤ a2 → Q (some (.int a1)) σ) ∧ (¬ (8 ≤ a2) → xC xD j_S_isGoing [.ref 17, .int a2] σ (sm_ri False (fun x2 σ1 => ((x2 = 0 → xE xD m_S_goingSet 4 [.ref 17, .int (a1 ||| 0), .int (a2 + 1)] [] σ1 Q) ∧ (¬ (x2 = 0) → xE xD m_S_goingSet 4 [.ref 17, .int (a1 ||| ((1 : Int32) <<< (a2 &&& 31))), .int (a2 + 1)] [] σ1 Q))))))) : xE xD m_S_goingSet 4 [.ref 17, .int a1, .int a2] [] σ Q := sm_wp_E (M := m_S_goingSet) [4] 17 h
end
section
/-! ===== the class: bits ===== -/
theorem odd_part : ∀ (n m : Nat), m ≤ n → m ≠ 0 → ∃ p q, m = 2 ^ p * (2 * q + 1)
  | 0, m, h, h0 => absurd (by omega) h0
  | n + 1, m, h, h0 => by
    by_cases hm : m % 2 = 1
    · exact ⟨0, m / 2, by omega⟩
    · obtain ⟨p, q, e⟩ := odd_part n (m / 2) (by omega) (by omega)
      refine ⟨p + 1, q, ?_⟩
      rw [Nat.pow_succ, Nat.mul_right_comm, ← e]
      omega
theorem ntz_key (x : Int32) (hx : x ≠ 0) : ∃ p, p < 32 ∧ ((x ^^^ (-1)) &&& (x - 1)) = nI (2 ^ p - 1) ∧ x.toBitVec.getLsbD p = true := by
  have hm : x.toBitVec.toNat ≠ 0 := fun h => hx (Int32.toBitVec_inj.mp (BitVec.eq_of_toNat_eq h))
  have hlt := x.toBitVec.isLt
  obtain ⟨p, q, hpq⟩ := odd_part _ _ (Nat.le_refl _) hm
  have hp2 : 2 ^ p ≤ x.toBitVec.toNat := by
    rw [hpq]
    exact Nat.le_mul_of_pos_right _ (by omega)
  have hp : p < 32 := (Nat.pow_lt_pow_iff_right (by decide : 1 < 2)).mp (Nat.lt_of_le_of_lt hp2 hlt)
  have hpos : 0 < 2 ^ p := Nat.two_pow_pos p
  have e1 : x.toBitVec.toNat - 1 = 2 ^ (p + 1) * q + (2 ^ p - 1) := by
    rw [hpq, Nat.pow_succ, Nat.mul_add, Nat.mul_one, ← Nat.mul_assoc]
    omega
  have e2 : x.toBitVec.toNat = 2 ^ (p + 1) * q + 2 ^ p := by
    rw [hpq, Nat.pow_succ, Nat.mul_add, Nat.mul_one, ← Nat.mul_assoc]
  have l1 : 2 ^ p - 1 < 2 ^ (p + 1) := by rw [Nat.pow_succ]; omega
  have l2 : 2 ^ p < 2 ^ (p + 1) := by rw [Nat.pow_succ]; omega
  have hsub : (x.toBitVec - (1 : Int32).toBitVec).toNat = x.toBitVec.toNat - 1 := by
    rw [BitVec.toNat_sub]
    show (2 ^ 32 - 1 + x.toBitVec.toNat) % 2 ^ 32 = _
    omega
  have tb : ∀ i, x.toBitVec.toNat.testBit i = if i < p + 1 then decide (p = i) else q.testBit (i - (p + 1)) := by
    intro i
    rw [e2, Nat.testBit_two_pow_mul_add q l2 i, Nat.testBit_two_pow]
  have ts : ∀ i, (x.toBitVec.toNat - 1).testBit i = if i < p + 1 then decide (i < p) else q.testBit (i - (p + 1)) := by
    intro i
    rw [e1, Nat.testBit_two_pow_mul_add q l1 i, Nat.testBit_two_pow_sub_one]
  refine ⟨p, hp, ?_, ?_⟩
  · apply Int32.toBitVec_inj.mp
    apply BitVec.eq_of_getLsbD_eq
    intro i hi
    have h1 : ((-1 : Int32)).toBitVec.getLsbD i = true := by
      show (BitVec.allOnes 32).getLsbD i = true
      rw [BitVec.getLsbD_allOnes]
      exact decide_eq_true hi
    have h3 : (nI (2 ^ p - 1)).toBitVec.getLsbD i = decide (i < p) := by
      show (BitVec.ofNat 32 (2 ^ p - 1)).getLsbD i = _
      rw [BitVec.getLsbD_ofNat, Nat.testBit_two_pow_sub_one]
      simp [hi]
    rw [Int32.toBitVec_and, Int32.toBitVec_xor, Int32.toBitVec_sub, BitVec.getLsbD_and, BitVec.getLsbD_xor, h1, h3]
    have h4 : (x.toBitVec - (1 : Int32).toBitVec).getLsbD i = (x.toBitVec.toNat - 1).testBit i := by
      rw [← hsub]; rfl
    have h5 : x.toBitVec.getLsbD i = x.toBitVec.toNat.testBit i := rfl
    rw [h4, h5, tb, ts]
    by_cases c : i < p + 1
    · rw [if_pos c, if_pos c]
      by_cases d : i < p
      · have : ¬ p = i := by omega
        simp [d, this]
      · simp [d]
    · rw [if_neg c, if_neg c]
      have : ¬ i < p := by omega
      simp [this]
  · show x.toBitVec.toNat.testBit p = true
    rw [tb, if_pos (by omega)]
    simp
theorem c_ntz (x : Int32) (σ : sm_S) : xC xD j_I_numberOfTrailingZeros [.int x] σ (sm_I (fun y σ' => ((x = 0 ∧ y = 32) ∨ ∃ p : Nat, p < 32 ∧ y.toInt = p ∧ x.toBitVec.getLsbD p = true) ∧ σ' = σ)) := by
  refine d_I_numberOfTrailingZeros x σ _ ?_
  by_cases h0 : x = 0
  · have e : ((x ^^^ (-1)) &&& (x - 1)) = -1 := by rw [h0]; decide
    rw [e]
    exact ⟨fun h => absurd h (by decide), fun _ => ⟨_, rfl, Or.inl ⟨h0, rfl⟩, rfl⟩⟩
  · obtain ⟨p, hp, e, hb⟩ := ntz_key x h0
    rw [e]
    have fin : ∀ y : Int32, y.toInt = p → sm_I (fun y σ' => ((x = 0 ∧ y = 32) ∨ ∃ p : Nat, p < 32 ∧ y.toInt = p ∧ x.toBitVec.getLsbD p = true) ∧ σ' = σ) (some (.int y)) σ := fun y hy => ⟨y, rfl, Or.inr ⟨p, hp, hy, hb⟩, rfl⟩
    clear hb e h0
    rcases (show p = 0 ∨ p = 1 ∨ p = 2 ∨ p = 3 ∨ p = 4 ∨ p = 5 ∨ p = 6 ∨ p = 7 ∨ p = 8 ∨ p = 9 ∨ p = 10 ∨ p = 11 ∨ p = 12 ∨ p = 13 ∨ p = 14 ∨ p = 15 ∨ p = 16 ∨ p = 17 ∨ p = 18 ∨ p = 19 ∨ p = 20 ∨ p = 21 ∨ p = 22 ∨ p = 23 ∨ p = 24 ∨ p = 25 ∨ p = 26 ∨ p = 27 ∨ p = 28 ∨ p = 29 ∨ p = 30 ∨ p = 31 by omega) with rfl | rfl | rfl | rfl | rfl | rfl | rfl | rfl | rfl | rfl | rfl | rfl | rfl | rfl | rfl | rfl | rfl | rfl | rfl | rfl | rfl | rfl | rfl | rfl | rfl | rfl | rfl | rfl | rfl | rfl | rfl | rfl
    all_goals repeat' (first | exact fin _ rfl | (refine ⟨fun h => ?_, fun h => ?_⟩ <;> first | exact absurd h (by decide) | skip))
theorem c_bitCount (x : Int32) (σ : sm_S) : xC xD j_I_bitCount [.int x] σ (sm_I (fun _ σ' => σ' = σ)) := d_I_bitCount x σ _ ⟨_, rfl, rfl⟩
/-- a bit at each multiple of 2 to the k -/
def mlt (k : Nat) : Int32 := (xT 2).getD k 0
def wd (r : Int32) (k : Nat) : Int32 := r &&& (((r.toUInt32 >>> (((1 : Int32) <<< (nI k &&& 31)).toUInt32 &&& Int32.toUInt32 31)).toInt32) &&& mlt (k + 1))
/-- the starts of an order -/
def st (f : Int32) : Nat → Int32
  | 0 => f
  | k + 1 => wd (st f k) k
theorem and_bit {x y : Int32} {p : Nat} (h : (x &&& y).toBitVec.getLsbD p = true) : x.toBitVec.getLsbD p = true ∧ y.toBitVec.getLsbD p = true := by
  rw [Int32.toBitVec_and, BitVec.getLsbD_and] at h
  exact Bool.and_eq_true_iff.mp h
theorem mlt_al : ∀ k, k ≤ 5 → ∀ p, p < 32 → (mlt k).toBitVec.getLsbD p = true → p % 2 ^ k = 0 := by decide
theorem st_al {f : Int32} {k p : Nat} (hk : k ≤ 5) (hp : p < 32) (h : (st f k).toBitVec.getLsbD p = true) : p % 2 ^ k = 0 := by
  cases k with
  | zero => exact Nat.mod_one p
  | succ k => exact mlt_al (k + 1) hk p hp (and_bit (and_bit h).2).2
theorem l_starts {a0 a1 : Int32} {o : Nat} (h1 : a1.toInt = o) (ho : o ≤ 5) (σ : sm_S) : ∀ (d k : Nat) (a3 : Int32), a3.toInt = k → k + d = o → xE xD m_R_starts 4 [.int a0, .int a1, .int (st a0 k), .int a3] [] σ (sm_I (fun y σ' => y = st a0 o ∧ σ' = σ)) := by
  intro d
  induction d with
  | zero =>
    intro k a3 h3 hk
    have hk : k = o := by omega
    subst hk
    exact d_R_starts_4 a0 a1 _ a3 σ _ ⟨fun _ => ⟨_, rfl, rfl, rfl⟩, fun h => absurd (by rw [t_le, h1, h3]; omega) h⟩
  | succ d ih =>
    intro k a3 h3 hk
    have h3' : (a3 + 1).toInt = ((k + 1 : Nat) : Int) := by
      rw [t_add h3 (y := 1) rfl (by omega) (by omega)]
      omega
    refine d_R_starts_4 a0 a1 _ a3 σ _ ⟨fun h => ?_, fun _ => ⟨fun h => ?_, fun _ => ⟨t_vp h3' (show k + 1 < 6 by omega), ?_⟩⟩⟩
    · rw [t_le, h1, h3] at h; omega
    · rw [t_le, h3] at h
      have h : (5 : Int) ≤ k := h
      omega
    · have := ih (k + 1) (a3 + 1) h3' (by omega)
      rw [t_nat h3', t_nI h3]
      rw [t_nI h3] at this
      exact this
theorem c_starts {a1 : Int32} {o : Nat} (h1 : a1.toInt = o) (ho : o ≤ 5) (a0 : Int32) (σ : sm_S) : xC xD j_R_starts [.int a0, .int a1] σ (sm_I (fun y σ' => y = st a0 o ∧ σ' = σ)) :=
  d_R_starts a0 a1 σ _ (l_starts h1 ho σ o 0 0 rfl (by omega))
/-- those alone -/
def aln (r : Int32) (k : Nat) : Int32 := r &&& ((wd r k ||| (wd r k <<< (((1 : Int32) <<< (nI k &&& 31)) &&& 31))) ^^^ (-1))
def al5 (r : Int32) (k : Nat) : Int32 := if k < 5 then aln r k else r
theorem wd0 {r : Int32} {k : Nat} (hr : r ≠ 0) (h : aln r k = 0) : wd r k ≠ 0 := by
  intro z
  unfold aln at h
  rw [z] at h
  have e : ((0 : Int32) ||| (0 : Int32) <<< (((1 : Int32) <<< (nI k &&& 31)) &&& 31)) ^^^ (-1) = -1 := by
    rw [Int32.zero_shiftLeft]; decide
  rw [e, Int32.and_neg_one] at h
  exact hr h
theorem l_leastHole {a0 a1 f : Int32} {o : Nat} (σ : sm_S) : ∀ (d k : Nat) (a3 : Int32) (v4 v5 : Value), a3.toInt = k → k + d = 5 → o ≤ k → st f k ≠ 0 → xE xD m_R_leastHole 4 [.int a0, .int a1, .int (st f k), .int a3, v4, v5] [] σ (sm_I (fun y σ' => (∃ h : Nat, y.toInt = h ∧ o ≤ h ∧ h ≤ 5 ∧ al5 (st f h) h ≠ 0) ∧ σ' = σ)) := by
  intro d
  induction d with
  | zero =>
    intro k a3 v4 v5 h3 hk hok hs
    have hk : k = 5 := by omega
    subst hk
    have fin : sm_I (fun y σ' => (∃ h : Nat, y.toInt = h ∧ o ≤ h ∧ h ≤ 5 ∧ al5 (st f h) h ≠ 0) ∧ σ' = σ) (some (.int 5)) σ := ⟨5, rfl, ⟨5, rfl, hok, by omega, hs⟩, rfl⟩
    refine d_R_leastHole_4 a0 a1 _ a3 v4 v5 σ _ ⟨fun _ => fin, fun _ => ⟨fun _ => fin, fun h => absurd ?_ h⟩⟩
    rw [t_le, h3]; decide
  | succ d ih =>
    intro k a3 v4 v5 h3 hk hok hs
    have h3' : (a3 + 1).toInt = ((k + 1 : Nat) : Int) := by
      rw [t_add h3 (y := 1) rfl (by omega) (by omega)]
      omega
    refine d_R_leastHole_4 a0 a1 _ a3 v4 v5 σ _ ⟨fun h => ?_, fun _ => ⟨fun h => ?_, fun _ => ⟨t_vp h3' (show k + 1 < 6 by omega), ?_⟩⟩⟩
    · rw [t_lt, h3] at h
      have h : (k : Int) < 0 := h
      omega
    · rw [t_le, h3] at h
      have h : (5 : Int) ≤ k := h
      omega
    · have e : (st f k &&& ((st f k).toUInt32 >>> (((1 : Int32) <<< (a3 &&& 31)).toUInt32 &&& Int32.toUInt32 31)).toInt32) &&& ((xT 2).getD ((a3 + 1)).toNatClampNeg 0) = wd (st f k) k := by
        rw [t_nat h3', t_nI h3, Int32.and_assoc]; rfl
      rw [e]
      have e2 : (st f k &&& ((wd (st f k) k ||| (wd (st f k) k <<< (((1 : Int32) <<< (a3 &&& 31)) &&& 31))) ^^^ (-1))) = aln (st f k) k := by
        rw [t_nI h3]; rfl
      rw [e2]
      refine ⟨fun z => ih (k + 1) (a3 + 1) _ _ h3' (by omega) (by omega) (wd0 hs z), fun z => ⟨_, rfl, ⟨k, h3, hok, by omega, ?_⟩, rfl⟩⟩
      unfold al5
      rw [if_pos (by omega)]
      exact z
theorem c_leastHole {a1 f : Int32} {o : Nat} (h1 : a1.toInt = o) (ho : o ≤ 5) (hs : st f o ≠ 0) (σ : sm_S) : xC xD j_R_leastHole [.int (st f o), .int a1] σ (sm_I (fun y σ' => (∃ h : Nat, y.toInt = h ∧ o ≤ h ∧ h ≤ 5 ∧ al5 (st f h) h ≠ 0) ∧ σ' = σ)) :=
  d_R_leastHole _ a1 σ _ (l_leastHole σ (5 - o) o a1 _ _ h1 (by omega) (Nat.le_refl o) hs)
theorem c_alone {a1 : Int32} {k : Nat} (h1 : a1.toInt = k) (hk : k ≤ 5) (a0 : Int32) (σ : sm_S) : xC xD j_R_alone [.int a0, .int a1] σ (sm_I (fun y σ' => y = al5 a0 k ∧ σ' = σ)) := by
  refine d_R_alone a0 a1 σ _ ⟨fun h => ?_, fun _ => ⟨fun h => ?_, fun h => ?_⟩⟩
  · rw [t_lt, h1] at h
    have h : (k : Int) < 0 := h
    omega
  · rw [t_lt, h1] at h
    have h : (k : Int) < 5 := h
    have h3' : (a1 + 1).toInt = ((k + 1 : Nat) : Int) := by
      rw [t_add h1 (y := 1) rfl (by omega) (by omega)]
      omega
    refine ⟨t_vp h3' (show k + 1 < 6 by omega), _, rfl, ?_, rfl⟩
    unfold al5
    rw [if_pos (by omega), t_nat h3', t_nI h1, Int32.and_assoc]
    rfl
  · rw [t_lt, h1] at h
    have h : ¬ (k : Int) < 5 := h
    refine ⟨_, rfl, ?_, rfl⟩
    unfold al5
    rw [if_neg (by omega)]
theorem al5_bit {r : Int32} {k p : Nat} (h : (al5 r k).toBitVec.getLsbD p = true) : r.toBitVec.getLsbD p = true := by
  unfold al5 at h
  split at h
  · exact (and_bit h).1
  · exact h
theorem l_widest (a0 : Int32) (σ : sm_S) : ∀ (d : Nat) (a1 : Int32), a1.toInt = (d : Int) - 1 → d ≤ 6 → xE xD m_R_widest 2 [.int a0, .int a1] [] σ (sm_I (fun _ σ' => σ' = σ)) := by
  intro d
  induction d with
  | zero =>
    intro a1 h1 _
    refine d_R_widest_2 a0 a1 σ _ ⟨fun _ => ⟨_, rfl, rfl⟩, fun h => absurd ?_ h⟩
    rw [t_lt, h1]; decide
  | succ d ih =>
    intro a1 h1 hd
    have h1' : a1.toInt = d := by omega
    refine d_R_widest_2 a0 a1 σ _ ⟨fun _ => ⟨_, rfl, rfl⟩, fun h => (c_starts h1' (by omega) a0 σ).int ?_⟩
    rintro x2 σ ⟨-, rfl⟩
    refine ⟨fun _ => ih _ ?_ (by omega), fun _ => ⟨_, rfl, rfl⟩⟩
    rw [t_add h1' (y := -1) rfl (by omega) (by omega)]
    omega
theorem c_widest (a0 : Int32) (σ : sm_S) : xC xD j_R_widest [.int a0] σ (sm_I (fun _ σ' => σ' = σ)) := d_R_widest a0 σ _ (l_widest a0 σ 6 5 rfl (by omega))
theorem l_holeRound (a0 a1 : Int32) (σ : sm_S) : ∀ (d k : Nat) (a2 a3 : Int32) (v4 : Value), a3.toInt = k → k + d = 6 → xE xD m_R_holeRound 4 [.int a0, .int a1, .int a2, .int a3, v4] [] σ (sm_I (fun _ σ' => σ' = σ)) := by
  intro d
  induction d with
  | zero =>
    intro k a2 a3 v4 h3 hk
    refine d_R_holeRound_4 a0 a1 a2 a3 v4 σ _ ⟨fun _ => ⟨_, rfl, rfl⟩, fun h => absurd ?_ h⟩
    rw [t_lt, h3]
    show (5 : Int) < _
    omega
  | succ d ih =>
    intro k a2 a3 v4 h3 hk
    have h3' : (a3 + 1).toInt = ((k + 1 : Nat) : Int) := by
      rw [t_add h3 (y := 1) rfl (by omega) (by omega)]
      omega
    refine d_R_holeRound_4 a0 a1 a2 a3 v4 σ _ ⟨fun _ => ⟨_, rfl, rfl⟩, fun h => (c_starts h3 (by omega) a0 σ).int ?_⟩
    rintro x2 σ ⟨-, rfl⟩
    exact ⟨fun _ => ih (k + 1) _ _ _ h3' (by omega), fun _ => ⟨_, rfl, rfl⟩⟩
theorem c_holeRound (a0 a1 : Int32) (σ : sm_S) : xC xD j_R_holeRound [.int a0, .int a1] σ (sm_I (fun _ σ' => σ' = σ)) := d_R_holeRound a0 a1 σ _ (l_holeRound a0 a1 σ 6 0 _ _ _ rfl (by omega))
theorem c_rank {a1 : Int32} {n : Nat} (h1 : a1.toInt = n) (hn : n < 8) (a2 a3 : Int32) (σ : sm_S) : xC xD j_Y_rank [.ref 0, .int a1, .int a2, .int a3] σ (sm_I (fun _ σ' => σ' = σ)) := by
  have v := t_vp h1 hn
  refine d_Y_rank a1 a2 a3 σ _ ⟨by decide, fun _ => ⟨fun _ => ⟨v, fun _ => ?_, fun _ => ?_⟩, fun _ => ⟨v, fun _ => ?_, fun _ => ?_⟩⟩, fun _ => ⟨fun _ => ⟨v, fun _ => ?_, fun _ => ?_⟩, fun _ => ⟨v, fun _ => ?_, fun _ => ?_⟩⟩⟩ <;> exact ⟨_, rfl, rfl⟩
end
