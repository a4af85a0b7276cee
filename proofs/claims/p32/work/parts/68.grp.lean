section
/-! ===== the class: the world of all: now 0 .. 40, its Going 41, the object 42, trial 43 .. 83, its Going 84, Thought 85, then 86 .., kept 127 .., the model 168 .. 173 ===== -/
def xF : List sm_Sh := [.inr (4, [.inr 1, .inr 8, .inr 17, .inr 26, .inr 34, .inr 39, .inr 40, .inl 0]), .inr (1, [.inr 2, .inr 3, .inr 4, .inr 5, .inr 6, .inr 7]), .inl (0, 8), .inl (0, 8), .inl (0, 8), .inl (0, 8), .inl (0, 256), .inl (0, 256), .inr (0, [.inr 9, .inr 10, .inr 11, .inr 12, .inr 13, .inr 14, .inr 15, .inr 16, .inl 0]), .inl (0, 96), .inl (0, 96), .inl (0, 96), .inl (0, 96), .inl (0, 96), .inl (0, 96), .inl (0, 96), .inl (0, 96), .inr (5, [.inr 18, .inr 19, .inr 20, .inr 21, .inr 22, .inr 23, .inr 24, .inr 25]), .inl (0, 8), .inl (0, 8), .inl (0, 8), .inl (0, 8), .inl (0, 8), .inl (0, 8), .inl (0, 8), .inl (0, 8), .inr (6, [.inr 27, .inr 28, .inr 29, .inr 30, .inr 31, .inr 32, .inr 33, .inl 0]), .inl (0, 6), .inl (0, 6), .inl (0, 6), .inl (0, 6), .inl (0, 6), .inl (0, 6), .inl (0, 6), .inr (3, [.inr 35, .inr 36, .inr 37, .inr 38, .inl 0, .inl 0]), .inl (0, 60), .inl (0, 60), .inl (0, 60), .inl (0, 60), .inl (0, 4), .inl (0, 11), .inr (2, [.inr 0, .inr 1, .inr 8, .inr 17]), .inr (8, [.inr 41, .inr 0, .inr 127, .inr 85, .inl 1]), .inr (4, [.inr 44, .inr 51, .inr 60, .inr 69, .inr 77, .inr 82, .inr 83, .inl 0]), .inr (1, [.inr 45, .inr 46, .inr 47, .inr 48, .inr 49, .inr 50]), .inl (0, 8), .inl (0, 8), .inl (0, 8), .inl (0, 8), .inl (0, 256), .inl (0, 256), .inr (0, [.inr 52, .inr 53, .inr 54, .inr 55, .inr 56, .inr 57, .inr 58, .inr 59, .inl 0]), .inl (0, 96), .inl (0, 96), .inl (0, 96), .inl (0, 96), .inl (0, 96), .inl (0, 96), .inl (0, 96), .inl (0, 96), .inr (5, [.inr 61, .inr 62, .inr 63, .inr 64, .inr 65, .inr 66, .inr 67, .inr 68]), .inl (0, 8), .inl (0, 8), .inl (0, 8), .inl (0, 8), .inl (0, 8), .inl (0, 8), .inl (0, 8), .inl (0, 8), .inr (6, [.inr 70, .inr 71, .inr 72, .inr 73, .inr 74, .inr 75, .inr 76, .inl 0]), .inl (0, 6), .inl (0, 6), .inl (0, 6), .inl (0, 6), .inl (0, 6), .inl (0, 6), .inl (0, 6), .inr (3, [.inr 78, .inr 79, .inr 80, .inr 81, .inl 0, .inl 0]), .inl (0, 60), .inl (0, 60), .inl (0, 60), .inl (0, 60), .inl (0, 4), .inl (0, 11), .inr (2, [.inr 43, .inr 44, .inr 51, .inr 60]), .inr (7, [.inr 84, .inr 43, .inr 86, .inl 0, .inl 0]), .inr (4, [.inr 87, .inr 94, .inr 103, .inr 112, .inr 120, .inr 125, .inr 126, .inl 0]), .inr (1, [.inr 88, .inr 89, .inr 90, .inr 91, .inr 92, .inr 93]), .inl (0, 8), .inl (0, 8), .inl (0, 8), .inl (0, 8), .inl (0, 256), .inl (0, 256), .inr (0, [.inr 95, .inr 96, .inr 97, .inr 98, .inr 99, .inr 100, .inr 101, .inr 102, .inl 0]), .inl (0, 96), .inl (0, 96), .inl (0, 96), .inl (0, 96), .inl (0, 96), .inl (0, 96), .inl (0, 96), .inl (0, 96), .inr (5, [.inr 104, .inr 105, .inr 106, .inr 107, .inr 108, .inr 109, .inr 110, .inr 111]), .inl (0, 8), .inl (0, 8), .inl (0, 8), .inl (0, 8), .inl (0, 8), .inl (0, 8), .inl (0, 8), .inl (0, 8), .inr (6, [.inr 113, .inr 114, .inr 115, .inr 116, .inr 117, .inr 118, .inr 119, .inl 0]), .inl (0, 6), .inl (0, 6), .inl (0, 6), .inl (0, 6), .inl (0, 6), .inl (0, 6), .inl (0, 6), .inr (3, [.inr 121, .inr 122, .inr 123, .inr 124, .inl 0, .inl 0]), .inl (0, 60), .inl (0, 60), .inl (0, 60), .inl (0, 60), .inl (0, 4), .inl (0, 11), .inr (4, [.inr 128, .inr 135, .inr 144, .inr 153, .inr 161, .inr 166, .inr 167, .inl 0]), .inr (1, [.inr 129, .inr 130, .inr 131, .inr 132, .inr 133, .inr 134]), .inl (0, 8), .inl (0, 8), .inl (0, 8), .inl (0, 8), .inl (0, 256), .inl (0, 256), .inr (0, [.inr 136, .inr 137, .inr 138, .inr 139, .inr 140, .inr 141, .inr 142, .inr 143, .inl 0]), .inl (0, 96), .inl (0, 96), .inl (0, 96), .inl (0, 96), .inl (0, 96), .inl (0, 96), .inl (0, 96), .inl (0, 96), .inr (5, [.inr 145, .inr 146, .inr 147, .inr 148, .inr 149, .inr 150, .inr 151, .inr 152]), .inl (0, 8), .inl (0, 8), .inl (0, 8), .inl (0, 8), .inl (0, 8), .inl (0, 8), .inl (0, 8), .inl (0, 8), .inr (6, [.inr 154, .inr 155, .inr 156, .inr 157, .inr 158, .inr 159, .inr 160, .inl 0]), .inl (0, 6), .inl (0, 6), .inl (0, 6), .inl (0, 6), .inl (0, 6), .inl (0, 6), .inl (0, 6), .inr (3, [.inr 162, .inr 163, .inr 164, .inr 165, .inl 0, .inl 0]), .inl (0, 60), .inl (0, 60), .inl (0, 60), .inl (0, 60), .inl (0, 4), .inl (0, 11), .inr (9, [.inl 0, .inr 169, .inr 170, .inr 171, .inr 172, .inl 0, .inl 1, .inr 173]), .inl (0, 2662), .inl (0, 2662), .inl (0, 2662), .inl (1, 96), .inl (0, 2662)]
/-- the world of a copy: to 0 .. 40, from 41 .. 81 -/
def xP : List sm_Sh := [.inr (4, [.inr 1, .inr 8, .inr 17, .inr 26, .inr 34, .inr 39, .inr 40, .inl 0]), .inr (1, [.inr 2, .inr 3, .inr 4, .inr 5, .inr 6, .inr 7]), .inl (0, 8), .inl (0, 8), .inl (0, 8), .inl (0, 8), .inl (0, 256), .inl (0, 256), .inr (0, [.inr 9, .inr 10, .inr 11, .inr 12, .inr 13, .inr 14, .inr 15, .inr 16, .inl 0]), .inl (0, 96), .inl (0, 96), .inl (0, 96), .inl (0, 96), .inl (0, 96), .inl (0, 96), .inl (0, 96), .inl (0, 96), .inr (5, [.inr 18, .inr 19, .inr 20, .inr 21, .inr 22, .inr 23, .inr 24, .inr 25]), .inl (0, 8), .inl (0, 8), .inl (0, 8), .inl (0, 8), .inl (0, 8), .inl (0, 8), .inl (0, 8), .inl (0, 8), .inr (6, [.inr 27, .inr 28, .inr 29, .inr 30, .inr 31, .inr 32, .inr 33, .inl 0]), .inl (0, 6), .inl (0, 6), .inl (0, 6), .inl (0, 6), .inl (0, 6), .inl (0, 6), .inl (0, 6), .inr (3, [.inr 35, .inr 36, .inr 37, .inr 38, .inl 0, .inl 0]), .inl (0, 60), .inl (0, 60), .inl (0, 60), .inl (0, 60), .inl (0, 4), .inl (0, 11), .inr (4, [.inr 42, .inr 49, .inr 58, .inr 67, .inr 75, .inr 80, .inr 81, .inl 0]), .inr (1, [.inr 43, .inr 44, .inr 45, .inr 46, .inr 47, .inr 48]), .inl (0, 8), .inl (0, 8), .inl (0, 8), .inl (0, 8), .inl (0, 256), .inl (0, 256), .inr (0, [.inr 50, .inr 51, .inr 52, .inr 53, .inr 54, .inr 55, .inr 56, .inr 57, .inl 0]), .inl (0, 96), .inl (0, 96), .inl (0, 96), .inl (0, 96), .inl (0, 96), .inl (0, 96), .inl (0, 96), .inl (0, 96), .inr (5, [.inr 59, .inr 60, .inr 61, .inr 62, .inr 63, .inr 64, .inr 65, .inr 66]), .inl (0, 8), .inl (0, 8), .inl (0, 8), .inl (0, 8), .inl (0, 8), .inl (0, 8), .inl (0, 8), .inl (0, 8), .inr (6, [.inr 68, .inr 69, .inr 70, .inr 71, .inr 72, .inr 73, .inr 74, .inl 0]), .inl (0, 6), .inl (0, 6), .inl (0, 6), .inl (0, 6), .inl (0, 6), .inl (0, 6), .inl (0, 6), .inr (3, [.inr 76, .inr 77, .inr 78, .inr 79, .inl 0, .inl 0]), .inl (0, 60), .inl (0, 60), .inl (0, 60), .inl (0, 60), .inl (0, 4), .inl (0, 11)]
end
section
/-! ===== the class: the outer rows ===== -/
set_option maxRecDepth 100000 in
set_option maxHeartbeats 4000000 in
theorem f_A_set (a1 a2 : Int32) (σ : sm_S) (Q : Option Value → sm_S → Prop) (h : ((a1 < 0 → (((0 : Int32) = 0 ∨ (0 : Int32) = 1) ∧ Q (some (.int 0)) σ)) ∧ (¬ (a1 < 0) → ((4 ≤ a1 → (((0 : Int32) = 0 ∨ (0 : Int32) = 1) ∧ Q (some (.int 0)) σ)) ∧ (¬ (4 ≤ a1) → (vp_in a1 (xT 0).length ∧ ((a2 < ((xT 0).getD (a1).toNatClampNeg 0) → (((0 : Int32) = 0 ∨ (0 : Int32) = 1) ∧ Q (some (.int 0)) σ)) ∧ (¬ (a2 < ((xT 0).getD (a1).toNatClampNeg 0)) → (vp_in a1 (xT 1).length ∧ ((a2 ≤ ((xT 1).getD (a1).toNatClampNeg 0) → (vp_in a1 4 ∧ ∀ σ1, σ1 = sm_set σ 39 (upd (σ 39) (a1).toNatClampNeg a2) → (((1 : Int32) = 0 ∨ (1 : Int32) = 1) ∧ Q (some (.int 1)) σ1))) ∧ (¬ (a2 ≤ ((xT 1).getD (a1).toNatClampNeg 0)) → (((0 : Int32) = 0 ∨ (0 : Int32) = 1) ∧ Q (some (.int 0)) σ)))))))))))) : xC xF j_A_set [.ref 42, .int a1, .int a2] σ Q := sm_wp_C (M := m_A_set) rfl [] 24 h
set_option maxRecDepth 100000 in
set_option maxHeartbeats 4000000 in
theorem f_A_home (a1 a2 : Int32) (σ : sm_S) (Q : Option Value → sm_S → Prop) (h : xC xF j_A_isTask [.int a1] σ (sm_ri False (fun x2 σ1 => ((x2 = 0 → (((0 : Int32) = 0 ∨ (0 : Int32) = 1) ∧ Q (some (.int 0)) σ1)) ∧ (¬ (x2 = 0) → xC xF j_A_isNode [.int a2] σ1 (sm_ri False (fun x4 σ3 => ((x4 ≠ 0 → (vp_in a1 6 ∧ ∀ σ5, σ5 = sm_set σ3 27 (upd (σ3 27) (a1).toNatClampNeg a2) → (((1 : Int32) = 0 ∨ (1 : Int32) = 1) ∧ Q (some (.int 1)) σ5))) ∧ (¬ (x4 ≠ 0) → (((0 : Int32) = 0 ∨ (0 : Int32) = 1) ∧ Q (some (.int 0)) σ3)))))))))) : xC xF j_A_home [.ref 42, .int a1, .int a2] σ Q := sm_wp_C (M := m_A_home) rfl [] 16 h
set_option maxRecDepth 100000 in
set_option maxHeartbeats 4000000 in
theorem f_A_take (a1 a2 a3 a4 : Int32) (σ : sm_S) (Q : Option Value → sm_S → Prop) (h : xC xF j_A_isTask [.int a1] σ (sm_ri False (fun x2 σ1 => ((x2 = 0 → Q (some (.int (-2))) σ1) ∧ (¬ (x2 = 0) → xC xF j_A_isKind [.int a2] σ1 (sm_ri False (fun x4 σ3 => ((x4 = 0 → Q (some (.int (-2))) σ3) ∧ (¬ (x4 = 0) → xC xF j_A_isBlockOrder [.int a3] σ3 (sm_ri False (fun x6 σ5 => ((x6 ≠ 0 → xC xF j_Y_bring [.ref 0, .int a1, .int a2, .int a3, .int a4] σ5 (sm_ri False (fun x8 σ7 => Q (some (.int x8)) σ7))) ∧ (¬ (x6 ≠ 0) → Q (some (.int (-2))) σ5))))))))))))) : xC xF j_A_take [.ref 42, .int a1, .int a2, .int a3, .int a4] σ Q := sm_wp_C (M := m_A_take) rfl [] 18 h
set_option maxRecDepth 100000 in
set_option maxHeartbeats 4000000 in
theorem f_A_free (a1 : Int32) (σ : sm_S) (Q : Option Value → sm_S → Prop) (h : xC xF j_B_has [.ref 8, .int a1] σ (sm_ri False (fun x2 σ1 => ((x2 = 0 → (((0 : Int32) = 0 ∨ (0 : Int32) = 1) ∧ Q (some (.int 0)) σ1)) ∧ (¬ (x2 = 0) → xC xF j_B_isLoose [.ref 8, .int a1] σ1 (sm_ri False (fun x4 σ3 => ((x4 ≠ 0 → xC xF j_Y_remove [.ref 0, .int a1] σ3 (sm_rv False (fun σ5 => (((1 : Int32) = 0 ∨ (1 : Int32) = 1) ∧ Q (some (.int 1)) σ5)))) ∧ (¬ (x4 ≠ 0) → (((0 : Int32) = 0 ∨ (0 : Int32) = 1) ∧ Q (some (.int 0)) σ3)))))))))) : xC xF j_A_free [.ref 42, .int a1] σ Q := sm_wp_C (M := m_A_free) rfl [] 19 h
set_option maxRecDepth 100000 in
set_option maxHeartbeats 4000000 in
theorem f_A_read (a1 a2 a3 : Int32) (σ : sm_S) (Q : Option Value → sm_S → Prop) (h : xC xF j_A_touch [.ref 42, .int a1, .int a2, .int 0, .int a3, .int 0] σ (sm_ri False (fun x2 σ1 => Q (some (.int x2)) σ1))) : xC xF j_A_read [.ref 42, .int a1, .int a2, .int a3] σ Q := sm_wp_C (M := m_A_read) rfl [] 9 h
set_option maxRecDepth 100000 in
set_option maxHeartbeats 4000000 in
theorem f_A_touch (a1 a2 a3 a4 a5 : Int32) (σ : sm_S) (Q : Option Value → sm_S → Prop) (h : xC xF j_A_isTask [.int a1] σ (sm_ri False (fun x2 σ1 => ((x2 = 0 → Q (some (.int (-1))) σ1) ∧ (¬ (x2 = 0) → xC xF j_B_has [.ref 8, .int a2] σ1 (sm_ri False (fun x4 σ3 => ((x4 = 0 → Q (some (.int (-1))) σ3) ∧ (¬ (x4 = 0) → (vp_in a1 6 ∧ (((σ3 28 (a1).toNatClampNeg) = (-1) → ((a4 < 0 → Q (some (.int (-1))) σ3) ∧ (¬ (a4 < 0) → xC xF j_B_size [.ref 8, .int a2] σ3 (sm_ri False (fun x6 σ5 => ((a4 < x6 → xC xF j_K_wants [.ref 26, .int a1, .int a3, .int a4, .int a5] σ5 (sm_rv False (fun σ7 => xC xF j_Y_doOrWait [.ref 0, .int a1, .int a2] σ7 (sm_ri False (fun x9 σ8 => Q (some (.int x9)) σ8))))) ∧ (¬ (a4 < x6) → Q (some (.int (-1))) σ5))))))) ∧ (¬ ((σ3 28 (a1).toNatClampNeg) = (-1)) → Q (some (.int (-1))) σ3)))))))))))) : xC xF j_A_touch [.ref 42, .int a1, .int a2, .int a3, .int a4, .int a5] σ Q := sm_wp_C (M := m_A_touch) rfl [] 41 h
set_option maxRecDepth 100000 in
set_option maxHeartbeats 4000000 in
theorem f_A_write (a1 a2 a3 a4 : Int32) (σ : sm_S) (Q : Option Value → sm_S → Prop) (h : xC xF j_A_touch [.ref 42, .int a1, .int a2, .int 1, .int a3, .int a4] σ (sm_ri False (fun x2 σ1 => Q (some (.int x2)) σ1))) : xC xF j_A_write [.ref 42, .int a1, .int a2, .int a3, .int a4] σ Q := sm_wp_C (M := m_A_write) rfl [] 9 h
set_option maxRecDepth 100000 in
set_option maxHeartbeats 4000000 in
theorem f_A_pin (a1 a2 : Int32) (σ : sm_S) (Q : Option Value → sm_S → Prop) (h : xC xF j_A_hasPin [.ref 42, .int a1, .int a2] σ (sm_ri False (fun x2 σ1 => ((x2 = 0 → xC xF j_A_touch [.ref 42, .int a1, .int a2, .int 2, .int 0, .int 0] σ1 (sm_ri False (fun x4 σ3 => Q (some (.int x4)) σ3))) ∧ (¬ (x2 = 0) → Q (some (.int (-1))) σ1))))) : xC xF j_A_pin [.ref 42, .int a1, .int a2] σ Q := sm_wp_C (M := m_A_pin) rfl [] 14 h
set_option maxRecDepth 100000 in
set_option maxHeartbeats 4000000 in
theorem f_A_hasPin (a1 a2 : Int32) (σ : sm_S) (Q : Option Value → sm_S → Prop) (h : xC xF j_A_isTask [.int a1] σ (sm_ri False (fun x2 σ1 => ((x2 = 0 → (((0 : Int32) = 0 ∨ (0 : Int32) = 1) ∧ Q (some (.int 0)) σ1)) ∧ (¬ (x2 = 0) → xC xF j_B_has [.ref 8, .int a2] σ1 (sm_ri False (fun x4 σ3 => ((x4 = 0 → (((0 : Int32) = 0 ∨ (0 : Int32) = 1) ∧ Q (some (.int 0)) σ3)) ∧ (¬ (x4 = 0) → (vp_in a2 96 ∧ (((((σ3 13 (a2).toNatClampNeg) >>> (a1 &&& 31)) &&& 1) = 0 → (((0 : Int32) = 0 ∨ (0 : Int32) = 1) ∧ Q (some (.int 0)) σ3)) ∧ (¬ ((((σ3 13 (a2).toNatClampNeg) >>> (a1 &&& 31)) &&& 1) = 0) → (((1 : Int32) = 0 ∨ (1 : Int32) = 1) ∧ Q (some (.int 1)) σ3))))))))))))) : xC xF j_A_hasPin [.ref 42, .int a1, .int a2] σ Q := sm_wp_C (M := m_A_hasPin) rfl [] 24 h
set_option maxRecDepth 100000 in
set_option maxHeartbeats 4000000 in
theorem f_A_unpin (a1 a2 : Int32) (σ : sm_S) (Q : Option Value → sm_S → Prop) (h : xC xF j_A_hasPin [.ref 42, .int a1, .int a2] σ (sm_ri False (fun x2 σ1 => ((x2 ≠ 0 → (vp_in a2 96 ∧ (vp_in a2 96 ∧ ∀ σ3, σ3 = sm_set σ1 13 (upd (σ1 13) (a2).toNatClampNeg ((σ1 13 (a2).toNatClampNeg) &&& (((1 : Int32) <<< (a1 &&& 31)) ^^^ (-1)))) → (((1 : Int32) = 0 ∨ (1 : Int32) = 1) ∧ Q (some (.int 1)) σ3)))) ∧ (¬ (x2 ≠ 0) → (((0 : Int32) = 0 ∨ (0 : Int32) = 1) ∧ Q (some (.int 0)) σ1)))))) : xC xF j_A_unpin [.ref 42, .int a1, .int a2] σ Q := sm_wp_C (M := m_A_unpin) rfl [] 22 h
set_option maxRecDepth 100000 in
set_option maxHeartbeats 4000000 in
theorem f_A_come (a1 a2 : Int32) (σ : sm_S) (Q : Option Value → sm_S → Prop) (h : xC xF j_A_isSpan [.int a1] σ (sm_ri False (fun x2 σ1 => ((x2 = 0 → Q (some (.int (-1))) σ1) ∧ (¬ (x2 = 0) → ((a2 < 0 → Q (some (.int (-1))) σ1) ∧ (¬ (a2 < 0) → ((2 < a2 → Q (some (.int (-1))) σ1) ∧ (¬ (2 < a2) → (vp_in a1 8 ∧ (((σ1 18 (a1).toNatClampNeg) = 0 → ((a2 ≠ 2 → xC xF j_Y_open [.ref 0, .int a1, .int a2] σ1 (sm_rv False (fun σ3 => Q (some (.int a2)) σ3))) ∧ (¬ (a2 ≠ 2) → xC xF j_Y_zoneByRatio [.ref 0] σ1 (sm_ri False (fun x5 σ4 => xC xF j_Y_open [.ref 0, .int a1, .int x5] σ4 (sm_rv False (fun σ6 => Q (some (.int x5)) σ6))))))) ∧ (¬ ((σ1 18 (a1).toNatClampNeg) = 0) → Q (some (.int (-1))) σ1)))))))))))) : xC xF j_A_come [.ref 42, .int a1, .int a2] σ Q := sm_wp_C (M := m_A_come) rfl [] 31 h
set_option maxRecDepth 100000 in
set_option maxHeartbeats 4000000 in
theorem f_A_byTurns (a1 : Int32) (σ : sm_S) (Q : Option Value → sm_S → Prop) (h : ((a1 < 1 → Q (some (.int (-1))) σ) ∧ (¬ (a1 < 1) → ((a1 ≤ 8 → xE xF m_A_byTurns 17 [.ref 42, .int a1, .int 0, .int 0, .null] [] σ Q) ∧ (¬ (a1 ≤ 8) → Q (some (.int (-1))) σ))))) : xC xF j_A_byTurns [.ref 42, .int a1] σ Q := sm_wp_C (M := m_A_byTurns) rfl [17] 11 h
set_option maxRecDepth 100000 in
set_option maxHeartbeats 4000000 in
theorem f_A_byTurns_17 (a1 a2 a3 : Int32) (v4 : Value) (σ : sm_S) (Q : Option Value → sm_S → Prop) (h : ((a1 ≤ a3 → Q (some (.int a2)) σ) ∧ (¬ (a1 ≤ a3) → xC xF j_S_nextByTurns [.ref 17] σ (sm_ri False (fun x2 σ1 => ((x2 ≠ (-1) → xC xF j_Y_zoneByRatio [.ref 0] σ1 (sm_ri False (fun x4 σ3 => xC xF j_Y_open [.ref 0, .int x2, .int x4] σ3 (sm_rv False (fun σ5 => xE xF m_A_byTurns 17 [.ref 42, .int a1, .int (a2 + 1), .int (a3 + 1), .int x2] [] σ5 Q))))) ∧ (¬ (x2 ≠ (-1)) → Q (some (.int a2)) σ1))))))) : xE xF m_A_byTurns 17 [.ref 42, .int a1, .int a2, .int a3, v4] [] σ Q := sm_wp_E (M := m_A_byTurns) [17] 22 h
set_option maxRecDepth 100000 in
set_option maxHeartbeats 4000000 in
theorem f_A_press (a1 : Int32) (σ : sm_S) (Q : Option Value → sm_S → Prop) (h : xC xF j_A_isSpan [.int a1] σ (sm_ri False (fun x2 σ1 => ((x2 = 0 → Q (some (.int (-1))) σ1) ∧ (¬ (x2 = 0) → (vp_in a1 8 ∧ (((σ1 18 (a1).toNatClampNeg) = 1 → xC xF j_Y_pack [.ref 0, .int a1] σ1 (sm_ri False (fun x4 σ3 => Q (some (.int x4)) σ3))) ∧ (¬ ((σ1 18 (a1).toNatClampNeg) = 1) → Q (some (.int (-1))) σ1)))))))) : xC xF j_A_press [.ref 42, .int a1] σ Q := sm_wp_C (M := m_A_press) rfl [] 17 h
set_option maxRecDepth 100000 in
set_option maxHeartbeats 4000000 in
theorem f_A_gather (a1 : Int32) (σ : sm_S) (Q : Option Value → sm_S → Prop) (h : xC xF j_A_isTask [.int a1] σ (sm_ri False (fun x2 σ1 => ((x2 ≠ 0 → xC xF j_Y_bringNearer [.ref 0, .int a1] σ1 (sm_ri False (fun x4 σ3 => Q (some (.int x4)) σ3))) ∧ (¬ (x2 ≠ 0) → Q (some (.int (-1))) σ1))))) : xC xF j_A_gather [.ref 42, .int a1] σ Q := sm_wp_C (M := m_A_gather) rfl [] 9 h
set_option maxRecDepth 100000 in
set_option maxHeartbeats 4000000 in
theorem f_A_go (a1 : Int32) (σ : sm_S) (Q : Option Value → sm_S → Prop) (h : xC xF j_A_isSpan [.int a1] σ (sm_ri False (fun x2 σ1 => ((x2 = 0 → (((0 : Int32) = 0 ∨ (0 : Int32) = 1) ∧ Q (some (.int 0)) σ1)) ∧ (¬ (x2 = 0) → xC xF j_S_canGo [.ref 17, .int a1] σ1 (sm_ri False (fun x4 σ3 => ((x4 ≠ 0 → xC xF j_G_begin [.ref 41, .int a1] σ3 (sm_rv False (fun σ5 => (((1 : Int32) = 0 ∨ (1 : Int32) = 1) ∧ Q (some (.int 1)) σ5)))) ∧ (¬ (x4 ≠ 0) → (((0 : Int32) = 0 ∨ (0 : Int32) = 1) ∧ Q (some (.int 0)) σ3)))))))))) : xC xF j_A_go [.ref 42, .int a1] σ Q := sm_wp_C (M := m_A_go) rfl [] 16 h
set_option maxRecDepth 100000 in
set_option maxHeartbeats 4000000 in
theorem f_S_canGo_t (a1 : Int32) (σ : sm_S) (Q : Option Value → sm_S → Prop) (h : (vp_in a1 8 ∧ (((σ 104 (a1).toNatClampNeg) = 1 → xE xF m_S_canGo 14 [.ref 103, .int a1, .int 0] [] σ Q) ∧ (¬ ((σ 104 (a1).toNatClampNeg) = 1) → (((0 : Int32) = 0 ∨ (0 : Int32) = 1) ∧ Q (some (.int 0)) σ))))) : xC xF j_S_canGo [.ref 103, .int a1] σ Q := sm_wp_C (M := m_S_canGo) rfl [14] 9 h
set_option maxRecDepth 100000 in
set_option maxHeartbeats 4000000 in
theorem f_S_canGo_t_14 (a1 a2 : Int32) (σ : sm_S) (Q : Option Value → sm_S → Prop) (h : ((8 ≤ a2 → (((0 : Int32) = 0 ∨ (0 : Int32) = 1) ∧ Q (some (.int 0)) σ)) ∧ (¬ (8 ≤ a2) → ((a2 = a1 → xE xF m_S_canGo 14 [.ref 103, .int a1, .int (a2 + 1)] [] σ Q) ∧ (¬ (a2 = a1) → (vp_in a2 8 ∧ (((σ 104 (a2).toNatClampNeg) ≠ 1 → xE xF m_S_canGo 14 [.ref 103, .int a1, .int (a2 + 1)] [] σ Q) ∧ (¬ ((σ 104 (a2).toNatClampNeg) ≠ 1) → (vp_in a2 8 ∧ (((σ 105 (a2).toNatClampNeg) ≠ 0 → xE xF m_S_canGo 14 [.ref 103, .int a1, .int (a2 + 1)] [] σ Q) ∧ (¬ ((σ 105 (a2).toNatClampNeg) ≠ 0) → (((1 : Int32) = 0 ∨ (1 : Int32) = 1) ∧ Q (some (.int 1)) σ)))))))))))) : xE xF m_S_canGo 14 [.ref 103, .int a1, .int a2] [] σ Q := sm_wp_E (M := m_S_canGo) [14] 20 h
set_option maxRecDepth 100000 in
set_option maxHeartbeats 4000000 in
theorem f_A_giveUp (a1 : Int32) (σ : sm_S) (Q : Option Value → sm_S → Prop) (h : xC xF j_A_isSpan [.int a1] σ (sm_ri False (fun x2 σ1 => ((x2 = 0 → (((0 : Int32) = 0 ∨ (0 : Int32) = 1) ∧ Q (some (.int 0)) σ1)) ∧ (¬ (x2 = 0) → xC xF j_S_isGoing [.ref 17, .int a1] σ1 (sm_ri False (fun x4 σ3 => ((x4 ≠ 0 → xC xF j_G_callOff [.ref 41, .int a1] σ3 (sm_rv False (fun σ5 => (((1 : Int32) = 0 ∨ (1 : Int32) = 1) ∧ Q (some (.int 1)) σ5)))) ∧ (¬ (x4 ≠ 0) → (((0 : Int32) = 0 ∨ (0 : Int32) = 1) ∧ Q (some (.int 0)) σ3)))))))))) : xC xF j_A_giveUp [.ref 42, .int a1] σ Q := sm_wp_C (M := m_A_giveUp) rfl [] 16 h
set_option maxRecDepth 100000 in
set_option maxHeartbeats 4000000 in
theorem f_A_tick (a1 : Int32) (σ : sm_S) (Q : Option Value → sm_S → Prop) (h : ((a1 < 1 → Q (some (.int (-1))) σ) ∧ (¬ (a1 < 1) → ((60 < a1 → Q (some (.int (-1))) σ) ∧ (¬ (60 < a1) → ((((σ 0 7) + a1) ≤ 9999 → xE xF m_A_tick 30 [.ref 42, .int a1, .int 0] [] σ Q) ∧ (¬ (((σ 0 7) + a1) ≤ 9999) → Q (some (.int (-1))) σ))))))) : xC xF j_A_tick [.ref 42, .int a1] σ Q := sm_wp_C (M := m_A_tick) rfl [30] 16 h
set_option maxRecDepth 100000 in
set_option maxHeartbeats 4000000 in
theorem f_A_tick_30 (a1 a2 : Int32) (σ : sm_S) (Q : Option Value → sm_S → Prop) (h : ((a1 ≤ a2 → Q (some (.int (σ 0 7))) σ) ∧ (¬ (a1 ≤ a2) → xC xF j_G_oneTick [.ref 41] σ (sm_rv False (fun σ1 => xE xF m_A_tick 30 [.ref 42, .int a1, .int (a2 + 1)] [] σ1 Q))))) : xE xF m_A_tick 30 [.ref 42, .int a1, .int a2] [] σ Q := sm_wp_E (M := m_A_tick) [30] 9 h
set_option maxRecDepth 100000 in
set_option maxHeartbeats 4000000 in
theorem f_A_frame (a1 a2 : Int32) (σ : sm_S) (Q : Option Value → sm_S → Prop) (h : ((a1 < 0 → Q (some (.int (-1))) σ) ∧ (¬ (a1 < 0) → ((a1 < 256 → ((a2 = 0 → xC xF j_F_stateOf [.ref 1, .int a1] σ (sm_ri False (fun x2 σ1 => Q (some (.int x2)) σ1))) ∧ (¬ (a2 = 0) → ((a2 = 1 → (vp_in a1 256 ∧ Q (some (.int (σ 6 (a1).toNatClampNeg))) σ)) ∧ (¬ (a2 = 1) → ((a2 = 2 → (vp_in a1 256 ∧ Q (some (.int (σ 7 (a1).toNatClampNeg))) σ)) ∧ (¬ (a2 = 2) → Q (some (.int (-1))) σ))))))) ∧ (¬ (a1 < 256) → Q (some (.int (-1))) σ))))) : xC xF j_A_frame [.ref 42, .int a1, .int a2] σ Q := sm_wp_C (M := m_A_frame) rfl [] 15 h
set_option maxRecDepth 100000 in
set_option maxHeartbeats 4000000 in
theorem f_A_block (a1 a2 : Int32) (σ : sm_S) (Q : Option Value → sm_S → Prop) (h : xC xF j_B_has [.ref 8, .int a1] σ (sm_ri False (fun x2 σ1 => ((x2 ≠ 0 → ((a2 = 0 → (vp_in a1 96 ∧ Q (some (.int (σ1 9 (a1).toNatClampNeg))) σ1)) ∧ (¬ (a2 = 0) → ((a2 = 1 → (vp_in a1 96 ∧ Q (some (.int (σ1 10 (a1).toNatClampNeg))) σ1)) ∧ (¬ (a2 = 1) → ((a2 = 2 → (vp_in a1 96 ∧ Q (some (.int (σ1 11 (a1).toNatClampNeg))) σ1)) ∧ (¬ (a2 = 2) → ((a2 = 3 → (vp_in a1 96 ∧ Q (some (.int (σ1 12 (a1).toNatClampNeg))) σ1)) ∧ (¬ (a2 = 3) → ((a2 = 4 → (vp_in a1 96 ∧ Q (some (.int (σ1 13 (a1).toNatClampNeg))) σ1)) ∧ (¬ (a2 = 4) → ((a2 = 5 → (vp_in a1 96 ∧ Q (some (.int (σ1 14 (a1).toNatClampNeg))) σ1)) ∧ (¬ (a2 = 5) → ((a2 = 6 → (vp_in a1 96 ∧ Q (some (.int (σ1 15 (a1).toNatClampNeg))) σ1)) ∧ (¬ (a2 = 6) → ((a2 = 7 → (vp_in a1 96 ∧ Q (some (.int (σ1 16 (a1).toNatClampNeg))) σ1)) ∧ (¬ (a2 = 7) → ((a2 = 8 → xC xF j_K_lineOf [.ref 26, .int a1] σ1 (sm_ri False (fun x4 σ3 => Q (some (.int x4)) σ3))) ∧ (¬ (a2 = 8) → Q (some (.int (-1))) σ1))))))))))))))))))) ∧ (¬ (x2 ≠ 0) → Q (some (.int (-1))) σ1))))) : xC xF j_A_block [.ref 42, .int a1, .int a2] σ Q := sm_wp_C (M := m_A_block) rfl [] 17 h
set_option maxRecDepth 100000 in
set_option maxHeartbeats 4000000 in
theorem f_A_span (a1 a2 : Int32) (σ : sm_S) (Q : Option Value → sm_S → Prop) (h : xC xF j_A_isSpan [.int a1] σ (sm_ri False (fun x2 σ1 => ((x2 ≠ 0 → ((a2 = 0 → (vp_in a1 8 ∧ Q (some (.int (σ1 18 (a1).toNatClampNeg))) σ1)) ∧ (¬ (a2 = 0) → ((a2 = 1 → (vp_in a1 8 ∧ Q (some (.int (σ1 19 (a1).toNatClampNeg))) σ1)) ∧ (¬ (a2 = 1) → ((a2 = 2 → (vp_in a1 8 ∧ xC xF j_I_bitCount [.int (σ1 2 (a1).toNatClampNeg)] σ1 (sm_ri False (fun x10 σ9 => Q (some (.int x10)) σ9)))) ∧ (¬ (a2 = 2) → ((a2 = 3 → (vp_in a1 8 ∧ xC xF j_I_bitCount [.int (σ1 3 (a1).toNatClampNeg)] σ1 (sm_ri False (fun x8 σ7 => Q (some (.int x8)) σ7)))) ∧ (¬ (a2 = 3) → ((a2 = 4 → (vp_in a1 8 ∧ xC xF j_I_bitCount [.int (σ1 4 (a1).toNatClampNeg)] σ1 (sm_ri False (fun x6 σ5 => Q (some (.int x6)) σ5)))) ∧ (¬ (a2 = 4) → ((a2 = 5 → (vp_in a1 8 ∧ xC xF j_I_bitCount [.int (σ1 5 (a1).toNatClampNeg)] σ1 (sm_ri False (fun x4 σ3 => Q (some (.int x4)) σ3)))) ∧ (¬ (a2 = 5) → ((a2 = 6 → (vp_in a1 8 ∧ Q (some (.int (σ1 20 (a1).toNatClampNeg))) σ1)) ∧ (¬ (a2 = 6) → ((a2 = 7 → (vp_in a1 8 ∧ Q (some (.int (σ1 21 (a1).toNatClampNeg))) σ1)) ∧ (¬ (a2 = 7) → ((a2 = 8 → (vp_in a1 8 ∧ Q (some (.int (σ1 22 (a1).toNatClampNeg))) σ1)) ∧ (¬ (a2 = 8) → ((a2 = 9 → (vp_in a1 8 ∧ Q (some (.int (σ1 24 (a1).toNatClampNeg))) σ1)) ∧ (¬ (a2 = 9) → ((a2 = 10 → (vp_in a1 8 ∧ Q (some (.int (σ1 25 (a1).toNatClampNeg))) σ1)) ∧ (¬ (a2 = 10) → Q (some (.int (-1))) σ1))))))))))))))))))))))) ∧ (¬ (x2 ≠ 0) → Q (some (.int (-1))) σ1))))) : xC xF j_A_span [.ref 42, .int a1, .int a2] σ Q := sm_wp_C (M := m_A_span) rfl [] 14 h
set_option maxRecDepth 100000 in
set_option maxHeartbeats 4000000 in
theorem f_A_task (a1 a2 : Int32) (σ : sm_S) (Q : Option Value → sm_S → Prop) (h : xC xF j_A_isTask [.int a1] σ (sm_ri False (fun x2 σ1 => ((x2 ≠ 0 → ((a2 = 0 → (vp_in a1 6 ∧ Q (some (.int (σ1 27 (a1).toNatClampNeg))) σ1)) ∧ (¬ (a2 = 0) → ((a2 = 1 → (vp_in a1 6 ∧ (((σ1 28 (a1).toNatClampNeg) ≠ (-1) → Q (some (.int 1)) σ1) ∧ (¬ ((σ1 28 (a1).toNatClampNeg) ≠ (-1)) → Q (some (.int 0)) σ1)))) ∧ (¬ (a2 = 1) → ((a2 = 2 → (vp_in a1 6 ∧ Q (some (.int (σ1 28 (a1).toNatClampNeg))) σ1)) ∧ (¬ (a2 = 2) → ((a2 = 3 → (vp_in a1 6 ∧ Q (some (.int (σ1 29 (a1).toNatClampNeg))) σ1)) ∧ (¬ (a2 = 3) → ((a2 = 4 → xC xF j_B_ownedBy [.ref 8, .int a1] σ1 (sm_ri False (fun x6 σ5 => Q (some (.int x6)) σ5))) ∧ (¬ (a2 = 4) → ((a2 = 5 → xC xF j_B_pinnedBy [.ref 8, .int a1] σ1 (sm_ri False (fun x4 σ3 => Q (some (.int x4)) σ3))) ∧ (¬ (a2 = 5) → Q (some (.int (-1))) σ1))))))))))))) ∧ (¬ (x2 ≠ 0) → Q (some (.int (-1))) σ1))))) : xC xF j_A_task [.ref 42, .int a1, .int a2] σ Q := sm_wp_C (M := m_A_task) rfl [] 17 h
set_option maxRecDepth 100000 in
set_option maxHeartbeats 4000000 in
theorem f_A_zone (a1 a2 : Int32) (σ : sm_S) (Q : Option Value → sm_S → Prop) (h : xC xF j_A_isZone [.int a1] σ (sm_ri False (fun x2 σ1 => ((x2 ≠ 0 → ((a2 = 0 → xC xF j_S_inZone [.ref 17, .int a1] σ1 (sm_ri False (fun x8 σ7 => Q (some (.int x8)) σ7))) ∧ (¬ (a2 = 0) → ((a2 = 1 → xC xF j_Y_freeInZone [.ref 0, .int a1] σ1 (sm_ri False (fun x6 σ5 => Q (some (.int x6)) σ5))) ∧ (¬ (a2 = 1) → ((a2 = 2 → xC xF j_Y_widestInZone [.ref 0, .int a1] σ1 (sm_ri False (fun x4 σ3 => Q (some (.int x4)) σ3))) ∧ (¬ (a2 = 2) → Q (some (.int (-1))) σ1))))))) ∧ (¬ (x2 ≠ 0) → Q (some (.int (-1))) σ1))))) : xC xF j_A_zone [.ref 42, .int a1, .int a2] σ Q := sm_wp_C (M := m_A_zone) rfl [] 12 h
set_option maxRecDepth 100000 in
set_option maxHeartbeats 4000000 in
theorem f_A_loose (a1 a2 : Int32) (σ : sm_S) (Q : Option Value → sm_S → Prop) (h : xC xF j_A_isZone [.int a1] σ (sm_ri False (fun x2 σ1 => ((x2 = 0 → Q (some (.int (-1))) σ1) ∧ (¬ (x2 = 0) → ((a2 < 0 → Q (some (.int (-1))) σ1) ∧ (¬ (a2 < 0) → ((a2 ≤ 5 → xE xF m_A_loose 23 [.ref 42, .int a1, .int a2, .int 0, .int 0, .null, .null] [] σ1 Q) ∧ (¬ (a2 ≤ 5) → Q (some (.int (-1))) σ1))))))))) : xC xF j_A_loose [.ref 42, .int a1, .int a2] σ Q := sm_wp_C (M := m_A_loose) rfl [23] 13 h
set_option maxRecDepth 100000 in
set_option maxHeartbeats 4000000 in
theorem f_A_loose_23 (a1 a2 a3 a4 : Int32) (v5 v6 : Value) (σ : sm_S) (Q : Option Value → sm_S → Prop) (h : ((8 ≤ a4 → Q (some (.int a3)) σ) ∧ (¬ (8 ≤ a4) → (vp_in a4 8 ∧ (((σ 19 (a4).toNatClampNeg) ≠ a1 → xE xF m_A_loose 23 [.ref 42, .int a1, .int a2, .int a3, .int (a4 + 1), v5, v6] [] σ Q) ∧ (¬ ((σ 19 (a4).toNatClampNeg) ≠ a1) → (vp_in a4 8 ∧ xC xF j_R_starts [.int (σ 2 (a4).toNatClampNeg), .int a2] σ (sm_ri False (fun x2 σ1 => xC xF j_I_bitCount [.int x2] σ1 (sm_ri False (fun x4 σ3 => xC xF j_I_bitCount [.int (σ 2 (a4).toNatClampNeg)] σ3 (sm_ri False (fun x6 σ5 => xE xF m_A_loose 23 [.ref 42, .int a1, .int a2, .int (a3 + (x6 - (x4 <<< (a2 &&& 31)))), .int (a4 + 1), .int (σ 2 (a4).toNatClampNeg), .int (x4 <<< (a2 &&& 31))] [] σ5 Q))))))))))))) : xE xF m_A_loose 23 [.ref 42, .int a1, .int a2, .int a3, .int a4, v5, v6] [] σ Q := sm_wp_E (M := m_A_loose) [23] 35 h
set_option maxRecDepth 100000 in
set_option maxHeartbeats 4000000 in
theorem f_A_place (a1 a2 a3 : Int32) (σ : sm_S) (Q : Option Value → sm_S → Prop) (h : xC xF j_A_isTask [.int a1] σ (sm_ri False (fun x2 σ1 => ((x2 = 0 → Q (some (.int (-1))) σ1) ∧ (¬ (x2 = 0) → xC xF j_A_isKind [.int a2] σ1 (sm_ri False (fun x4 σ3 => ((x4 = 0 → Q (some (.int (-1))) σ3) ∧ (¬ (x4 = 0) → xC xF j_A_isBlockOrder [.int a3] σ3 (sm_ri False (fun x6 σ5 => ((x6 ≠ 0 → xC xF j_Y_bestPlace [.ref 0, .int a1, .int a2, .int a3, .int 0] σ5 (sm_ri False (fun x8 σ7 => Q (some (.int x8)) σ7))) ∧ (¬ (x6 ≠ 0) → Q (some (.int (-1))) σ5))))))))))))) : xC xF j_A_place [.ref 42, .int a1, .int a2, .int a3] σ Q := sm_wp_C (M := m_A_place) rfl [] 18 h
set_option maxRecDepth 100000 in
set_option maxHeartbeats 4000000 in
theorem f_A_hole (a1 : Int32) (σ : sm_S) (Q : Option Value → sm_S → Prop) (h : ((a1 < 0 → Q (some (.int (-1))) σ) ∧ (¬ (a1 < 0) → ((a1 < 256 → (¬ (32 : Int32) = 0 ∧ (vp_in (a1 / (32 : Int32)) 8 ∧ (¬ (32 : Int32) = 0 ∧ xC xF j_R_holeRound [.int (σ 2 ((a1 / (32 : Int32))).toNatClampNeg), .int (a1 - a1 / (32 : Int32) * (32 : Int32))] σ (sm_ri False (fun x2 σ1 => Q (some (.int x2)) σ1)))))) ∧ (¬ (a1 < 256) → Q (some (.int (-1))) σ))))) : xC xF j_A_hole [.ref 42, .int a1] σ Q := sm_wp_C (M := m_A_hole) rfl [] 19 h
set_option maxRecDepth 100000 in
set_option maxHeartbeats 4000000 in
theorem f_A_keeps (a1 a2 a3 : Int32) (σ : sm_S) (Q : Option Value → sm_S → Prop) (h : xC xF j_A_isSpan [.int a1] σ (sm_ri False (fun x2 σ1 => ((x2 = 0 → Q (some (.int (-1))) σ1) ∧ (¬ (x2 = 0) → ((a3 < 0 → Q (some (.int (-1))) σ1) ∧ (¬ (a3 < 0) → ((a3 ≤ 3 → ((a2 ≠ (-1) → xC xF j_Y_keeper [.ref 0, .int a1, .int a2] σ1 (sm_ri False (fun x4 σ3 => ((x4 ≠ (-1) → ((a3 = 0 → Q (some (.int x4)) σ3) ∧ (¬ (a3 = 0) → ((a3 = 1 → xC xF j_Y_whyKeeps [.ref 0, .int a1, .int x4] σ3 (sm_ri False (fun x6 σ5 => Q (some (.int x6)) σ5))) ∧ (¬ (a3 = 1) → ((a3 = 2 → (vp_in x4 96 ∧ Q (some (.int (σ3 12 (x4).toNatClampNeg))) σ3)) ∧ (¬ (a3 = 2) → (vp_in x4 96 ∧ Q (some (.int (σ3 13 (x4).toNatClampNeg))) σ3)))))))) ∧ (¬ (x4 ≠ (-1)) → Q (some (.int (-1))) σ3))))) ∧ (¬ (a2 ≠ (-1)) → xC xF j_Y_keepers [.ref 0, .int a1] σ1 (sm_ri False (fun x8 σ7 => Q (some (.int x8)) σ7))))) ∧ (¬ (a3 ≤ 3) → Q (some (.int (-1))) σ1))))))))) : xC xF j_A_keeps [.ref 42, .int a1, .int a2, .int a3] σ Q := sm_wp_C (M := m_A_keeps) rfl [] 30 h
set_option maxRecDepth 100000 in
set_option maxHeartbeats 4000000 in
theorem f_A_holders (a1 : Int32) (σ : sm_S) (Q : Option Value → sm_S → Prop) (h : xC xF j_A_isSpan [.int a1] σ (sm_ri False (fun x2 σ1 => ((x2 ≠ 0 → xC xF j_Y_holdersOf [.ref 0, .int a1] σ1 (sm_ri False (fun x4 σ3 => Q (some (.int x4)) σ3))) ∧ (¬ (x2 ≠ 0) → Q (some (.int (-1))) σ1))))) : xC xF j_A_holders [.ref 42, .int a1] σ Q := sm_wp_C (M := m_A_holders) rfl [] 9 h
set_option maxRecDepth 100000 in
set_option maxHeartbeats 4000000 in
theorem f_A_pressed (a1 : Int32) (σ : sm_S) (Q : Option Value → sm_S → Prop) (h : xC xF j_A_isSpan [.int a1] σ (sm_ri False (fun x2 σ1 => ((x2 = 0 → Q (some (.int (-1))) σ1) ∧ (¬ (x2 = 0) → (vp_in a1 8 ∧ (((σ1 18 (a1).toNatClampNeg) = 1 → xC xF j_H_widestPacked [.ref 85, .ref 0, .int a1] σ1 (sm_ri False (fun x4 σ3 => Q (some (.int x4)) σ3))) ∧ (¬ ((σ1 18 (a1).toNatClampNeg) = 1) → Q (some (.int (-1))) σ1)))))))) : xC xF j_A_pressed [.ref 42, .int a1] σ Q := sm_wp_C (M := m_A_pressed) rfl [] 19 h
set_option maxRecDepth 100000 in
set_option maxHeartbeats 4000000 in
theorem f_H_widestPacked (a2 : Int32) (σ : sm_S) (Q : Option Value → sm_S → Prop) (h : xC xF j_Y_copyFrom [.ref 43, .ref 0] σ (sm_rv False (fun σ1 => xC xF j_Y_pack [.ref 43, .int a2] σ1 (sm_ri False (fun x3 σ2 => (vp_in a2 8 ∧ xC xF j_R_widest [.int (σ2 45 (a2).toNatClampNeg)] σ2 (sm_ri False (fun x5 σ4 => Q (some (.int x5)) σ4)))))))) : xC xF j_H_widestPacked [.ref 85, .ref 0, .int a2] σ Q := sm_wp_C (M := m_H_widestPacked) rfl [] 18 h
set_option maxRecDepth 100000 in
set_option maxHeartbeats 4000000 in
theorem f_A_at (a1 a2 : Int32) (σ : sm_S) (Q : Option Value → sm_S → Prop) (h : xC xF j_A_isTask [.int a1] σ (sm_ri False (fun x2 σ1 => ((x2 = 0 → Q (some (.int (-1))) σ1) ∧ (¬ (x2 = 0) → xC xF j_A_isNode [.int a2] σ1 (sm_ri False (fun x4 σ3 => ((x4 ≠ 0 → xC xF j_B_framesAt [.ref 8, .int a1, .int a2] σ3 (sm_ri False (fun x6 σ5 => Q (some (.int x6)) σ5))) ∧ (¬ (x4 ≠ 0) → Q (some (.int (-1))) σ3))))))))) : xC xF j_A_at [.ref 42, .int a1, .int a2] σ Q := sm_wp_C (M := m_A_at) rfl [] 14 h
set_option maxRecDepth 100000 in
set_option maxHeartbeats 4000000 in
theorem f_A_movable (σ : sm_S) (Q : Option Value → sm_S → Prop) (h : xC xF j_S_inZone [.ref 17, .int 0] σ (sm_ri False (fun x2 σ1 => xC xF j_S_inZone [.ref 17, .int 1] σ1 (sm_ri False (fun x4 σ3 => xE xF m_A_movable 34 [.ref 42, .int x2, .int x4, .int ((8 - x2) - x4), .int 0] [] σ3 Q))))) : xC xF j_A_movable [.ref 42] σ Q := sm_wp_C (M := m_A_movable) rfl [34] 21 h
set_option maxRecDepth 100000 in
set_option maxHeartbeats 4000000 in
theorem f_A_movable_34 (a1 a2 a3 a4 : Int32) (σ : sm_S) (Q : Option Value → sm_S → Prop) (h : ((a3 ≤ a4 → Q (some (.int a4)) σ) ∧ (¬ (a3 ≤ a4) → xC xF j_Y_staysInRatio [.ref 0, .int ((a2 + a4) + 1), .int a1] σ (sm_ri False (fun x2 σ1 => ((x2 = 0 → Q (some (.int a4)) σ1) ∧ (¬ (x2 = 0) → xE xF m_A_movable 34 [.ref 42, .int a1, .int a2, .int a3, .int (a4 + 1)] [] σ1 Q))))))) : xE xF m_A_movable 34 [.ref 42, .int a1, .int a2, .int a3, .int a4] [] σ Q := sm_wp_E (M := m_A_movable) [34] 16 h
set_option maxRecDepth 100000 in
set_option maxHeartbeats 4000000 in
theorem f_A_would (a1 a2 : Int32) (σ : sm_S) (Q : Option Value → sm_S → Prop) (h : ((a2 < 0 → Q (some (.int (-1))) σ) ∧ (¬ (a2 < 0) → ((4 < a2 → Q (some (.int (-1))) σ) ∧ (¬ (4 < a2) → xC xF j_A_isSpan [.int a1] σ (sm_ri False (fun x2 σ1 => ((x2 = 0 → Q (some (.int (-1))) σ1) ∧ (¬ (x2 = 0) → xC xF j_S_canGo [.ref 17, .int a1] σ1 (sm_ri False (fun x4 σ3 => ((x4 ≠ 0 → xC xF j_H_tryOut [.ref 85, .ref 0, .int a1] σ3 (sm_ri False (fun x6 σ5 => ((a2 = 0 → ((x6 = 0 → Q (some (.int 0)) σ5) ∧ (¬ (x6 = 0) → Q (some (.int 1)) σ5))) ∧ (¬ (a2 = 0) → ((a2 = 1 → Q (some (.int (σ5 85 3))) σ5) ∧ (¬ (a2 = 1) → ((a2 = 2 → xC xF j_H_grownSince [.ref 85, .ref 0, .int 3] σ5 (sm_ri False (fun x12 σ11 => Q (some (.int x12)) σ11))) ∧ (¬ (a2 = 2) → ((a2 = 3 → xC xF j_H_grownSince [.ref 85, .ref 0, .int 4] σ5 (sm_ri False (fun x10 σ9 => Q (some (.int x10)) σ9))) ∧ (¬ (a2 = 3) → xC xF j_H_grownSince [.ref 85, .ref 0, .int 5] σ5 (sm_ri False (fun x8 σ7 => Q (some (.int x8)) σ7))))))))))))) ∧ (¬ (x4 ≠ 0) → Q (some (.int (-1))) σ3))))))))))))) : xC xF j_A_would [.ref 42, .int a1, .int a2] σ Q := sm_wp_C (M := m_A_would) rfl [] 31 h
set_option maxRecDepth 100000 in
set_option maxHeartbeats 4000000 in
theorem f_H_tryOut_n (a2 : Int32) (σ : sm_S) (Q : Option Value → sm_S → Prop) (h : xC xF j_Y_copyFrom [.ref 43, .ref 0] σ (sm_rv False (fun σ1 => xC xF j_G_begin [.ref 84, .int a2] σ1 (sm_rv False (fun σ2 => xE xF m_H_tryOut 18 [.ref 85, .ref 0, .int a2, .int 0] [] σ2 Q))))) : xC xF j_H_tryOut [.ref 85, .ref 0, .int a2] σ Q := sm_wp_C (M := m_H_tryOut) rfl [18] 11 h
set_option maxRecDepth 100000 in
set_option maxHeartbeats 4000000 in
theorem f_H_tryOut_n_18 (a2 a3 : Int32) (σ : sm_S) (Q : Option Value → sm_S → Prop) (h : ((500 ≤ a3 → (∀ σ1, σ1 = sm_set σ 85 (upd (σ 85) 3 a3) → (vp_in a2 8 ∧ (((σ1 61 (a2).toNatClampNeg) ≠ 0 → (((0 : Int32) = 0 ∨ (0 : Int32) = 1) ∧ Q (some (.int 0)) σ1)) ∧ (¬ ((σ1 61 (a2).toNatClampNeg) ≠ 0) → (((1 : Int32) = 0 ∨ (1 : Int32) = 1) ∧ Q (some (.int 1)) σ1)))))) ∧ (¬ (500 ≤ a3) → xC xF j_S_isGoing [.ref 60, .int a2] σ (sm_ri False (fun x3 σ2 => ((x3 = 0 → (∀ σ4, σ4 = sm_set σ2 85 (upd (σ2 85) 3 a3) → (vp_in a2 8 ∧ (((σ4 61 (a2).toNatClampNeg) ≠ 0 → (((0 : Int32) = 0 ∨ (0 : Int32) = 1) ∧ Q (some (.int 0)) σ4)) ∧ (¬ ((σ4 61 (a2).toNatClampNeg) ≠ 0) → (((1 : Int32) = 0 ∨ (1 : Int32) = 1) ∧ Q (some (.int 1)) σ4)))))) ∧ (¬ (x3 = 0) → xC xF j_G_oneTick [.ref 84] σ2 (sm_rv False (fun σ5 => xE xF m_H_tryOut 18 [.ref 85, .ref 0, .int a2, .int (a3 + 1)] [] σ5 Q))))))))) : xE xF m_H_tryOut 18 [.ref 85, .ref 0, .int a2, .int a3] [] σ Q := sm_wp_E (M := m_H_tryOut) [18] 23 h
set_option maxRecDepth 100000 in
set_option maxHeartbeats 4000000 in
theorem f_H_tryOut_t (a2 : Int32) (σ : sm_S) (Q : Option Value → sm_S → Prop) (h : xC xF j_Y_copyFrom [.ref 43, .ref 86] σ (sm_rv False (fun σ1 => xC xF j_G_begin [.ref 84, .int a2] σ1 (sm_rv False (fun σ2 => xE xF m_H_tryOut 18 [.ref 85, .ref 86, .int a2, .int 0] [] σ2 Q))))) : xC xF j_H_tryOut [.ref 85, .ref 86, .int a2] σ Q := sm_wp_C (M := m_H_tryOut) rfl [18] 11 h
set_option maxRecDepth 100000 in
set_option maxHeartbeats 4000000 in
theorem f_H_tryOut_t_18 (a2 a3 : Int32) (σ : sm_S) (Q : Option Value → sm_S → Prop) (h : ((500 ≤ a3 → (∀ σ1, σ1 = sm_set σ 85 (upd (σ 85) 3 a3) → (vp_in a2 8 ∧ (((σ1 61 (a2).toNatClampNeg) ≠ 0 → (((0 : Int32) = 0 ∨ (0 : Int32) = 1) ∧ Q (some (.int 0)) σ1)) ∧ (¬ ((σ1 61 (a2).toNatClampNeg) ≠ 0) → (((1 : Int32) = 0 ∨ (1 : Int32) = 1) ∧ Q (some (.int 1)) σ1)))))) ∧ (¬ (500 ≤ a3) → xC xF j_S_isGoing [.ref 60, .int a2] σ (sm_ri False (fun x3 σ2 => ((x3 = 0 → (∀ σ4, σ4 = sm_set σ2 85 (upd (σ2 85) 3 a3) → (vp_in a2 8 ∧ (((σ4 61 (a2).toNatClampNeg) ≠ 0 → (((0 : Int32) = 0 ∨ (0 : Int32) = 1) ∧ Q (some (.int 0)) σ4)) ∧ (¬ ((σ4 61 (a2).toNatClampNeg) ≠ 0) → (((1 : Int32) = 0 ∨ (1 : Int32) = 1) ∧ Q (some (.int 1)) σ4)))))) ∧ (¬ (x3 = 0) → xC xF j_G_oneTick [.ref 84] σ2 (sm_rv False (fun σ5 => xE xF m_H_tryOut 18 [.ref 85, .ref 86, .int a2, .int (a3 + 1)] [] σ5 Q))))))))) : xE xF m_H_tryOut 18 [.ref 85, .ref 86, .int a2, .int a3] [] σ Q := sm_wp_E (M := m_H_tryOut) [18] 23 h
set_option maxRecDepth 100000 in
set_option maxHeartbeats 4000000 in
theorem f_H_grownSince (a2 : Int32) (σ : sm_S) (Q : Option Value → sm_S → Prop) (h : (vp_in a2 11 ∧ (vp_in a2 11 ∧ Q (some (.int ((σ 83 (a2).toNatClampNeg) - (σ 40 (a2).toNatClampNeg)))) σ))) : xC xF j_H_grownSince [.ref 85, .ref 0, .int a2] σ Q := sm_wp_C (M := m_H_grownSince) rfl [] 12 h
set_option maxRecDepth 100000 in
set_option maxHeartbeats 4000000 in
theorem f_A_easiest (a1 : Int32) (σ : sm_S) (Q : Option Value → sm_S → Prop) (h : ((a1 < 0 → Q (some (.int (-1))) σ) ∧ (¬ (a1 < 0) → ((a1 ≤ 1 → xC xF j_H_findEasiest [.ref 85, .ref 0] σ (sm_ri False (fun x2 σ1 => ((a1 = 0 → Q (some (.int x2)) σ1) ∧ (¬ (a1 = 0) → ((x2 ≠ (-1) → Q (some (.int (σ1 85 4))) σ1) ∧ (¬ (x2 ≠ (-1)) → Q (some (.int x2)) σ1))))))) ∧ (¬ (a1 ≤ 1) → Q (some (.int (-1))) σ))))) : xC xF j_A_easiest [.ref 42, .int a1] σ Q := sm_wp_C (M := m_A_easiest) rfl [] 21 h
set_option maxRecDepth 100000 in
set_option maxHeartbeats 4000000 in
theorem f_H_findEasiest_n (σ : sm_S) (Q : Option Value → sm_S → Prop) (h : xE xF m_H_findEasiest 4 [.ref 85, .ref 0, .int (-1), .int 0] [] σ Q) : xC xF j_H_findEasiest [.ref 85, .ref 0] σ Q := sm_wp_C (M := m_H_findEasiest) rfl [4] 5 h
set_option maxRecDepth 100000 in
set_option maxHeartbeats 4000000 in
theorem f_H_findEasiest_n_4 (a2 a3 : Int32) (σ : sm_S) (Q : Option Value → sm_S → Prop) (h : ((8 ≤ a3 → Q (some (.int a2)) σ) ∧ (¬ (8 ≤ a3) → xC xF j_S_canGo [.ref 17, .int a3] σ (sm_ri False (fun x2 σ1 => ((x2 = 0 → xE xF m_H_findEasiest 4 [.ref 85, .ref 0, .int a2, .int (a3 + 1)] [] σ1 Q) ∧ (¬ (x2 = 0) → xC xF j_H_tryOut [.ref 85, .ref 0, .int a3] σ1 (sm_ri False (fun x4 σ3 => ((x4 = 0 → xE xF m_H_findEasiest 4 [.ref 85, .ref 0, .int a2, .int (a3 + 1)] [] σ3 Q) ∧ (¬ (x4 = 0) → ((a2 = (-1) → (∀ σ5, σ5 = sm_set σ3 85 (upd (σ3 85) 4 (σ3 85 3)) → xE xF m_H_findEasiest 4 [.ref 85, .ref 0, .int a3, .int (a3 + 1)] [] σ5 Q)) ∧ (¬ (a2 = (-1)) → (((σ3 85 4) ≤ (σ3 85 3) → xE xF m_H_findEasiest 4 [.ref 85, .ref 0, .int a2, .int (a3 + 1)] [] σ3 Q) ∧ (¬ ((σ3 85 4) ≤ (σ3 85 3)) → (∀ σ6, σ6 = sm_set σ3 85 (upd (σ3 85) 4 (σ3 85 3)) → xE xF m_H_findEasiest 4 [.ref 85, .ref 0, .int a3, .int (a3 + 1)] [] σ6 Q)))))))))))))))) : xE xF m_H_findEasiest 4 [.ref 85, .ref 0, .int a2, .int a3] [] σ Q := sm_wp_E (M := m_H_findEasiest) [4] 30 h
set_option maxRecDepth 100000 in
set_option maxHeartbeats 4000000 in
theorem f_H_findEasiest_t (σ : sm_S) (Q : Option Value → sm_S → Prop) (h : xE xF m_H_findEasiest 4 [.ref 85, .ref 86, .int (-1), .int 0] [] σ Q) : xC xF j_H_findEasiest [.ref 85, .ref 86] σ Q := sm_wp_C (M := m_H_findEasiest) rfl [4] 5 h
set_option maxRecDepth 100000 in
set_option maxHeartbeats 4000000 in
theorem f_H_findEasiest_t_4 (a2 a3 : Int32) (σ : sm_S) (Q : Option Value → sm_S → Prop) (h : ((8 ≤ a3 → Q (some (.int a2)) σ) ∧ (¬ (8 ≤ a3) → xC xF j_S_canGo [.ref 103, .int a3] σ (sm_ri False (fun x2 σ1 => ((x2 = 0 → xE xF m_H_findEasiest 4 [.ref 85, .ref 86, .int a2, .int (a3 + 1)] [] σ1 Q) ∧ (¬ (x2 = 0) → xC xF j_H_tryOut [.ref 85, .ref 86, .int a3] σ1 (sm_ri False (fun x4 σ3 => ((x4 = 0 → xE xF m_H_findEasiest 4 [.ref 85, .ref 86, .int a2, .int (a3 + 1)] [] σ3 Q) ∧ (¬ (x4 = 0) → ((a2 = (-1) → (∀ σ5, σ5 = sm_set σ3 85 (upd (σ3 85) 4 (σ3 85 3)) → xE xF m_H_findEasiest 4 [.ref 85, .ref 86, .int a3, .int (a3 + 1)] [] σ5 Q)) ∧ (¬ (a2 = (-1)) → (((σ3 85 4) ≤ (σ3 85 3) → xE xF m_H_findEasiest 4 [.ref 85, .ref 86, .int a2, .int (a3 + 1)] [] σ3 Q) ∧ (¬ ((σ3 85 4) ≤ (σ3 85 3)) → (∀ σ6, σ6 = sm_set σ3 85 (upd (σ3 85) 4 (σ3 85 3)) → xE xF m_H_findEasiest 4 [.ref 85, .ref 86, .int a3, .int (a3 + 1)] [] σ6 Q)))))))))))))))) : xE xF m_H_findEasiest 4 [.ref 85, .ref 86, .int a2, .int a3] [] σ Q := sm_wp_E (M := m_H_findEasiest) [4] 30 h
set_option maxRecDepth 100000 in
set_option maxHeartbeats 4000000 in
theorem f_A_givenBack (σ : sm_S) (Q : Option Value → sm_S → Prop) (h : xC xF j_Y_copyFrom [.ref 86, .ref 0] σ (sm_rv False (fun σ1 => xE xF m_A_givenBack 18 [.ref 42, .ref 86, .int 0, .null] [] σ1 Q))) : xC xF j_A_givenBack [.ref 42] σ Q := sm_wp_C (M := m_A_givenBack) rfl [18] 11 h
set_option maxRecDepth 100000 in
set_option maxHeartbeats 4000000 in
theorem f_A_givenBack_18 (a2 : Int32) (v3 : Value) (σ : sm_S) (Q : Option Value → sm_S → Prop) (h : ((8 ≤ a2 → Q (some (.int 8)) σ) ∧ (¬ (8 ≤ a2) → xC xF j_H_findEasiest [.ref 85, .ref 86] σ (sm_ri False (fun x2 σ1 => ((x2 ≠ (-1) → xC xF j_H_tryOut [.ref 85, .ref 86, .int x2] σ1 (sm_ri False (fun x4 σ3 => xC xF j_Y_copyFrom [.ref 86, .ref 43] σ3 (sm_rv False (fun σ5 => xE xF m_A_givenBack 18 [.ref 42, .ref 86, .int (a2 + 1), .int x2] [] σ5 Q))))) ∧ (¬ (x2 ≠ (-1)) → Q (some (.int a2)) σ1))))))) : xE xF m_A_givenBack 18 [.ref 42, .ref 86, .int a2, v3] [] σ Q := sm_wp_E (M := m_A_givenBack) [18] 25 h
set_option maxRecDepth 100000 in
set_option maxHeartbeats 4000000 in
theorem f_A_log (a1 a2 : Int32) (σ : sm_S) (Q : Option Value → sm_S → Prop) (h : xC xF j_L_cell [.ref 34, .int a1, .int a2] σ (sm_ri False (fun x2 σ1 => Q (some (.int x2)) σ1))) : xC xF j_A_log [.ref 42, .int a1, .int a2] σ Q := sm_wp_C (M := m_A_log) rfl [] 8 h
set_option maxRecDepth 100000 in
set_option maxHeartbeats 4000000 in
theorem f_A_count (a1 : Int32) (σ : sm_S) (Q : Option Value → sm_S → Prop) (h : ((a1 < 0 → Q (some (.int (-1))) σ) ∧ (¬ (a1 < 0) → ((a1 < 11 → (vp_in a1 11 ∧ Q (some (.int (σ 40 (a1).toNatClampNeg))) σ)) ∧ (¬ (a1 < 11) → Q (some (.int (-1))) σ))))) : xC xF j_A_count [.ref 42, .int a1] σ Q := sm_wp_C (M := m_A_count) rfl [] 12 h
set_option maxRecDepth 100000 in
set_option maxHeartbeats 4000000 in
theorem f_A_image (a1 : Int32) (σ : sm_S) (Q : Option Value → sm_S → Prop) (h : ((a1 = 0 → (((σ 42 4) = 0 → ((((σ 42 4)) = 0 ∨ ((σ 42 4)) = 1) ∧ Q (some (.int (σ 42 4))) σ)) ∧ (¬ ((σ 42 4) = 0) → xC xF j_Y_copyFrom [.ref 0, .ref 127] σ (sm_rv False (fun σ1 => xC xF j_L_copyFrom [.ref 34, .ref 161] σ1 (sm_rv False (fun σ2 => ((((σ2 42 4)) = 0 ∨ ((σ2 42 4)) = 1) ∧ Q (some (.int (σ2 42 4))) σ2)))))))) ∧ (¬ (a1 = 0) → xC xF j_Y_copyFrom [.ref 127, .ref 0] σ (sm_rv False (fun σ3 => xC xF j_L_copyFrom [.ref 161, .ref 34] σ3 (sm_rv False (fun σ4 => (((1 : Int32) = 0 ∨ (1 : Int32) = 1) ∧ ∀ σ5, σ5 = sm_set σ4 42 (upd (σ4 42) 4 1) → ((((σ5 42 4)) = 0 ∨ ((σ5 42 4)) = 1) ∧ Q (some (.int (σ5 42 4))) σ5))))))))) : xC xF j_A_image [.ref 42, .int a1] σ Q := sm_wp_C (M := m_A_image) rfl [] 22 h
set_option maxRecDepth 100000 in
set_option maxHeartbeats 4000000 in
theorem f_A_look (a1 : Int32) (σ : sm_S) (Q : Option Value → sm_S → Prop) (h : ((a1 < 0 → ((a1 = 4 → Q (some (.int (σ 0 7))) σ) ∧ (¬ (a1 = 4) → ((a1 = 5 → xC xF j_B_howMany [.ref 8] σ (sm_ri False (fun x20 σ19 => Q (some (.int x20)) σ19))) ∧ (¬ (a1 = 5) → ((a1 = 6 → xC xF j_S_inZone [.ref 17, .int 0] σ (sm_ri False (fun x16 σ15 => xC xF j_S_inZone [.ref 17, .int 1] σ15 (sm_ri False (fun x18 σ17 => Q (some (.int (x16 + x18))) σ17))))) ∧ (¬ (a1 = 6) → ((a1 = 7 → xC xF j_R_bitsIn [.ref 2] σ (sm_ri False (fun x14 σ13 => Q (some (.int x14)) σ13))) ∧ (¬ (a1 = 7) → ((a1 = 8 → xC xF j_R_bitsIn [.ref 3] σ (sm_ri False (fun x12 σ11 => Q (some (.int x12)) σ11))) ∧ (¬ (a1 = 8) → ((a1 = 9 → xC xF j_R_bitsIn [.ref 4] σ (sm_ri False (fun x10 σ9 => Q (some (.int x10)) σ9))) ∧ (¬ (a1 = 9) → ((a1 = 10 → xC xF j_R_bitsIn [.ref 5] σ (sm_ri False (fun x8 σ7 => Q (some (.int x8)) σ7))) ∧ (¬ (a1 = 10) → ((a1 = 11 → xC xF j_K_waitingSet [.ref 26] σ (sm_ri False (fun x6 σ5 => Q (some (.int x6)) σ5))) ∧ (¬ (a1 = 11) → ((a1 = 12 → xC xF j_S_goingSet [.ref 17] σ (sm_ri False (fun x4 σ3 => Q (some (.int x4)) σ3))) ∧ (¬ (a1 = 12) → ((a1 = 13 → Q (some (.int (σ 34 4))) σ) ∧ (¬ (a1 = 13) → ((a1 = 14 → xC xF j_A_movableByNormal [.ref 42] σ (sm_ri False (fun x2 σ1 => Q (some (.int x2)) σ1))) ∧ (¬ (a1 = 14) → Q (some (.int (-1))) σ))))))))))))))))))))))) ∧ (¬ (a1 < 0) → ((4 ≤ a1 → ((a1 = 4 → Q (some (.int (σ 0 7))) σ) ∧ (¬ (a1 = 4) → ((a1 = 5 → xC xF j_B_howMany [.ref 8] σ (sm_ri False (fun x40 σ39 => Q (some (.int x40)) σ39))) ∧ (¬ (a1 = 5) → ((a1 = 6 → xC xF j_S_inZone [.ref 17, .int 0] σ (sm_ri False (fun x36 σ35 => xC xF j_S_inZone [.ref 17, .int 1] σ35 (sm_ri False (fun x38 σ37 => Q (some (.int (x36 + x38))) σ37))))) ∧ (¬ (a1 = 6) → ((a1 = 7 → xC xF j_R_bitsIn [.ref 2] σ (sm_ri False (fun x34 σ33 => Q (some (.int x34)) σ33))) ∧ (¬ (a1 = 7) → ((a1 = 8 → xC xF j_R_bitsIn [.ref 3] σ (sm_ri False (fun x32 σ31 => Q (some (.int x32)) σ31))) ∧ (¬ (a1 = 8) → ((a1 = 9 → xC xF j_R_bitsIn [.ref 4] σ (sm_ri False (fun x30 σ29 => Q (some (.int x30)) σ29))) ∧ (¬ (a1 = 9) → ((a1 = 10 → xC xF j_R_bitsIn [.ref 5] σ (sm_ri False (fun x28 σ27 => Q (some (.int x28)) σ27))) ∧ (¬ (a1 = 10) → ((a1 = 11 → xC xF j_K_waitingSet [.ref 26] σ (sm_ri False (fun x26 σ25 => Q (some (.int x26)) σ25))) ∧ (¬ (a1 = 11) → ((a1 = 12 → xC xF j_S_goingSet [.ref 17] σ (sm_ri False (fun x24 σ23 => Q (some (.int x24)) σ23))) ∧ (¬ (a1 = 12) → ((a1 = 13 → Q (some (.int (σ 34 4))) σ) ∧ (¬ (a1 = 13) → ((a1 = 14 → xC xF j_A_movableByNormal [.ref 42] σ (sm_ri False (fun x22 σ21 => Q (some (.int x22)) σ21))) ∧ (¬ (a1 = 14) → Q (some (.int (-1))) σ))))))))))))))))))))))) ∧ (¬ (4 ≤ a1) → (vp_in a1 4 ∧ Q (some (.int (σ 39 (a1).toNatClampNeg))) σ)))))) : xC xF j_A_look [.ref 42, .int a1] σ Q := sm_wp_C (M := m_A_look) rfl [] 20 h
set_option maxRecDepth 100000 in
set_option maxHeartbeats 4000000 in
theorem f_R_bitsIn2 (σ : sm_S) (Q : Option Value → sm_S → Prop) (h : xE xF m_R_bitsIn 10 [.ref 2, .int 0, .ref 2, .int (Int32.ofNat 8), .int 0, .null] [] σ Q) : xC xF j_R_bitsIn [.ref 2] σ Q := sm_wp_C (M := m_R_bitsIn) rfl [10] 10 h
set_option maxRecDepth 100000 in
set_option maxHeartbeats 4000000 in
theorem f_R_bitsIn2_10 (a1 a3 a4 : Int32) (v5 : Value) (σ : sm_S) (Q : Option Value → sm_S → Prop) (h : ((a3 ≤ a4 → Q (some (.int a1)) σ) ∧ (¬ (a3 ≤ a4) → (vp_in a4 8 ∧ xC xF j_I_bitCount [.int (σ 2 (a4).toNatClampNeg)] σ (sm_ri False (fun x2 σ1 => xE xF m_R_bitsIn 10 [.ref 2, .int (a1 + x2), .ref 2, .int a3, .int (a4 + 1), .int (σ 2 (a4).toNatClampNeg)] [] σ1 Q)))))) : xE xF m_R_bitsIn 10 [.ref 2, .int a1, .ref 2, .int a3, .int a4, v5] [] σ Q := sm_wp_E (M := m_R_bitsIn) [10] 15 h
set_option maxRecDepth 100000 in
set_option maxHeartbeats 4000000 in
theorem f_R_bitsIn3 (σ : sm_S) (Q : Option Value → sm_S → Prop) (h : xE xF m_R_bitsIn 10 [.ref 3, .int 0, .ref 3, .int (Int32.ofNat 8), .int 0, .null] [] σ Q) : xC xF j_R_bitsIn [.ref 3] σ Q := sm_wp_C (M := m_R_bitsIn) rfl [10] 10 h
set_option maxRecDepth 100000 in
set_option maxHeartbeats 4000000 in
theorem f_R_bitsIn3_10 (a1 a3 a4 : Int32) (v5 : Value) (σ : sm_S) (Q : Option Value → sm_S → Prop) (h : ((a3 ≤ a4 → Q (some (.int a1)) σ) ∧ (¬ (a3 ≤ a4) → (vp_in a4 8 ∧ xC xF j_I_bitCount [.int (σ 3 (a4).toNatClampNeg)] σ (sm_ri False (fun x2 σ1 => xE xF m_R_bitsIn 10 [.ref 3, .int (a1 + x2), .ref 3, .int a3, .int (a4 + 1), .int (σ 3 (a4).toNatClampNeg)] [] σ1 Q)))))) : xE xF m_R_bitsIn 10 [.ref 3, .int a1, .ref 3, .int a3, .int a4, v5] [] σ Q := sm_wp_E (M := m_R_bitsIn) [10] 15 h
set_option maxRecDepth 100000 in
set_option maxHeartbeats 4000000 in
theorem f_R_bitsIn4 (σ : sm_S) (Q : Option Value → sm_S → Prop) (h : xE xF m_R_bitsIn 10 [.ref 4, .int 0, .ref 4, .int (Int32.ofNat 8), .int 0, .null] [] σ Q) : xC xF j_R_bitsIn [.ref 4] σ Q := sm_wp_C (M := m_R_bitsIn) rfl [10] 10 h
set_option maxRecDepth 100000 in
set_option maxHeartbeats 4000000 in
theorem f_R_bitsIn4_10 (a1 a3 a4 : Int32) (v5 : Value) (σ : sm_S) (Q : Option Value → sm_S → Prop) (h : ((a3 ≤ a4 → Q (some (.int a1)) σ) ∧ (¬ (a3 ≤ a4) → (vp_in a4 8 ∧ xC xF j_I_bitCount [.int (σ 4 (a4).toNatClampNeg)] σ (sm_ri False (fun x2 σ1 => xE xF m_R_bitsIn 10 [.ref 4, .int (a1 + x2), .ref 4, .int a3, .int (a4 + 1), .int (σ 4 (a4).toNatClampNeg)] [] σ1 Q)))))) : xE xF m_R_bitsIn 10 [.ref 4, .int a1, .ref 4, .int a3, .int a4, v5] [] σ Q := sm_wp_E (M := m_R_bitsIn) [10] 15 h
set_option maxRecDepth 100000 in
set_option maxHeartbeats 4000000 in
theorem f_R_bitsIn5 (σ : sm_S) (Q : Option Value → sm_S → Prop) (h : xE xF m_R_bitsIn 10 [.ref 5, .int 0, .ref 5, .int (Int32.ofNat 8), .int 0, .null] [] σ Q) : xC xF j_R_bitsIn [.ref 5] σ Q := sm_wp_C (M := m_R_bitsIn) rfl [10] 10 h
set_option maxRecDepth 100000 in
set_option maxHeartbeats 4000000 in
theorem f_R_bitsIn5_10 (a1 a3 a4 : Int32) (v5 : Value) (σ : sm_S) (Q : Option Value → sm_S → Prop) (h : ((a3 ≤ a4 → Q (some (.int a1)) σ) ∧ (¬ (a3 ≤ a4) → (vp_in a4 8 ∧ xC xF j_I_bitCount [.int (σ 5 (a4).toNatClampNeg)] σ (sm_ri False (fun x2 σ1 => xE xF m_R_bitsIn 10 [.ref 5, .int (a1 + x2), .ref 5, .int a3, .int (a4 + 1), .int (σ 5 (a4).toNatClampNeg)] [] σ1 Q)))))) : xE xF m_R_bitsIn 10 [.ref 5, .int a1, .ref 5, .int a3, .int a4, v5] [] σ Q := sm_wp_E (M := m_R_bitsIn) [10] 15 h
set_option maxRecDepth 100000 in
set_option maxHeartbeats 4000000 in
theorem f_A_movableByNormal (σ : sm_S) (Q : Option Value → sm_S → Prop) (h : xC xF j_S_inZone [.ref 17, .int 0] σ (sm_ri False (fun x2 σ1 => ((x2 ≠ 0 → xC xF j_S_inZone [.ref 17, .int 1] σ1 (sm_ri False (fun x4 σ3 => (¬ x2 = 0 ∧ Q (some (.int ((100 * x4) / x2))) σ3)))) ∧ (¬ (x2 ≠ 0) → Q (some (.int (-1))) σ1))))) : xC xF j_A_movableByNormal [.ref 42] σ Q := sm_wp_C (M := m_A_movableByNormal) rfl [] 19 h
end
section
/-! ===== the class: copies ===== -/
set_option maxRecDepth 100000 in
set_option maxHeartbeats 4000000 in
theorem p_Y_copyFrom (σ : sm_S) (Q : Option Value → sm_S → Prop) (h : xC xP j_F_copyFrom [.ref 1, .ref 42] σ (sm_rv False (fun σ1 => xC xP j_B_copyFrom [.ref 8, .ref 49] σ1 (sm_rv False (fun σ2 => xC xP j_S_copyFrom [.ref 17, .ref 58] σ2 (sm_rv False (fun σ3 => xC xP j_K_copyFrom [.ref 26, .ref 67] σ3 (sm_rv False (fun σ4 => xC xP j_R_copy [.ref 80, .ref 39] σ4 (sm_rv False (fun σ5 => xC xP j_R_copy [.ref 81, .ref 40] σ5 (sm_rv False (fun σ6 => (∀ σ7, σ7 = sm_set σ6 0 (upd (σ6 0) 7 (σ6 41 7)) → Q none σ7)))))))))))))) : xC xP j_Y_copyFrom [.ref 0, .ref 41] σ Q := sm_wp_C (M := m_Y_copyFrom) rfl [] 36 h
set_option maxRecDepth 100000 in
set_option maxHeartbeats 4000000 in
theorem p_F_copyFrom (σ : sm_S) (Q : Option Value → sm_S → Prop) (h : xC xP j_R_copy [.ref 43, .ref 2] σ (sm_rv False (fun σ1 => xC xP j_R_copy [.ref 44, .ref 3] σ1 (sm_rv False (fun σ2 => xC xP j_R_copy [.ref 45, .ref 4] σ2 (sm_rv False (fun σ3 => xC xP j_R_copy [.ref 46, .ref 5] σ3 (sm_rv False (fun σ4 => xC xP j_R_copy [.ref 47, .ref 6] σ4 (sm_rv False (fun σ5 => xC xP j_R_copy [.ref 48, .ref 7] σ5 (sm_rv False (fun σ6 => Q none σ6))))))))))))) : xC xP j_F_copyFrom [.ref 1, .ref 42] σ Q := sm_wp_C (M := m_F_copyFrom) rfl [] 32 h
set_option maxRecDepth 100000 in
set_option maxHeartbeats 4000000 in
theorem p_B_copyFrom (σ : sm_S) (Q : Option Value → sm_S → Prop) (h : xC xP j_R_copy [.ref 50, .ref 9] σ (sm_rv False (fun σ1 => xC xP j_R_copy [.ref 51, .ref 10] σ1 (sm_rv False (fun σ2 => xC xP j_R_copy [.ref 52, .ref 11] σ2 (sm_rv False (fun σ3 => xC xP j_R_copy [.ref 53, .ref 12] σ3 (sm_rv False (fun σ4 => xC xP j_R_copy [.ref 54, .ref 13] σ4 (sm_rv False (fun σ5 => xC xP j_R_copy [.ref 55, .ref 14] σ5 (sm_rv False (fun σ6 => xC xP j_R_copy [.ref 56, .ref 15] σ6 (sm_rv False (fun σ7 => xC xP j_R_copy [.ref 57, .ref 16] σ7 (sm_rv False (fun σ8 => (∀ σ9, σ9 = sm_set σ8 8 (upd (σ8 8) 8 (σ8 49 8)) → Q none σ9)))))))))))))))))) : xC xP j_B_copyFrom [.ref 8, .ref 49] σ Q := sm_wp_C (M := m_B_copyFrom) rfl [] 46 h
set_option maxRecDepth 100000 in
set_option maxHeartbeats 4000000 in
theorem p_S_copyFrom (σ : sm_S) (Q : Option Value → sm_S → Prop) (h : xC xP j_R_copy [.ref 59, .ref 18] σ (sm_rv False (fun σ1 => xC xP j_R_copy [.ref 60, .ref 19] σ1 (sm_rv False (fun σ2 => xC xP j_R_copy [.ref 61, .ref 20] σ2 (sm_rv False (fun σ3 => xC xP j_R_copy [.ref 62, .ref 21] σ3 (sm_rv False (fun σ4 => xC xP j_R_copy [.ref 63, .ref 22] σ4 (sm_rv False (fun σ5 => xC xP j_R_copy [.ref 64, .ref 23] σ5 (sm_rv False (fun σ6 => xC xP j_R_copy [.ref 65, .ref 24] σ6 (sm_rv False (fun σ7 => xC xP j_R_copy [.ref 66, .ref 25] σ7 (sm_rv False (fun σ8 => Q none σ8))))))))))))))))) : xC xP j_S_copyFrom [.ref 17, .ref 58] σ Q := sm_wp_C (M := m_S_copyFrom) rfl [] 42 h
set_option maxRecDepth 100000 in
set_option maxHeartbeats 4000000 in
theorem p_K_copyFrom (σ : sm_S) (Q : Option Value → sm_S → Prop) (h : xC xP j_R_copy [.ref 68, .ref 27] σ (sm_rv False (fun σ1 => xC xP j_R_copy [.ref 69, .ref 28] σ1 (sm_rv False (fun σ2 => xC xP j_R_copy [.ref 70, .ref 29] σ2 (sm_rv False (fun σ3 => xC xP j_R_copy [.ref 71, .ref 30] σ3 (sm_rv False (fun σ4 => xC xP j_R_copy [.ref 72, .ref 31] σ4 (sm_rv False (fun σ5 => xC xP j_R_copy [.ref 73, .ref 32] σ5 (sm_rv False (fun σ6 => xC xP j_R_copy [.ref 74, .ref 33] σ6 (sm_rv False (fun σ7 => (∀ σ8, σ8 = sm_set σ7 26 (upd (σ7 26) 7 (σ7 67 7)) → Q none σ8)))))))))))))))) : xC xP j_K_copyFrom [.ref 26, .ref 67] σ Q := sm_wp_C (M := m_K_copyFrom) rfl [] 41 h
set_option maxRecDepth 100000 in
set_option maxHeartbeats 4000000 in
theorem p_L_copyFrom (σ : sm_S) (Q : Option Value → sm_S → Prop) (h : xC xP j_R_copy [.ref 76, .ref 35] σ (sm_rv False (fun σ1 => xC xP j_R_copy [.ref 77, .ref 36] σ1 (sm_rv False (fun σ2 => xC xP j_R_copy [.ref 78, .ref 37] σ2 (sm_rv False (fun σ3 => xC xP j_R_copy [.ref 79, .ref 38] σ3 (sm_rv False (fun σ4 => (∀ σ5, σ5 = sm_set σ4 34 (upd (σ4 34) 4 (σ4 75 4)) → (∀ σ6, σ6 = sm_set σ5 34 (upd (σ5 34) 5 (σ5 75 5)) → Q none σ6))))))))))) : xC xP j_L_copyFrom [.ref 34, .ref 75] σ Q := sm_wp_C (M := m_L_copyFrom) rfl [] 30 h
set_option maxRecDepth 100000 in
set_option maxHeartbeats 4000000 in
theorem p_copy2 (σ : sm_S) (Q : Option Value → sm_S → Prop) (h : ((¬ (0 : Int32) < 0 ∧ ¬ (0 : Int32) < 0 ∧ ¬ (if (Int32.ofNat 8) < (Int32.ofNat 8) then (Int32.ofNat 8) else (Int32.ofNat 8)) < 0 ∧ ((0 : Int32)).toNatClampNeg + ((if (Int32.ofNat 8) < (Int32.ofNat 8) then (Int32.ofNat 8) else (Int32.ofNat 8))).toNatClampNeg ≤ 8 ∧ ((0 : Int32)).toNatClampNeg + ((if (Int32.ofNat 8) < (Int32.ofNat 8) then (Int32.ofNat 8) else (Int32.ofNat 8))).toNatClampNeg ≤ 8) ∧ ∀ σ1, σ1 = sm_set σ 2 (va_cpy (σ 43) (σ 2) ((0 : Int32)).toNatClampNeg ((0 : Int32)).toNatClampNeg ((if (Int32.ofNat 8) < (Int32.ofNat 8) then (Int32.ofNat 8) else (Int32.ofNat 8))).toNatClampNeg) → Q none σ1)) : xC xP j_R_copy [.ref 43, .ref 2] σ Q := sm_wp_C (M := m_R_copy) rfl [] 12 h
set_option maxRecDepth 100000 in
set_option maxHeartbeats 4000000 in
theorem p_copy3 (σ : sm_S) (Q : Option Value → sm_S → Prop) (h : ((¬ (0 : Int32) < 0 ∧ ¬ (0 : Int32) < 0 ∧ ¬ (if (Int32.ofNat 8) < (Int32.ofNat 8) then (Int32.ofNat 8) else (Int32.ofNat 8)) < 0 ∧ ((0 : Int32)).toNatClampNeg + ((if (Int32.ofNat 8) < (Int32.ofNat 8) then (Int32.ofNat 8) else (Int32.ofNat 8))).toNatClampNeg ≤ 8 ∧ ((0 : Int32)).toNatClampNeg + ((if (Int32.ofNat 8) < (Int32.ofNat 8) then (Int32.ofNat 8) else (Int32.ofNat 8))).toNatClampNeg ≤ 8) ∧ ∀ σ1, σ1 = sm_set σ 3 (va_cpy (σ 44) (σ 3) ((0 : Int32)).toNatClampNeg ((0 : Int32)).toNatClampNeg ((if (Int32.ofNat 8) < (Int32.ofNat 8) then (Int32.ofNat 8) else (Int32.ofNat 8))).toNatClampNeg) → Q none σ1)) : xC xP j_R_copy [.ref 44, .ref 3] σ Q := sm_wp_C (M := m_R_copy) rfl [] 12 h
set_option maxRecDepth 100000 in
set_option maxHeartbeats 4000000 in
theorem p_copy4 (σ : sm_S) (Q : Option Value → sm_S → Prop) (h : ((¬ (0 : Int32) < 0 ∧ ¬ (0 : Int32) < 0 ∧ ¬ (if (Int32.ofNat 8) < (Int32.ofNat 8) then (Int32.ofNat 8) else (Int32.ofNat 8)) < 0 ∧ ((0 : Int32)).toNatClampNeg + ((if (Int32.ofNat 8) < (Int32.ofNat 8) then (Int32.ofNat 8) else (Int32.ofNat 8))).toNatClampNeg ≤ 8 ∧ ((0 : Int32)).toNatClampNeg + ((if (Int32.ofNat 8) < (Int32.ofNat 8) then (Int32.ofNat 8) else (Int32.ofNat 8))).toNatClampNeg ≤ 8) ∧ ∀ σ1, σ1 = sm_set σ 4 (va_cpy (σ 45) (σ 4) ((0 : Int32)).toNatClampNeg ((0 : Int32)).toNatClampNeg ((if (Int32.ofNat 8) < (Int32.ofNat 8) then (Int32.ofNat 8) else (Int32.ofNat 8))).toNatClampNeg) → Q none σ1)) : xC xP j_R_copy [.ref 45, .ref 4] σ Q := sm_wp_C (M := m_R_copy) rfl [] 12 h
set_option maxRecDepth 100000 in
set_option maxHeartbeats 4000000 in
theorem p_copy5 (σ : sm_S) (Q : Option Value → sm_S → Prop) (h : ((¬ (0 : Int32) < 0 ∧ ¬ (0 : Int32) < 0 ∧ ¬ (if (Int32.ofNat 8) < (Int32.ofNat 8) then (Int32.ofNat 8) else (Int32.ofNat 8)) < 0 ∧ ((0 : Int32)).toNatClampNeg + ((if (Int32.ofNat 8) < (Int32.ofNat 8) then (Int32.ofNat 8) else (Int32.ofNat 8))).toNatClampNeg ≤ 8 ∧ ((0 : Int32)).toNatClampNeg + ((if (Int32.ofNat 8) < (Int32.ofNat 8) then (Int32.ofNat 8) else (Int32.ofNat 8))).toNatClampNeg ≤ 8) ∧ ∀ σ1, σ1 = sm_set σ 5 (va_cpy (σ 46) (σ 5) ((0 : Int32)).toNatClampNeg ((0 : Int32)).toNatClampNeg ((if (Int32.ofNat 8) < (Int32.ofNat 8) then (Int32.ofNat 8) else (Int32.ofNat 8))).toNatClampNeg) → Q none σ1)) : xC xP j_R_copy [.ref 46, .ref 5] σ Q := sm_wp_C (M := m_R_copy) rfl [] 12 h
set_option maxRecDepth 100000 in
set_option maxHeartbeats 4000000 in
theorem p_copy6 (σ : sm_S) (Q : Option Value → sm_S → Prop) (h : ((¬ (0 : Int32) < 0 ∧ ¬ (0 : Int32) < 0 ∧ ¬ (if (Int32.ofNat 256) < (Int32.ofNat 256) then (Int32.ofNat 256) else (Int32.ofNat 256)) < 0 ∧ ((0 : Int32)).toNatClampNeg + ((if (Int32.ofNat 256) < (Int32.ofNat 256) then (Int32.ofNat 256) else (Int32.ofNat 256))).toNatClampNeg ≤ 256 ∧ ((0 : Int32)).toNatClampNeg + ((if (Int32.ofNat 256) < (Int32.ofNat 256) then (Int32.ofNat 256) else (Int32.ofNat 256))).toNatClampNeg ≤ 256) ∧ ∀ σ1, σ1 = sm_set σ 6 (va_cpy (σ 47) (σ 6) ((0 : Int32)).toNatClampNeg ((0 : Int32)).toNatClampNeg ((if (Int32.ofNat 256) < (Int32.ofNat 256) then (Int32.ofNat 256) else (Int32.ofNat 256))).toNatClampNeg) → Q none σ1)) : xC xP j_R_copy [.ref 47, .ref 6] σ Q := sm_wp_C (M := m_R_copy) rfl [] 12 h
set_option maxRecDepth 100000 in
set_option maxHeartbeats 4000000 in
theorem p_copy7 (σ : sm_S) (Q : Option Value → sm_S → Prop) (h : ((¬ (0 : Int32) < 0 ∧ ¬ (0 : Int32) < 0 ∧ ¬ (if (Int32.ofNat 256) < (Int32.ofNat 256) then (Int32.ofNat 256) else (Int32.ofNat 256)) < 0 ∧ ((0 : Int32)).toNatClampNeg + ((if (Int32.ofNat 256) < (Int32.ofNat 256) then (Int32.ofNat 256) else (Int32.ofNat 256))).toNatClampNeg ≤ 256 ∧ ((0 : Int32)).toNatClampNeg + ((if (Int32.ofNat 256) < (Int32.ofNat 256) then (Int32.ofNat 256) else (Int32.ofNat 256))).toNatClampNeg ≤ 256) ∧ ∀ σ1, σ1 = sm_set σ 7 (va_cpy (σ 48) (σ 7) ((0 : Int32)).toNatClampNeg ((0 : Int32)).toNatClampNeg ((if (Int32.ofNat 256) < (Int32.ofNat 256) then (Int32.ofNat 256) else (Int32.ofNat 256))).toNatClampNeg) → Q none σ1)) : xC xP j_R_copy [.ref 48, .ref 7] σ Q := sm_wp_C (M := m_R_copy) rfl [] 12 h
set_option maxRecDepth 100000 in
set_option maxHeartbeats 4000000 in
theorem p_copy9 (σ : sm_S) (Q : Option Value → sm_S → Prop) (h : ((¬ (0 : Int32) < 0 ∧ ¬ (0 : Int32) < 0 ∧ ¬ (if (Int32.ofNat 96) < (Int32.ofNat 96) then (Int32.ofNat 96) else (Int32.ofNat 96)) < 0 ∧ ((0 : Int32)).toNatClampNeg + ((if (Int32.ofNat 96) < (Int32.ofNat 96) then (Int32.ofNat 96) else (Int32.ofNat 96))).toNatClampNeg ≤ 96 ∧ ((0 : Int32)).toNatClampNeg + ((if (Int32.ofNat 96) < (Int32.ofNat 96) then (Int32.ofNat 96) else (Int32.ofNat 96))).toNatClampNeg ≤ 96) ∧ ∀ σ1, σ1 = sm_set σ 9 (va_cpy (σ 50) (σ 9) ((0 : Int32)).toNatClampNeg ((0 : Int32)).toNatClampNeg ((if (Int32.ofNat 96) < (Int32.ofNat 96) then (Int32.ofNat 96) else (Int32.ofNat 96))).toNatClampNeg) → Q none σ1)) : xC xP j_R_copy [.ref 50, .ref 9] σ Q := sm_wp_C (M := m_R_copy) rfl [] 12 h
set_option maxRecDepth 100000 in
set_option maxHeartbeats 4000000 in
theorem p_copy10 (σ : sm_S) (Q : Option Value → sm_S → Prop) (h : ((¬ (0 : Int32) < 0 ∧ ¬ (0 : Int32) < 0 ∧ ¬ (if (Int32.ofNat 96) < (Int32.ofNat 96) then (Int32.ofNat 96) else (Int32.ofNat 96)) < 0 ∧ ((0 : Int32)).toNatClampNeg + ((if (Int32.ofNat 96) < (Int32.ofNat 96) then (Int32.ofNat 96) else (Int32.ofNat 96))).toNatClampNeg ≤ 96 ∧ ((0 : Int32)).toNatClampNeg + ((if (Int32.ofNat 96) < (Int32.ofNat 96) then (Int32.ofNat 96) else (Int32.ofNat 96))).toNatClampNeg ≤ 96) ∧ ∀ σ1, σ1 = sm_set σ 10 (va_cpy (σ 51) (σ 10) ((0 : Int32)).toNatClampNeg ((0 : Int32)).toNatClampNeg ((if (Int32.ofNat 96) < (Int32.ofNat 96) then (Int32.ofNat 96) else (Int32.ofNat 96))).toNatClampNeg) → Q none σ1)) : xC xP j_R_copy [.ref 51, .ref 10] σ Q := sm_wp_C (M := m_R_copy) rfl [] 12 h
set_option maxRecDepth 100000 in
set_option maxHeartbeats 4000000 in
theorem p_copy11 (σ : sm_S) (Q : Option Value → sm_S → Prop) (h : ((¬ (0 : Int32) < 0 ∧ ¬ (0 : Int32) < 0 ∧ ¬ (if (Int32.ofNat 96) < (Int32.ofNat 96) then (Int32.ofNat 96) else (Int32.ofNat 96)) < 0 ∧ ((0 : Int32)).toNatClampNeg + ((if (Int32.ofNat 96) < (Int32.ofNat 96) then (Int32.ofNat 96) else (Int32.ofNat 96))).toNatClampNeg ≤ 96 ∧ ((0 : Int32)).toNatClampNeg + ((if (Int32.ofNat 96) < (Int32.ofNat 96) then (Int32.ofNat 96) else (Int32.ofNat 96))).toNatClampNeg ≤ 96) ∧ ∀ σ1, σ1 = sm_set σ 11 (va_cpy (σ 52) (σ 11) ((0 : Int32)).toNatClampNeg ((0 : Int32)).toNatClampNeg ((if (Int32.ofNat 96) < (Int32.ofNat 96) then (Int32.ofNat 96) else (Int32.ofNat 96))).toNatClampNeg) → Q none σ1)) : xC xP j_R_copy [.ref 52, .ref 11] σ Q := sm_wp_C (M := m_R_copy) rfl [] 12 h
set_option maxRecDepth 100000 in
set_option maxHeartbeats 4000000 in
theorem p_copy12 (σ : sm_S) (Q : Option Value → sm_S → Prop) (h : ((¬ (0 : Int32) < 0 ∧ ¬ (0 : Int32) < 0 ∧ ¬ (if (Int32.ofNat 96) < (Int32.ofNat 96) then (Int32.ofNat 96) else (Int32.ofNat 96)) < 0 ∧ ((0 : Int32)).toNatClampNeg + ((if (Int32.ofNat 96) < (Int32.ofNat 96) then (Int32.ofNat 96) else (Int32.ofNat 96))).toNatClampNeg ≤ 96 ∧ ((0 : Int32)).toNatClampNeg + ((if (Int32.ofNat 96) < (Int32.ofNat 96) then (Int32.ofNat 96) else (Int32.ofNat 96))).toNatClampNeg ≤ 96) ∧ ∀ σ1, σ1 = sm_set σ 12 (va_cpy (σ 53) (σ 12) ((0 : Int32)).toNatClampNeg ((0 : Int32)).toNatClampNeg ((if (Int32.ofNat 96) < (Int32.ofNat 96) then (Int32.ofNat 96) else (Int32.ofNat 96))).toNatClampNeg) → Q none σ1)) : xC xP j_R_copy [.ref 53, .ref 12] σ Q := sm_wp_C (M := m_R_copy) rfl [] 12 h
set_option maxRecDepth 100000 in
set_option maxHeartbeats 4000000 in
theorem p_copy13 (σ : sm_S) (Q : Option Value → sm_S → Prop) (h : ((¬ (0 : Int32) < 0 ∧ ¬ (0 : Int32) < 0 ∧ ¬ (if (Int32.ofNat 96) < (Int32.ofNat 96) then (Int32.ofNat 96) else (Int32.ofNat 96)) < 0 ∧ ((0 : Int32)).toNatClampNeg + ((if (Int32.ofNat 96) < (Int32.ofNat 96) then (Int32.ofNat 96) else (Int32.ofNat 96))).toNatClampNeg ≤ 96 ∧ ((0 : Int32)).toNatClampNeg + ((if (Int32.ofNat 96) < (Int32.ofNat 96) then (Int32.ofNat 96) else (Int32.ofNat 96))).toNatClampNeg ≤ 96) ∧ ∀ σ1, σ1 = sm_set σ 13 (va_cpy (σ 54) (σ 13) ((0 : Int32)).toNatClampNeg ((0 : Int32)).toNatClampNeg ((if (Int32.ofNat 96) < (Int32.ofNat 96) then (Int32.ofNat 96) else (Int32.ofNat 96))).toNatClampNeg) → Q none σ1)) : xC xP j_R_copy [.ref 54, .ref 13] σ Q := sm_wp_C (M := m_R_copy) rfl [] 12 h
set_option maxRecDepth 100000 in
set_option maxHeartbeats 4000000 in
theorem p_copy14 (σ : sm_S) (Q : Option Value → sm_S → Prop) (h : ((¬ (0 : Int32) < 0 ∧ ¬ (0 : Int32) < 0 ∧ ¬ (if (Int32.ofNat 96) < (Int32.ofNat 96) then (Int32.ofNat 96) else (Int32.ofNat 96)) < 0 ∧ ((0 : Int32)).toNatClampNeg + ((if (Int32.ofNat 96) < (Int32.ofNat 96) then (Int32.ofNat 96) else (Int32.ofNat 96))).toNatClampNeg ≤ 96 ∧ ((0 : Int32)).toNatClampNeg + ((if (Int32.ofNat 96) < (Int32.ofNat 96) then (Int32.ofNat 96) else (Int32.ofNat 96))).toNatClampNeg ≤ 96) ∧ ∀ σ1, σ1 = sm_set σ 14 (va_cpy (σ 55) (σ 14) ((0 : Int32)).toNatClampNeg ((0 : Int32)).toNatClampNeg ((if (Int32.ofNat 96) < (Int32.ofNat 96) then (Int32.ofNat 96) else (Int32.ofNat 96))).toNatClampNeg) → Q none σ1)) : xC xP j_R_copy [.ref 55, .ref 14] σ Q := sm_wp_C (M := m_R_copy) rfl [] 12 h
set_option maxRecDepth 100000 in
set_option maxHeartbeats 4000000 in
theorem p_copy15 (σ : sm_S) (Q : Option Value → sm_S → Prop) (h : ((¬ (0 : Int32) < 0 ∧ ¬ (0 : Int32) < 0 ∧ ¬ (if (Int32.ofNat 96) < (Int32.ofNat 96) then (Int32.ofNat 96) else (Int32.ofNat 96)) < 0 ∧ ((0 : Int32)).toNatClampNeg + ((if (Int32.ofNat 96) < (Int32.ofNat 96) then (Int32.ofNat 96) else (Int32.ofNat 96))).toNatClampNeg ≤ 96 ∧ ((0 : Int32)).toNatClampNeg + ((if (Int32.ofNat 96) < (Int32.ofNat 96) then (Int32.ofNat 96) else (Int32.ofNat 96))).toNatClampNeg ≤ 96) ∧ ∀ σ1, σ1 = sm_set σ 15 (va_cpy (σ 56) (σ 15) ((0 : Int32)).toNatClampNeg ((0 : Int32)).toNatClampNeg ((if (Int32.ofNat 96) < (Int32.ofNat 96) then (Int32.ofNat 96) else (Int32.ofNat 96))).toNatClampNeg) → Q none σ1)) : xC xP j_R_copy [.ref 56, .ref 15] σ Q := sm_wp_C (M := m_R_copy) rfl [] 12 h
set_option maxRecDepth 100000 in
set_option maxHeartbeats 4000000 in
theorem p_copy16 (σ : sm_S) (Q : Option Value → sm_S → Prop) (h : ((¬ (0 : Int32) < 0 ∧ ¬ (0 : Int32) < 0 ∧ ¬ (if (Int32.ofNat 96) < (Int32.ofNat 96) then (Int32.ofNat 96) else (Int32.ofNat 96)) < 0 ∧ ((0 : Int32)).toNatClampNeg + ((if (Int32.ofNat 96) < (Int32.ofNat 96) then (Int32.ofNat 96) else (Int32.ofNat 96))).toNatClampNeg ≤ 96 ∧ ((0 : Int32)).toNatClampNeg + ((if (Int32.ofNat 96) < (Int32.ofNat 96) then (Int32.ofNat 96) else (Int32.ofNat 96))).toNatClampNeg ≤ 96) ∧ ∀ σ1, σ1 = sm_set σ 16 (va_cpy (σ 57) (σ 16) ((0 : Int32)).toNatClampNeg ((0 : Int32)).toNatClampNeg ((if (Int32.ofNat 96) < (Int32.ofNat 96) then (Int32.ofNat 96) else (Int32.ofNat 96))).toNatClampNeg) → Q none σ1)) : xC xP j_R_copy [.ref 57, .ref 16] σ Q := sm_wp_C (M := m_R_copy) rfl [] 12 h
set_option maxRecDepth 100000 in
set_option maxHeartbeats 4000000 in
theorem p_copy18 (σ : sm_S) (Q : Option Value → sm_S → Prop) (h : ((¬ (0 : Int32) < 0 ∧ ¬ (0 : Int32) < 0 ∧ ¬ (if (Int32.ofNat 8) < (Int32.ofNat 8) then (Int32.ofNat 8) else (Int32.ofNat 8)) < 0 ∧ ((0 : Int32)).toNatClampNeg + ((if (Int32.ofNat 8) < (Int32.ofNat 8) then (Int32.ofNat 8) else (Int32.ofNat 8))).toNatClampNeg ≤ 8 ∧ ((0 : Int32)).toNatClampNeg + ((if (Int32.ofNat 8) < (Int32.ofNat 8) then (Int32.ofNat 8) else (Int32.ofNat 8))).toNatClampNeg ≤ 8) ∧ ∀ σ1, σ1 = sm_set σ 18 (va_cpy (σ 59) (σ 18) ((0 : Int32)).toNatClampNeg ((0 : Int32)).toNatClampNeg ((if (Int32.ofNat 8) < (Int32.ofNat 8) then (Int32.ofNat 8) else (Int32.ofNat 8))).toNatClampNeg) → Q none σ1)) : xC xP j_R_copy [.ref 59, .ref 18] σ Q := sm_wp_C (M := m_R_copy) rfl [] 12 h
set_option maxRecDepth 100000 in
set_option maxHeartbeats 4000000 in
theorem p_copy19 (σ : sm_S) (Q : Option Value → sm_S → Prop) (h : ((¬ (0 : Int32) < 0 ∧ ¬ (0 : Int32) < 0 ∧ ¬ (if (Int32.ofNat 8) < (Int32.ofNat 8) then (Int32.ofNat 8) else (Int32.ofNat 8)) < 0 ∧ ((0 : Int32)).toNatClampNeg + ((if (Int32.ofNat 8) < (Int32.ofNat 8) then (Int32.ofNat 8) else (Int32.ofNat 8))).toNatClampNeg ≤ 8 ∧ ((0 : Int32)).toNatClampNeg + ((if (Int32.ofNat 8) < (Int32.ofNat 8) then (Int32.ofNat 8) else (Int32.ofNat 8))).toNatClampNeg ≤ 8) ∧ ∀ σ1, σ1 = sm_set σ 19 (va_cpy (σ 60) (σ 19) ((0 : Int32)).toNatClampNeg ((0 : Int32)).toNatClampNeg ((if (Int32.ofNat 8) < (Int32.ofNat 8) then (Int32.ofNat 8) else (Int32.ofNat 8))).toNatClampNeg) → Q none σ1)) : xC xP j_R_copy [.ref 60, .ref 19] σ Q := sm_wp_C (M := m_R_copy) rfl [] 12 h
set_option maxRecDepth 100000 in
set_option maxHeartbeats 4000000 in
theorem p_copy20 (σ : sm_S) (Q : Option Value → sm_S → Prop) (h : ((¬ (0 : Int32) < 0 ∧ ¬ (0 : Int32) < 0 ∧ ¬ (if (Int32.ofNat 8) < (Int32.ofNat 8) then (Int32.ofNat 8) else (Int32.ofNat 8)) < 0 ∧ ((0 : Int32)).toNatClampNeg + ((if (Int32.ofNat 8) < (Int32.ofNat 8) then (Int32.ofNat 8) else (Int32.ofNat 8))).toNatClampNeg ≤ 8 ∧ ((0 : Int32)).toNatClampNeg + ((if (Int32.ofNat 8) < (Int32.ofNat 8) then (Int32.ofNat 8) else (Int32.ofNat 8))).toNatClampNeg ≤ 8) ∧ ∀ σ1, σ1 = sm_set σ 20 (va_cpy (σ 61) (σ 20) ((0 : Int32)).toNatClampNeg ((0 : Int32)).toNatClampNeg ((if (Int32.ofNat 8) < (Int32.ofNat 8) then (Int32.ofNat 8) else (Int32.ofNat 8))).toNatClampNeg) → Q none σ1)) : xC xP j_R_copy [.ref 61, .ref 20] σ Q := sm_wp_C (M := m_R_copy) rfl [] 12 h
set_option maxRecDepth 100000 in
set_option maxHeartbeats 4000000 in
theorem p_copy21 (σ : sm_S) (Q : Option Value → sm_S → Prop) (h : ((¬ (0 : Int32) < 0 ∧ ¬ (0 : Int32) < 0 ∧ ¬ (if (Int32.ofNat 8) < (Int32.ofNat 8) then (Int32.ofNat 8) else (Int32.ofNat 8)) < 0 ∧ ((0 : Int32)).toNatClampNeg + ((if (Int32.ofNat 8) < (Int32.ofNat 8) then (Int32.ofNat 8) else (Int32.ofNat 8))).toNatClampNeg ≤ 8 ∧ ((0 : Int32)).toNatClampNeg + ((if (Int32.ofNat 8) < (Int32.ofNat 8) then (Int32.ofNat 8) else (Int32.ofNat 8))).toNatClampNeg ≤ 8) ∧ ∀ σ1, σ1 = sm_set σ 21 (va_cpy (σ 62) (σ 21) ((0 : Int32)).toNatClampNeg ((0 : Int32)).toNatClampNeg ((if (Int32.ofNat 8) < (Int32.ofNat 8) then (Int32.ofNat 8) else (Int32.ofNat 8))).toNatClampNeg) → Q none σ1)) : xC xP j_R_copy [.ref 62, .ref 21] σ Q := sm_wp_C (M := m_R_copy) rfl [] 12 h
set_option maxRecDepth 100000 in
set_option maxHeartbeats 4000000 in
theorem p_copy22 (σ : sm_S) (Q : Option Value → sm_S → Prop) (h : ((¬ (0 : Int32) < 0 ∧ ¬ (0 : Int32) < 0 ∧ ¬ (if (Int32.ofNat 8) < (Int32.ofNat 8) then (Int32.ofNat 8) else (Int32.ofNat 8)) < 0 ∧ ((0 : Int32)).toNatClampNeg + ((if (Int32.ofNat 8) < (Int32.ofNat 8) then (Int32.ofNat 8) else (Int32.ofNat 8))).toNatClampNeg ≤ 8 ∧ ((0 : Int32)).toNatClampNeg + ((if (Int32.ofNat 8) < (Int32.ofNat 8) then (Int32.ofNat 8) else (Int32.ofNat 8))).toNatClampNeg ≤ 8) ∧ ∀ σ1, σ1 = sm_set σ 22 (va_cpy (σ 63) (σ 22) ((0 : Int32)).toNatClampNeg ((0 : Int32)).toNatClampNeg ((if (Int32.ofNat 8) < (Int32.ofNat 8) then (Int32.ofNat 8) else (Int32.ofNat 8))).toNatClampNeg) → Q none σ1)) : xC xP j_R_copy [.ref 63, .ref 22] σ Q := sm_wp_C (M := m_R_copy) rfl [] 12 h
set_option maxRecDepth 100000 in
set_option maxHeartbeats 4000000 in
theorem p_copy23 (σ : sm_S) (Q : Option Value → sm_S → Prop) (h : ((¬ (0 : Int32) < 0 ∧ ¬ (0 : Int32) < 0 ∧ ¬ (if (Int32.ofNat 8) < (Int32.ofNat 8) then (Int32.ofNat 8) else (Int32.ofNat 8)) < 0 ∧ ((0 : Int32)).toNatClampNeg + ((if (Int32.ofNat 8) < (Int32.ofNat 8) then (Int32.ofNat 8) else (Int32.ofNat 8))).toNatClampNeg ≤ 8 ∧ ((0 : Int32)).toNatClampNeg + ((if (Int32.ofNat 8) < (Int32.ofNat 8) then (Int32.ofNat 8) else (Int32.ofNat 8))).toNatClampNeg ≤ 8) ∧ ∀ σ1, σ1 = sm_set σ 23 (va_cpy (σ 64) (σ 23) ((0 : Int32)).toNatClampNeg ((0 : Int32)).toNatClampNeg ((if (Int32.ofNat 8) < (Int32.ofNat 8) then (Int32.ofNat 8) else (Int32.ofNat 8))).toNatClampNeg) → Q none σ1)) : xC xP j_R_copy [.ref 64, .ref 23] σ Q := sm_wp_C (M := m_R_copy) rfl [] 12 h
set_option maxRecDepth 100000 in
set_option maxHeartbeats 4000000 in
theorem p_copy24 (σ : sm_S) (Q : Option Value → sm_S → Prop) (h : ((¬ (0 : Int32) < 0 ∧ ¬ (0 : Int32) < 0 ∧ ¬ (if (Int32.ofNat 8) < (Int32.ofNat 8) then (Int32.ofNat 8) else (Int32.ofNat 8)) < 0 ∧ ((0 : Int32)).toNatClampNeg + ((if (Int32.ofNat 8) < (Int32.ofNat 8) then (Int32.ofNat 8) else (Int32.ofNat 8))).toNatClampNeg ≤ 8 ∧ ((0 : Int32)).toNatClampNeg + ((if (Int32.ofNat 8) < (Int32.ofNat 8) then (Int32.ofNat 8) else (Int32.ofNat 8))).toNatClampNeg ≤ 8) ∧ ∀ σ1, σ1 = sm_set σ 24 (va_cpy (σ 65) (σ 24) ((0 : Int32)).toNatClampNeg ((0 : Int32)).toNatClampNeg ((if (Int32.ofNat 8) < (Int32.ofNat 8) then (Int32.ofNat 8) else (Int32.ofNat 8))).toNatClampNeg) → Q none σ1)) : xC xP j_R_copy [.ref 65, .ref 24] σ Q := sm_wp_C (M := m_R_copy) rfl [] 12 h
set_option maxRecDepth 100000 in
set_option maxHeartbeats 4000000 in
theorem p_copy25 (σ : sm_S) (Q : Option Value → sm_S → Prop) (h : ((¬ (0 : Int32) < 0 ∧ ¬ (0 : Int32) < 0 ∧ ¬ (if (Int32.ofNat 8) < (Int32.ofNat 8) then (Int32.ofNat 8) else (Int32.ofNat 8)) < 0 ∧ ((0 : Int32)).toNatClampNeg + ((if (Int32.ofNat 8) < (Int32.ofNat 8) then (Int32.ofNat 8) else (Int32.ofNat 8))).toNatClampNeg ≤ 8 ∧ ((0 : Int32)).toNatClampNeg + ((if (Int32.ofNat 8) < (Int32.ofNat 8) then (Int32.ofNat 8) else (Int32.ofNat 8))).toNatClampNeg ≤ 8) ∧ ∀ σ1, σ1 = sm_set σ 25 (va_cpy (σ 66) (σ 25) ((0 : Int32)).toNatClampNeg ((0 : Int32)).toNatClampNeg ((if (Int32.ofNat 8) < (Int32.ofNat 8) then (Int32.ofNat 8) else (Int32.ofNat 8))).toNatClampNeg) → Q none σ1)) : xC xP j_R_copy [.ref 66, .ref 25] σ Q := sm_wp_C (M := m_R_copy) rfl [] 12 h
set_option maxRecDepth 100000 in
set_option maxHeartbeats 4000000 in
theorem p_copy27 (σ : sm_S) (Q : Option Value → sm_S → Prop) (h : ((¬ (0 : Int32) < 0 ∧ ¬ (0 : Int32) < 0 ∧ ¬ (if (Int32.ofNat 6) < (Int32.ofNat 6) then (Int32.ofNat 6) else (Int32.ofNat 6)) < 0 ∧ ((0 : Int32)).toNatClampNeg + ((if (Int32.ofNat 6) < (Int32.ofNat 6) then (Int32.ofNat 6) else (Int32.ofNat 6))).toNatClampNeg ≤ 6 ∧ ((0 : Int32)).toNatClampNeg + ((if (Int32.ofNat 6) < (Int32.ofNat 6) then (Int32.ofNat 6) else (Int32.ofNat 6))).toNatClampNeg ≤ 6) ∧ ∀ σ1, σ1 = sm_set σ 27 (va_cpy (σ 68) (σ 27) ((0 : Int32)).toNatClampNeg ((0 : Int32)).toNatClampNeg ((if (Int32.ofNat 6) < (Int32.ofNat 6) then (Int32.ofNat 6) else (Int32.ofNat 6))).toNatClampNeg) → Q none σ1)) : xC xP j_R_copy [.ref 68, .ref 27] σ Q := sm_wp_C (M := m_R_copy) rfl [] 12 h
set_option maxRecDepth 100000 in
set_option maxHeartbeats 4000000 in
theorem p_copy28 (σ : sm_S) (Q : Option Value → sm_S → Prop) (h : ((¬ (0 : Int32) < 0 ∧ ¬ (0 : Int32) < 0 ∧ ¬ (if (Int32.ofNat 6) < (Int32.ofNat 6) then (Int32.ofNat 6) else (Int32.ofNat 6)) < 0 ∧ ((0 : Int32)).toNatClampNeg + ((if (Int32.ofNat 6) < (Int32.ofNat 6) then (Int32.ofNat 6) else (Int32.ofNat 6))).toNatClampNeg ≤ 6 ∧ ((0 : Int32)).toNatClampNeg + ((if (Int32.ofNat 6) < (Int32.ofNat 6) then (Int32.ofNat 6) else (Int32.ofNat 6))).toNatClampNeg ≤ 6) ∧ ∀ σ1, σ1 = sm_set σ 28 (va_cpy (σ 69) (σ 28) ((0 : Int32)).toNatClampNeg ((0 : Int32)).toNatClampNeg ((if (Int32.ofNat 6) < (Int32.ofNat 6) then (Int32.ofNat 6) else (Int32.ofNat 6))).toNatClampNeg) → Q none σ1)) : xC xP j_R_copy [.ref 69, .ref 28] σ Q := sm_wp_C (M := m_R_copy) rfl [] 12 h
set_option maxRecDepth 100000 in
set_option maxHeartbeats 4000000 in
theorem p_copy29 (σ : sm_S) (Q : Option Value → sm_S → Prop) (h : ((¬ (0 : Int32) < 0 ∧ ¬ (0 : Int32) < 0 ∧ ¬ (if (Int32.ofNat 6) < (Int32.ofNat 6) then (Int32.ofNat 6) else (Int32.ofNat 6)) < 0 ∧ ((0 : Int32)).toNatClampNeg + ((if (Int32.ofNat 6) < (Int32.ofNat 6) then (Int32.ofNat 6) else (Int32.ofNat 6))).toNatClampNeg ≤ 6 ∧ ((0 : Int32)).toNatClampNeg + ((if (Int32.ofNat 6) < (Int32.ofNat 6) then (Int32.ofNat 6) else (Int32.ofNat 6))).toNatClampNeg ≤ 6) ∧ ∀ σ1, σ1 = sm_set σ 29 (va_cpy (σ 70) (σ 29) ((0 : Int32)).toNatClampNeg ((0 : Int32)).toNatClampNeg ((if (Int32.ofNat 6) < (Int32.ofNat 6) then (Int32.ofNat 6) else (Int32.ofNat 6))).toNatClampNeg) → Q none σ1)) : xC xP j_R_copy [.ref 70, .ref 29] σ Q := sm_wp_C (M := m_R_copy) rfl [] 12 h
set_option maxRecDepth 100000 in
set_option maxHeartbeats 4000000 in
theorem p_copy30 (σ : sm_S) (Q : Option Value → sm_S → Prop) (h : ((¬ (0 : Int32) < 0 ∧ ¬ (0 : Int32) < 0 ∧ ¬ (if (Int32.ofNat 6) < (Int32.ofNat 6) then (Int32.ofNat 6) else (Int32.ofNat 6)) < 0 ∧ ((0 : Int32)).toNatClampNeg + ((if (Int32.ofNat 6) < (Int32.ofNat 6) then (Int32.ofNat 6) else (Int32.ofNat 6))).toNatClampNeg ≤ 6 ∧ ((0 : Int32)).toNatClampNeg + ((if (Int32.ofNat 6) < (Int32.ofNat 6) then (Int32.ofNat 6) else (Int32.ofNat 6))).toNatClampNeg ≤ 6) ∧ ∀ σ1, σ1 = sm_set σ 30 (va_cpy (σ 71) (σ 30) ((0 : Int32)).toNatClampNeg ((0 : Int32)).toNatClampNeg ((if (Int32.ofNat 6) < (Int32.ofNat 6) then (Int32.ofNat 6) else (Int32.ofNat 6))).toNatClampNeg) → Q none σ1)) : xC xP j_R_copy [.ref 71, .ref 30] σ Q := sm_wp_C (M := m_R_copy) rfl [] 12 h
set_option maxRecDepth 100000 in
set_option maxHeartbeats 4000000 in
theorem p_copy31 (σ : sm_S) (Q : Option Value → sm_S → Prop) (h : ((¬ (0 : Int32) < 0 ∧ ¬ (0 : Int32) < 0 ∧ ¬ (if (Int32.ofNat 6) < (Int32.ofNat 6) then (Int32.ofNat 6) else (Int32.ofNat 6)) < 0 ∧ ((0 : Int32)).toNatClampNeg + ((if (Int32.ofNat 6) < (Int32.ofNat 6) then (Int32.ofNat 6) else (Int32.ofNat 6))).toNatClampNeg ≤ 6 ∧ ((0 : Int32)).toNatClampNeg + ((if (Int32.ofNat 6) < (Int32.ofNat 6) then (Int32.ofNat 6) else (Int32.ofNat 6))).toNatClampNeg ≤ 6) ∧ ∀ σ1, σ1 = sm_set σ 31 (va_cpy (σ 72) (σ 31) ((0 : Int32)).toNatClampNeg ((0 : Int32)).toNatClampNeg ((if (Int32.ofNat 6) < (Int32.ofNat 6) then (Int32.ofNat 6) else (Int32.ofNat 6))).toNatClampNeg) → Q none σ1)) : xC xP j_R_copy [.ref 72, .ref 31] σ Q := sm_wp_C (M := m_R_copy) rfl [] 12 h
set_option maxRecDepth 100000 in
set_option maxHeartbeats 4000000 in
theorem p_copy32 (σ : sm_S) (Q : Option Value → sm_S → Prop) (h : ((¬ (0 : Int32) < 0 ∧ ¬ (0 : Int32) < 0 ∧ ¬ (if (Int32.ofNat 6) < (Int32.ofNat 6) then (Int32.ofNat 6) else (Int32.ofNat 6)) < 0 ∧ ((0 : Int32)).toNatClampNeg + ((if (Int32.ofNat 6) < (Int32.ofNat 6) then (Int32.ofNat 6) else (Int32.ofNat 6))).toNatClampNeg ≤ 6 ∧ ((0 : Int32)).toNatClampNeg + ((if (Int32.ofNat 6) < (Int32.ofNat 6) then (Int32.ofNat 6) else (Int32.ofNat 6))).toNatClampNeg ≤ 6) ∧ ∀ σ1, σ1 = sm_set σ 32 (va_cpy (σ 73) (σ 32) ((0 : Int32)).toNatClampNeg ((0 : Int32)).toNatClampNeg ((if (Int32.ofNat 6) < (Int32.ofNat 6) then (Int32.ofNat 6) else (Int32.ofNat 6))).toNatClampNeg) → Q none σ1)) : xC xP j_R_copy [.ref 73, .ref 32] σ Q := sm_wp_C (M := m_R_copy) rfl [] 12 h
set_option maxRecDepth 100000 in
set_option maxHeartbeats 4000000 in
theorem p_copy33 (σ : sm_S) (Q : Option Value → sm_S → Prop) (h : ((¬ (0 : Int32) < 0 ∧ ¬ (0 : Int32) < 0 ∧ ¬ (if (Int32.ofNat 6) < (Int32.ofNat 6) then (Int32.ofNat 6) else (Int32.ofNat 6)) < 0 ∧ ((0 : Int32)).toNatClampNeg + ((if (Int32.ofNat 6) < (Int32.ofNat 6) then (Int32.ofNat 6) else (Int32.ofNat 6))).toNatClampNeg ≤ 6 ∧ ((0 : Int32)).toNatClampNeg + ((if (Int32.ofNat 6) < (Int32.ofNat 6) then (Int32.ofNat 6) else (Int32.ofNat 6))).toNatClampNeg ≤ 6) ∧ ∀ σ1, σ1 = sm_set σ 33 (va_cpy (σ 74) (σ 33) ((0 : Int32)).toNatClampNeg ((0 : Int32)).toNatClampNeg ((if (Int32.ofNat 6) < (Int32.ofNat 6) then (Int32.ofNat 6) else (Int32.ofNat 6))).toNatClampNeg) → Q none σ1)) : xC xP j_R_copy [.ref 74, .ref 33] σ Q := sm_wp_C (M := m_R_copy) rfl [] 12 h
set_option maxRecDepth 100000 in
set_option maxHeartbeats 4000000 in
theorem p_copy35 (σ : sm_S) (Q : Option Value → sm_S → Prop) (h : ((¬ (0 : Int32) < 0 ∧ ¬ (0 : Int32) < 0 ∧ ¬ (if (Int32.ofNat 60) < (Int32.ofNat 60) then (Int32.ofNat 60) else (Int32.ofNat 60)) < 0 ∧ ((0 : Int32)).toNatClampNeg + ((if (Int32.ofNat 60) < (Int32.ofNat 60) then (Int32.ofNat 60) else (Int32.ofNat 60))).toNatClampNeg ≤ 60 ∧ ((0 : Int32)).toNatClampNeg + ((if (Int32.ofNat 60) < (Int32.ofNat 60) then (Int32.ofNat 60) else (Int32.ofNat 60))).toNatClampNeg ≤ 60) ∧ ∀ σ1, σ1 = sm_set σ 35 (va_cpy (σ 76) (σ 35) ((0 : Int32)).toNatClampNeg ((0 : Int32)).toNatClampNeg ((if (Int32.ofNat 60) < (Int32.ofNat 60) then (Int32.ofNat 60) else (Int32.ofNat 60))).toNatClampNeg) → Q none σ1)) : xC xP j_R_copy [.ref 76, .ref 35] σ Q := sm_wp_C (M := m_R_copy) rfl [] 12 h
set_option maxRecDepth 100000 in
set_option maxHeartbeats 4000000 in
theorem p_copy36 (σ : sm_S) (Q : Option Value → sm_S → Prop) (h : ((¬ (0 : Int32) < 0 ∧ ¬ (0 : Int32) < 0 ∧ ¬ (if (Int32.ofNat 60) < (Int32.ofNat 60) then (Int32.ofNat 60) else (Int32.ofNat 60)) < 0 ∧ ((0 : Int32)).toNatClampNeg + ((if (Int32.ofNat 60) < (Int32.ofNat 60) then (Int32.ofNat 60) else (Int32.ofNat 60))).toNatClampNeg ≤ 60 ∧ ((0 : Int32)).toNatClampNeg + ((if (Int32.ofNat 60) < (Int32.ofNat 60) then (Int32.ofNat 60) else (Int32.ofNat 60))).toNatClampNeg ≤ 60) ∧ ∀ σ1, σ1 = sm_set σ 36 (va_cpy (σ 77) (σ 36) ((0 : Int32)).toNatClampNeg ((0 : Int32)).toNatClampNeg ((if (Int32.ofNat 60) < (Int32.ofNat 60) then (Int32.ofNat 60) else (Int32.ofNat 60))).toNatClampNeg) → Q none σ1)) : xC xP j_R_copy [.ref 77, .ref 36] σ Q := sm_wp_C (M := m_R_copy) rfl [] 12 h
set_option maxRecDepth 100000 in
set_option maxHeartbeats 4000000 in
theorem p_copy37 (σ : sm_S) (Q : Option Value → sm_S → Prop) (h : ((¬ (0 : Int32) < 0 ∧ ¬ (0 : Int32) < 0 ∧ ¬ (if (Int32.ofNat 60) < (Int32.ofNat 60) then (Int32.ofNat 60) else (Int32.ofNat 60)) < 0 ∧ ((0 : Int32)).toNatClampNeg + ((if (Int32.ofNat 60) < (Int32.ofNat 60) then (Int32.ofNat 60) else (Int32.ofNat 60))).toNatClampNeg ≤ 60 ∧ ((0 : Int32)).toNatClampNeg + ((if (Int32.ofNat 60) < (Int32.ofNat 60) then (Int32.ofNat 60) else (Int32.ofNat 60))).toNatClampNeg ≤ 60) ∧ ∀ σ1, σ1 = sm_set σ 37 (va_cpy (σ 78) (σ 37) ((0 : Int32)).toNatClampNeg ((0 : Int32)).toNatClampNeg ((if (Int32.ofNat 60) < (Int32.ofNat 60) then (Int32.ofNat 60) else (Int32.ofNat 60))).toNatClampNeg) → Q none σ1)) : xC xP j_R_copy [.ref 78, .ref 37] σ Q := sm_wp_C (M := m_R_copy) rfl [] 12 h
set_option maxRecDepth 100000 in
set_option maxHeartbeats 4000000 in
theorem p_copy38 (σ : sm_S) (Q : Option Value → sm_S → Prop) (h : ((¬ (0 : Int32) < 0 ∧ ¬ (0 : Int32) < 0 ∧ ¬ (if (Int32.ofNat 60) < (Int32.ofNat 60) then (Int32.ofNat 60) else (Int32.ofNat 60)) < 0 ∧ ((0 : Int32)).toNatClampNeg + ((if (Int32.ofNat 60) < (Int32.ofNat 60) then (Int32.ofNat 60) else (Int32.ofNat 60))).toNatClampNeg ≤ 60 ∧ ((0 : Int32)).toNatClampNeg + ((if (Int32.ofNat 60) < (Int32.ofNat 60) then (Int32.ofNat 60) else (Int32.ofNat 60))).toNatClampNeg ≤ 60) ∧ ∀ σ1, σ1 = sm_set σ 38 (va_cpy (σ 79) (σ 38) ((0 : Int32)).toNatClampNeg ((0 : Int32)).toNatClampNeg ((if (Int32.ofNat 60) < (Int32.ofNat 60) then (Int32.ofNat 60) else (Int32.ofNat 60))).toNatClampNeg) → Q none σ1)) : xC xP j_R_copy [.ref 79, .ref 38] σ Q := sm_wp_C (M := m_R_copy) rfl [] 12 h
set_option maxRecDepth 100000 in
set_option maxHeartbeats 4000000 in
theorem p_copy39 (σ : sm_S) (Q : Option Value → sm_S → Prop) (h : ((¬ (0 : Int32) < 0 ∧ ¬ (0 : Int32) < 0 ∧ ¬ (if (Int32.ofNat 4) < (Int32.ofNat 4) then (Int32.ofNat 4) else (Int32.ofNat 4)) < 0 ∧ ((0 : Int32)).toNatClampNeg + ((if (Int32.ofNat 4) < (Int32.ofNat 4) then (Int32.ofNat 4) else (Int32.ofNat 4))).toNatClampNeg ≤ 4 ∧ ((0 : Int32)).toNatClampNeg + ((if (Int32.ofNat 4) < (Int32.ofNat 4) then (Int32.ofNat 4) else (Int32.ofNat 4))).toNatClampNeg ≤ 4) ∧ ∀ σ1, σ1 = sm_set σ 39 (va_cpy (σ 80) (σ 39) ((0 : Int32)).toNatClampNeg ((0 : Int32)).toNatClampNeg ((if (Int32.ofNat 4) < (Int32.ofNat 4) then (Int32.ofNat 4) else (Int32.ofNat 4))).toNatClampNeg) → Q none σ1)) : xC xP j_R_copy [.ref 80, .ref 39] σ Q := sm_wp_C (M := m_R_copy) rfl [] 12 h
set_option maxRecDepth 100000 in
set_option maxHeartbeats 4000000 in
theorem p_copy40 (σ : sm_S) (Q : Option Value → sm_S → Prop) (h : ((¬ (0 : Int32) < 0 ∧ ¬ (0 : Int32) < 0 ∧ ¬ (if (Int32.ofNat 11) < (Int32.ofNat 11) then (Int32.ofNat 11) else (Int32.ofNat 11)) < 0 ∧ ((0 : Int32)).toNatClampNeg + ((if (Int32.ofNat 11) < (Int32.ofNat 11) then (Int32.ofNat 11) else (Int32.ofNat 11))).toNatClampNeg ≤ 11 ∧ ((0 : Int32)).toNatClampNeg + ((if (Int32.ofNat 11) < (Int32.ofNat 11) then (Int32.ofNat 11) else (Int32.ofNat 11))).toNatClampNeg ≤ 11) ∧ ∀ σ1, σ1 = sm_set σ 40 (va_cpy (σ 81) (σ 40) ((0 : Int32)).toNatClampNeg ((0 : Int32)).toNatClampNeg ((if (Int32.ofNat 11) < (Int32.ofNat 11) then (Int32.ofNat 11) else (Int32.ofNat 11))).toNatClampNeg) → Q none σ1)) : xC xP j_R_copy [.ref 81, .ref 40] σ Q := sm_wp_C (M := m_R_copy) rfl [] 12 h
end
section
/-! ===== from the small worlds to the world of all ===== -/
def sh (ρ : Nat → Nat) (σ : sm_S) : sm_S := fun k => σ (ρ k)
def bs (β : Nat) (σ : sm_S) : sm_S := fun k => σ (β + k)
theorem x_up {ρ : Nat → Nat} {SH1 SH2 : List sm_Sh} (hR : sm_shR ρ SH1 SH2) {j : Nat} {as : List Value} {σ : sm_S} {Q : Option Value → sm_S → Prop} (h : sm_C sm_TB sm_MS SH1 j as (sh ρ σ) Q) : sm_C sm_TB sm_MS SH2 j (as.map (sm_cv ρ)) σ (fun r σ' => ∃ r1 τ, r = r1.map (sm_cv ρ) ∧ Q r1 τ ∧ sm_stR ρ SH1 τ σ' ∧ sm_off ρ SH1 σ σ') := by
  obtain ⟨M, hM, n, r, σ', hr, hq⟩ := h
  obtain ⟨σ2, g1, g2, g3⟩ := sm_lift hR sm_gs n M (List.mem_of_getElem? hM) 0 _ _ _ r σ' hr σ ⟨fun _ _ _ => rfl, fun _ _ _ _ _ _ _ _ => rfl⟩
  rw [sm_ent_map, List.map_nil] at g1
  exact ⟨M, hM, n, _, σ2, g1, r, σ', rfl, hq, g2, g3⟩
theorem x_same {ρ : Nat → Nat} {SH1 : List sm_Sh} {σ σ' : sm_S} (hs : sm_stR ρ SH1 (sh ρ σ) σ') (ho : sm_off ρ SH1 σ σ') : σ' = σ := by
  funext a i
  by_cases hv : sm_vis ρ SH1 a i
  · obtain ⟨k, rfl, hv⟩ := hv
    rcases hv with ⟨q, hq⟩ | ⟨ci, fl, t, f1, f2, f3⟩
    · exact congrFun (hs.1 k q hq) i
    · exact hs.2 k ci fl i t f1 f2 f3
  · exact ho a i hv
/-- a call that only looks -/
theorem x_up0 {ρ : Nat → Nat} {SH1 SH2 : List sm_Sh} (hR : sm_shR ρ SH1 SH2) {j : Nat} {as as' : List Value} {σ : sm_S} {P : Int32 → Prop} (ha : as.map (sm_cv ρ) = as') (h : sm_C sm_TB sm_MS SH1 j as (sh ρ σ) (sm_I (fun x τ => P x ∧ τ = sh ρ σ))) : sm_C sm_TB sm_MS SH2 j as' σ (sm_I (fun x σ' => P x ∧ σ' = σ)) := by
  subst ha
  refine (x_up hR h).mono ?_
  rintro r σ' ⟨r1, τ, rfl, ⟨x, rfl, hP, rfl⟩, hs, ho⟩
  exact ⟨x, rfl, hP, x_same hs ho⟩
theorem x_up1 {ρ : Nat → Nat} {SH1 SH2 : List sm_Sh} (hR : sm_shR ρ SH1 SH2) {j : Nat} {as as' : List Value} {σ : sm_S} (ha : as.map (sm_cv ρ) = as') (h : sm_C sm_TB sm_MS SH1 j as (sh ρ σ) (sm_I (fun _ τ => τ = sh ρ σ))) : sm_C sm_TB sm_MS SH2 j as' σ (sm_I (fun _ σ' => σ' = σ)) := by
  subst ha
  refine (x_up hR h).mono ?_
  rintro r σ' ⟨r1, τ, rfl, ⟨x, rfl, rfl⟩, hs, ho⟩
  exact ⟨x, rfl, x_same hs ho⟩
/-- what kk speaks of -/
def keR (σ σ' : sm_S) : Prop := (∀ f, f < 256 → σ' 6 f = σ 6 f) ∧ (∀ b, b < 96 → σ' 9 b = σ 9 b ∧ σ' 10 b = σ 10 b ∧ σ' 12 b = σ 12 b ∧ σ' 14 b = σ 14 b ∧ σ' 15 b = σ 15 b) ∧ (∀ s, s < 8 → σ' 18 s = σ 18 s ∧ σ' 20 s = σ 20 s ∧ σ' 23 s = σ 23 s ∧ σ' 24 s = σ 24 s) ∧ (∀ t, t < 6 → σ' 28 t = σ 28 t ∧ σ' 31 t = σ 31 t ∧ σ' 33 t = σ 33 t) ∧ σ' 26 7 = σ 26 7 ∧ σ' 39 0 = σ 39 0
theorem kk_eqr {σ σ' : sm_S} (h : keR σ σ') (hl : kl σ') (hk : kk σ) : kk σ' := by
  obtain ⟨h6, h9, h18, h28, h26, h39⟩ := h
  obtain ⟨k1, k2, k3, k4, -, k6⟩ := hk
  refine ⟨fun b hb => ?_, fun s hs => ?_, ?_, fun f hf => by rw [h6 f hf]; exact k4 f hf, hl, by rw [h39]; exact k6⟩
  · obtain ⟨e9, e10, e12, e14, e15⟩ := h9 b hb
    rcases k1 b hb with ⟨g1, g2, g3⟩ | ⟨f, o, w, he, g⟩
    · exact Or.inl ⟨e9.trans g1, e14.trans g2, e15.trans g3⟩
    · have hp := Nat.two_pow_pos o
      have := he.2.2.2.1
      refine Or.inr ⟨f, o, w, eb_cong e9 e10 e12 he, ?_⟩
      rcases g with ⟨g1, g2⟩ | ⟨t, c, q1, q2, q3, q4, q5⟩
      · exact Or.inl ⟨e14.trans g1, e15.trans g2⟩
      · exact Or.inr ⟨t, c, by rw [e14]; exact q1, q2, by rw [e15]; exact q3, q4, by rw [(h18 (f / 32) (by omega)).2.2.2]; exact q5⟩
  · obtain ⟨e18, e20, e23, e24⟩ := h18 s hs
    exact ks_cong e18 e20 e23 e24 (fun b hb _ hn => ⟨by rw [(h9 b hb).2.2.2.1]; exact hn, (h9 b hb).1⟩) (k2 s hs)
  · obtain ⟨L, l1, l2, l3, l4⟩ := k3
    refine ⟨L, by rw [h26]; exact l1, l2, fun k hk => ?_, fun t ht => ?_⟩
    · rw [(h28 k (by omega)).2.2]; exact l3 k hk
    · obtain ⟨e28, e31, -⟩ := h28 t ht
      rw [e28, e31]
      rcases l4 t ht with g | ⟨⟨k, g1, g2⟩, b, o, a, q1, q2, q3, q4, q5, q6⟩
      · exact Or.inl g
      · exact Or.inr ⟨⟨k, g1, by rw [(h28 k (by omega)).2.2]; exact g2⟩, b, o, a, q1, q2, by rw [(h9 b q1).2.2.2.1]; exact q3, by rw [(h9 b q1).2.1]; exact q4, q5, q6⟩
theorem keR_of {σ σ' : sm_S} (h : ∀ k, k < 41 → σ' k = σ k) : keR σ σ' :=
  ⟨fun f _ => by rw [h 6 (by omega)], fun b _ => ⟨by rw [h 9 (by omega)], by rw [h 10 (by omega)], by rw [h 12 (by omega)], by rw [h 14 (by omega)], by rw [h 15 (by omega)]⟩, fun s _ => ⟨by rw [h 18 (by omega)], by rw [h 20 (by omega)], by rw [h 23 (by omega)], by rw [h 24 (by omega)]⟩, fun t _ => ⟨by rw [h 28 (by omega)], by rw [h 31 (by omega)], by rw [h 33 (by omega)]⟩, by rw [h 26 (by omega)], by rw [h 39 (by omega)]⟩
theorem kk_of {σ σ' : sm_S} (h : ∀ k, k < 41 → σ' k = σ k) (hk : kk σ) : kk σ' := by
  obtain ⟨n, n1, n2⟩ := hk.2.2.2.2.1
  exact kk_eqr (keR_of h) ⟨n, n1, by rw [h 34 (by omega)]; exact n2⟩ hk
theorem kl_of {σ σ' : sm_S} (h : σ' 34 5 = σ 34 5) (hk : kl σ) : kl σ' := by
  obtain ⟨n, n1, n2⟩ := hk
  exact ⟨n, n1, by rw [h]; exact n2⟩
/-- a table of shapes against another -/
def slb (ρ : Nat → Nat) (o o' : sm_Sl) : Bool := match o, o' with
  | .inl t, .inl t' => Nat.blt 1 t || Nat.beq t t'
  | .inl t, .inr _ => Nat.blt 1 t
  | .inr k, .inr k' => Nat.beq (ρ k) k'
  | .inr _, .inl _ => false
def flb (ρ : Nat → Nat) : List sm_Sl → List sm_Sl → Bool
  | [], _ => true
  | _ :: _, [] => false
  | o :: t, o' :: t' => slb ρ o o' && flb ρ t t'
def clb (ρ : Nat → Nat) (c : sm_Sh) (c' : Option sm_Sh) : Bool := match c, c' with
  | .inl q, some (.inl q') => Nat.beq q.1 q'.1 && Nat.beq q.2 q'.2
  | .inr q, some (.inr q') => Nat.beq q.1 q'.1 && flb ρ q.2 q'.2
  | _, _ => false
def shb (ρ : Nat → Nat) (SH2 : List sm_Sh) : Nat → List sm_Sh → Bool
  | _, [] => true
  | k, c :: t => clb ρ c SH2[ρ k]? && shb ρ SH2 (k + 1) t
theorem slb_ok {ρ : Nat → Nat} {o o' : sm_Sl} (h : slb ρ o o' = true) : sm_slR ρ o o' := by
  unfold slb at h
  split at h
  · next t t' =>
    intro ht
    rw [Bool.or_eq_true] at h
    rcases h with h | h
    · have := Nat.le_of_ble_eq_true h
      omega
    · rw [Nat.eq_of_beq_eq_true h]
  · next t k =>
    intro ht
    have := Nat.le_of_ble_eq_true h
    omega
  · next k k' =>
    show Sum.inr k' = Sum.inr (ρ k)
    rw [Nat.eq_of_beq_eq_true h]
  · cases h
theorem flb_ok {ρ : Nat → Nat} : ∀ (l l' : List sm_Sl), flb ρ l l' = true → ∀ (j : Nat) (o : sm_Sl), l[j]? = some o → ∃ o', l'[j]? = some o' ∧ sm_slR ρ o o'
  | [], _, _, j, o, h => by cases j <;> cases h
  | _ :: _, [], h, _, _, _ => by cases h
  | a :: t, a' :: t', h, j, o, hj => by
    unfold flb at h
    rw [Bool.and_eq_true] at h
    cases j with
    | zero =>
      cases hj
      exact ⟨a', rfl, slb_ok h.1⟩
    | succ j => exact flb_ok t t' h.2 j o hj
theorem shb_ok {ρ : Nat → Nat} {SH2 : List sm_Sh} : ∀ (l : List sm_Sh) (n : Nat), shb ρ SH2 n l = true → ∀ (k : Nat) (c : sm_Sh), l[k]? = some c → clb ρ c SH2[ρ (n + k)]? = true
  | [], _, _, k, c, h => by cases k <;> cases h
  | a :: t, n, h, k, c, hk => by
    unfold shb at h
    rw [Bool.and_eq_true] at h
    cases k with
    | zero =>
      cases hk
      exact h.1
    | succ k =>
      have := shb_ok t (n + 1) h.2 k c hk
      rw [show n + (k + 1) = n + 1 + k by omega]
      exact this
theorem shR_of {ρ : Nat → Nat} {SH1 SH2 : List sm_Sh} (h : shb ρ SH2 0 SH1 = true) (hi : ∀ i j, i < SH1.length → j < SH1.length → ρ i = ρ j → i = j) (ha : ∀ a, 1000 ≤ a → ρ a = a) (hl : SH2.length ≤ 1000) : sm_shR ρ SH1 SH2 := by
  have key := shb_ok SH1 0 h
  refine ⟨fun k q hk => ?_, fun k ci fl hk => ?_, hi, ha, hl⟩
  · have := key k _ hk
    rw [Nat.zero_add] at this
    unfold clb at this
    split at this
    · next q1 q2 e1 e2 =>
      cases e1
      rw [e2]
      rw [Bool.and_eq_true] at this
      obtain ⟨a, b⟩ := q
      obtain ⟨a', b'⟩ := q2
      have h1 : a = a' := Nat.eq_of_beq_eq_true this.1
      have h2 : b = b' := Nat.eq_of_beq_eq_true this.2
      rw [h1, h2]
    · next e1 _ => cases e1
    · cases this
  · have := key k _ hk
    rw [Nat.zero_add] at this
    unfold clb at this
    split at this
    · next e1 _ => cases e1
    · next q1 q2 e1 e2 =>
      cases e1
      rw [Bool.and_eq_true] at this
      obtain ⟨a', fl'⟩ := q2
      have h1 : ci = a' := Nat.eq_of_beq_eq_true this.1
      subst h1
      exact ⟨fl', e2, flb_ok fl fl' this.2⟩
    · cases this
def rT (k : Nat) : Nat := if k < 42 then 43 + k else k
def r2 (a b : Nat) (k : Nat) : Nat := if k < 41 then a + k else if k < 82 then b + (k - 41) else k
def rM (k : Nat) : Nat := if k < 6 then 168 + k else k
set_option maxRecDepth 100000 in
theorem shDF : sm_shR id xD xF := shR_of (by decide +kernel) (fun _ _ _ _ h => h) (fun _ _ => rfl) (by decide)
set_option maxRecDepth 100000 in
theorem shTF : sm_shR rT xD xF := shR_of (by decide +kernel) (fun i j hi hj h => by
  have hi : i < 42 := hi
  have hj : j < 42 := hj
  unfold rT at h
  rw [if_pos hi, if_pos hj] at h
  omega) (fun a h => if_neg (by omega)) (by decide)
set_option maxRecDepth 100000 in
theorem shMF : sm_shR rM xM xF := shR_of (by decide +kernel) (fun i j hi hj h => by
  have hi : i < 6 := hi
  have hj : j < 6 := hj
  unfold rM at h
  rw [if_pos hi, if_pos hj] at h
  omega) (fun a h => if_neg (by omega)) (by decide)
set_option maxRecDepth 100000 in
theorem shNF : sm_shR rM xN xF := shR_of (by decide +kernel) (fun i j hi hj h => by
  have hi : i < 6 := hi
  have hj : j < 6 := hj
  unfold rM at h
  rw [if_pos hi, if_pos hj] at h
  omega) (fun a h => if_neg (by omega)) (by decide)
theorem r2_inj {a b : Nat} (hab : a + 41 ≤ b ∨ b + 41 ≤ a) (i j : Nat) (hi : i < 82) (hj : j < 82) (h : r2 a b i = r2 a b j) : i = j := by
  unfold r2 at h
  rw [if_pos hi, if_pos hj] at h
  split at h <;> split at h <;> omega
theorem r2_id {a b : Nat} (k : Nat) (h : 1000 ≤ k) : r2 a b k = k := by
  unfold r2
  rw [if_neg (by omega), if_neg (by omega)]
set_option maxRecDepth 100000 in
theorem shP1 : sm_shR (r2 43 0) xP xF := shR_of (by decide +kernel) (r2_inj (by omega)) r2_id (by decide)
set_option maxRecDepth 100000 in
theorem shP2 : sm_shR (r2 43 86) xP xF := shR_of (by decide +kernel) (r2_inj (by omega)) r2_id (by decide)
set_option maxRecDepth 100000 in
theorem shP3 : sm_shR (r2 86 0) xP xF := shR_of (by decide +kernel) (r2_inj (by omega)) r2_id (by decide)
set_option maxRecDepth 100000 in
theorem shP4 : sm_shR (r2 86 43) xP xF := shR_of (by decide +kernel) (r2_inj (by omega)) r2_id (by decide)
set_option maxRecDepth 100000 in
theorem shP5 : sm_shR (r2 0 127) xP xF := shR_of (by decide +kernel) (r2_inj (by omega)) r2_id (by decide)
set_option maxRecDepth 100000 in
theorem shP6 : sm_shR (r2 127 0) xP xF := shR_of (by decide +kernel) (r2_inj (by omega)) r2_id (by decide)
/-- from the small world's store to the big one's -/
theorem stD {ρ : Nat → Nat} {τ σ' : sm_S} (h : sm_stR ρ xD τ σ') : keR τ (sh ρ σ') ∧ (sh ρ σ') 34 5 = τ 34 5 := by
  have arr : ∀ (k : Nat) (q : Nat × Nat), xD[k]? = some (.inl q) → (sh ρ σ') k = τ k := fun k q hk => h.1 k q hk
  refine ⟨⟨fun f _ => by rw [arr 6 (0, 256) rfl], fun b _ => ⟨by rw [arr 9 (0, 96) rfl], by rw [arr 10 (0, 96) rfl], by rw [arr 12 (0, 96) rfl], by rw [arr 14 (0, 96) rfl], by rw [arr 15 (0, 96) rfl]⟩, fun s _ => ⟨by rw [arr 18 (0, 8) rfl], by rw [arr 20 (0, 8) rfl], by rw [arr 23 (0, 8) rfl], by rw [arr 24 (0, 8) rfl]⟩, fun t _ => ⟨by rw [arr 28 (0, 6) rfl], by rw [arr 31 (0, 6) rfl], by rw [arr 33 (0, 6) rfl]⟩, ?_, by rw [arr 39 (0, 4) rfl]⟩, ?_⟩
  · exact h.2 26 6 _ 7 0 rfl rfl (by omega)
  · exact h.2 34 3 _ 5 0 rfl rfl (by omega)
theorem stD_kk {ρ : Nat → Nat} {τ σ' : sm_S} (h : sm_stR ρ xD τ σ') (hk : kk τ) : kk (sh ρ σ') := kk_eqr (stD h).1 (kl_of (stD h).2 hk.2.2.2.2.1) hk
/-- outside of what is seen nothing changes -/
theorem off_out {ρ : Nat → Nat} {SH1 : List sm_Sh} {n : Nat} (hn : SH1.length = n) {σ σ' : sm_S} (h : sm_off ρ SH1 σ σ') {a : Nat} (ha : ∀ k, k < n → ρ k ≠ a) : σ' a = σ a := by
  funext i
  refine h a i ?_
  rintro ⟨k, hk, hv⟩
  have hlt : k < SH1.length := by
    rcases hv with ⟨q, hq⟩ | ⟨ci, fl, t, f1, -⟩
    · exact (List.getElem?_eq_some_iff.mp hq).1
    · exact (List.getElem?_eq_some_iff.mp f1).1
  exact ha k (by omega) hk
/-- now: calls that change -/
theorem nwK {j : Nat} {as : List Value} {σ : sm_S} {P : Int32 → sm_S → Prop} (hP : ∀ x τ, P x τ → kk τ) (h : xC xD j as σ (sm_I P)) : xC xF j as σ (sm_I (fun _ σ' => kk σ' ∧ ∀ a, 42 ≤ a → σ' a = σ a)) := by
  refine sm_C.mono (sm_cv_ids as ▸ x_up shDF h) ?_
  rintro r σ' ⟨r1, τ, rfl, ⟨x, rfl, hx⟩, hs, ho⟩
  exact ⟨x, rfl, stD_kk hs (hP x τ hx), fun a ha => off_out (n := 42) rfl ho (fun k hk z => by have z : k = a := z; omega)⟩
theorem nwV {j : Nat} {as : List Value} {σ : sm_S} {P : sm_S → Prop} (hP : ∀ τ, P τ → kk τ) (h : xC xD j as σ (sm_V P)) : xC xF j as σ (sm_V (fun σ' => kk σ' ∧ ∀ a, 42 ≤ a → σ' a = σ a)) := by
  refine sm_C.mono (sm_cv_ids as ▸ x_up shDF h) ?_
  rintro r σ' ⟨r1, τ, rfl, ⟨rfl, hx⟩, hs, ho⟩
  exact ⟨rfl, stD_kk hs (hP τ hx), fun a ha => off_out (n := 42) rfl ho (fun k hk z => by have z : k = a := z; omega)⟩
theorem nw0 {j : Nat} {as : List Value} {σ : sm_S} {P : Int32 → Prop} (h : xC xD j as σ (sm_I (fun x τ => P x ∧ τ = σ))) : xC xF j as σ (sm_I (fun x σ' => P x ∧ σ' = σ)) := x_up0 shDF (sm_cv_ids as) h
theorem nw1 {j : Nat} {as : List Value} {σ : sm_S} (h : xC xD j as σ (sm_I (fun _ τ => τ = σ))) : xC xF j as σ (sm_I (fun _ σ' => σ' = σ)) := x_up1 shDF (sm_cv_ids as) h
/-- the trial -/
theorem rT_bs {σ : sm_S} (k : Nat) (hk : k < 41) : sh rT σ k = bs 43 σ k := by
  show σ (rT k) = σ (43 + k)
  unfold rT
  rw [if_pos (by omega)]
theorem tr_kk {σ : sm_S} : kk (sh rT σ) → kk (bs 43 σ) := kk_of (fun k hk => (rT_bs k hk).symm)
theorem kk_tr {σ : sm_S} : kk (bs 43 σ) → kk (sh rT σ) := kk_of (fun k hk => rT_bs k hk)
theorem rT_out {a : Nat} (h : a < 43 ∨ 85 ≤ a) : ∀ k, k < 42 → rT k ≠ a := by
  intro k hk
  unfold rT
  rw [if_pos hk]
  omega
theorem trK {j : Nat} {as as' : List Value} {σ : sm_S} {P : Int32 → sm_S → Prop} (ha : as.map (sm_cv rT) = as') (hP : ∀ x τ, P x τ → kk τ) (h : xC xD j as (sh rT σ) (sm_I P)) : xC xF j as' σ (sm_I (fun _ σ' => kk (bs 43 σ') ∧ ∀ a, a < 43 ∨ 85 ≤ a → σ' a = σ a)) := by
  subst ha
  refine (x_up shTF h).mono ?_
  rintro r σ' ⟨r1, τ, rfl, ⟨x, rfl, hx⟩, hs, ho⟩
  exact ⟨x, rfl, tr_kk (stD_kk hs (hP x τ hx)), fun a ha => off_out (n := 42) rfl ho (rT_out ha)⟩
theorem trV {j : Nat} {as as' : List Value} {σ : sm_S} {P : sm_S → Prop} (ha : as.map (sm_cv rT) = as') (hP : ∀ τ, P τ → kk τ) (h : xC xD j as (sh rT σ) (sm_V P)) : xC xF j as' σ (sm_V (fun σ' => kk (bs 43 σ') ∧ ∀ a, a < 43 ∨ 85 ≤ a → σ' a = σ a)) := by
  subst ha
  refine (x_up shTF h).mono ?_
  rintro r σ' ⟨r1, τ, rfl, ⟨rfl, hx⟩, hs, ho⟩
  exact ⟨rfl, tr_kk (stD_kk hs (hP τ hx)), fun a ha => off_out (n := 42) rfl ho (rT_out ha)⟩
end
