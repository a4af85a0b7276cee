/-! ===== the model: free places ===== -/
theorem t_smod : ∀ k, k < 6 → ((nI k &&& 31).toBitVec.smod 32).toNat = k := by decide
theorem t_fl {f o : Int32} {n k : Nat} (hf : f.toInt = n) (hn : n < 1000) (ho : o.toInt = k) (hk : k ≤ 5) : ((f >>> (o &&& 31)) <<< (o &&& 31)).toInt = ((n / 2 ^ k * 2 ^ k : Nat) : Int) := by
  have h0 := Nat.div_mul_le_self n (2 ^ k)
  rw [t_nI hf, t_nI ho, pk_shrN (by omega) _ k (t_smod k (by omega)), pk_shlN _ k (t_smod k (by omega)) (by omega), nI_toInt (by omega)]
/-- are the 2^o frames from fr on free? -/
theorem l_areFree {a1 a2 a3 : Int32} {fr o : Nat} (h3 : a3.toInt = fr) (ho : a2.toInt = o) (ho5 : o ≤ 5) (hfr : fr < 700) (σ : sm_S) : ∀ (d k : Nat) (a4 : Int32), a4.toInt = ((fr + k : Nat) : Int) → k + d = 2 ^ o → (∀ j, j < k → σ 1 (18 + 3 * (fr + j)) = 1) →
    xE xM m_M_areFree 9 [.ref 0, .int a1, .int a2, .int a3, .int a4] [] σ (sm_I (fun x σ' => ((x = 1 ∧ ∀ j, j < 2 ^ o → σ 1 (18 + 3 * (fr + j)) = 1) ∨ (x = 0 ∧ ∃ j, j < 2 ^ o ∧ σ 1 (18 + 3 * (fr + j)) ≠ 1)) ∧ σ' = σ)) := by
  have hp := t_pw ho5
  have hb : (a3 + ((1 : Int32) <<< (a2 &&& 31))).toInt = ((fr + 2 ^ o : Nat) : Int) := by
    rw [t_add h3 (t_pow ho (by omega)) (by omega) (by omega)]
    omega
  intro d
  induction d with
  | zero =>
    intro k a4 h4 hk hall
    refine w_M_areFree_9 a1 a2 a3 a4 σ _ ⟨fun _ => ⟨Or.inr rfl, _, rfl, Or.inl ⟨rfl, fun j hj => hall j (by omega)⟩, rfl⟩, fun h => absurd ?_ h⟩
    rw [t_le, hb, h4]
    omega
  | succ d ih =>
    intro k a4 h4 hk hall
    refine w_M_areFree_9 a1 a2 a3 a4 σ _ ⟨fun h => ?_, fun h => (c_isFree h4 (by omega) σ).int ?_⟩
    · rw [t_le, hb, h4] at h
      omega
    · rintro x _ ⟨hx, rfl⟩
      rcases hx with ⟨rfl, hx⟩ | ⟨rfl, hx⟩
      · refine ⟨fun _ => ih (k + 1) (a4 + 1) ?_ (by omega) (fun j hj => ?_), fun h => absurd (by decide) h⟩
        · rw [t_add h4 (y := 1) rfl (by omega) (by omega)]
          omega
        · rcases Nat.lt_succ_iff_lt_or_eq.mp hj with h1 | rfl
          · exact hall j h1
          · exact hx
      · exact ⟨fun h => absurd rfl h, fun _ => ⟨Or.inl rfl, _, rfl, Or.inr ⟨rfl, k, by omega, hx⟩, rfl⟩⟩
theorem c_areFree {f o : Int32} {n k : Nat} (hf : f.toInt = n) (hn : n < 700) (ho : o.toInt = k) (hk : k ≤ 5) (σ : sm_S) : xC xM j_M_areFree [.ref 0, .int f, .int o] σ (sm_I (fun x σ' => ((x = 1 ∧ ∀ j, j < 2 ^ k → σ 1 (18 + 3 * (n / 2 ^ k * 2 ^ k + j)) = 1) ∨ (x = 0 ∧ ∃ j, j < 2 ^ k ∧ σ 1 (18 + 3 * (n / 2 ^ k * 2 ^ k + j)) ≠ 1)) ∧ σ' = σ)) := by
  have h1 := t_fl hf (by omega) ho hk
  have h0 := Nat.div_mul_le_self n (2 ^ k)
  exact w_M_areFree f o σ _ (l_areFree h1 ho hk (by omega) σ (2 ^ k) 0 _ (by rw [h1]; rfl) (by omega) (fun j hj => absurd hj (Nat.not_lt_zero j)))
theorem l_hole {a1 : Int32} {n : Nat} (h1 : a1.toInt = n) (hn : n < 700) (σ : sm_S) : ∀ (d k : Nat) (a2 : Int32), a2.toInt = k → k + d = 5 → xE xM m_M_holeOf 2 [.ref 0, .int a1, .int a2] [] σ (sm_I (fun x σ' => (∃ j : Nat, x.toInt = j ∧ j ≤ 5) ∧ σ' = σ)) := by
  intro d
  induction d with
  | zero =>
    intro k a2 h2 hk
    refine w_M_holeOf_2 a1 a2 σ _ ⟨fun _ => ⟨_, rfl, ⟨k, h2, by omega⟩, rfl⟩, fun h => absurd ?_ h⟩
    rw [t_le, h2]
    show (5 : Int) ≤ _
    omega
  | succ d ih =>
    intro k a2 h2 hk
    have h3 : (a2 + 1).toInt = ((k + 1 : Nat) : Int) := by
      rw [t_add h2 (y := 1) rfl (by omega) (by omega)]
      omega
    refine w_M_holeOf_2 a1 a2 σ _ ⟨fun _ => ⟨_, rfl, ⟨k, h2, by omega⟩, rfl⟩, fun h => (c_areFree h1 hn h3 (by omega) σ).int ?_⟩
    rintro x _ ⟨hx, rfl⟩
    exact ⟨fun _ => ⟨_, rfl, ⟨k, h2, by omega⟩, rfl⟩, fun _ => ih (k + 1) _ h3 (by omega)⟩
theorem c_holeOf {a1 : Int32} {n : Nat} (h1 : a1.toInt = n) (hn : n < 700) (σ : sm_S) : xC xM j_M_holeOf [.ref 0, .int a1] σ (sm_I (fun x σ' => (∃ j : Nat, x.toInt = j ∧ j ≤ 5) ∧ σ' = σ)) :=
  w_M_holeOf a1 σ _ (l_hole h1 hn σ 5 0 0 rfl rfl)
theorem l_holeFrom {a1 a2 : Int32} {n : Nat} (h1 : a1.toInt = n) (hn : n < 700) (σ : sm_S) : ∀ (d k : Nat) (a3 : Int32), a3.toInt = k → k + d = 5 → xE xM m_M_holeFrom 2 [.ref 0, .int a1, .int a2, .int a3] [] σ (sm_I (fun x σ' => (∃ j : Nat, x.toInt = j ∧ j ≤ 5) ∧ σ' = σ)) := by
  intro d
  induction d with
  | zero =>
    intro k a3 h2 hk
    refine w_M_holeFrom_2 a1 a2 a3 σ _ ⟨fun _ => ⟨_, rfl, ⟨k, h2, by omega⟩, rfl⟩, fun h => absurd ?_ h⟩
    rw [t_le, h2]
    show (5 : Int) ≤ _
    omega
  | succ d ih =>
    intro k a3 h2 hk
    have h3 : (a3 + 1).toInt = ((k + 1 : Nat) : Int) := by
      rw [t_add h2 (y := 1) rfl (by omega) (by omega)]
      omega
    refine w_M_holeFrom_2 a1 a2 a3 σ _ ⟨fun _ => ⟨_, rfl, ⟨k, h2, by omega⟩, rfl⟩, fun h => (c_areFree h1 hn h3 (by omega) σ).int ?_⟩
    rintro x _ ⟨hx, rfl⟩
    exact ⟨fun _ => ⟨_, rfl, ⟨k, h2, by omega⟩, rfl⟩, fun _ => ih (k + 1) _ h3 (by omega)⟩
theorem c_holeFrom {a1 a2 : Int32} {n k : Nat} (h1 : a1.toInt = n) (hn : n < 700) (h2 : a2.toInt = k) (hk : k ≤ 5) (σ : sm_S) : xC xM j_M_holeFrom [.ref 0, .int a1, .int a2] σ (sm_I (fun x σ' => (∃ j : Nat, x.toInt = j ∧ j ≤ 5) ∧ σ' = σ)) :=
  w_M_holeFrom a1 a2 σ _ (l_holeFrom h1 hn σ (5 - k) k _ h2 (by omega))
/-- the least number that no block has -/
theorem l_freeNumber (σ : sm_S) : ∀ (d k : Nat) (a1 : Int32), a1.toInt = k → k + d = 96 → (∀ j, j < k → σ 1 (786 + 16 * j) ≠ 0) → xE xM m_M_freeNumber 2 [.ref 0, .int a1] [] σ (sm_I (fun x σ' => ((x = -1 ∧ ∀ j, j < 96 → σ 1 (786 + 16 * j) ≠ 0) ∨ ∃ j : Nat, x.toInt = j ∧ j < 96 ∧ σ 1 (786 + 16 * j) = 0 ∧ ∀ i, i < j → σ 1 (786 + 16 * i) ≠ 0) ∧ σ' = σ)) := by
  intro d
  induction d with
  | zero =>
    intro k a1 h1 hk hall
    refine w_M_freeNumber_2 a1 σ _ ⟨fun _ => ⟨_, rfl, Or.inl ⟨rfl, fun j hj => hall j (by omega)⟩, rfl⟩, fun h => absurd ?_ h⟩
    rw [t_le, h1]
    show (96 : Int) ≤ _
    omega
  | succ d ih =>
    intro k a1 h1 hk hall
    refine w_M_freeNumber_2 a1 σ _ ⟨fun h => ?_, fun h => (c_of (k := 0) (j := 0) h1 rfl (by omega) σ).int ?_⟩
    · rw [t_le, h1] at h
      have h : (96 : Int) ≤ k := h
      omega
    · rintro _ _ ⟨rfl, rfl⟩
      refine ⟨fun hx => ih (k + 1) (a1 + 1) ?_ (by omega) (fun j hj => ?_), fun hx => ⟨_, rfl, Or.inr ⟨k, h1, by omega, Classical.not_not.mp hx, hall⟩, rfl⟩⟩
      · rw [t_add h1 (y := 1) rfl (by omega) (by omega)]
        omega
      · rcases Nat.lt_succ_iff_lt_or_eq.mp hj with h2 | rfl
        · exact hall j h2
        · exact hx
theorem c_freeNumber (σ : sm_S) : xC xM j_M_freeNumber [.ref 0] σ (sm_I (fun x σ' => ((x = -1 ∧ ∀ j, j < 96 → σ 1 (786 + 16 * j) ≠ 0) ∨ ∃ j : Nat, x.toInt = j ∧ j < 96 ∧ σ 1 (786 + 16 * j) = 0 ∧ ∀ i, i < j → σ 1 (786 + 16 * i) ≠ 0) ∧ σ' = σ)) :=
  w_M_freeNumber σ _ (l_freeNumber σ 96 0 0 rfl rfl (fun j hj => absurd hj (Nat.not_lt_zero j)))
theorem c_rankOf {s t k : Int32} {n m : Nat} (hs : s.toInt = n) (hn : n < 8) (ht : t.toInt = m) (hm : m < 6) (σ : sm_S) : xC xM j_M_rankOf [.ref 0, .int s, .int k, .int t] σ (sm_I (fun x σ' => -1 ≤ x.toInt ∧ x.toInt ≤ 3 ∧ σ' = σ)) := by
  refine w_M_rankOf s k t σ _ ((c_zoneOf hs hn σ).int ?_)
  rintro x _ ⟨hx, rfl⟩
  refine ⟨by decide, (c_taskAt t _).int ?_⟩
  rintro _ _ ⟨rfl, rfl⟩
  obtain ⟨h1, h2⟩ := ixT (k := 0) (j := 0) ht rfl (by omega)
  refine ⟨h1, ?_⟩
  repeat' first
    | apply And.intro
    | intro _
  all_goals exact ⟨_, rfl, by decide, by decide, rfl⟩
/-- the best place: none, or a multiple of its size -/
theorem l_bestPlace {a1 a2 a3 a4 : Int32} {m o : Nat} (h1 : a1.toInt = m) (hm : m < 6) (h3 : a3.toInt = o) (ho : o ≤ 4) (σ : sm_S) : ∀ (d i : Nat) (a5 a6 a7 a8 : Int32) (v9 v10 : Value), a8.toInt = ((i * 2 ^ o : Nat) : Int) → (i + d) * 2 ^ o = 256 → (a5 = -1 ∨ ∃ p : Nat, a5.toInt = p ∧ p < 256 ∧ p % 2 ^ o = 0) →
    xE xM m_M_bestPlace 12 [.ref 0, .int a1, .int a2, .int a3, .int a4, .int a5, .int a6, .int a7, .int a8, v9, v10] [] σ (sm_I (fun x σ' => (x = -1 ∨ ∃ p : Nat, x.toInt = p ∧ p < 256 ∧ p % 2 ^ o = 0) ∧ σ' = σ)) := by
  have hp := t_pw (k := o) (by omega)
  intro d
  induction d with
  | zero =>
    intro i a5 a6 a7 a8 v9 v10 h8 hi h5
    refine w_M_bestPlace_12 a1 a2 a3 a4 a5 a6 a7 a8 v9 v10 σ _ ⟨fun _ => ⟨_, rfl, h5, rfl⟩, fun h => absurd ?_ h⟩
    rw [t_le, h8]
    show (256 : Int) ≤ _
    rw [Nat.add_zero] at hi
    omega
  | succ d ih =>
    intro i a5 a6 a7 a8 v9 v10 h8 hi h5
    have hi2 : (i + (d + 1)) * 2 ^ o = i * 2 ^ o + (d * 2 ^ o + 2 ^ o) := by rw [Nat.add_mul, Nat.succ_mul]
    have hlt : i * 2 ^ o < 256 := by omega
    have hs8 : (a8 + ((1 : Int32) <<< (a3 &&& 31))).toInt = (((i + 1) * 2 ^ o : Nat) : Int) := by
      rw [t_add h8 (t_pow h3 (by omega)) (by omega) (by omega), Nat.succ_mul]
      omega
    have go : ∀ (b5 b6 b7 : Int32) (w9 w10 : Value), (b5 = -1 ∨ ∃ p : Nat, b5.toInt = p ∧ p < 256 ∧ p % 2 ^ o = 0) → xE xM m_M_bestPlace 12 [.ref 0, .int a1, .int a2, .int a3, .int a4, .int b5, .int b6, .int b7, .int (a8 + ((1 : Int32) <<< (a3 &&& 31))), w9, w10] [] σ (sm_I (fun x σ' => (x = -1 ∨ ∃ p : Nat, x.toInt = p ∧ p < 256 ∧ p % 2 ^ o = 0) ∧ σ' = σ)) :=
      fun b5 b6 b7 w9 w10 hb => ih (i + 1) b5 b6 b7 _ w9 w10 hs8 (by rw [← hi]; congr 1; omega) hb
    have h8g : a8 = -1 ∨ ∃ p : Nat, a8.toInt = p ∧ p < 256 ∧ p % 2 ^ o = 0 := Or.inr ⟨i * 2 ^ o, h8, hlt, Nat.mul_mod_left _ _⟩
    refine w_M_bestPlace_12 a1 a2 a3 a4 a5 a6 a7 a8 v9 v10 σ _ ⟨fun h => ?_, fun h => (c_spanOf h8 σ).int ?_⟩
    · rw [t_le, h8] at h
      have h : (256 : Int) ≤ _ := h
      omega
    · rintro sp _ ⟨hsp, rfl⟩
      have hsp8 : i * 2 ^ o / 32 < 8 := by omega
      refine (c_rankOf hsp hsp8 h1 hm _).int ?_
      rintro rk _ ⟨-, -, rfl⟩
      have h8n : i * 2 ^ o < 700 := by omega
      refine ⟨fun _ => go _ _ _ _ _ h5, fun _ => ⟨fun _ => (c_areFree h8 h8n h3 (by omega) _).int ?_, fun _ => (c_spanOf h8 _).int ?_⟩⟩
      · rintro x6 _ ⟨-, rfl⟩
        refine ⟨fun _ => (c_holeFrom h8 h8n h3 (by omega) _).int ?_, fun _ => go _ _ _ _ _ h5⟩
        rintro x8 _ ⟨-, rfl⟩
        exact ⟨fun _ => go _ _ _ _ _ h8g, fun _ => ⟨fun _ => go _ _ _ _ _ h5, fun _ => ⟨fun _ => go _ _ _ _ _ h8g, fun _ => ⟨fun _ => go _ _ _ _ _ h8g, fun _ => go _ _ _ _ _ h5⟩⟩⟩⟩
      · rintro sp2 _ ⟨hsp2, rfl⟩
        refine (c_spanState hsp2 hsp8 _).int ?_
        rintro st _ ⟨-, rfl⟩
        refine ⟨fun _ => go _ _ _ _ _ h5, fun _ => (c_areFree h8 h8n h3 (by omega) _).int ?_⟩
        rintro x6 _ ⟨-, rfl⟩
        refine ⟨fun _ => (c_holeFrom h8 h8n h3 (by omega) _).int ?_, fun _ => go _ _ _ _ _ h5⟩
        rintro x8 _ ⟨-, rfl⟩
        exact ⟨fun _ => go _ _ _ _ _ h8g, fun _ => ⟨fun _ => go _ _ _ _ _ h5, fun _ => ⟨fun _ => go _ _ _ _ _ h8g, fun _ => ⟨fun _ => go _ _ _ _ _ h8g, fun _ => go _ _ _ _ _ h5⟩⟩⟩⟩
theorem t_256 {o : Nat} (ho : o ≤ 4) : (0 + 256 / 2 ^ o) * 2 ^ o = 256 := by
  rcases (show o = 0 ∨ o = 1 ∨ o = 2 ∨ o = 3 ∨ o = 4 by omega) with rfl | rfl | rfl | rfl | rfl <;> decide
theorem c_bestPlace {a1 a2 a3 a4 : Int32} {m o : Nat} (h1 : a1.toInt = m) (hm : m < 6) (h3 : a3.toInt = o) (ho : o ≤ 4) (σ : sm_S) : xC xM j_M_bestPlace [.ref 0, .int a1, .int a2, .int a3, .int a4] σ (sm_I (fun x σ' => (x = -1 ∨ ∃ p : Nat, x.toInt = p ∧ p < 256 ∧ p % 2 ^ o = 0) ∧ σ' = σ)) :=
  w_M_bestPlace a1 a2 a3 a4 σ _ (l_bestPlace h1 hm h3 ho σ (256 / 2 ^ o) 0 _ _ _ _ _ _ (by rw [Nat.zero_mul]; rfl) (t_256 ho) (Or.inl rfl))
