/-! ===== the class: counts, and what is brought, pressed, gathered ===== -/
theorem le_lineOf (a1 : Int32) (σ : sm_S) : ∀ (d k : Nat) (a2 a3 : Int32), a3.toInt = k → k + d = 6 → xE xD m_K_lineOf 4 [.ref 26, .int a1, .int a2, .int a3] [] σ (sm_I (fun _ σ' => σ' = σ)) := by
  intro d
  induction d with
  | zero =>
    intro k a2 a3 hc hk
    refine d_K_lineOf_4 a1 a2 a3 σ _ ⟨fun _ => ⟨_, rfl, rfl⟩, fun h => absurd ?_ h⟩
    rw [t_le, hc]
    show (6 : Int) ≤ _
    omega
  | succ d ih =>
    intro k a2 a3 hc hk
    have hc' : (a3 + 1).toInt = ((k + 1 : Nat) : Int) := by
      rw [t_add hc (y := 1) rfl (by omega) (by omega)]
      omega
    have v := t_vp (N := 6) hc (by omega)
    have next : ∀ (b0 : Int32), xE xD m_K_lineOf 4 [.ref 26, .int a1, .int b0, .int (a3 + 1)] [] σ (sm_I (fun _ σ' => σ' = σ)) := fun b0 => ih (k + 1) _ _ hc' (by omega)
    refine d_K_lineOf_4 a1 a2 a3 σ _ ⟨fun _ => ⟨_, rfl, rfl⟩, fun _ => ?_⟩
    exact ⟨v, fun _ => next _, fun _ => next _⟩
theorem e_lineOf (a1 : Int32) (σ : sm_S) : xC xD j_K_lineOf [.ref 26, .int a1] σ (sm_I (fun _ σ' => σ' = σ)) := d_K_lineOf a1 σ _ (le_lineOf a1 σ 6 0 _ 0 rfl rfl)
theorem le_waitingSet (σ : sm_S) : ∀ (d k : Nat) (a1 a2 : Int32), a2.toInt = k → k + d = 6 → xE xD m_K_waitingSet 4 [.ref 26, .int a1, .int a2] [] σ (sm_I (fun _ σ' => σ' = σ)) := by
  intro d
  induction d with
  | zero =>
    intro k a1 a2 hc hk
    refine d_K_waitingSet_4 a1 a2 σ _ ⟨fun _ => ⟨_, rfl, rfl⟩, fun h => absurd ?_ h⟩
    rw [t_le, hc]
    show (6 : Int) ≤ _
    omega
  | succ d ih =>
    intro k a1 a2 hc hk
    have hc' : (a2 + 1).toInt = ((k + 1 : Nat) : Int) := by
      rw [t_add hc (y := 1) rfl (by omega) (by omega)]
      omega
    have v := t_vp (N := 6) hc (by omega)
    have next : ∀ (b0 : Int32), xE xD m_K_waitingSet 4 [.ref 26, .int b0, .int (a2 + 1)] [] σ (sm_I (fun _ σ' => σ' = σ)) := fun b0 => ih (k + 1) _ _ hc' (by omega)
    refine d_K_waitingSet_4 a1 a2 σ _ ⟨fun _ => ⟨_, rfl, rfl⟩, fun _ => ?_⟩
    exact ⟨v, fun _ => next _, fun _ => next _⟩
theorem e_waitingSet (σ : sm_S) : xC xD j_K_waitingSet [.ref 26] σ (sm_I (fun _ σ' => σ' = σ)) := d_K_waitingSet  σ _ (le_waitingSet  σ 6 0 _ 0 rfl rfl)
theorem le_goingSet (σ : sm_S) : ∀ (d k : Nat) (a1 a2 : Int32), a2.toInt = k → k + d = 8 → xE xD m_S_goingSet 4 [.ref 17, .int a1, .int a2] [] σ (sm_I (fun _ σ' => σ' = σ)) := by
  intro d
  induction d with
  | zero =>
    intro k a1 a2 hc hk
    refine d_S_goingSet_4 a1 a2 σ _ ⟨fun _ => ⟨_, rfl, rfl⟩, fun h => absurd ?_ h⟩
    rw [t_le, hc]
    show (8 : Int) ≤ _
    omega
  | succ d ih =>
    intro k a1 a2 hc hk
    have hc' : (a2 + 1).toInt = ((k + 1 : Nat) : Int) := by
      rw [t_add hc (y := 1) rfl (by omega) (by omega)]
      omega
    have v := t_vp (N := 8) hc (by omega)
    have next : ∀ (b0 : Int32), xE xD m_S_goingSet 4 [.ref 17, .int b0, .int (a2 + 1)] [] σ (sm_I (fun _ σ' => σ' = σ)) := fun b0 => ih (k + 1) _ _ hc' (by omega)
    refine d_S_goingSet_4 a1 a2 σ _ ⟨fun _ => ⟨_, rfl, rfl⟩, fun _ => ?_⟩
    refine (e_isGoing hc (by omega) σ).int ?_
    rintro x2 σ ⟨-, rfl⟩
    exact ⟨fun _ => next _, fun _ => next _⟩
theorem e_goingSet (σ : sm_S) : xC xD j_S_goingSet [.ref 17] σ (sm_I (fun _ σ' => σ' = σ)) := d_S_goingSet  σ _ (le_goingSet  σ 8 0 _ 0 rfl rfl)
theorem le_ownedBy (a1 : Int32) (σ : sm_S) : ∀ (d k : Nat) (a2 a3 : Int32), a3.toInt = k → k + d = 96 → xE xD m_B_ownedBy 4 [.ref 8, .int a1, .int a2, .int a3] [] σ (sm_I (fun _ σ' => σ' = σ)) := by
  intro d
  induction d with
  | zero =>
    intro k a2 a3 hc hk
    refine d_B_ownedBy_4 a1 a2 a3 σ _ ⟨fun _ => ⟨_, rfl, rfl⟩, fun h => absurd ?_ h⟩
    rw [t_le, hc]
    show (96 : Int) ≤ _
    omega
  | succ d ih =>
    intro k a2 a3 hc hk
    have hc' : (a3 + 1).toInt = ((k + 1 : Nat) : Int) := by
      rw [t_add hc (y := 1) rfl (by omega) (by omega)]
      omega
    have v := t_vp (N := 96) hc (by omega)
    have next : ∀ (b0 : Int32), xE xD m_B_ownedBy 4 [.ref 8, .int a1, .int b0, .int (a3 + 1)] [] σ (sm_I (fun _ σ' => σ' = σ)) := fun b0 => ih (k + 1) _ _ hc' (by omega)
    refine d_B_ownedBy_4 a1 a2 a3 σ _ ⟨fun _ => ⟨_, rfl, rfl⟩, fun _ => ?_⟩
    exact ⟨v, fun _ => next _, fun _ => ⟨v, fun _ => next _, fun _ => next _⟩⟩
theorem e_ownedBy (a1 : Int32) (σ : sm_S) : xC xD j_B_ownedBy [.ref 8, .int a1] σ (sm_I (fun _ σ' => σ' = σ)) := d_B_ownedBy a1 σ _ (le_ownedBy a1 σ 96 0 _ 0 rfl rfl)
theorem le_pinnedBy (a1 : Int32) (σ : sm_S) : ∀ (d k : Nat) (a2 a3 : Int32), a3.toInt = k → k + d = 96 → xE xD m_B_pinnedBy 4 [.ref 8, .int a1, .int a2, .int a3] [] σ (sm_I (fun _ σ' => σ' = σ)) := by
  intro d
  induction d with
  | zero =>
    intro k a2 a3 hc hk
    refine d_B_pinnedBy_4 a1 a2 a3 σ _ ⟨fun _ => ⟨_, rfl, rfl⟩, fun h => absurd ?_ h⟩
    rw [t_le, hc]
    show (96 : Int) ≤ _
    omega
  | succ d ih =>
    intro k a2 a3 hc hk
    have hc' : (a3 + 1).toInt = ((k + 1 : Nat) : Int) := by
      rw [t_add hc (y := 1) rfl (by omega) (by omega)]
      omega
    have v := t_vp (N := 96) hc (by omega)
    have next : ∀ (b0 : Int32), xE xD m_B_pinnedBy 4 [.ref 8, .int a1, .int b0, .int (a3 + 1)] [] σ (sm_I (fun _ σ' => σ' = σ)) := fun b0 => ih (k + 1) _ _ hc' (by omega)
    refine d_B_pinnedBy_4 a1 a2 a3 σ _ ⟨fun _ => ⟨_, rfl, rfl⟩, fun _ => ?_⟩
    exact ⟨v, fun _ => next _, fun _ => ⟨v, next _⟩⟩
theorem e_pinnedBy (a1 : Int32) (σ : sm_S) : xC xD j_B_pinnedBy [.ref 8, .int a1] σ (sm_I (fun _ σ' => σ' = σ)) := d_B_pinnedBy a1 σ _ (le_pinnedBy a1 σ 96 0 _ 0 rfl rfl)
theorem le_howMany (σ : sm_S) : ∀ (d k : Nat) (a1 a2 : Int32), a2.toInt = k → k + d = 96 → xE xD m_B_howMany 4 [.ref 8, .int a1, .int a2] [] σ (sm_I (fun _ σ' => σ' = σ)) := by
  intro d
  induction d with
  | zero =>
    intro k a1 a2 hc hk
    refine d_B_howMany_4 a1 a2 σ _ ⟨fun _ => ⟨_, rfl, rfl⟩, fun h => absurd ?_ h⟩
    rw [t_le, hc]
    show (96 : Int) ≤ _
    omega
  | succ d ih =>
    intro k a1 a2 hc hk
    have hc' : (a2 + 1).toInt = ((k + 1 : Nat) : Int) := by
      rw [t_add hc (y := 1) rfl (by omega) (by omega)]
      omega
    have v := t_vp (N := 96) hc (by omega)
    have next : ∀ (b0 : Int32), xE xD m_B_howMany 4 [.ref 8, .int b0, .int (a2 + 1)] [] σ (sm_I (fun _ σ' => σ' = σ)) := fun b0 => ih (k + 1) _ _ hc' (by omega)
    refine d_B_howMany_4 a1 a2 σ _ ⟨fun _ => ⟨_, rfl, rfl⟩, fun _ => ?_⟩
    exact ⟨v, fun _ => next _, fun _ => next _⟩
theorem e_howMany (σ : sm_S) : xC xD j_B_howMany [.ref 8] σ (sm_I (fun _ σ' => σ' = σ)) := d_B_howMany  σ _ (le_howMany  σ 96 0 _ 0 rfl rfl)
theorem le_framesAt (a1 a2 : Int32) (σ : sm_S) : ∀ (d k : Nat) (a3 a4 : Int32), a4.toInt = k → k + d = 96 → xE xD m_B_framesAt 5 [.ref 8, .int a1, .int a2, .int a3, .int a4] [] σ (sm_I (fun _ σ' => σ' = σ)) := by
  intro d
  induction d with
  | zero =>
    intro k a3 a4 hc hk
    refine d_B_framesAt_5 a1 a2 a3 a4 σ _ ⟨fun _ => ⟨_, rfl, rfl⟩, fun h => absurd ?_ h⟩
    rw [t_le, hc]
    show (96 : Int) ≤ _
    omega
  | succ d ih =>
    intro k a3 a4 hc hk
    have hc' : (a4 + 1).toInt = ((k + 1 : Nat) : Int) := by
      rw [t_add hc (y := 1) rfl (by omega) (by omega)]
      omega
    have v := t_vp (N := 96) hc (by omega)
    have next : ∀ (b0 : Int32), xE xD m_B_framesAt 5 [.ref 8, .int a1, .int a2, .int b0, .int (a4 + 1)] [] σ (sm_I (fun _ σ' => σ' = σ)) := fun b0 => ih (k + 1) _ _ hc' (by omega)
    refine d_B_framesAt_5 a1 a2 a3 a4 σ _ ⟨fun _ => ⟨_, rfl, rfl⟩, fun _ => ?_⟩
    refine ⟨v, fun _ => next _, fun _ => ⟨v, fun _ => next _, fun _ => ⟨v, by decide, by decide, fun _ => next _, fun _ => (e_size hc (by omega) σ).int ?_⟩⟩⟩
    rintro x2 σ ⟨-, rfl⟩
    exact next _
theorem e_framesAt (a1 a2 : Int32) (σ : sm_S) : xC xD j_B_framesAt [.ref 8, .int a1, .int a2] σ (sm_I (fun _ σ' => σ' = σ)) := d_B_framesAt a1 a2 σ _ (le_framesAt a1 a2 σ 96 0 _ 0 rfl rfl)
theorem le_freeInZone (a1 : Int32) (σ : sm_S) : ∀ (d k : Nat) (a2 a3 : Int32), a3.toInt = k → k + d = 8 → xE xD m_Y_freeInZone 4 [.ref 0, .int a1, .int a2, .int a3] [] σ (sm_I (fun _ σ' => σ' = σ)) := by
  intro d
  induction d with
  | zero =>
    intro k a2 a3 hc hk
    refine d_Y_freeInZone_4 a1 a2 a3 σ _ ⟨fun _ => ⟨_, rfl, rfl⟩, fun h => absurd ?_ h⟩
    rw [t_le, hc]
    show (8 : Int) ≤ _
    omega
  | succ d ih =>
    intro k a2 a3 hc hk
    have hc' : (a3 + 1).toInt = ((k + 1 : Nat) : Int) := by
      rw [t_add hc (y := 1) rfl (by omega) (by omega)]
      omega
    have v := t_vp (N := 8) hc (by omega)
    have next : ∀ (b0 : Int32), xE xD m_Y_freeInZone 4 [.ref 0, .int a1, .int b0, .int (a3 + 1)] [] σ (sm_I (fun _ σ' => σ' = σ)) := fun b0 => ih (k + 1) _ _ hc' (by omega)
    refine d_Y_freeInZone_4 a1 a2 a3 σ _ ⟨fun _ => ⟨_, rfl, rfl⟩, fun _ => ?_⟩
    refine ⟨v, fun _ => next _, fun _ => ⟨v, (c_bitCount _ σ).int ?_⟩⟩
    rintro x2 σ rfl
    exact next _
theorem e_freeInZone (a1 : Int32) (σ : sm_S) : xC xD j_Y_freeInZone [.ref 0, .int a1] σ (sm_I (fun _ σ' => σ' = σ)) := d_Y_freeInZone a1 σ _ (le_freeInZone a1 σ 8 0 _ 0 rfl rfl)
theorem le_widestInZone (a1 : Int32) (σ : sm_S) : ∀ (d k : Nat) (a2 a3 : Int32), a3.toInt = k → k + d = 8 → xE xD m_Y_widestInZone 4 [.ref 0, .int a1, .int a2, .int a3] [] σ (sm_I (fun _ σ' => σ' = σ)) := by
  intro d
  induction d with
  | zero =>
    intro k a2 a3 hc hk
    refine d_Y_widestInZone_4 a1 a2 a3 σ _ ⟨fun _ => ⟨_, rfl, rfl⟩, fun h => absurd ?_ h⟩
    rw [t_le, hc]
    show (8 : Int) ≤ _
    omega
  | succ d ih =>
    intro k a2 a3 hc hk
    have hc' : (a3 + 1).toInt = ((k + 1 : Nat) : Int) := by
      rw [t_add hc (y := 1) rfl (by omega) (by omega)]
      omega
    have v := t_vp (N := 8) hc (by omega)
    have next : ∀ (b0 : Int32), xE xD m_Y_widestInZone 4 [.ref 0, .int a1, .int b0, .int (a3 + 1)] [] σ (sm_I (fun _ σ' => σ' = σ)) := fun b0 => ih (k + 1) _ _ hc' (by omega)
    refine d_Y_widestInZone_4 a1 a2 a3 σ _ ⟨fun _ => ⟨_, rfl, rfl⟩, fun _ => ?_⟩
    refine ⟨v, fun _ => next _, fun _ => ⟨v, (c_widest _ σ).int ?_⟩⟩
    rintro x2 σ rfl
    exact next _
theorem e_widestInZone (a1 : Int32) (σ : sm_S) : xC xD j_Y_widestInZone [.ref 0, .int a1] σ (sm_I (fun _ σ' => σ' = σ)) := d_Y_widestInZone a1 σ _ (le_widestInZone a1 σ 8 0 _ 0 rfl rfl)
theorem e_isNode (a : Int32) (σ : sm_S) : xC xD j_A_isNode [.int a] σ (sm_I (fun x σ' => ((x = 1 ∧ ∃ n : Nat, n < 2 ∧ a.toInt = n) ∨ x = 0) ∧ σ' = σ)) := by
  refine d_A_isNode a σ _ ⟨fun _ => ⟨Or.inl rfl, _, rfl, Or.inr rfl, rfl⟩, fun h => ⟨fun _ => ⟨Or.inl rfl, _, rfl, Or.inr rfl, rfl⟩, fun h2 => ⟨Or.inr rfl, _, rfl, Or.inl ⟨rfl, ?_⟩, rfl⟩⟩⟩
  rw [t_lt] at h
  rw [t_le] at h2
  have h : ¬ a.toInt < (0 : Int) := h
  have h2 : ¬ (2 : Int) ≤ a.toInt := h2
  obtain ⟨n, hn⟩ := t_of (x := a) (by omega)
  exact ⟨n, by omega, hn⟩
theorem e_isKind (a : Int32) (σ : sm_S) : xC xD j_A_isKind [.int a] σ (sm_I (fun x σ' => ((x = 1 ∧ ∃ n : Nat, n < 3 ∧ a.toInt = n) ∨ x = 0) ∧ σ' = σ)) := by
  refine d_A_isKind a σ _ ⟨fun _ => ⟨Or.inl rfl, _, rfl, Or.inr rfl, rfl⟩, fun h => ⟨fun _ => ⟨Or.inl rfl, _, rfl, Or.inr rfl, rfl⟩, fun h2 => ⟨Or.inr rfl, _, rfl, Or.inl ⟨rfl, ?_⟩, rfl⟩⟩⟩
  rw [t_lt] at h
  rw [t_le] at h2
  have h : ¬ a.toInt < (0 : Int) := h
  have h2 : ¬ (3 : Int) ≤ a.toInt := h2
  obtain ⟨n, hn⟩ := t_of (x := a) (by omega)
  exact ⟨n, by omega, hn⟩
theorem e_isBlockOrder (a : Int32) (σ : sm_S) : xC xD j_A_isBlockOrder [.int a] σ (sm_I (fun x σ' => ((x = 1 ∧ ∃ n : Nat, n < 5 ∧ a.toInt = n) ∨ x = 0) ∧ σ' = σ)) := by
  refine d_A_isBlockOrder a σ _ ⟨fun _ => ⟨Or.inl rfl, _, rfl, Or.inr rfl, rfl⟩, fun h => ⟨fun _ => ⟨Or.inl rfl, _, rfl, Or.inr rfl, rfl⟩, fun h2 => ⟨Or.inr rfl, _, rfl, Or.inl ⟨rfl, ?_⟩, rfl⟩⟩⟩
  rw [t_lt] at h
  rw [t_le] at h2
  have h : ¬ a.toInt < (0 : Int) := h
  have h2 : ¬ (5 : Int) ≤ a.toInt := h2
  obtain ⟨n, hn⟩ := t_of (x := a) (by omega)
  exact ⟨n, by omega, hn⟩
theorem e_isSpan (a : Int32) (σ : sm_S) : xC xD j_A_isSpan [.int a] σ (sm_I (fun x σ' => ((x = 1 ∧ ∃ n : Nat, n < 8 ∧ a.toInt = n) ∨ x = 0) ∧ σ' = σ)) := by
  refine d_A_isSpan a σ _ ⟨fun _ => ⟨Or.inl rfl, _, rfl, Or.inr rfl, rfl⟩, fun h => ⟨fun _ => ⟨Or.inl rfl, _, rfl, Or.inr rfl, rfl⟩, fun h2 => ⟨Or.inr rfl, _, rfl, Or.inl ⟨rfl, ?_⟩, rfl⟩⟩⟩
  rw [t_lt] at h
  rw [t_le] at h2
  have h : ¬ a.toInt < (0 : Int) := h
  have h2 : ¬ (8 : Int) ≤ a.toInt := h2
  obtain ⟨n, hn⟩ := t_of (x := a) (by omega)
  exact ⟨n, by omega, hn⟩
theorem e_isZone (a : Int32) (σ : sm_S) : xC xD j_A_isZone [.int a] σ (sm_I (fun x σ' => ((x = 1 ∧ ∃ n : Nat, n < 2 ∧ a.toInt = n) ∨ x = 0) ∧ σ' = σ)) := by
  refine d_A_isZone a σ _ ⟨fun _ => ⟨Or.inl rfl, _, rfl, Or.inr rfl, rfl⟩, fun h => ⟨fun _ => ⟨Or.inl rfl, _, rfl, Or.inr rfl, rfl⟩, fun h2 => ⟨Or.inr rfl, _, rfl, Or.inl ⟨rfl, ?_⟩, rfl⟩⟩⟩
  rw [t_lt] at h
  rw [t_le] at h2
  have h : ¬ a.toInt < (0 : Int) := h
  have h2 : ¬ (2 : Int) ≤ a.toInt := h2
  obtain ⟨n, hn⟩ := t_of (x := a) (by omega)
  exact ⟨n, by omega, hn⟩
theorem e_cell (a1 a2 : Int32) (σ : sm_S) (hl : kl σ) : xC xD j_L_cell [.ref 34, .int a1, .int a2] σ (sm_I (fun _ σ' => σ' = σ)) := by
  obtain ⟨n, hn, hn2⟩ := hl
  have keep : ∀ y : Int32, sm_I (fun _ σ' => σ' = σ) (some (.int y)) σ := fun y => ⟨_, rfl, rfl⟩
  refine d_L_cell a1 a2 σ _ ⟨fun _ => keep _, fun h1 => ⟨fun _ => keep _, fun h2 => ⟨fun _ => ⟨fun h3 => ?_, fun h3 => ?_⟩, fun _ => keep _⟩⟩⟩
  all_goals
    rw [t_lt] at h1
    rw [t_le] at h2
    rw [t_le, hn2] at h3
    have h1 : ¬ a1.toInt < (0 : Int) := h1
    have h2 : ¬ (60 : Int) ≤ a1.toInt := h2
    obtain ⟨m, hm⟩ := t_of (x := a1) (by omega)
    have q1 := t_sub hn2 (y := 1) (b := 1) rfl (by omega) (by omega)
    have q2 := t_sub q1 hm (by omega) (by omega)
  · have q3 : (σ 34 5 - 1 - a1 + 60).toInt = ((n + 59 - m : Nat) : Int) := by
      rw [t_add q2 (y := 60) rfl (by omega) (by omega)]
      omega
    have v := t_vp (N := 60) q3 (by omega)
    exact ⟨fun _ => ⟨v, keep _⟩, fun _ => ⟨fun _ => ⟨v, keep _⟩, fun _ => ⟨fun _ => ⟨v, keep _⟩, fun _ => ⟨fun _ => ⟨v, keep _⟩, fun _ => keep _⟩⟩⟩⟩
  · have q3 : (σ 34 5 - 1 - a1).toInt = ((n - 1 - m : Nat) : Int) := by
      rw [q2]
      omega
    have v := t_vp (N := 60) q3 (by omega)
    exact ⟨fun _ => ⟨v, keep _⟩, fun _ => ⟨fun _ => ⟨v, keep _⟩, fun _ => ⟨fun _ => ⟨v, keep _⟩, fun _ => ⟨fun _ => ⟨v, keep _⟩, fun _ => keep _⟩⟩⟩⟩
theorem e_stateOf {a1 : Int32} {f : Nat} (h1 : a1.toInt = f) (hf : f < 256) (σ : sm_S) : xC xD j_F_stateOf [.ref 1, .int a1] σ (sm_I (fun _ σ' => σ' = σ)) := by
  have keep : ∀ y : Int32, sm_I (fun _ σ' => σ' = σ) (some (.int y)) σ := fun y => ⟨_, rfl, rfl⟩
  have v := t_vp (N := 8) (t_d32 h1) (by omega)
  exact d_F_stateOf a1 σ _ ⟨by decide, by decide, v, fun _ => ⟨v, fun _ => ⟨v, fun _ => ⟨v, fun _ => keep _, fun _ => keep _⟩, fun _ => keep _⟩, fun _ => keep _⟩, fun _ => keep _⟩
theorem l_bring166 {a1 a2 a3 a4 a5 a6 : Int32} {o p : Nat} (h3 : a3.toInt = o) (ho : o ≤ 4) (h5 : a5.toInt = p) (hp : p + 2 ^ o ≤ 256) : ∀ (d k : Nat) (a7 : Int32) (τ : sm_S), a7.toInt = k → k + d = 2 ^ o → kk τ → xE xD m_Y_bring 166 [.ref 0, .int a1, .int a2, .int a3, .int a4, .int a5, .int a6, .int a7] [] τ (sm_I (fun _ => kk)) := by
  have v0 := t_vp (x := (0 : Int32)) (n := 0) (N := 11) rfl (by omega)
  have hs : ((1 : Int32) <<< (a3 &&& 31)).toInt = ((2 ^ o : Nat) : Int) := t_pow h3 (by omega)
  intro d
  induction d with
  | zero =>
    intro k a7 τ h7 hk hkk
    refine d_Y_bring_166 a1 a2 a3 a4 a5 a6 a7 τ _ ⟨fun _ => ⟨v0, v0, fun σ1 e1 => ⟨_, rfl, kk_id (by rw [e1]; exact kx.rf.set rfl) hkk⟩⟩, fun h => absurd (by rw [t_le, hs, h7]; omega) h⟩
  | succ d ih =>
    intro k a7 τ h7 hk hkk
    have h7' : (a7 + 1).toInt = ((k + 1 : Nat) : Int) := by
      rw [t_add h7 (y := 1) rfl (by omega) (by omega)]
      omega
    refine d_Y_bring_166 a1 a2 a3 a4 a5 a6 a7 τ _ ⟨fun h => ?_, fun _ => ⟨t_vp (n := p + k) ?_ (by omega), fun σ2 e2 => ih (k + 1) _ σ2 h7' (by omega) (kk_id (by rw [e2]; exact kx.rf.set rfl) hkk)⟩⟩
    · rw [t_le, hs, h7] at h; omega
    · rw [t_add h5 h7 (by omega) (by omega)]; omega
theorem l_bring {a1 a2 a3 a4 : Int32} {m o : Nat} (h1 : a1.toInt = m) (hm : m < 6) (h3 : a3.toInt = o) (ho : o ≤ 4) : ∀ (d k : Nat) (a5 a6 : Int32) (v7 : Value) (σ : sm_S), a6.toInt = k → k + d = 96 → kk σ → (a5 = -1 ∨ ∃ p : Nat, a5.toInt = p ∧ p + 2 ^ o ≤ 256) → xE xD m_Y_bring 13 [.ref 0, .int a1, .int a2, .int a3, .int a4, .int a5, .int a6, v7] [] σ (sm_I (fun _ => kk)) := by
  have v1 := t_vp (x := (1 : Int32)) (n := 1) (N := 11) rfl (by omega)
  have hpos := Nat.two_pow_pos o
  have hs : ((1 : Int32) <<< (a3 &&& 31)).toInt = ((2 ^ o : Nat) : Int) := t_pow h3 (by omega)
  intro d
  induction d with
  | zero =>
    intro k a5 a6 v7 σ h6 hk hkk hP
    refine d_Y_bring_13 a1 a2 a3 a4 a5 a6 v7 σ _ ⟨fun _ => (e_leastNumber σ).int ?_, fun h => absurd ?_ h⟩
    · rintro x2 σ ⟨hx2, rfl⟩
      refine ⟨fun _ => ⟨v1, v1, fun σ3 e3 => ⟨_, rfl, kk_id (by rw [e3]; exact kx.rf.set rfl) hkk⟩⟩, fun n5 => ⟨fun n2 => ?_, fun _ => ⟨v1, v1, fun σ3 e3 => ⟨_, rfl, kk_id (by rw [e3]; exact kx.rf.set rfl) hkk⟩⟩⟩⟩
      obtain ⟨p, p1, p2⟩ := hP.resolve_left n5
      obtain ⟨b, hb, hb2, h9⟩ := hx2.resolve_left n2
      refine (e_begin hb2 hb _ _ _ _ σ).void ?_
      intro σ4 b4
      have k4 := kk_bgn hb b4 p1 h3 ho p2 h1 hm hkk h9
      refine fun σ5 e5 => ⟨t_vp hb2 hb, fun σ6 e6 => (e_give hb2 hb p1 hs hpos p2 σ6).void ?_⟩
      intro σ7 x7
      have x46 : kx [] σ4 σ6 := by subst e5 e6; exact (kx.rf.set rfl).set rfl
      exact l_bring166 h3 ho p1 p2 (2 ^ o) 0 0 σ7 rfl (by omega) (kk_id (x46.tr x7) k4)
    · rw [t_le, h6]
      show (96 : Int) ≤ _
      omega
  | succ d ih =>
    intro k a5 a6 v7 σ h6 hk hkk hP
    have h6' : (a6 + 1).toInt = ((k + 1 : Nat) : Int) := by
      rw [t_add h6 (y := 1) rfl (by omega) (by omega)]
      omega
    refine d_Y_bring_13 a1 a2 a3 a4 a5 a6 v7 σ _ ⟨fun _ => (e_leastNumber σ).int ?_, fun _ => ⟨fun _ => (e_leastNumber σ).int ?_, fun _ => (e_leastUsedCache σ).int ?_⟩⟩
    · rintro x2 σ ⟨hx2, rfl⟩
      refine ⟨fun _ => ⟨v1, v1, fun σ3 e3 => ⟨_, rfl, kk_id (by rw [e3]; exact kx.rf.set rfl) hkk⟩⟩, fun n5 => ⟨fun n2 => ?_, fun _ => ⟨v1, v1, fun σ3 e3 => ⟨_, rfl, kk_id (by rw [e3]; exact kx.rf.set rfl) hkk⟩⟩⟩⟩
      obtain ⟨p, p1, p2⟩ := hP.resolve_left n5
      obtain ⟨b, hb, hb2, h9⟩ := hx2.resolve_left n2
      refine (e_begin hb2 hb _ _ _ _ σ).void ?_
      intro σ4 b4
      have k4 := kk_bgn hb b4 p1 h3 ho p2 h1 hm hkk h9
      refine fun σ5 e5 => ⟨t_vp hb2 hb, fun σ6 e6 => (e_give hb2 hb p1 hs hpos p2 σ6).void ?_⟩
      intro σ7 x7
      have x46 : kx [] σ4 σ6 := by subst e5 e6; exact (kx.rf.set rfl).set rfl
      exact l_bring166 h3 ho p1 p2 (2 ^ o) 0 0 σ7 rfl (by omega) (kk_id (x46.tr x7) k4)
    · rintro x2 σ ⟨hx2, rfl⟩
      refine ⟨fun _ => ⟨v1, v1, fun σ3 e3 => ⟨_, rfl, kk_id (by rw [e3]; exact kx.rf.set rfl) hkk⟩⟩, fun n5 => ⟨fun n2 => ?_, fun _ => ⟨v1, v1, fun σ3 e3 => ⟨_, rfl, kk_id (by rw [e3]; exact kx.rf.set rfl) hkk⟩⟩⟩⟩
      obtain ⟨p, p1, p2⟩ := hP.resolve_left n5
      obtain ⟨b, hb, hb2, h9⟩ := hx2.resolve_left n2
      refine (e_begin hb2 hb _ _ _ _ σ).void ?_
      intro σ4 b4
      have k4 := kk_bgn hb b4 p1 h3 ho p2 h1 hm hkk h9
      refine fun σ5 e5 => ⟨t_vp hb2 hb, fun σ6 e6 => (e_give hb2 hb p1 hs hpos p2 σ6).void ?_⟩
      intro σ7 x7
      have x46 : kx [] σ4 σ6 := by subst e5 e6; exact (kx.rf.set rfl).set rfl
      exact l_bring166 h3 ho p1 p2 (2 ^ o) 0 0 σ7 rfl (by omega) (kk_id (x46.tr x7) k4)
    · rintro x18 σ ⟨hx18, rfl⟩
      refine ⟨fun n18 => ?_, fun _ => (e_leastNumber σ).int ?_⟩
      · obtain ⟨b, hb, hb2, h9, -, -, h14⟩ := hx18.resolve_left n18
        obtain ⟨f, o', w, he⟩ := kb_has (hkk.1 b hb) h9
        refine (e_noteDrop hb2 hb σ hkk.2.2.2.2.1).void ?_
        intro σ19 x19
        refine (e_remove (f := f) (o := o') (w := w) hb2 hb σ19 (eb_cong (by rw [x19.1 9 rfl rfl]) (by rw [x19.1 10 rfl rfl]) (by rw [x19.1 12 rfl rfl]) he)).void ?_
        rintro σ20 ⟨x20, f20⟩
        have k20 := kk_rem hb x20 f20 (kk_id x19 hkk) (by rw [x19.1 14 rfl rfl]; exact h14)
        refine (e_bestPlace h1 hm h3 ho σ20).int ?_
        rintro x22 σ20 ⟨hx22, rfl⟩
        exact ih (k + 1) _ _ _ _ h6' (by omega) k20 hx22
      · rintro x2 σ ⟨hx2, rfl⟩
        refine ⟨fun _ => ⟨v1, v1, fun σ3 e3 => ⟨_, rfl, kk_id (by rw [e3]; exact kx.rf.set rfl) hkk⟩⟩, fun n5 => ⟨fun n2 => ?_, fun _ => ⟨v1, v1, fun σ3 e3 => ⟨_, rfl, kk_id (by rw [e3]; exact kx.rf.set rfl) hkk⟩⟩⟩⟩
        obtain ⟨p, p1, p2⟩ := hP.resolve_left n5
        obtain ⟨b, hb, hb2, h9⟩ := hx2.resolve_left n2
        refine (e_begin hb2 hb _ _ _ _ σ).void ?_
        intro σ4 b4
        have k4 := kk_bgn hb b4 p1 h3 ho p2 h1 hm hkk h9
        refine fun σ5 e5 => ⟨t_vp hb2 hb, fun σ6 e6 => (e_give hb2 hb p1 hs hpos p2 σ6).void ?_⟩
        intro σ7 x7
        have x46 : kx [] σ4 σ6 := by subst e5 e6; exact (kx.rf.set rfl).set rfl
        exact l_bring166 h3 ho p1 p2 (2 ^ o) 0 0 σ7 rfl (by omega) (kk_id (x46.tr x7) k4)
theorem e_bring {a1 a3 : Int32} {m o : Nat} (h1 : a1.toInt = m) (hm : m < 6) (h3 : a3.toInt = o) (ho : o ≤ 4) (a2 a4 : Int32) (σ : sm_S) (hk : kk σ) : xC xD j_Y_bring [.ref 0, .int a1, .int a2, .int a3, .int a4] σ (sm_I (fun _ => kk)) := by
  refine d_Y_bring a1 a2 a3 a4 σ _ ((e_bestPlace h1 hm h3 ho σ).int ?_)
  rintro x2 σ ⟨hx2, rfl⟩
  exact l_bring h1 hm h3 ho 96 0 x2 0 _ _ rfl rfl hk hx2
theorem l_pack {a1 : Int32} {s : Nat} (h1 : a1.toInt = s) (hs : s < 8) : ∀ (d : Nat) (a2 a3 : Int32) (v4 v5 v6 : Value) (σ : sm_S), a3.toInt = (d : Int) - 1 → d ≤ 32 → kk σ → xE xD m_Y_pack 5 [.ref 0, .int a1, .int a2, .int a3, v4, v5, v6] [] σ (sm_I (fun _ => kk)) := by
  intro d
  induction d with
  | zero =>
    intro a2 a3 v4 v5 v6 σ h3 hd hk
    refine d_Y_pack_5 a1 a2 a3 v4 v5 v6 σ _ ⟨fun _ => ⟨_, rfl, hk⟩, fun h => absurd ?_ h⟩
    rw [t_lt, h3]; decide
  | succ d ih =>
    intro a2 a3 v4 v5 v6 σ h3 hd hk
    have h3' : a3.toInt = d := by omega
    have h3n : (a3 + (-1)).toInt = (d : Int) - 1 := by
      rw [t_add h3' (y := -1) rfl (by omega) (by omega)]
      omega
    have next : ∀ (b2 : Int32) (v4 v5 v6 : Value) (τ : sm_S), kk τ → xE xD m_Y_pack 5 [.ref 0, .int a1, .int b2, .int (a3 + (-1)), v4, v5, v6] [] τ (sm_I (fun _ => kk)) := fun b2 v4 v5 v6 τ hτ => ih _ _ _ _ _ τ h3n (by omega) hτ
    have hfr : (a1 * 32 + a3).toInt = ((32 * s + d : Nat) : Int) := by
      rw [t_add (t_s32 h1 (by omega)) h3' (by omega) (by omega)]
      omega
    refine d_Y_pack_5 a1 a2 a3 v4 v5 v6 σ _ ⟨fun _ => ⟨_, rfl, hk⟩, fun _ => (e_blockAt hfr (by omega) σ hk.2.2.2.1).int ?_⟩
    rintro x2 σ ⟨hx2, rfl⟩
    refine ⟨fun _ => next _ _ _ _ _ hk, fun n2 => ?_⟩
    obtain ⟨b, hb, hb2, h9⟩ := hx2.resolve_left n2
    obtain ⟨f, o, w, he⟩ := kb_at hk.1 hb h9
    have h4 := he.2.2.1
    refine ⟨t_vp hb2 hb, fun _ => next _ _ _ _ _ hk, fun _ => (e_isLoose hb2 hb σ).int ?_⟩
    rintro x4 σ ⟨hx4, rfl⟩
    refine ⟨fun n4 => ⟨t_vp h1 hs, t_vp hb2 hb, (c_starts (o := o) ?_ (by omega) _ σ).int ?_⟩, fun _ => next _ _ _ _ _ hk⟩
    · rw [t_nat hb2]; exact he.2.1
    · obtain ⟨-, -, h14⟩ := hx4.resolve_right n4
      rintro x6 σ ⟨rfl, rfl⟩
      refine (c_ntz _ σ).int ?_
      rintro x8 σ ⟨hx8, rfl⟩
      refine ⟨fun _ => next _ _ _ _ _ hk, fun n8 => ?_⟩
      have hp : ∃ p : Nat, p < 32 ∧ x8.toInt = p ∧ p % 2 ^ o = 0 := by
        rcases hx8 with ⟨-, g⟩ | ⟨p, p1, p2, p3⟩
        · rw [t_le, h3', g] at n8
          have n8 : ¬ (d : Int) ≤ 32 := n8
          omega
        · exact ⟨p, p1, p2, st_al (by omega) p1 p3⟩
      obtain ⟨p, p1, p2, p3⟩ := hp
      have p4 := t_al (by omega) p3
      have hpl : (a1 * 32 + x8).toInt = ((32 * s + p : Nat) : Int) := by
        rw [t_add (t_s32 h1 (by omega)) p2 (by omega) (by omega)]
        omega
      refine (e_moveAtOnce hb2 hb hpl σ he (by omega)).void ?_
      rintro σ9 ⟨x9, f9⟩
      exact next _ _ _ _ _ (kk_mov (o := o) hb x9 f9 hpl (by omega) he hk h14)
theorem e_pack {a1 : Int32} {s : Nat} (h1 : a1.toInt = s) (hs : s < 8) (σ : sm_S) (hk : kk σ) : xC xD j_Y_pack [.ref 0, .int a1] σ (sm_I (fun _ => kk)) :=
  d_Y_pack a1 σ _ (l_pack h1 hs 32 _ _ _ _ _ σ rfl (by omega) hk)
theorem l_bringNearer (a1 : Int32) : ∀ (d k : Nat) (a2 a3 : Int32) (v4 : Value) (σ : sm_S), a3.toInt = k → k + d = 96 → kk σ → xE xD m_Y_bringNearer 4 [.ref 0, .int a1, .int a2, .int a3, v4] [] σ (sm_I (fun _ => kk)) := by
  intro d
  induction d with
  | zero =>
    intro k a2 a3 v4 σ h3 hk hkk
    refine d_Y_bringNearer_4 a1 a2 a3 v4 σ _ ⟨fun _ => ⟨_, rfl, hkk⟩, fun h => absurd ?_ h⟩
    rw [t_le, h3]
    show (96 : Int) ≤ _
    omega
  | succ d ih =>
    intro k a2 a3 v4 σ h3 hk hkk
    have h3' : (a3 + 1).toInt = ((k + 1 : Nat) : Int) := by
      rw [t_add h3 (y := 1) rfl (by omega) (by omega)]
      omega
    have next : ∀ (b2 : Int32) (v4 : Value) (τ : sm_S), kk τ → xE xD m_Y_bringNearer 4 [.ref 0, .int a1, .int b2, .int (a3 + 1), v4] [] τ (sm_I (fun _ => kk)) := fun b2 v4 τ hτ => ih (k + 1) _ _ _ τ h3' (by omega) hτ
    refine d_Y_bringNearer_4 a1 a2 a3 v4 σ _ ⟨fun _ => ⟨_, rfl, hkk⟩, fun _ => (e_has a3 σ).int ?_⟩
    rintro x2 σ ⟨hx2, rfl⟩
    refine ⟨fun _ => ⟨fun _ => next _ _ _ hkk, fun z => absurd rfl z⟩, fun n2 => ?_⟩
    obtain ⟨-, b, hb, hb2, h9⟩ := hx2.resolve_right n2
    obtain ⟨f, o, w, he⟩ := kb_has (hkk.1 b hb) h9
    refine ⟨t_vp hb2 hb, fun _ => ⟨fun _ => next _ _ _ hkk, fun z => absurd rfl z⟩, fun _ => (e_nearerPlace hb2 hb σ he).int ?_⟩
    rintro x6 σ ⟨hx6, rfl⟩
    refine ⟨fun _ => next _ _ _ hkk, fun n6 => ?_⟩
    obtain ⟨h14, p, p1, p2⟩ := hx6.resolve_left n6
    refine (e_moveAtOnce hb2 hb p1 σ he p2).void ?_
    rintro σ9 ⟨x9, f9⟩
    exact next _ _ _ (kk_mov (o := o) hb x9 f9 p1 p2 he hkk h14)
theorem e_bringNearer (a1 : Int32) (σ : sm_S) (hk : kk σ) : xC xD j_Y_bringNearer [.ref 0, .int a1] σ (sm_I (fun _ => kk)) :=
  d_Y_bringNearer a1 σ _ (l_bringNearer a1 96 0 _ 0 _ σ rfl rfl hk)
