/-! ===== the model: what is told ===== -/
theorem in_n {a c : Int32} {C : Nat} (hc : c.toInt = C) (h : (0 : Int32).toInt ≤ a.toInt) (h2 : a.toInt ≤ c.toInt) : ∃ n : Nat, a.toInt = n ∧ n ≤ C := by
  have h : (0 : Int) ≤ a.toInt := h
  obtain ⟨n, hn⟩ := t_of h
  exact ⟨n, hn, by omega⟩
theorem c_frame {N : Nat} (a1 a2 : Int32) (σ : sm_S) (hj : jj N (σ 1)) : xC xM j_M_frame [.ref 0, .int a1, .int a2] σ (sm_I (pubX N 0 σ)) := by
  refine w_M_frame a1 a2 σ _ (fun σ1 e1 => (c_isIn a1 0 255 σ1).int ?_)
  rintro x3 σ1 ⟨hx3, rfl⟩
  have keep : ∀ y : Int32, sm_I (pubX N 0 σ) (some (.int y)) σ1 := fun y => ⟨_, rfl, pub_X (pub_keep hj e1)⟩
  refine ⟨fun _ => keep _, fun n3 => (c_isIn a2 0 2 _).int ?_⟩
  obtain ⟨-, g1, g2⟩ := hx3.resolve_right (fun z => n3 z.1)
  obtain ⟨n, hn, hn2⟩ := in_n (C := 255) rfl g1 g2
  rintro x5 σ1 ⟨hx5, rfl⟩
  refine ⟨fun n5 => (c_frameAt a1 _).int ?_, fun _ => keep _⟩
  obtain ⟨-, g3, g4⟩ := hx5.resolve_right (fun z => n5 z.1)
  obtain ⟨m, hm, hm2⟩ := in_n (C := 2) rfl g3 g4
  rintro x7 σ1 ⟨rfl, rfl⟩
  exact ⟨t_vp (t_ix (C := 18) (M := 3) rfl rfl hn hm (by omega)) (by omega), fun _ => keep _, fun _ => keep _⟩
theorem c_block {N : Nat} (a1 a2 : Int32) (σ : sm_S) (hj : jj N (σ 1)) : xC xM j_M_block [.ref 0, .int a1, .int a2] σ (sm_I (pubX N 0 σ)) := by
  refine w_M_block a1 a2 σ _ (fun σ1 e1 => (c_isBlock a1 σ1).int ?_)
  rintro x3 σ1 ⟨hx3, rfl⟩
  have keep : ∀ y : Int32, sm_I (pubX N 0 σ) (some (.int y)) σ1 := fun y => ⟨_, rfl, pub_X (pub_keep hj e1)⟩
  refine ⟨fun _ => keep _, fun n3 => (c_isIn a2 0 8 _).int ?_⟩
  obtain ⟨-, n, hn2, hn, -⟩ := hx3.resolve_right (fun z => n3 z.1)
  rintro x5 σ1 ⟨hx5, rfl⟩
  refine ⟨fun n5 => ?_, fun _ => keep _⟩
  obtain ⟨-, g3, g4⟩ := hx5.resolve_right (fun z => n5 z.1)
  obtain ⟨m, hm, hm2⟩ := in_n (C := 8) rfl g3 g4
  have hm1 : (a2 + 1).toInt = ((m + 1 : Nat) : Int) := by
    rw [t_add hm (y := 1) rfl (by omega) (by omega)]
    omega
  refine (c_of hn hm1 (by omega) _).int ?_
  rintro x7 σ1 ⟨-, rfl⟩
  exact ⟨fun _ => keep _, fun _ => keep _⟩
theorem c_span {N : Nat} (a1 a2 : Int32) (σ : sm_S) (hj : jj N (σ 1)) : xC xM j_M_span [.ref 0, .int a1, .int a2] σ (sm_I (pubX N 0 σ)) := by
  refine w_M_span a1 a2 σ _ (fun σ1 e1 => (c_isSpan a1 σ1).int ?_)
  rintro x3 σ1 ⟨hx3, rfl⟩
  have keep : ∀ y : Int32, sm_I (pubX N 0 σ) (some (.int y)) σ1 := fun y => ⟨_, rfl, pub_X (pub_keep hj e1)⟩
  refine ⟨fun _ => keep _, fun n3 => (c_isIn a2 0 10 _).int ?_⟩
  obtain ⟨-, n, hn2, hn⟩ := hx3.resolve_right (fun z => n3 z.1)
  have vs : ∀ (c : Int32) (j : Nat), c.toInt = j → j < 8 → vp_in (2358 + 8 * a1 + c) 2662 := fun c j hc hj => t_vp (t_ix (C := 2358) (M := 8) rfl rfl hn hc (by omega)) (by omega)
  rintro x5 σ1 ⟨-, rfl⟩
  refine ⟨fun n5 => (c_spanAt a1 _).int ?_, fun _ => keep _⟩
  rintro x7 σ1 ⟨rfl, rfl⟩
  refine ⟨fun _ => ⟨fun _ => ⟨fun _ => ⟨fun _ => ⟨fun _ => ⟨fun _ => ⟨fun _ => ⟨vs 7 7 rfl (by omega), keep _⟩, fun _ => ⟨vs 6 6 rfl (by omega), keep _⟩⟩, fun _ => ⟨vs 4 4 rfl (by omega), keep _⟩⟩, fun _ => ⟨vs 3 3 rfl (by omega), keep _⟩⟩, fun _ => ⟨vs 2 2 rfl (by omega), keep _⟩⟩, fun _ => (c_manyIn hn hn2 _ _).int ?_⟩, fun _ => (c_zoneOf hn hn2 _).int ?_⟩, fun _ => ⟨vs 0 0 rfl (by omega), keep _⟩⟩
  · rintro x9 σ1 rfl; exact keep _
  · rintro x9 σ1 ⟨-, rfl⟩; exact keep _
theorem l_ownsMany (a1 a2 : Int32) (σ : sm_S) : ∀ (d k : Nat) (a3 a4 : Int32), a4.toInt = k → k + d = 96 → xE xM m_M_ownsMany 5 [.ref 0, .int a1, .int a2, .int a3, .int a4] [] σ (sm_I (fun _ σ' => σ' = σ)) := by
  intro d
  induction d with
  | zero =>
    intro k a3 a4 h4 hk
    refine w_M_ownsMany_5 a1 a2 a3 a4 σ _ ⟨fun _ => ⟨_, rfl, rfl⟩, fun h => absurd ?_ h⟩
    rw [t_le, h4]
    show (96 : Int) ≤ _
    omega
  | succ d ih =>
    intro k a3 a4 h4 hk
    have h4' : (a4 + 1).toInt = ((k + 1 : Nat) : Int) := by
      rw [t_add h4 (y := 1) rfl (by omega) (by omega)]
      omega
    have next : ∀ b : Int32, xE xM m_M_ownsMany 5 [.ref 0, .int a1, .int a2, .int b, .int (a4 + 1)] [] σ (sm_I (fun _ σ' => σ' = σ)) := fun b => ih (k + 1) b _ h4' (by omega)
    refine w_M_ownsMany_5 a1 a2 a3 a4 σ _ ⟨fun _ => ⟨_, rfl, rfl⟩, fun _ => (c_isBlock a4 σ).int ?_⟩
    rintro x2 σ ⟨-, rfl⟩
    refine ⟨fun _ => next _, fun _ => ⟨fun _ => (c_hasPin h4 (by omega) _).int ?_, fun _ => (c_of (k := 4) (j := 4) h4 rfl (by omega) _).int ?_⟩⟩
    · rintro x4 σ ⟨-, rfl⟩
      exact ⟨fun _ => next _, fun _ => next _⟩
    · rintro x4 σ ⟨-, rfl⟩
      exact ⟨fun _ => next _, fun _ => next _⟩
theorem c_ownsMany (a1 a2 : Int32) (σ : sm_S) : xC xM j_M_ownsMany [.ref 0, .int a1, .int a2] σ (sm_I (fun _ σ' => σ' = σ)) := w_M_ownsMany a1 a2 σ _ (l_ownsMany a1 a2 σ 96 0 0 0 rfl rfl)
theorem c_task {N : Nat} (a1 a2 : Int32) (σ : sm_S) (hj : jj N (σ 1)) : xC xM j_M_task [.ref 0, .int a1, .int a2] σ (sm_I (pubX N 0 σ)) := by
  refine w_M_task a1 a2 σ _ (fun σ1 e1 => (c_isTask a1 σ1).int ?_)
  rintro x3 σ1 ⟨hx3, rfl⟩
  have keep : ∀ y : Int32, sm_I (pubX N 0 σ) (some (.int y)) σ1 := fun y => ⟨_, rfl, pub_X (pub_keep hj e1)⟩
  refine ⟨fun _ => keep _, fun n3 => (c_isIn a2 0 5 _).int ?_⟩
  obtain ⟨-, n, hn2, hn⟩ := hx3.resolve_right (fun z => n3 z.1)
  have vs : ∀ (c : Int32) (j : Nat), c.toInt = j → j < 6 → vp_in (2322 + 6 * a1 + c) 2662 := fun c j hc hj => t_vp (t_ix (C := 2322) (M := 6) rfl rfl hn hc (by omega)) (by omega)
  rintro x5 σ1 ⟨-, rfl⟩
  refine ⟨fun n5 => (c_taskAt a1 _).int ?_, fun _ => keep _⟩
  rintro x7 σ1 ⟨rfl, rfl⟩
  refine ⟨fun _ => ⟨fun _ => ⟨fun _ => ⟨fun _ => ⟨fun _ => (c_ownsMany _ _ _).int ?_, fun _ => (c_ownsMany _ _ _).int ?_⟩, fun _ => ⟨vs 5 5 rfl (by omega), keep _⟩⟩, fun _ => ⟨vs 1 1 rfl (by omega), keep _⟩⟩, fun _ => ⟨vs 1 1 rfl (by omega), fun _ => keep _, fun _ => keep _⟩⟩, fun _ => ⟨vs 0 0 rfl (by omega), keep _⟩⟩
  · rintro x9 σ1 rfl; exact keep _
  · rintro x9 σ1 rfl; exact keep _
theorem l_freeIn (a1 : Int32) (σ : sm_S) : ∀ (d k : Nat) (a2 a3 : Int32), a3.toInt = k → k + d = 256 → xE xM m_M_freeIn 4 [.ref 0, .int a1, .int a2, .int a3] [] σ (sm_I (fun _ σ' => σ' = σ)) := by
  intro d
  induction d with
  | zero =>
    intro k a2 a3 h4 hk
    refine w_M_freeIn_4 a1 a2 a3 σ _ ⟨fun _ => ⟨_, rfl, rfl⟩, fun h => absurd ?_ h⟩
    rw [t_le, h4]
    show (256 : Int) ≤ _
    omega
  | succ d ih =>
    intro k a2 a3 h4 hk
    have h4' : (a3 + 1).toInt = ((k + 1 : Nat) : Int) := by
      rw [t_add h4 (y := 1) rfl (by omega) (by omega)]
      omega
    have next : ∀ b : Int32, xE xM m_M_freeIn 4 [.ref 0, .int a1, .int b, .int (a3 + 1)] [] σ (sm_I (fun _ σ' => σ' = σ)) := fun b => ih (k + 1) b _ h4' (by omega)
    refine w_M_freeIn_4 a1 a2 a3 σ _ ⟨fun _ => ⟨_, rfl, rfl⟩, fun _ => (c_isFree h4 (by omega) σ).int ?_⟩
    rintro x2 σ ⟨-, rfl⟩
    refine ⟨fun _ => next _, fun _ => (c_spanOf h4 _).int ?_⟩
    rintro x4 σ ⟨hx4, rfl⟩
    refine (c_zoneOf hx4 (by omega) _).int ?_
    rintro x6 σ ⟨-, rfl⟩
    exact ⟨fun _ => next _, fun _ => next _⟩
theorem c_freeIn (a1 : Int32) (σ : sm_S) : xC xM j_M_freeIn [.ref 0, .int a1] σ (sm_I (fun _ σ' => σ' = σ)) := w_M_freeIn a1 σ _ (l_freeIn a1 σ 256 0 0 0 rfl rfl)
theorem l_zone (a1 a2 : Int32) (σ : sm_S) : ∀ (d k : Nat) (a3 a4 : Int32), a4.toInt = k → k + d = 8 → xE xM m_M_zone 56 [.ref 0, .int a1, .int a2, .int a3, .int a4] [] σ (sm_I (fun _ σ' => σ' = σ)) := by
  intro d
  induction d with
  | zero =>
    intro k a3 a4 h4 hk
    refine w_M_zone_56 a1 a2 a3 a4 σ _ ⟨fun _ => ⟨_, rfl, rfl⟩, fun h => absurd ?_ h⟩
    rw [t_le, h4]
    show (8 : Int) ≤ _
    omega
  | succ d ih =>
    intro k a3 a4 h4 hk
    have h4' : (a4 + 1).toInt = ((k + 1 : Nat) : Int) := by
      rw [t_add h4 (y := 1) rfl (by omega) (by omega)]
      omega
    have next : ∀ b : Int32, xE xM m_M_zone 56 [.ref 0, .int a1, .int a2, .int b, .int (a4 + 1)] [] σ (sm_I (fun _ σ' => σ' = σ)) := fun b => ih (k + 1) b _ h4' (by omega)
    refine w_M_zone_56 a1 a2 a3 a4 σ _ ⟨fun _ => ⟨_, rfl, rfl⟩, fun _ => (c_zoneOf h4 (by omega) σ).int ?_⟩
    rintro x2 σ ⟨-, rfl⟩
    refine ⟨fun _ => next _, fun _ => (c_greatestIn h4 (by omega) _).int ?_⟩
    rintro x4 σ rfl
    refine ⟨fun _ => next _, fun _ => (c_greatestIn h4 (by omega) _).int ?_⟩
    rintro x6 σ rfl
    exact next _
theorem c_zone {N : Nat} (a1 a2 : Int32) (σ : sm_S) (hj : jj N (σ 1)) : xC xM j_M_zone [.ref 0, .int a1, .int a2] σ (sm_I (pubX N 0 σ)) := by
  refine w_M_zone a1 a2 σ _ (fun σ1 e1 => (c_isIn a1 0 1 σ1).int ?_)
  rintro x3 σ1 ⟨-, rfl⟩
  have keep : ∀ y : Int32, sm_I (pubX N 0 σ) (some (.int y)) σ1 := fun y => ⟨_, rfl, pub_X (pub_keep hj e1)⟩
  refine ⟨fun _ => keep _, fun n3 => (c_isIn a2 0 2 _).int ?_⟩
  rintro x5 σ1 ⟨-, rfl⟩
  refine ⟨fun _ => ⟨fun _ => ⟨fun _ => (l_zone a1 a2 _ 8 0 _ 0 rfl rfl).mono ?_, fun _ => (c_freeIn a1 _).int ?_⟩, fun _ => (c_framesOf a1 _).int ?_⟩, fun _ => keep _⟩
  · rintro r σ1 ⟨x, rfl, rfl⟩; exact keep _
  · rintro r σ1 rfl; exact keep _
  · rintro r σ1 ⟨-, rfl⟩; exact ⟨by decide, keep _⟩
theorem l_loose {a2 : Int32} {o : Nat} (h2 : a2.toInt = o) (ho : o ≤ 5) (a1 : Int32) (σ : sm_S) : ∀ (d k : Nat) (a3 a4 : Int32), a4.toInt = k → k + d = 256 → xE xM m_M_loose 32 [.ref 0, .int a1, .int a2, .int a3, .int a4] [] σ (sm_I (fun _ σ' => σ' = σ)) := by
  intro d
  induction d with
  | zero =>
    intro k a3 a4 h4 hk
    refine w_M_loose_32 a1 a2 a3 a4 σ _ ⟨fun _ => ⟨_, rfl, rfl⟩, fun h => absurd ?_ h⟩
    rw [t_le, h4]
    show (256 : Int) ≤ _
    omega
  | succ d ih =>
    intro k a3 a4 h4 hk
    have h4' : (a4 + 1).toInt = ((k + 1 : Nat) : Int) := by
      rw [t_add h4 (y := 1) rfl (by omega) (by omega)]
      omega
    have next : ∀ b : Int32, xE xM m_M_loose 32 [.ref 0, .int a1, .int a2, .int b, .int (a4 + 1)] [] σ (sm_I (fun _ σ' => σ' = σ)) := fun b => ih (k + 1) b _ h4' (by omega)
    refine w_M_loose_32 a1 a2 a3 a4 σ _ ⟨fun _ => ⟨_, rfl, rfl⟩, fun _ => (c_isFree h4 (by omega) σ).int ?_⟩
    rintro x2 σ ⟨-, rfl⟩
    refine ⟨fun _ => next _, fun _ => (c_spanOf h4 _).int ?_⟩
    rintro x4 σ ⟨hx4, rfl⟩
    refine (c_zoneOf hx4 (by omega) _).int ?_
    rintro x6 σ ⟨-, rfl⟩
    refine ⟨fun _ => next _, fun _ => (c_areFree h4 (by omega) h2 ho _).int ?_⟩
    rintro x8 σ ⟨-, rfl⟩
    exact ⟨fun _ => next _, fun _ => next _⟩
theorem c_loose {N : Nat} (a1 a2 : Int32) (σ : sm_S) (hj : jj N (σ 1)) : xC xM j_M_loose [.ref 0, .int a1, .int a2] σ (sm_I (pubX N 0 σ)) := by
  refine w_M_loose a1 a2 σ _ (fun σ1 e1 => (c_isIn a1 0 1 σ1).int ?_)
  rintro x3 σ1 ⟨-, rfl⟩
  have keep : ∀ y : Int32, sm_I (pubX N 0 σ) (some (.int y)) σ1 := fun y => ⟨_, rfl, pub_X (pub_keep hj e1)⟩
  refine ⟨fun _ => keep _, fun n3 => (c_isIn a2 0 5 _).int ?_⟩
  rintro x5 σ1 ⟨hx5, rfl⟩
  refine ⟨fun n5 => ?_, fun _ => keep _⟩
  obtain ⟨-, g3, g4⟩ := hx5.resolve_right (fun z => n5 z.1)
  obtain ⟨m, hm, hm2⟩ := in_n (C := 5) rfl g3 g4
  refine (l_loose hm hm2 a1 _ 256 0 _ 0 rfl rfl).mono ?_
  rintro r σ1 ⟨x, rfl, rfl⟩; exact keep _
theorem c_place {N : Nat} (a1 a2 a3 : Int32) (σ : sm_S) (hj : jj N (σ 1)) : xC xM j_M_place [.ref 0, .int a1, .int a2, .int a3] σ (sm_I (pubX N 0 σ)) := by
  refine w_M_place a1 a2 a3 σ _ (fun σ1 e1 => (c_isTask a1 σ1).int ?_)
  rintro x3 σ1 ⟨hx3, rfl⟩
  have keep : ∀ y : Int32, sm_I (pubX N 0 σ) (some (.int y)) σ1 := fun y => ⟨_, rfl, pub_X (pub_keep hj e1)⟩
  refine ⟨fun _ => keep _, fun n3 => (c_isIn a2 0 2 _).int ?_⟩
  obtain ⟨-, n, hn2, hn⟩ := hx3.resolve_right (fun z => n3 z.1)
  rintro x5 σ1 ⟨-, rfl⟩
  refine ⟨fun _ => keep _, fun n5 => (c_isIn a3 0 4 _).int ?_⟩
  rintro x7 σ1 ⟨hx7, rfl⟩
  refine ⟨fun _ => keep _, fun n7 => ?_⟩
  obtain ⟨-, g3, g4⟩ := hx7.resolve_right (fun z => n7 z.1)
  obtain ⟨m, hm, hm2⟩ := in_n (C := 4) rfl g3 g4
  refine (c_bestPlace hn hn2 hm hm2 _).int ?_
  rintro x9 σ1 ⟨-, rfl⟩; exact keep _
theorem c_hole {N : Nat} (a1 : Int32) (σ : sm_S) (hj : jj N (σ 1)) : xC xM j_M_hole [.ref 0, .int a1] σ (sm_I (pubX N 0 σ)) := by
  refine w_M_hole a1 σ _ (fun σ1 e1 => (c_isIn a1 0 255 σ1).int ?_)
  rintro x3 σ1 ⟨hx3, rfl⟩
  have keep : ∀ y : Int32, sm_I (pubX N 0 σ) (some (.int y)) σ1 := fun y => ⟨_, rfl, pub_X (pub_keep hj e1)⟩
  refine ⟨fun _ => keep _, fun n3 => ?_⟩
  obtain ⟨-, g3, g4⟩ := hx3.resolve_right (fun z => n3 z.1)
  obtain ⟨m, hm, hm2⟩ := in_n (C := 255) rfl g3 g4
  refine (c_isFree hm (by omega) _).int ?_
  rintro x5 σ1 ⟨-, rfl⟩
  refine ⟨fun _ => keep _, fun n5 => (c_holeOf hm (by omega) _).int ?_⟩
  rintro x9 σ1 ⟨-, rfl⟩; exact keep _
theorem l_at {N : Nat} (a1 a2 : Int32) (σ : sm_S) (hj : jj N (σ 1)) : ∀ (d k : Nat) (a3 a4 : Int32), a4.toInt = k → k + d = 256 → xE xM m_M_at 30 [.ref 0, .int a1, .int a2, .int a3, .int a4] [] σ (sm_I (fun _ σ' => σ' = σ)) := by
  intro d
  induction d with
  | zero =>
    intro k a3 a4 h4 hk
    refine w_M_at_30 a1 a2 a3 a4 σ _ ⟨fun _ => ⟨_, rfl, rfl⟩, fun h => absurd ?_ h⟩
    rw [t_le, h4]
    show (256 : Int) ≤ _
    omega
  | succ d ih =>
    intro k a3 a4 h4 hk
    have h4' : (a4 + 1).toInt = ((k + 1 : Nat) : Int) := by
      rw [t_add h4 (y := 1) rfl (by omega) (by omega)]
      omega
    have next : ∀ b : Int32, xE xM m_M_at 30 [.ref 0, .int a1, .int a2, .int b, .int (a4 + 1)] [] σ (sm_I (fun _ σ' => σ' = σ)) := fun b => ih (k + 1) b _ h4' (by omega)
    refine w_M_at_30 a1 a2 a3 a4 σ _ ⟨fun _ => ⟨_, rfl, rfl⟩, fun _ => (c_spanOf h4 σ).int ?_⟩
    rintro x2 σ ⟨-, rfl⟩
    refine ⟨by decide, fun _ => next _, fun _ => (c_stateOf h4 (by omega) _).int ?_⟩
    rintro x4 σ ⟨-, rfl⟩
    refine ⟨fun _ => next _, fun _ => (c_frameAt a4 _).int ?_⟩
    rintro x6 σ ⟨rfl, rfl⟩
    have hi := t_ix (C := 18) (M := 3) (c := 18) (m := 3) (k := 1) (j := 1) rfl rfl h4 rfl (by omega)
    obtain ⟨f1, f2⟩ := hj.1.1 k (by omega)
    obtain ⟨q, hq⟩ := t_of f1
    refine ⟨t_vp hi (by omega), (c_ofm (m := q) (k := 4) (j := 4) ?_ (by omega) rfl (by omega) _).int ?_⟩
    · rw [t_nat hi, t_sub hq (y := 1) rfl (by omega) (by omega)]
    · rintro x8 σ ⟨-, rfl⟩
      exact ⟨fun _ => next _, fun _ => next _⟩
theorem c_at {N : Nat} (a1 a2 : Int32) (σ : sm_S) (hj : jj N (σ 1)) : xC xM j_M_at [.ref 0, .int a1, .int a2] σ (sm_I (pubX N 0 σ)) := by
  refine w_M_at a1 a2 σ _ (fun σ1 e1 => (c_isTask a1 σ1).int ?_)
  have hj1 : jj N (σ1 1) := by rw [e1, s_ne (by decide)]; exact hj
  rintro x3 σ1 ⟨-, rfl⟩
  have keep : ∀ y : Int32, sm_I (pubX N 0 σ) (some (.int y)) σ1 := fun y => ⟨_, rfl, pub_X (pub_keep hj e1)⟩
  refine ⟨fun _ => keep _, fun n3 => (c_isIn a2 0 1 _).int ?_⟩
  rintro x5 σ1 ⟨-, rfl⟩
  refine ⟨fun n5 => (l_at a1 a2 _ hj1 256 0 _ 0 rfl rfl).mono ?_, fun _ => keep _⟩
  rintro r σ1 ⟨x, rfl, rfl⟩; exact keep _
theorem c_log {N : Nat} (a1 a2 : Int32) (σ : sm_S) (hj : jj N (σ 1)) : xC xM j_M_log [.ref 0, .int a1, .int a2] σ (sm_I (pubX N 0 σ)) := by
  refine w_M_log a1 a2 σ _ (fun σ1 e1 => ?_)
  have hj1 : jj N (σ1 1) := by rw [e1, s_ne (by decide)]; exact hj
  have keep : ∀ y : Int32, sm_I (pubX N 0 σ) (some (.int y)) σ1 := fun y => ⟨_, rfl, pub_X (pub_keep hj e1)⟩
  have h5 : (σ1 1 ((5 : Int32)).toNatClampNeg).toInt = N := hj1.2.2
  refine ⟨fun _ => keep _, fun n1 => ⟨fun _ => keep _, fun n2 => ⟨t_vp (n := 5) rfl (by omega), fun _ => keep _, fun n5 => (c_isIn a2 0 3 _).int ?_⟩⟩⟩
  rw [t_lt] at n1
  rw [t_le] at n2
  rw [t_le, h5] at n5
  have n1 : ¬ a1.toInt < (0 : Int) := n1
  have n2 : ¬ (60 : Int) ≤ a1.toInt := n2
  obtain ⟨n, hn⟩ := t_of (x := a1) (by omega)
  have bN := t_bd (σ1 1 ((5 : Int32)).toNatClampNeg)
  rintro x3 σ1 ⟨hx3, rfl⟩
  refine ⟨fun n3 => ?_, fun _ => keep _⟩
  obtain ⟨-, g3, g4⟩ := hx3.resolve_right (fun z => n3 z.1)
  obtain ⟨m, hm, hm2⟩ := in_n (C := 3) rfl g3 g4
  have q1 := t_sub h5 (y := 1) (b := 1) rfl (by omega) (by omega)
  have q2 := t_sub q1 hn (by omega) (by omega)
  have q2' : (σ1 1 ((5 : Int32)).toNatClampNeg - 1 - a1).toInt = ((N - 1 - n : Nat) : Int) := by rw [q2]; omega
  have q3 := t_rem (d := 60) (b := 60) q2' rfl (by decide)
  exact ⟨t_vp (n := 5) rfl (by omega), by decide, t_vp (t_ix (C := 2422) (M := 4) rfl rfl q3 hm (by omega)) (by omega), keep _⟩
theorem c_count {N : Nat} (a1 : Int32) (σ : sm_S) (hj : jj N (σ 1)) : xC xM j_M_count [.ref 0, .int a1] σ (sm_I (pubX N 0 σ)) := by
  refine w_M_count a1 σ _ (fun σ1 e1 => (c_isIn a1 0 10 σ1).int ?_)
  rintro x3 σ1 ⟨hx3, rfl⟩
  have keep : ∀ y : Int32, sm_I (pubX N 0 σ) (some (.int y)) σ1 := fun y => ⟨_, rfl, pub_X (pub_keep hj e1)⟩
  refine ⟨fun _ => keep _, fun n3 => ?_⟩
  obtain ⟨-, g3, g4⟩ := hx3.resolve_right (fun z => n3 z.1)
  obtain ⟨m, hm, hm2⟩ := in_n (C := 10) rfl g3 g4
  have q : (7 + a1).toInt = ((7 + m : Nat) : Int) := by
    rw [t_add (x := 7) rfl hm (by omega) (by omega)]
    omega
  exact ⟨t_vp q (by omega), keep _⟩
theorem l_framesIn (a1 : Int32) (σ : sm_S) : ∀ (d k : Nat) (a2 a3 : Int32), a3.toInt = k → k + d = 8 → xE xM m_M_framesIn 4 [.ref 0, .int a1, .int a2, .int a3] [] σ (sm_I (fun _ σ' => σ' = σ)) := by
  intro d
  induction d with
  | zero =>
    intro k a2 a3 h4 hk
    refine w_M_framesIn_4 a1 a2 a3 σ _ ⟨fun _ => ⟨_, rfl, rfl⟩, fun h => absurd ?_ h⟩
    rw [t_le, h4]
    show (8 : Int) ≤ _
    omega
  | succ d ih =>
    intro k a2 a3 h4 hk
    have h4' : (a3 + 1).toInt = ((k + 1 : Nat) : Int) := by
      rw [t_add h4 (y := 1) rfl (by omega) (by omega)]
      omega
    refine w_M_framesIn_4 a1 a2 a3 σ _ ⟨fun _ => ⟨_, rfl, rfl⟩, fun _ => (c_manyIn h4 (by omega) _ σ).int ?_⟩
    rintro x2 σ rfl
    exact ih (k + 1) _ _ h4' (by omega)
theorem c_framesIn (a1 : Int32) (σ : sm_S) : xC xM j_M_framesIn [.ref 0, .int a1] σ (sm_I (fun _ σ' => σ' = σ)) := w_M_framesIn a1 σ _ (l_framesIn a1 σ 8 0 0 0 rfl rfl)
theorem l_blocks (σ : sm_S) : ∀ (d k : Nat) (a1 a2 : Int32), a2.toInt = k → k + d = 96 → xE xM m_M_blocks 4 [.ref 0, .int a1, .int a2] [] σ (sm_I (fun _ σ' => σ' = σ)) := by
  intro d
  induction d with
  | zero =>
    intro k a1 a2 h4 hk
    refine w_M_blocks_4 a1 a2 σ _ ⟨fun _ => ⟨_, rfl, rfl⟩, fun h => absurd ?_ h⟩
    rw [t_le, h4]
    show (96 : Int) ≤ _
    omega
  | succ d ih =>
    intro k a1 a2 h4 hk
    have h4' : (a2 + 1).toInt = ((k + 1 : Nat) : Int) := by
      rw [t_add h4 (y := 1) rfl (by omega) (by omega)]
      omega
    refine w_M_blocks_4 a1 a2 σ _ ⟨fun _ => ⟨_, rfl, rfl⟩, fun _ => (c_of (k := 0) (j := 0) h4 rfl (by omega) σ).int ?_⟩
    rintro x2 σ ⟨-, rfl⟩
    exact ih (k + 1) _ _ h4' (by omega)
theorem c_blocks (σ : sm_S) : xC xM j_M_blocks [.ref 0] σ (sm_I (fun _ σ' => σ' = σ)) := w_M_blocks σ _ (l_blocks σ 96 0 0 0 rfl rfl)
theorem l_waiters (σ : sm_S) : ∀ (d k : Nat) (a1 a2 : Int32), a2.toInt = k → k + d = 6 → xE xM m_M_waiters 4 [.ref 0, .int a1, .int a2] [] σ (sm_I (fun _ σ' => σ' = σ)) := by
  intro d
  induction d with
  | zero =>
    intro k a1 a2 h4 hk
    refine w_M_waiters_4 a1 a2 σ _ ⟨fun _ => ⟨_, rfl, rfl⟩, fun h => absurd ?_ h⟩
    rw [t_le, h4]
    show (6 : Int) ≤ _
    omega
  | succ d ih =>
    intro k a1 a2 h4 hk
    have h4' : (a2 + 1).toInt = ((k + 1 : Nat) : Int) := by
      rw [t_add h4 (y := 1) rfl (by omega) (by omega)]
      omega
    refine w_M_waiters_4 a1 a2 σ _ ⟨fun _ => ⟨_, rfl, rfl⟩, fun _ => (c_taskAt a2 σ).int ?_⟩
    rintro x2 σ ⟨rfl, rfl⟩
    exact ⟨t_vp (t_ix (C := 2322) (M := 6) (j := 1) rfl rfl h4 rfl (by omega)) (by omega), fun _ => ih (k + 1) _ _ h4' (by omega), fun _ => ih (k + 1) _ _ h4' (by omega)⟩
theorem c_waiters (σ : sm_S) : xC xM j_M_waiters [.ref 0] σ (sm_I (fun _ σ' => σ' = σ)) := w_M_waiters σ _ (l_waiters σ 6 0 0 0 rfl rfl)
theorem l_goers (σ : sm_S) : ∀ (d k : Nat) (a1 a2 : Int32), a2.toInt = k → k + d = 8 → xE xM m_M_goers 4 [.ref 0, .int a1, .int a2] [] σ (sm_I (fun _ σ' => σ' = σ)) := by
  intro d
  induction d with
  | zero =>
    intro k a1 a2 h4 hk
    refine w_M_goers_4 a1 a2 σ _ ⟨fun _ => ⟨_, rfl, rfl⟩, fun h => absurd ?_ h⟩
    rw [t_le, h4]
    show (8 : Int) ≤ _
    omega
  | succ d ih =>
    intro k a1 a2 h4 hk
    have h4' : (a2 + 1).toInt = ((k + 1 : Nat) : Int) := by
      rw [t_add h4 (y := 1) rfl (by omega) (by omega)]
      omega
    refine w_M_goers_4 a1 a2 σ _ ⟨fun _ => ⟨_, rfl, rfl⟩, fun _ => (c_isGoing h4 (by omega) σ).int ?_⟩
    rintro x2 σ ⟨-, rfl⟩
    exact ⟨fun _ => ih (k + 1) _ _ h4' (by omega), fun _ => ih (k + 1) _ _ h4' (by omega)⟩
theorem c_goers (σ : sm_S) : xC xM j_M_goers [.ref 0] σ (sm_I (fun _ σ' => σ' = σ)) := w_M_goers σ _ (l_goers σ 8 0 0 0 rfl rfl)
theorem c_look {N : Nat} (a1 : Int32) (σ : sm_S) (hj : jj N (σ 1)) : xC xM j_M_look [.ref 0, .int a1] σ (sm_I (pubX N 0 σ)) := by
  refine w_M_look a1 σ _ (fun σ1 e1 => (c_isIn a1 0 3 σ1).int ?_)
  have hj1 : jj N (σ1 1) := by rw [e1, s_ne (by decide)]; exact hj
  rintro x3 σ1 ⟨hx3, rfl⟩
  have keep : ∀ y : Int32, sm_I (pubX N 0 σ) (some (.int y)) σ1 := fun y => ⟨_, rfl, pub_X (pub_keep hj e1)⟩
  refine ⟨fun _ => ⟨fun _ => ⟨fun _ => ⟨fun _ => (c_isIn a1 7 10 _).int ?_, fun _ => (c_framesOf 0 _).int ?_⟩, fun _ => (c_blocks _).int ?_⟩, fun _ => ⟨t_vp (n := 4) rfl (by omega), keep _⟩⟩, fun n3 => ?_⟩
  · rintro x5 σ1 ⟨-, rfl⟩
    refine ⟨fun _ => ⟨fun _ => ⟨fun _ => ⟨fun _ => ⟨fun _ => keep _, fun _ => (c_framesOf 1 _).int ?_⟩, fun _ => ⟨t_vp (n := 5) rfl (by omega), keep _⟩⟩, fun _ => (c_goers _).int ?_⟩, fun _ => (c_waiters _).int ?_⟩, fun _ => (c_framesIn _ _).int ?_⟩
    · rintro x7 σ1 ⟨-, rfl⟩
      refine (c_framesOf 0 _).int ?_
      rintro x9 σ1 ⟨⟨c, hc, -, hc1⟩, rfl⟩
      obtain ⟨s, hs, z1, z2⟩ := hj1.2.1.2.2.2.2
      have := hc1 s hs (fun z => by rw [show 2358 + 8 * s = 2358 + 8 * s + 0 from rfl, z1] at z; exact absurd z (by decide)) z2
      refine ⟨fun z => ?_, keep _⟩
      rw [z] at hc
      have hc : (0 : Int) = ((32 * c : Nat) : Int) := hc
      omega
    · rintro x7 σ1 rfl; exact keep _
    · rintro x7 σ1 rfl; exact keep _
    · rintro x7 σ1 rfl; exact keep _
  · rintro x7 σ1 ⟨-, rfl⟩
    refine (c_framesOf 1 _).int ?_
    rintro x9 σ1 ⟨-, rfl⟩
    exact ⟨by decide, keep _⟩
  · rintro x7 σ1 rfl; exact keep _
  · obtain ⟨-, g3, g4⟩ := hx3.resolve_right (fun z => n3 z.1)
    obtain ⟨m, hm, hm2⟩ := in_n (C := 3) rfl g3 g4
    refine (c_settingOf hm (by omega) _).int ?_
    rintro x7 σ1 rfl; exact keep _
/-- what holds between the calls: at most B lines in the log, now and in the image -/
def lw (B : Nat) (σ : sm_S) : Prop := (∃ N, N ≤ B ∧ jj N (σ 1)) ∧ (σ 0 6 ≠ 0 → ∃ N, N ≤ B ∧ jj N (σ 5))
theorem lw.pub {B D N : Nat} {σ σ' : sm_S} {x : Int32} (h : lw B σ) (hN : N ≤ B) (hp : pubX N D σ x σ') : lw (B + D) σ' := by
  obtain ⟨N', h1, h2, h3, h4, h5, -⟩ := hp
  refine ⟨⟨N', by omega, h1⟩, fun h0 => ?_⟩
  rw [h5] at h0
  obtain ⟨M, m1, m2⟩ := h.2 h0
  exact ⟨M, by omega, by rw [h4]; exact m2⟩
theorem l_imageT {a1 : Int32} (h1 : a1 ≠ 0) : ∀ (d k : Nat) (a2 : Int32) (σ : sm_S), a2.toInt = k → k + d = 2662 → xE xM m_M_image 25 [.ref 0, .int a1, .int a2] [] σ (sm_I (fun _ σ' => ∃ f, σ' = sm_set σ 5 f ∧ (∀ i, k ≤ i → i < 2662 → f i = σ 1 i) ∧ ∀ i, i < k → f i = σ 5 i)) := by
  intro d
  induction d with
  | zero =>
    intro k a2 σ h2 hk
    refine w_M_image_25 a1 a2 σ _ ⟨fun _ => ⟨Or.inr rfl, _, rfl, σ 5, s_id.symm, fun i _ _ => by omega, fun _ _ => rfl⟩, fun h => absurd ?_ h⟩
    rw [t_le, h2]
    show (2662 : Int) ≤ _
    omega
  | succ d ih =>
    intro k a2 σ h2 hk
    have h2' : (a2 + 1).toInt = ((k + 1 : Nat) : Int) := by
      rw [t_add h2 (y := 1) rfl (by omega) (by omega)]
      omega
    refine w_M_image_25 a1 a2 σ _ ⟨fun h => ?_, fun _ => ⟨fun z => absurd z h1, fun _ => ⟨t_vp h2 (by omega), t_vp h2 (by omega), fun σ1 e1 => ?_⟩⟩⟩
    · rw [t_le, h2] at h
      have h : (2662 : Int) ≤ k := h
      omega
    · rw [t_nat h2] at e1
      refine (ih (k + 1) (a2 + 1) σ1 h2' (by omega)).mono ?_
      rintro r σ' ⟨x, rfl, f, rfl, g1, g2⟩
      subst e1
      refine ⟨x, rfl, f, s_ss, fun i i1 i2 => ?_, fun i i1 => ?_⟩
      · rcases Nat.lt_or_ge k i with hl | hl
        · rw [g1 i hl i2, s_ne (by decide)]
        · have hik : i = k := by omega
          rw [g2 i (by omega), s_at, hik, u_at]
      · rw [g2 i (by omega), s_at, u_ne (by omega)]
theorem l_imageF {a1 : Int32} (h1 : ¬ a1 ≠ 0) : ∀ (d k : Nat) (a2 : Int32) (σ : sm_S), a2.toInt = k → k + d = 2662 → xE xM m_M_image 25 [.ref 0, .int a1, .int a2] [] σ (sm_I (fun _ σ' => ∃ f, σ' = sm_set σ 1 f ∧ (∀ i, k ≤ i → i < 2662 → f i = σ 5 i) ∧ ∀ i, i < k → f i = σ 1 i)) := by
  intro d
  induction d with
  | zero =>
    intro k a2 σ h2 hk
    refine w_M_image_25 a1 a2 σ _ ⟨fun _ => ⟨Or.inr rfl, _, rfl, σ 1, s_id.symm, fun i _ _ => by omega, fun _ _ => rfl⟩, fun h => absurd ?_ h⟩
    rw [t_le, h2]
    show (2662 : Int) ≤ _
    omega
  | succ d ih =>
    intro k a2 σ h2 hk
    have h2' : (a2 + 1).toInt = ((k + 1 : Nat) : Int) := by
      rw [t_add h2 (y := 1) rfl (by omega) (by omega)]
      omega
    refine w_M_image_25 a1 a2 σ _ ⟨fun h => ?_, fun _ => ⟨fun _ => ⟨t_vp h2 (by omega), t_vp h2 (by omega), fun σ1 e1 => ?_⟩, fun z => absurd (Classical.not_not.mp h1) z⟩⟩
    · rw [t_le, h2] at h
      have h : (2662 : Int) ≤ k := h
      omega
    · rw [t_nat h2] at e1
      refine (ih (k + 1) (a2 + 1) σ1 h2' (by omega)).mono ?_
      rintro r σ' ⟨x, rfl, f, rfl, g1, g2⟩
      subst e1
      refine ⟨x, rfl, f, s_ss, fun i i1 i2 => ?_, fun i i1 => ?_⟩
      · rcases Nat.lt_or_ge k i with hl | hl
        · rw [g1 i hl i2, s_ne (by decide)]
        · have hik : i = k := by omega
          rw [g2 i (by omega), s_at, hik, u_at]
      · rw [g2 i (by omega), s_at, u_ne (by omega)]
theorem c_image {B : Nat} (a1 : Int32) (σ : sm_S) (hj : lw B σ) : xC xM j_M_image [.ref 0, .int a1] σ (sm_I (fun _ σ' => lw B σ' ∧ ∀ k, 5 < k → σ' k = σ k)) := by
  obtain ⟨⟨N, hN, hj1⟩, hj5⟩ := hj
  refine w_M_image a1 σ _ (fun σ1 e1 => ⟨fun n1 => ⟨Or.inr rfl, fun σ2 e2 => ?_⟩, fun n1 => ⟨fun n6 => ⟨Or.inr rfl, fun σ2 e2 => ?_⟩, fun n6 => ⟨Or.inl rfl, _, rfl, ?_⟩⟩⟩)
  · refine (l_imageT n1 2662 0 0 σ2 rfl (Nat.zero_add _)).mono ?_
    rintro r σ' ⟨x, rfl, f, rfl, g1, -⟩
    have e21 : σ2 1 = σ 1 := by rw [e2, s_ne (by decide), e1, s_ne (by decide)]
    refine ⟨x, rfl, ⟨⟨N, hN, ?_⟩, fun _ => ⟨N, hN, ?_⟩⟩, fun k hk => ?_⟩
    · rw [s_ne (by decide), e21]; exact hj1
    · rw [s_at]; exact jj_eq (fun i hi => by rw [g1 i (Nat.zero_le i) hi, e21]) hj1
    · rw [s_ne (by omega), e2, s_ne (by omega), e1, s_ne (by omega)]
  · refine (l_imageF n1 2662 0 0 σ2 rfl (Nat.zero_add _)).mono ?_
    rintro r σ' ⟨x, rfl, f, rfl, g1, -⟩
    have e25 : σ2 5 = σ 5 := by rw [e2, s_ne (by decide), e1, s_ne (by decide)]
    obtain ⟨M, hM, hj5'⟩ := hj5 (by rw [e1, s_at, u_ne (by decide)] at n6; exact n6)
    refine ⟨x, rfl, ⟨⟨M, hM, ?_⟩, fun _ => ⟨M, hM, ?_⟩⟩, fun k hk => ?_⟩
    · rw [s_at]; exact jj_eq (fun i hi => by rw [g1 i (Nat.zero_le i) hi, e25]) hj5'
    · rw [s_ne (by decide), e25]; exact hj5'
    · rw [s_ne (by omega), e2, s_ne (by omega), e1, s_ne (by omega)]
  · refine ⟨⟨⟨N, hN, ?_⟩, fun z => ?_⟩, fun k hk => ?_⟩
    · rw [e1, s_ne (by decide)]; exact hj1
    · exact absurd z n6
    · rw [e1, s_ne (by omega)]
