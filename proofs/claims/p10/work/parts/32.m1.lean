/-! ===== the model: places and reads ===== -/
theorem c_frameAt (f : Int32) (σ : sm_S) : xC xM j_M_frameAt [.ref 0, .int f] σ (sm_I (fun x σ' => x = 18 + 3 * f ∧ σ' = σ)) := w_M_frameAt f σ _ ⟨_, rfl, rfl, rfl⟩
theorem c_blockAt (f : Int32) (σ : sm_S) : xC xM j_M_blockAt [.ref 0, .int f] σ (sm_I (fun x σ' => x = 786 + 16 * f ∧ σ' = σ)) := w_M_blockAt f σ _ ⟨_, rfl, rfl, rfl⟩
theorem c_taskAt (f : Int32) (σ : sm_S) : xC xM j_M_taskAt [.ref 0, .int f] σ (sm_I (fun x σ' => x = 2322 + 6 * f ∧ σ' = σ)) := w_M_taskAt f σ _ ⟨_, rfl, rfl, rfl⟩
theorem c_spanAt (f : Int32) (σ : sm_S) : xC xM j_M_spanAt [.ref 0, .int f] σ (sm_I (fun x σ' => x = 2358 + 8 * f ∧ σ' = σ)) := w_M_spanAt f σ _ ⟨_, rfl, rfl, rfl⟩
theorem ixF {f k : Int32} {n j : Nat} (hf : f.toInt = n) (hk : k.toInt = j) (h : 18 + 3 * n + j < 2662) : vp_in (18 + 3 * f + k) 2662 ∧ (18 + 3 * f + k).toNatClampNeg = 18 + 3 * n + j := by
  have h1 := t_ix (c := 18) (m := 3) (C := 18) (M := 3) rfl rfl hf hk h
  exact ⟨t_vp h1 h, t_nat h1⟩
theorem ixB {f k : Int32} {n j : Nat} (hf : f.toInt = n) (hk : k.toInt = j) (h : 786 + 16 * n + j < 2662) : vp_in (786 + 16 * f + k) 2662 ∧ (786 + 16 * f + k).toNatClampNeg = 786 + 16 * n + j := by
  have h1 := t_ix (c := 786) (m := 16) (C := 786) (M := 16) rfl rfl hf hk h
  exact ⟨t_vp h1 h, t_nat h1⟩
theorem ixT {f k : Int32} {n j : Nat} (hf : f.toInt = n) (hk : k.toInt = j) (h : 2322 + 6 * n + j < 2662) : vp_in (2322 + 6 * f + k) 2662 ∧ (2322 + 6 * f + k).toNatClampNeg = 2322 + 6 * n + j := by
  have h1 := t_ix (c := 2322) (m := 6) (C := 2322) (M := 6) rfl rfl hf hk h
  exact ⟨t_vp h1 h, t_nat h1⟩
theorem ixS {f k : Int32} {n j : Nat} (hf : f.toInt = n) (hk : k.toInt = j) (h : 2358 + 8 * n + j < 2662) : vp_in (2358 + 8 * f + k) 2662 ∧ (2358 + 8 * f + k).toNatClampNeg = 2358 + 8 * n + j := by
  have h1 := t_ix (c := 2358) (m := 8) (C := 2358) (M := 8) rfl rfl hf hk h
  exact ⟨t_vp h1 h, t_nat h1⟩
theorem c_isIn (a b c : Int32) (σ : sm_S) : xC xM j_M_isIn [.ref 0, .int a, .int b, .int c] σ (sm_I (fun x σ' => ((x = 1 ∧ b.toInt ≤ a.toInt ∧ a.toInt ≤ c.toInt) ∨ (x = 0 ∧ (a.toInt < b.toInt ∨ c.toInt < a.toInt))) ∧ σ' = σ)) := by
  refine w_M_isIn a b c σ _ ⟨fun h => ⟨Or.inl rfl, _, rfl, ?_, rfl⟩, fun h => ⟨fun h2 => ⟨Or.inl rfl, _, rfl, ?_, rfl⟩, fun h2 => ⟨Or.inr rfl, _, rfl, ?_, rfl⟩⟩⟩
  · exact Or.inr ⟨rfl, Or.inl (t_lt.mp h)⟩
  · exact Or.inr ⟨rfl, Or.inr (t_lt.mp h2)⟩
  · rw [t_lt] at h h2
    exact Or.inl ⟨rfl, by omega, by omega⟩
theorem c_isTask (a : Int32) (σ : sm_S) : xC xM j_M_isTask [.ref 0, .int a] σ (sm_I (fun x σ' => ((x = 1 ∧ ∃ n : Nat, n < 6 ∧ a.toInt = n) ∨ (x = 0 ∧ (a.toInt < 0 ∨ 6 ≤ a.toInt))) ∧ σ' = σ)) := by
  refine w_M_isTask a σ _ ⟨fun h => ⟨Or.inl rfl, _, rfl, ?_, rfl⟩, fun h => ⟨fun h2 => ⟨Or.inl rfl, _, rfl, ?_, rfl⟩, fun h2 => ⟨Or.inr rfl, _, rfl, ?_, rfl⟩⟩⟩
  · exact Or.inr ⟨rfl, Or.inl (t_lt.mp h)⟩
  · exact Or.inr ⟨rfl, Or.inr (t_le.mp h2)⟩
  · rw [t_lt] at h
    rw [t_le] at h2
    have h : ¬ a.toInt < 0 := h
    have h2 : ¬ 6 ≤ a.toInt := h2
    exact Or.inl ⟨rfl, a.toInt.toNat, by omega, by omega⟩
theorem c_isSpan (a : Int32) (σ : sm_S) : xC xM j_M_isSpan [.ref 0, .int a] σ (sm_I (fun x σ' => ((x = 1 ∧ ∃ n : Nat, n < 8 ∧ a.toInt = n) ∨ (x = 0 ∧ (a.toInt < 0 ∨ 8 ≤ a.toInt))) ∧ σ' = σ)) := by
  refine w_M_isSpan a σ _ ⟨fun h => ⟨Or.inl rfl, _, rfl, ?_, rfl⟩, fun h => ⟨fun h2 => ⟨Or.inl rfl, _, rfl, ?_, rfl⟩, fun h2 => ⟨Or.inr rfl, _, rfl, ?_, rfl⟩⟩⟩
  · exact Or.inr ⟨rfl, Or.inl (t_lt.mp h)⟩
  · exact Or.inr ⟨rfl, Or.inr (t_le.mp h2)⟩
  · rw [t_lt] at h
    rw [t_le] at h2
    have h : ¬ a.toInt < 0 := h
    have h2 : ¬ 8 ≤ a.toInt := h2
    exact Or.inl ⟨rfl, a.toInt.toNat, by omega, by omega⟩
theorem c_isBlock (a : Int32) (σ : sm_S) : xC xM j_M_isBlock [.ref 0, .int a] σ (sm_I (fun x σ' => ((x = 1 ∧ ∃ n : Nat, n < 96 ∧ a.toInt = n ∧ σ 1 (786 + 16 * n) = 1) ∨ (x = 0 ∧ ((a.toInt < 0 ∨ 96 ≤ a.toInt) ∨ ∃ n : Nat, n < 96 ∧ a.toInt = n ∧ σ 1 (786 + 16 * n) ≠ 1))) ∧ σ' = σ)) := by
  refine w_M_isBlock a σ _ ⟨fun h => ⟨Or.inl rfl, _, rfl, Or.inr ⟨rfl, Or.inl (Or.inl (t_lt.mp h))⟩, rfl⟩, fun h => ⟨fun h2 => ⟨Or.inl rfl, _, rfl, Or.inr ⟨rfl, Or.inl (Or.inr (t_le.mp h2))⟩, rfl⟩, fun h2 => (c_blockAt a σ).int ?_⟩⟩
  rintro _ _ ⟨rfl, rfl⟩
  rw [t_lt] at h
  rw [t_le] at h2
  have h : ¬ a.toInt < 0 := h
  have h2 : ¬ 96 ≤ a.toInt := h2
  obtain ⟨n, hn⟩ := t_of (x := a) (by omega)
  obtain ⟨h3, h4⟩ := ixB (k := 0) (j := 0) hn rfl (by omega)
  rw [h4]
  exact ⟨h3, fun h5 => ⟨Or.inl rfl, _, rfl, Or.inr ⟨rfl, Or.inr ⟨n, by omega, hn, h5⟩⟩, rfl⟩, fun h5 => ⟨Or.inr rfl, _, rfl, Or.inl ⟨rfl, n, by omega, hn, Classical.not_not.mp h5⟩, rfl⟩⟩
theorem c_stateOf {f : Int32} {n : Nat} (hf : f.toInt = n) (hn : n < 800) (σ : sm_S) : xC xM j_M_stateOf [.ref 0, .int f] σ (sm_I (fun x σ' => x = σ 1 (18 + 3 * n) ∧ σ' = σ)) := by
  refine w_M_stateOf f σ _ ((c_frameAt f σ).int ?_)
  rintro _ _ ⟨rfl, rfl⟩
  obtain ⟨h1, h2⟩ := ixF (k := 0) (j := 0) hf rfl (by omega)
  rw [h2]
  exact ⟨h1, _, rfl, rfl, rfl⟩
theorem c_valueOf {f : Int32} {n : Nat} (hf : f.toInt = n) (hn : n < 800) (σ : sm_S) : xC xM j_M_valueOf [.ref 0, .int f] σ (sm_I (fun x σ' => x = σ 1 (18 + 3 * n + 2) ∧ σ' = σ)) := by
  refine w_M_valueOf f σ _ ((c_frameAt f σ).int ?_)
  rintro _ _ ⟨rfl, rfl⟩
  obtain ⟨h1, h2⟩ := ixF (k := 2) (j := 2) hf rfl (by omega)
  rw [h2]
  exact ⟨h1, _, rfl, rfl, rfl⟩
theorem c_isFree {f : Int32} {n : Nat} (hf : f.toInt = n) (hn : n < 800) (σ : sm_S) : xC xM j_M_isFree [.ref 0, .int f] σ (sm_I (fun x σ' => ((x = 1 ∧ σ 1 (18 + 3 * n) = 1) ∨ (x = 0 ∧ σ 1 (18 + 3 * n) ≠ 1)) ∧ σ' = σ)) := by
  refine w_M_isFree f σ _ ((c_stateOf hf hn σ).int ?_)
  rintro _ _ ⟨rfl, rfl⟩
  exact ⟨fun h => ⟨Or.inl rfl, _, rfl, Or.inr ⟨rfl, h⟩, rfl⟩, fun h => ⟨Or.inr rfl, _, rfl, Or.inl ⟨rfl, Classical.not_not.mp h⟩, rfl⟩⟩
theorem c_spanOf {f : Int32} {n : Nat} (hf : f.toInt = n) (σ : sm_S) : xC xM j_M_spanOf [.ref 0, .int f] σ (sm_I (fun x σ' => x.toInt = ((n / 32 : Nat) : Int) ∧ σ' = σ)) :=
  w_M_spanOf f σ _ ⟨by decide, _, rfl, t_div (d := 32) hf rfl (by decide), rfl⟩
theorem c_spanState {s : Int32} {n : Nat} (hs : s.toInt = n) (hn : n < 8) (σ : sm_S) : xC xM j_M_spanState [.ref 0, .int s] σ (sm_I (fun x σ' => x = σ 1 (2358 + 8 * n) ∧ σ' = σ)) := by
  refine w_M_spanState s σ _ ((c_spanAt s σ).int ?_)
  rintro _ _ ⟨rfl, rfl⟩
  obtain ⟨h1, h2⟩ := ixS (k := 0) (j := 0) hs rfl (by omega)
  rw [h2]
  exact ⟨h1, _, rfl, rfl, rfl⟩
theorem c_zoneOf {s : Int32} {n : Nat} (hs : s.toInt = n) (hn : n < 8) (σ : sm_S) : xC xM j_M_zoneOf [.ref 0, .int s] σ (sm_I (fun x σ' => ((σ 1 (2358 + 8 * n) = 0 ∧ x = -1) ∨ (σ 1 (2358 + 8 * n) ≠ 0 ∧ x = σ 1 (2358 + 8 * n + 1))) ∧ σ' = σ)) := by
  refine w_M_zoneOf s σ _ ((c_spanState hs hn σ).int ?_)
  rintro _ _ ⟨rfl, rfl⟩
  refine ⟨fun h => (c_spanAt s _).int ?_, fun h => ⟨_, rfl, Or.inl ⟨Classical.not_not.mp h, rfl⟩, rfl⟩⟩
  rintro _ _ ⟨rfl, rfl⟩
  obtain ⟨h1, h2⟩ := ixS (k := 1) (j := 1) hs rfl (by omega)
  rw [h2]
  exact ⟨h1, _, rfl, Or.inr ⟨h, rfl⟩, rfl⟩
theorem c_of {b k : Int32} {n j : Nat} (hb : b.toInt = n) (hk : k.toInt = j) (h : 786 + 16 * n + j < 2662) (σ : sm_S) : xC xM j_M_of [.ref 0, .int b, .int k] σ (sm_I (fun x σ' => x = σ 1 (786 + 16 * n + j) ∧ σ' = σ)) := by
  refine w_M_of b k σ _ ((c_blockAt b σ).int ?_)
  rintro _ _ ⟨rfl, rfl⟩
  obtain ⟨h1, h2⟩ := ixB hb hk h
  rw [h2]
  exact ⟨h1, _, rfl, rfl, rfl⟩
theorem c_frameOf {b : Int32} {n : Nat} (hb : b.toInt = n) (hn : n < 96) (σ : sm_S) : xC xM j_M_frameOf [.ref 0, .int b] σ (sm_I (fun x σ' => x = σ 1 (786 + 16 * n + 1) ∧ σ' = σ)) := by
  refine w_M_frameOf b σ _ ((c_of (k := 1) (j := 1) hb rfl (by omega) σ).int ?_)
  rintro _ _ ⟨rfl, rfl⟩
  exact ⟨_, rfl, rfl, rfl⟩
theorem c_longOf {b : Int32} {n : Nat} (hb : b.toInt = n) (hn : n < 96) (σ : sm_S) : xC xM j_M_longOf [.ref 0, .int b] σ (sm_I (fun x σ' => x = (1 : Int32) <<< (σ 1 (786 + 16 * n + 2) &&& 31) ∧ σ' = σ)) := by
  refine w_M_longOf b σ _ ((c_of (k := 2) (j := 2) hb rfl (by omega) σ).int ?_)
  rintro _ _ ⟨rfl, rfl⟩
  exact ⟨_, rfl, rfl, rfl⟩
theorem c_isOnWay {b : Int32} {n : Nat} (hb : b.toInt = n) (hn : n < 96) (σ : sm_S) : xC xM j_M_isOnWay [.ref 0, .int b] σ (sm_I (fun x σ' => ((x = 0 ∧ σ 1 (786 + 16 * n + 6) ≤ 0) ∨ (x = 1 ∧ ¬ σ 1 (786 + 16 * n + 6) ≤ 0)) ∧ σ' = σ)) := by
  refine w_M_isOnWay b σ _ ((c_of (k := 6) (j := 6) hb rfl (by omega) σ).int ?_)
  rintro _ _ ⟨rfl, rfl⟩
  exact ⟨fun h => ⟨Or.inl rfl, _, rfl, Or.inl ⟨rfl, h⟩, rfl⟩, fun h => ⟨Or.inr rfl, _, rfl, Or.inr ⟨rfl, h⟩, rfl⟩⟩
theorem c_isPinned {b : Int32} {n : Nat} (hb : b.toInt = n) (hn : n < 96) (σ : sm_S) : xC xM j_M_isPinned [.ref 0, .int b] σ (sm_I (fun x σ' => ((x = 0 ∧ σ 1 (786 + 16 * n + 5) = 0) ∨ (x = 1 ∧ ¬ σ 1 (786 + 16 * n + 5) = 0)) ∧ σ' = σ)) := by
  refine w_M_isPinned b σ _ ((c_of (k := 5) (j := 5) hb rfl (by omega) σ).int ?_)
  rintro _ _ ⟨rfl, rfl⟩
  exact ⟨fun h => ⟨Or.inl rfl, _, rfl, Or.inl ⟨rfl, h⟩, rfl⟩, fun h => ⟨Or.inr rfl, _, rfl, Or.inr ⟨rfl, h⟩, rfl⟩⟩
theorem c_isShut {f : Int32} {n : Nat} (hf : f.toInt = n) (hn : n < 256) (σ : sm_S) : xC xM j_M_isShut [.ref 0, .int f] σ (sm_I (fun x σ' => (x = 0 ∨ x = 1) ∧ σ' = σ)) := by
  refine w_M_isShut f σ _ ⟨by decide, by decide, (c_spanOf hf σ).int ?_⟩
  rintro x _ ⟨hx, rfl⟩
  refine (c_spanAt x _).int ?_
  rintro _ _ ⟨rfl, rfl⟩
  obtain ⟨h1, h2⟩ := ixS (k := 2) (j := 2) hx rfl (by omega)
  exact ⟨h1, fun h => ⟨Or.inl rfl, _, rfl, Or.inl rfl, rfl⟩, fun h => ⟨Or.inr rfl, _, rfl, Or.inr rfl, rfl⟩⟩
