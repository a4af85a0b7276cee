section
/-! ===== numbers and stores ===== -/
theorem bm {x : Int} (h : -2147483648 ≤ x) (h2 : x < 2147483648) : x.bmod 4294967296 = x := by
  simp only [Int.bmod]
  split <;> omega
theorem t_add {a b : Int32} {x y : Int} (ha : a.toInt = x) (hb : b.toInt = y) (h : -2147483648 ≤ x + y) (h2 : x + y < 2147483648) : (a + b).toInt = x + y := by
  rw [Int32.toInt_add, ha, hb]
  exact bm h h2
theorem t_sub {a b : Int32} {x y : Int} (ha : a.toInt = x) (hb : b.toInt = y) (h : -2147483648 ≤ x - y) (h2 : x - y < 2147483648) : (a - b).toInt = x - y := by
  rw [Int32.toInt_sub, ha, hb]
  exact bm h h2
theorem t_mul {a b : Int32} {x y : Int} (ha : a.toInt = x) (hb : b.toInt = y) (h : -2147483648 ≤ x * y) (h2 : x * y < 2147483648) : (a * b).toInt = x * y := by
  rw [Int32.toInt_mul, ha, hb]
  exact bm h h2
theorem t_inj {a b : Int32} (h : a.toInt = b.toInt) : a = b := Int32.toInt_inj.mp h
theorem t_lt {a b : Int32} : a < b ↔ a.toInt < b.toInt := Int32.lt_iff_toInt_lt
theorem t_le {a b : Int32} : a ≤ b ↔ a.toInt ≤ b.toInt := Int32.le_iff_toInt_le
theorem t_nat {x : Int32} {n : Nat} (h : x.toInt = n) : x.toNatClampNeg = n := by
  show x.toInt.toNat = n
  omega
theorem t_vp {x : Int32} {n N : Nat} (h : x.toInt = n) (hn : n < N) : vp_in x N := by
  rw [vp_in_iff]
  omega
theorem t_nI {x : Int32} {n : Nat} (h : x.toInt = n) : x = nI n := by
  apply t_inj
  have := x.toInt_lt
  rw [h, nI_toInt (by omega)]
theorem t_of {x : Int32} (h : 0 ≤ x.toInt) : ∃ n : Nat, x.toInt = n := ⟨x.toInt.toNat, by omega⟩
theorem t_bd (x : Int32) : -2147483648 ≤ x.toInt ∧ x.toInt < 2147483648 := ⟨x.le_toInt, x.toInt_lt⟩
theorem t_div {a : Int32} {n d : Nat} {b : Int32} (ha : a.toInt = n) (hb : b.toInt = d) (hd : 0 < d) : (a / b).toInt = ((n / d : Nat) : Int) := by
  have h1 := t_bd a
  have h2 := t_bd b
  rw [t_nI ha, t_nI hb, pk_div (by omega) hd (by omega), nI_toInt]
  have := Nat.div_le_self n d
  omega
theorem t_rem {a : Int32} {n d : Nat} {b : Int32} (ha : a.toInt = n) (hb : b.toInt = d) (hd : 0 < d) : (a - a / b * b).toInt = ((n % d : Nat) : Int) := by
  have h1 := t_bd a
  have h2 := t_bd b
  rw [t_nI ha, t_nI hb, pk_rem (by omega) hd (by omega), nI_toInt]
  have := Nat.mod_lt n hd
  omega
theorem t_sh : ∀ k, k < 31 → (1 : Int32) <<< (nI k &&& 31) = nI (2 ^ k) := by decide
theorem t_pow {o : Int32} {k : Nat} (h : o.toInt = k) (hk : k < 31) : ((1 : Int32) <<< (o &&& 31)).toInt = ((2 ^ k : Nat) : Int) := by
  rw [t_nI h, t_sh k hk, nI_toInt]
  exact Nat.pow_lt_pow_right (by decide) hk
theorem t_al {f k : Nat} (hk : k ≤ 5) (h : f % 2 ^ k = 0) : f % 32 + 2 ^ k ≤ 32 := by
  rcases (show k = 0 ∨ k = 1 ∨ k = 2 ∨ k = 3 ∨ k = 4 ∨ k = 5 by omega) with rfl | rfl | rfl | rfl | rfl | rfl <;> simp only [Nat.reducePow] at h ⊢ <;> omega
theorem t_pw {k : Nat} (hk : k ≤ 5) : 1 ≤ 2 ^ k ∧ 2 ^ k ≤ 32 := by
  rcases (show k = 0 ∨ k = 1 ∨ k = 2 ∨ k = 3 ∨ k = 4 ∨ k = 5 by omega) with rfl | rfl | rfl | rfl | rfl | rfl <;> decide
/-- the place c + m * f + k of a row -/
theorem t_ix {c m f k : Int32} {C M n j : Nat} (hc : c.toInt = C) (hm : m.toInt = M) (hf : f.toInt = n) (hk : k.toInt = j) (h : C + M * n + j < 2662) : (c + m * f + k).toInt = ((C + M * n + j : Nat) : Int) := by
  have h0 : (m * f).toInt = ((M * n : Nat) : Int) := by
    rw [t_mul hm hf (by rw [← Int.natCast_mul]; omega) (by rw [← Int.natCast_mul]; omega), Int.natCast_mul]
  have h1 := t_add hc h0 (by omega) (by omega)
  rw [t_add h1 hk (by omega) (by omega)]
  omega
theorem s_at {σ : sm_S} {k : Nat} {f : Nat → Int32} : (sm_set σ k f) k = f := if_pos rfl
theorem s_ne {σ : sm_S} {k j : Nat} {f : Nat → Int32} (h : j ≠ k) : (sm_set σ k f) j = σ j := if_neg h
theorem s_ss {σ : sm_S} {k : Nat} {f g : Nat → Int32} : sm_set (sm_set σ k f) k g = sm_set σ k g := by
  funext a
  by_cases h : a = k <;> simp [sm_set, h]
theorem s_id {σ : sm_S} {k : Nat} : sm_set σ k (σ k) = σ := by
  funext a
  by_cases h : a = k <;> simp [sm_set, h]
theorem u_at {f : Nat → Int32} {k : Nat} {x : Int32} : upd f k x k = x := if_pos rfl
theorem u_ne {f : Nat → Int32} {k j : Nat} {x : Int32} (h : j ≠ k) : upd f k x j = f j := if_neg h
end
section
/-! ===== the model: places and reads ===== -/
theorem c_frameAt (f : Int32) (σ : sm_S) : xC xM j_M_frameAt [.ref 0, .int f] σ (sm_I (fun x σ' => x = 18 + 3 * f ∧ σ' = σ)) := w_M_frameAt f σ _ ⟨_, rfl, rfl, rfl⟩
theorem c_blockAt (f : Int32) (σ : sm_S) : xC xM j_M_blockAt [.ref 0, .int f] σ (sm_I (fun x σ' => x = 786 + 16 * f ∧ σ' = σ)) := w_M_blockAt f σ _ ⟨_, rfl, rfl, rfl⟩
theorem c_taskAt (f : Int32) (σ : sm_S) : xC xM j_M_taskAt [.ref 0, .int f] σ (sm_I (fun x σ' => x = 2322 + 6 * f ∧ σ' = σ)) := w_M_taskAt f σ _ ⟨_, rfl, rfl, rfl⟩
theorem c_spanAt (f : Int32) (σ : sm_S) : xC xM j_M_spanAt [.ref 0, .int f] σ (sm_I (fun x σ' => x = 2358 + 8 * f ∧ σ' = σ)) := w_M_spanAt f σ _ ⟨_, rfl, rfl, rfl⟩
theorem ixF {f k : Int32} {n j : Nat} (hf : f.toInt = n) (hk : k.toInt = j) (h : 18 + 3 * n + j < 2662) : vp_in (18 + 3 * f + k) 2662 ∧ (18 + 3 * f + k).toNatClampNeg = 18 + 3 * n + j := by
  have h1 := t_ix (c := 18) (m := 3) (C := 18) (M := 3) rfl rfl hf hk h
  exact ⟨t_vp h1 h, t_nat h1⟩
theorem ixB {f k : Int32} {n j : Nat} (hf : f.toInt = n) (hk : k.toInt = j) (h : 786 + 16 * n + j < 2662) : vp_in (786 + 16 * f + k) 2662 ∧ (786 + 16 * f + k).toNatClampNeg = 786 + 16 * n + j := by
  have h1 := t_ix (c := 786) (m := 16) (C := 786) (M := 16) rfl rfl hf hk h
  exact ⟨t_vp h1 h, t_nat h1⟩
theorem ixT {f k : Int32} {n j : Nat} (hf : f.toInt = n) (hk : k.toInt = j) (h : 2322 + 6 * n + j < 2662) : vp_in (2322 + 6 * f + k) 2662 ∧ (2322 + 6 * f + k).toNatClampNeg = 2322 + 6 * n + j := by
  have h1 := t_ix (c := 2322) (m := 6) (C := 2322) (M := 6) rfl rfl hf hk h
  exact ⟨t_vp h1 h, t_nat h1⟩
theorem ixS {f k : Int32} {n j : Nat} (hf : f.toInt = n) (hk : k.toInt = j) (h : 2358 + 8 * n + j < 2662) : vp_in (2358 + 8 * f + k) 2662 ∧ (2358 + 8 * f + k).toNatClampNeg = 2358 + 8 * n + j := by
  have h1 := t_ix (c := 2358) (m := 8) (C := 2358) (M := 8) rfl rfl hf hk h
  exact ⟨t_vp h1 h, t_nat h1⟩
theorem c_isIn (a b c : Int32) (σ : sm_S) : xC xM j_M_isIn [.ref 0, .int a, .int b, .int c] σ (sm_I (fun x σ' => ((x = 1 ∧ b.toInt ≤ a.toInt ∧ a.toInt ≤ c.toInt) ∨ (x = 0 ∧ (a.toInt < b.toInt ∨ c.toInt < a.toInt))) ∧ σ' = σ)) := by
  refine w_M_isIn a b c σ _ ⟨fun h => ⟨Or.inl rfl, _, rfl, ?_, rfl⟩, fun h => ⟨fun h2 => ⟨Or.inl rfl, _, rfl, ?_, rfl⟩, fun h2 => ⟨Or.inr rfl, _, rfl, ?_, rfl⟩⟩⟩
  · exact Or.inr ⟨rfl, Or.inl (t_lt.mp h)⟩
  · exact Or.inr ⟨rfl, Or.inr (t_lt.mp h2)⟩
  · rw [t_lt] at h h2
    exact Or.inl ⟨rfl, by omega, by omega⟩
theorem c_isTask (a : Int32) (σ : sm_S) : xC xM j_M_isTask [.ref 0, .int a] σ (sm_I (fun x σ' => ((x = 1 ∧ ∃ n : Nat, n < 6 ∧ a.toInt = n) ∨ (x = 0 ∧ (a.toInt < 0 ∨ 6 ≤ a.toInt))) ∧ σ' = σ)) := by
  refine w_M_isTask a σ _ ⟨fun h => ⟨Or.inl rfl, _, rfl, ?_, rfl⟩, fun h => ⟨fun h2 => ⟨Or.inl rfl, _, rfl, ?_, rfl⟩, fun h2 => ⟨Or.inr rfl, _, rfl, ?_, rfl⟩⟩⟩
  · exact Or.inr ⟨rfl, Or.inl (t_lt.mp h)⟩
  · exact Or.inr ⟨rfl, Or.inr (t_le.mp h2)⟩
  · rw [t_lt] at h
    rw [t_le] at h2
    have h : ¬ a.toInt < 0 := h
    have h2 : ¬ 6 ≤ a.toInt := h2
    exact Or.inl ⟨rfl, a.toInt.toNat, by omega, by omega⟩
theorem c_isSpan (a : Int32) (σ : sm_S) : xC xM j_M_isSpan [.ref 0, .int a] σ (sm_I (fun x σ' => ((x = 1 ∧ ∃ n : Nat, n < 8 ∧ a.toInt = n) ∨ (x = 0 ∧ (a.toInt < 0 ∨ 8 ≤ a.toInt))) ∧ σ' = σ)) := by
  refine w_M_isSpan a σ _ ⟨fun h => ⟨Or.inl rfl, _, rfl, ?_, rfl⟩, fun h => ⟨fun h2 => ⟨Or.inl rfl, _, rfl, ?_, rfl⟩, fun h2 => ⟨Or.inr rfl, _, rfl, ?_, rfl⟩⟩⟩
  · exact Or.inr ⟨rfl, Or.inl (t_lt.mp h)⟩
  · exact Or.inr ⟨rfl, Or.inr (t_le.mp h2)⟩
  · rw [t_lt] at h
    rw [t_le] at h2
    have h : ¬ a.toInt < 0 := h
    have h2 : ¬ 8 ≤ a.toInt := h2
    exact Or.inl ⟨rfl, a.toInt.toNat, by omega, by omega⟩
theorem c_isBlock (a : Int32) (σ : sm_S) : xC xM j_M_isBlock [.ref 0, .int a] σ (sm_I (fun x σ' => ((x = 1 ∧ ∃ n : Nat, n < 96 ∧ a.toInt = n ∧ σ 1 (786 + 16 * n) = 1) ∨ (x = 0 ∧ ((a.toInt < 0 ∨ 96 ≤ a.toInt) ∨ ∃ n : Nat, n < 96 ∧ a.toInt = n ∧ σ 1 (786 + 16 * n) ≠ 1))) ∧ σ' = σ)) := by
  refine w_M_isBlock a σ _ ⟨fun h => ⟨Or.inl rfl, _, rfl, Or.inr ⟨rfl, Or.inl (Or.inl (t_lt.mp h))⟩, rfl⟩, fun h => ⟨fun h2 => ⟨Or.inl rfl, _, rfl, Or.inr ⟨rfl, Or.inl (Or.inr (t_le.mp h2))⟩, rfl⟩, fun h2 => (c_blockAt a σ).int ?_⟩⟩
  rintro _ _ ⟨rfl, rfl⟩
  rw [t_lt] at h
  rw [t_le] at h2
  have h : ¬ a.toInt < 0 := h
  have h2 : ¬ 96 ≤ a.toInt := h2
  obtain ⟨n, hn⟩ := t_of (x := a) (by omega)
  obtain ⟨h3, h4⟩ := ixB (k := 0) (j := 0) hn rfl (by omega)
  rw [h4]
  exact ⟨h3, fun h5 => ⟨Or.inl rfl, _, rfl, Or.inr ⟨rfl, Or.inr ⟨n, by omega, hn, h5⟩⟩, rfl⟩, fun h5 => ⟨Or.inr rfl, _, rfl, Or.inl ⟨rfl, n, by omega, hn, Classical.not_not.mp h5⟩, rfl⟩⟩
theorem c_stateOf {f : Int32} {n : Nat} (hf : f.toInt = n) (hn : n < 800) (σ : sm_S) : xC xM j_M_stateOf [.ref 0, .int f] σ (sm_I (fun x σ' => x = σ 1 (18 + 3 * n) ∧ σ' = σ)) := by
  refine w_M_stateOf f σ _ ((c_frameAt f σ).int ?_)
  rintro _ _ ⟨rfl, rfl⟩
  obtain ⟨h1, h2⟩ := ixF (k := 0) (j := 0) hf rfl (by omega)
  rw [h2]
  exact ⟨h1, _, rfl, rfl, rfl⟩
theorem c_valueOf {f : Int32} {n : Nat} (hf : f.toInt = n) (hn : n < 800) (σ : sm_S) : xC xM j_M_valueOf [.ref 0, .int f] σ (sm_I (fun x σ' => x = σ 1 (18 + 3 * n + 2) ∧ σ' = σ)) := by
  refine w_M_valueOf f σ _ ((c_frameAt f σ).int ?_)
  rintro _ _ ⟨rfl, rfl⟩
  obtain ⟨h1, h2⟩ := ixF (k := 2) (j := 2) hf rfl (by omega)
  rw [h2]
  exact ⟨h1, _, rfl, rfl, rfl⟩
theorem c_isFree {f : Int32} {n : Nat} (hf : f.toInt = n) (hn : n < 800) (σ : sm_S) : xC xM j_M_isFree [.ref 0, .int f] σ (sm_I (fun x σ' => ((x = 1 ∧ σ 1 (18 + 3 * n) = 1) ∨ (x = 0 ∧ σ 1 (18 + 3 * n) ≠ 1)) ∧ σ' = σ)) := by
  refine w_M_isFree f σ _ ((c_stateOf hf hn σ).int ?_)
  rintro _ _ ⟨rfl, rfl⟩
  exact ⟨fun h => ⟨Or.inl rfl, _, rfl, Or.inr ⟨rfl, h⟩, rfl⟩, fun h => ⟨Or.inr rfl, _, rfl, Or.inl ⟨rfl, Classical.not_not.mp h⟩, rfl⟩⟩
theorem c_spanOf {f : Int32} {n : Nat} (hf : f.toInt = n) (σ : sm_S) : xC xM j_M_spanOf [.ref 0, .int f] σ (sm_I (fun x σ' => x.toInt = ((n / 32 : Nat) : Int) ∧ σ' = σ)) :=
  w_M_spanOf f σ _ ⟨by decide, _, rfl, t_div (d := 32) hf rfl (by decide), rfl⟩
theorem c_spanState {s : Int32} {n : Nat} (hs : s.toInt = n) (hn : n < 8) (σ : sm_S) : xC xM j_M_spanState [.ref 0, .int s] σ (sm_I (fun x σ' => x = σ 1 (2358 + 8 * n) ∧ σ' = σ)) := by
  refine w_M_spanState s σ _ ((c_spanAt s σ).int ?_)
  rintro _ _ ⟨rfl, rfl⟩
  obtain ⟨h1, h2⟩ := ixS (k := 0) (j := 0) hs rfl (by omega)
  rw [h2]
  exact ⟨h1, _, rfl, rfl, rfl⟩
theorem c_zoneOf {s : Int32} {n : Nat} (hs : s.toInt = n) (hn : n < 8) (σ : sm_S) : xC xM j_M_zoneOf [.ref 0, .int s] σ (sm_I (fun x σ' => ((σ 1 (2358 + 8 * n) = 0 ∧ x = -1) ∨ (σ 1 (2358 + 8 * n) ≠ 0 ∧ x = σ 1 (2358 + 8 * n + 1))) ∧ σ' = σ)) := by
  refine w_M_zoneOf s σ _ ((c_spanState hs hn σ).int ?_)
  rintro _ _ ⟨rfl, rfl⟩
  refine ⟨fun h => (c_spanAt s _).int ?_, fun h => ⟨_, rfl, Or.inl ⟨Classical.not_not.mp h, rfl⟩, rfl⟩⟩
  rintro _ _ ⟨rfl, rfl⟩
  obtain ⟨h1, h2⟩ := ixS (k := 1) (j := 1) hs rfl (by omega)
  rw [h2]
  exact ⟨h1, _, rfl, Or.inr ⟨h, rfl⟩, rfl⟩
theorem c_of {b k : Int32} {n j : Nat} (hb : b.toInt = n) (hk : k.toInt = j) (h : 786 + 16 * n + j < 2662) (σ : sm_S) : xC xM j_M_of [.ref 0, .int b, .int k] σ (sm_I (fun x σ' => x = σ 1 (786 + 16 * n + j) ∧ σ' = σ)) := by
  refine w_M_of b k σ _ ((c_blockAt b σ).int ?_)
  rintro _ _ ⟨rfl, rfl⟩
  obtain ⟨h1, h2⟩ := ixB hb hk h
  rw [h2]
  exact ⟨h1, _, rfl, rfl, rfl⟩
theorem c_frameOf {b : Int32} {n : Nat} (hb : b.toInt = n) (hn : n < 96) (σ : sm_S) : xC xM j_M_frameOf [.ref 0, .int b] σ (sm_I (fun x σ' => x = σ 1 (786 + 16 * n + 1) ∧ σ' = σ)) := by
  refine w_M_frameOf b σ _ ((c_of (k := 1) (j := 1) hb rfl (by omega) σ).int ?_)
  rintro _ _ ⟨rfl, rfl⟩
  exact ⟨_, rfl, rfl, rfl⟩
theorem c_longOf {b : Int32} {n : Nat} (hb : b.toInt = n) (hn : n < 96) (σ : sm_S) : xC xM j_M_longOf [.ref 0, .int b] σ (sm_I (fun x σ' => x = (1 : Int32) <<< (σ 1 (786 + 16 * n + 2) &&& 31) ∧ σ' = σ)) := by
  refine w_M_longOf b σ _ ((c_of (k := 2) (j := 2) hb rfl (by omega) σ).int ?_)
  rintro _ _ ⟨rfl, rfl⟩
  exact ⟨_, rfl, rfl, rfl⟩
theorem c_isOnWay {b : Int32} {n : Nat} (hb : b.toInt = n) (hn : n < 96) (σ : sm_S) : xC xM j_M_isOnWay [.ref 0, .int b] σ (sm_I (fun x σ' => ((x = 0 ∧ σ 1 (786 + 16 * n + 6) ≤ 0) ∨ (x = 1 ∧ ¬ σ 1 (786 + 16 * n + 6) ≤ 0)) ∧ σ' = σ)) := by
  refine w_M_isOnWay b σ _ ((c_of (k := 6) (j := 6) hb rfl (by omega) σ).int ?_)
  rintro _ _ ⟨rfl, rfl⟩
  exact ⟨fun h => ⟨Or.inl rfl, _, rfl, Or.inl ⟨rfl, h⟩, rfl⟩, fun h => ⟨Or.inr rfl, _, rfl, Or.inr ⟨rfl, h⟩, rfl⟩⟩
theorem c_isPinned {b : Int32} {n : Nat} (hb : b.toInt = n) (hn : n < 96) (σ : sm_S) : xC xM j_M_isPinned [.ref 0, .int b] σ (sm_I (fun x σ' => ((x = 0 ∧ σ 1 (786 + 16 * n + 5) = 0) ∨ (x = 1 ∧ ¬ σ 1 (786 + 16 * n + 5) = 0)) ∧ σ' = σ)) := by
  refine w_M_isPinned b σ _ ((c_of (k := 5) (j := 5) hb rfl (by omega) σ).int ?_)
  rintro _ _ ⟨rfl, rfl⟩
  exact ⟨fun h => ⟨Or.inl rfl, _, rfl, Or.inl ⟨rfl, h⟩, rfl⟩, fun h => ⟨Or.inr rfl, _, rfl, Or.inr ⟨rfl, h⟩, rfl⟩⟩
theorem c_isShut {f : Int32} {n : Nat} (hf : f.toInt = n) (hn : n < 256) (σ : sm_S) : xC xM j_M_isShut [.ref 0, .int f] σ (sm_I (fun x σ' => (x = 0 ∨ x = 1) ∧ σ' = σ)) := by
  refine w_M_isShut f σ _ ⟨by decide, by decide, (c_spanOf hf σ).int ?_⟩
  rintro x _ ⟨hx, rfl⟩
  refine (c_spanAt x _).int ?_
  rintro _ _ ⟨rfl, rfl⟩
  obtain ⟨h1, h2⟩ := ixS (k := 2) (j := 2) hx rfl (by omega)
  exact ⟨h1, fun h => ⟨Or.inl rfl, _, rfl, Or.inl rfl, rfl⟩, fun h => ⟨Or.inr rfl, _, rfl, Or.inr rfl, rfl⟩⟩
end
section
/-! ===== the model: stores, and what looks for places ===== -/
theorem c_lay {b k : Int32} {n j : Nat} (hb : b.toInt = n) (hk : k.toInt = j) (h : 786 + 16 * n + j < 2662) (x : Int32) (σ : sm_S) : xC xM j_M_lay [.ref 0, .int b, .int k, .int x] σ (sm_V (fun σ' => σ' = sm_set σ 1 (upd (σ 1) (786 + 16 * n + j) x))) := by
  refine w_M_lay b k x σ _ ((c_blockAt b σ).int ?_)
  rintro _ _ ⟨rfl, rfl⟩
  obtain ⟨h1, h2⟩ := ixB hb hk h
  rw [h2]
  exact ⟨h1, fun σ' h => ⟨rfl, h⟩⟩
theorem c_lays {f : Int32} {n : Nat} (hf : f.toInt = n) (hn : n < 800) (x : Int32) (σ : sm_S) : xC xM j_M_lays [.ref 0, .int f, .int x] σ (sm_V (fun σ' => σ' = sm_set σ 1 (upd (σ 1) (18 + 3 * n + 2) x))) := by
  refine w_M_lays f x σ _ ((c_frameAt f σ).int ?_)
  rintro _ _ ⟨rfl, rfl⟩
  obtain ⟨h1, h2⟩ := ixF (k := 2) (j := 2) hf rfl (by omega)
  rw [h2]
  exact ⟨h1, fun σ' h => ⟨rfl, h⟩⟩
theorem c_has {f : Int32} {n : Nat} (hf : f.toInt = n) (hn : n < 800) (b s : Int32) (σ : sm_S) : xC xM j_M_has [.ref 0, .int f, .int b, .int s] σ (sm_V (fun σ' => σ' = sm_set σ 1 (upd (upd (σ 1) (18 + 3 * n) s) (18 + 3 * n + 1) (b + 1)))) := by
  refine w_M_has f b s σ _ ((c_frameAt f σ).int ?_)
  rintro _ _ ⟨rfl, rfl⟩
  obtain ⟨h1, h2⟩ := ixF (k := 0) (j := 0) hf rfl (by omega)
  rw [h2]
  refine ⟨h1, fun σ1 e1 => (c_frameAt f σ1).int ?_⟩
  rintro _ _ ⟨rfl, rfl⟩
  obtain ⟨h3, h4⟩ := ixF (k := 1) (j := 1) hf rfl (by omega)
  rw [h4]
  refine ⟨h3, fun σ2 e2 => ⟨rfl, ?_⟩⟩
  rw [e2, e1, s_at, s_ss]
  rfl
theorem c_leaves {f : Int32} {n : Nat} (hf : f.toInt = n) (hn : n < 256) (σ : sm_S) : xC xM j_M_leaves [.ref 0, .int f] σ (sm_V (fun σ' => ∃ s : Int32, (s = 1 ∨ s = 2) ∧ σ' = sm_set σ 1 (upd (upd (upd (σ 1) (18 + 3 * n) s) (18 + 3 * n + 1) 0) (18 + 3 * n + 2) 0))) := by
  refine w_M_leaves f σ _ ((c_frameAt f σ).int ?_)
  rintro _ _ ⟨rfl, rfl⟩
  refine (c_isShut hf hn _).int ?_
  rintro x _ ⟨hx, rfl⟩
  obtain ⟨h1, h2⟩ := ixF (k := 0) (j := 0) hf rfl (by omega)
  obtain ⟨h3, h4⟩ := ixF (k := 1) (j := 1) hf rfl (by omega)
  obtain ⟨h5, h6⟩ := ixF (k := 2) (j := 2) hf rfl (by omega)
  rw [h2, h4, h6]
  refine ⟨fun _ => ⟨h1, fun σ1 e1 => ⟨h3, fun σ2 e2 => ⟨h5, fun σ3 e3 => ⟨rfl, 1, Or.inl rfl, ?_⟩⟩⟩⟩, fun _ => ⟨h1, fun σ1 e1 => ⟨h3, fun σ2 e2 => ⟨h5, fun σ3 e3 => ⟨rfl, 2, Or.inr rfl, ?_⟩⟩⟩⟩⟩ <;>
  · rw [e3, e2, e1]
    simp only [s_at, s_ss, Nat.add_zero]
theorem c_more {k : Int32} {j : Nat} (hk : k.toInt = j) (hj : j < 2662) (x : Int32) (σ : sm_S) : xC xM j_M_more [.ref 0, .int k, .int x] σ (sm_V (fun σ' => σ' = sm_set σ 1 (upd (σ 1) j (σ 1 j + x)))) := by
  refine w_M_more k x σ _ ⟨t_vp hk hj, t_vp hk hj, fun σ' h => ⟨rfl, ?_⟩⟩
  rw [h, t_nat hk]
theorem c_counts {k : Int32} {j : Nat} (hk : k.toInt = j) (hj : j < 11) (x : Int32) (σ : sm_S) : xC xM j_M_counts [.ref 0, .int k, .int x] σ (sm_V (fun σ' => σ' = sm_set σ 1 (upd (σ 1) (7 + j) (σ 1 (7 + j) + x)))) := by
  have h1 : (7 + k).toInt = ((7 + j : Nat) : Int) := by
    rw [t_add (x := 7) rfl hk (by omega) (by omega)]
    omega
  refine w_M_counts k x σ _ ((c_more h1 (by omega) x σ).void ?_)
  rintro _ rfl
  exact ⟨rfl, rfl⟩
theorem c_writes {n : Nat} (a b c : Int32) (σ : sm_S) (h5 : (σ 1 5).toInt = n) : xC xM j_M_writes [.ref 0, .int a, .int b, .int c] σ (sm_V (fun σ' => ∃ v, σ' = sm_set σ 1 v ∧ v 5 = σ 1 5 + 1 ∧ ∀ i, i < 2422 → i ≠ 5 → v i = σ 1 i)) := by
  have hr : (σ 1 ((5 : Int32)).toNatClampNeg - σ 1 ((5 : Int32)).toNatClampNeg / (60 : Int32) * (60 : Int32)).toInt = ((n % 60 : Nat) : Int) := t_rem (d := 60) h5 rfl (by decide)
  have hm : n % 60 < 60 := Nat.mod_lt _ (by decide)
  have hx : ∀ (k : Int32) (j : Nat), k.toInt = j → j < 4 → vp_in (2422 + 4 * (σ 1 ((5 : Int32)).toNatClampNeg - σ 1 ((5 : Int32)).toNatClampNeg / (60 : Int32) * (60 : Int32)) + k) 2662 ∧ (2422 + 4 * (σ 1 ((5 : Int32)).toNatClampNeg - σ 1 ((5 : Int32)).toNatClampNeg / (60 : Int32) * (60 : Int32)) + k).toNatClampNeg = 2422 + 4 * (n % 60) + j := by
    intro k j hk hj
    have h1 := t_ix (c := 2422) (m := 4) (C := 2422) (M := 4) rfl rfl hr hk (by omega)
    exact ⟨t_vp h1 (by omega), t_nat h1⟩
  obtain ⟨p0, q0⟩ := hx 0 0 rfl (by omega)
  obtain ⟨p1, q1⟩ := hx 1 1 rfl (by omega)
  obtain ⟨p2, q2⟩ := hx 2 2 rfl (by omega)
  obtain ⟨p3, q3⟩ := hx 3 3 rfl (by omega)
  rw [Int32.add_zero] at p0 q0
  refine w_M_writes a b c σ _ ⟨t_vp (n := 5) rfl (by omega), by decide, t_vp (n := 4) rfl (by omega), p0, fun σ1 e1 => ⟨p1, fun σ2 e2 => ⟨p2, fun σ3 e3 => ⟨p3, fun σ4 e4 => ?_⟩⟩⟩⟩
  refine (c_more (k := 5) (j := 5) rfl (by omega) 1 σ4).void ?_
  rintro _ rfl
  rw [q0] at e1
  rw [q1] at e2
  rw [q2] at e3
  rw [q3] at e4
  have hv : ∀ i, i < 2422 → σ4 1 i = σ 1 i := by
    intro i hi
    rw [e4, s_at, u_ne (by omega), e3, s_at, u_ne (by omega), e2, s_at, u_ne (by omega), e1, s_at, u_ne (by omega)]
  refine ⟨rfl, upd (σ4 1) 5 (σ4 1 5 + 1), ?_, ?_, fun i hi h5 => ?_⟩
  · rw [e4, e3, e2, e1]
    simp only [s_at, s_ss]
  · rw [u_at, hv 5 (by omega)]
  · rw [u_ne h5, hv i hi]
end
section
/-! ===== the model: free places ===== -/
theorem t_smod : ∀ k, k < 6 → ((nI k &&& 31).toBitVec.smod 32).toNat = k := by decide
theorem t_fl {f o : Int32} {n k : Nat} (hf : f.toInt = n) (hn : n < 1000) (ho : o.toInt = k) (hk : k ≤ 5) : ((f >>> (o &&& 31)) <<< (o &&& 31)).toInt = ((n / 2 ^ k * 2 ^ k : Nat) : Int) := by
  have h0 := Nat.div_mul_le_self n (2 ^ k)
  rw [t_nI hf, t_nI ho, pk_shrN (by omega) _ k (t_smod k (by omega)), pk_shlN _ k (t_smod k (by omega)) (by omega), nI_toInt (by omega)]
/-- are the 2^o frames from fr on free? -/
theorem l_areFree {a1 a2 a3 : Int32} {fr o : Nat} (h3 : a3.toInt = fr) (ho : a2.toInt = o) (ho5 : o ≤ 5) (hfr : fr < 700) (σ : sm_S) : ∀ (d k : Nat) (a4 : Int32), a4.toInt = ((fr + k : Nat) : Int) → k + d = 2 ^ o → (∀ j, j < k → σ 1 (18 + 3 * (fr + j)) = 1) →
    xE xM m_M_areFree 9 [.ref 0, .int a1, .int a2, .int a3, .int a4] [] σ (sm_I (fun x σ' => ((x = 1 ∧ ∀ j, j < 2 ^ o → σ 1 (18 + 3 * (fr + j)) = 1) ∨ (x = 0 ∧ ∃ j, j < 2 ^ o ∧ σ 1 (18 + 3 * (fr + j)) ≠ 1)) ∧ σ' = σ)) := by
  have hp := t_pw ho5
  have hb : (a3 + ((1 : Int32) <<< (a2 &&& 31))).toInt = ((fr + 2 ^ o : Nat) : Int) := by
    rw [t_add h3 (t_pow ho (by omega)) (by omega) (by omega)]
    omega
  intro d
  induction d with
  | zero =>
    intro k a4 h4 hk hall
    refine w_M_areFree_9 a1 a2 a3 a4 σ _ ⟨fun _ => ⟨Or.inr rfl, _, rfl, Or.inl ⟨rfl, fun j hj => hall j (by omega)⟩, rfl⟩, fun h => absurd ?_ h⟩
    rw [t_le, hb, h4]
    omega
  | succ d ih =>
    intro k a4 h4 hk hall
    refine w_M_areFree_9 a1 a2 a3 a4 σ _ ⟨fun h => ?_, fun h => (c_isFree h4 (by omega) σ).int ?_⟩
    · rw [t_le, hb, h4] at h
      omega
    · rintro x _ ⟨hx, rfl⟩
      rcases hx with ⟨rfl, hx⟩ | ⟨rfl, hx⟩
      · refine ⟨fun _ => ih (k + 1) (a4 + 1) ?_ (by omega) (fun j hj => ?_), fun h => absurd (by decide) h⟩
        · rw [t_add h4 (y := 1) rfl (by omega) (by omega)]
          omega
        · rcases Nat.lt_succ_iff_lt_or_eq.mp hj with h1 | rfl
          · exact hall j h1
          · exact hx
      · exact ⟨fun h => absurd rfl h, fun _ => ⟨Or.inl rfl, _, rfl, Or.inr ⟨rfl, k, by omega, hx⟩, rfl⟩⟩
theorem c_areFree {f o : Int32} {n k : Nat} (hf : f.toInt = n) (hn : n < 700) (ho : o.toInt = k) (hk : k ≤ 5) (σ : sm_S) : xC xM j_M_areFree [.ref 0, .int f, .int o] σ (sm_I (fun x σ' => ((x = 1 ∧ ∀ j, j < 2 ^ k → σ 1 (18 + 3 * (n / 2 ^ k * 2 ^ k + j)) = 1) ∨ (x = 0 ∧ ∃ j, j < 2 ^ k ∧ σ 1 (18 + 3 * (n / 2 ^ k * 2 ^ k + j)) ≠ 1)) ∧ σ' = σ)) := by
  have h1 := t_fl hf (by omega) ho hk
  have h0 := Nat.div_mul_le_self n (2 ^ k)
  exact w_M_areFree f o σ _ (l_areFree h1 ho hk (by omega) σ (2 ^ k) 0 _ (by rw [h1]; rfl) (by omega) (fun j hj => absurd hj (Nat.not_lt_zero j)))
theorem l_hole {a1 : Int32} {n : Nat} (h1 : a1.toInt = n) (hn : n < 700) (σ : sm_S) : ∀ (d k : Nat) (a2 : Int32), a2.toInt = k → k + d = 5 → xE xM m_M_holeOf 2 [.ref 0, .int a1, .int a2] [] σ (sm_I (fun x σ' => (∃ j : Nat, x.toInt = j ∧ j ≤ 5) ∧ σ' = σ)) := by
  intro d
  induction d with
  | zero =>
    intro k a2 h2 hk
    refine w_M_holeOf_2 a1 a2 σ _ ⟨fun _ => ⟨_, rfl, ⟨k, h2, by omega⟩, rfl⟩, fun h => absurd ?_ h⟩
    rw [t_le, h2]
    show (5 : Int) ≤ _
    omega
  | succ d ih =>
    intro k a2 h2 hk
    have h3 : (a2 + 1).toInt = ((k + 1 : Nat) : Int) := by
      rw [t_add h2 (y := 1) rfl (by omega) (by omega)]
      omega
    refine w_M_holeOf_2 a1 a2 σ _ ⟨fun _ => ⟨_, rfl, ⟨k, h2, by omega⟩, rfl⟩, fun h => (c_areFree h1 hn h3 (by omega) σ).int ?_⟩
    rintro x _ ⟨hx, rfl⟩
    exact ⟨fun _ => ⟨_, rfl, ⟨k, h2, by omega⟩, rfl⟩, fun _ => ih (k + 1) _ h3 (by omega)⟩
theorem c_holeOf {a1 : Int32} {n : Nat} (h1 : a1.toInt = n) (hn : n < 700) (σ : sm_S) : xC xM j_M_holeOf [.ref 0, .int a1] σ (sm_I (fun x σ' => (∃ j : Nat, x.toInt = j ∧ j ≤ 5) ∧ σ' = σ)) :=
  w_M_holeOf a1 σ _ (l_hole h1 hn σ 5 0 0 rfl rfl)
theorem l_holeFrom {a1 a2 : Int32} {n : Nat} (h1 : a1.toInt = n) (hn : n < 700) (σ : sm_S) : ∀ (d k : Nat) (a3 : Int32), a3.toInt = k → k + d = 5 → xE xM m_M_holeFrom 2 [.ref 0, .int a1, .int a2, .int a3] [] σ (sm_I (fun x σ' => (∃ j : Nat, x.toInt = j ∧ j ≤ 5) ∧ σ' = σ)) := by
  intro d
  induction d with
  | zero =>
    intro k a3 h2 hk
    refine w_M_holeFrom_2 a1 a2 a3 σ _ ⟨fun _ => ⟨_, rfl, ⟨k, h2, by omega⟩, rfl⟩, fun h => absurd ?_ h⟩
    rw [t_le, h2]
    show (5 : Int) ≤ _
    omega
  | succ d ih =>
    intro k a3 h2 hk
    have h3 : (a3 + 1).toInt = ((k + 1 : Nat) : Int) := by
      rw [t_add h2 (y := 1) rfl (by omega) (by omega)]
      omega
    refine w_M_holeFrom_2 a1 a2 a3 σ _ ⟨fun _ => ⟨_, rfl, ⟨k, h2, by omega⟩, rfl⟩, fun h => (c_areFree h1 hn h3 (by omega) σ).int ?_⟩
    rintro x _ ⟨hx, rfl⟩
    exact ⟨fun _ => ⟨_, rfl, ⟨k, h2, by omega⟩, rfl⟩, fun _ => ih (k + 1) _ h3 (by omega)⟩
theorem c_holeFrom {a1 a2 : Int32} {n k : Nat} (h1 : a1.toInt = n) (hn : n < 700) (h2 : a2.toInt = k) (hk : k ≤ 5) (σ : sm_S) : xC xM j_M_holeFrom [.ref 0, .int a1, .int a2] σ (sm_I (fun x σ' => (∃ j : Nat, x.toInt = j ∧ j ≤ 5) ∧ σ' = σ)) :=
  w_M_holeFrom a1 a2 σ _ (l_holeFrom h1 hn σ (5 - k) k _ h2 (by omega))
/-- the least number that no block has -/
theorem l_freeNumber (σ : sm_S) : ∀ (d k : Nat) (a1 : Int32), a1.toInt = k → k + d = 96 → (∀ j, j < k → σ 1 (786 + 16 * j) ≠ 0) → xE xM m_M_freeNumber 2 [.ref 0, .int a1] [] σ (sm_I (fun x σ' => ((x = -1 ∧ ∀ j, j < 96 → σ 1 (786 + 16 * j) ≠ 0) ∨ ∃ j : Nat, x.toInt = j ∧ j < 96 ∧ σ 1 (786 + 16 * j) = 0 ∧ ∀ i, i < j → σ 1 (786 + 16 * i) ≠ 0) ∧ σ' = σ)) := by
  intro d
  induction d with
  | zero =>
    intro k a1 h1 hk hall
    refine w_M_freeNumber_2 a1 σ _ ⟨fun _ => ⟨_, rfl, Or.inl ⟨rfl, fun j hj => hall j (by omega)⟩, rfl⟩, fun h => absurd ?_ h⟩
    rw [t_le, h1]
    show (96 : Int) ≤ _
    omega
  | succ d ih =>
    intro k a1 h1 hk hall
    refine w_M_freeNumber_2 a1 σ _ ⟨fun h => ?_, fun h => (c_of (k := 0) (j := 0) h1 rfl (by omega) σ).int ?_⟩
    · rw [t_le, h1] at h
      have h : (96 : Int) ≤ k := h
      omega
    · rintro _ _ ⟨rfl, rfl⟩
      refine ⟨fun hx => ih (k + 1) (a1 + 1) ?_ (by omega) (fun j hj => ?_), fun hx => ⟨_, rfl, Or.inr ⟨k, h1, by omega, Classical.not_not.mp hx, hall⟩, rfl⟩⟩
      · rw [t_add h1 (y := 1) rfl (by omega) (by omega)]
        omega
      · rcases Nat.lt_succ_iff_lt_or_eq.mp hj with h2 | rfl
        · exact hall j h2
        · exact hx
theorem c_freeNumber (σ : sm_S) : xC xM j_M_freeNumber [.ref 0] σ (sm_I (fun x σ' => ((x = -1 ∧ ∀ j, j < 96 → σ 1 (786 + 16 * j) ≠ 0) ∨ ∃ j : Nat, x.toInt = j ∧ j < 96 ∧ σ 1 (786 + 16 * j) = 0 ∧ ∀ i, i < j → σ 1 (786 + 16 * i) ≠ 0) ∧ σ' = σ)) :=
  w_M_freeNumber σ _ (l_freeNumber σ 96 0 0 rfl rfl (fun j hj => absurd hj (Nat.not_lt_zero j)))
theorem c_rankOf {s t k : Int32} {n m : Nat} (hs : s.toInt = n) (hn : n < 8) (ht : t.toInt = m) (hm : m < 6) (σ : sm_S) : xC xM j_M_rankOf [.ref 0, .int s, .int k, .int t] σ (sm_I (fun x σ' => -1 ≤ x.toInt ∧ x.toInt ≤ 3 ∧ σ' = σ)) := by
  refine w_M_rankOf s k t σ _ ((c_zoneOf hs hn σ).int ?_)
  rintro x _ ⟨hx, rfl⟩
  refine ⟨by decide, (c_taskAt t _).int ?_⟩
  rintro _ _ ⟨rfl, rfl⟩
  obtain ⟨h1, h2⟩ := ixT (k := 0) (j := 0) ht rfl (by omega)
  refine ⟨h1, ?_⟩
  repeat' first
    | apply And.intro
    | intro _
  all_goals exact ⟨_, rfl, by decide, by decide, rfl⟩
/-- the best place: none, or a multiple of its size -/
theorem l_bestPlace {a1 a2 a3 a4 : Int32} {m o : Nat} (h1 : a1.toInt = m) (hm : m < 6) (h3 : a3.toInt = o) (ho : o ≤ 4) (σ : sm_S) : ∀ (d i : Nat) (a5 a6 a7 a8 : Int32) (v9 v10 : Value), a8.toInt = ((i * 2 ^ o : Nat) : Int) → (i + d) * 2 ^ o = 256 → (a5 = -1 ∨ ∃ p : Nat, a5.toInt = p ∧ p < 256 ∧ p % 2 ^ o = 0) →
    xE xM m_M_bestPlace 12 [.ref 0, .int a1, .int a2, .int a3, .int a4, .int a5, .int a6, .int a7, .int a8, v9, v10] [] σ (sm_I (fun x σ' => (x = -1 ∨ ∃ p : Nat, x.toInt = p ∧ p < 256 ∧ p % 2 ^ o = 0) ∧ σ' = σ)) := by
  have hp := t_pw (k := o) (by omega)
  intro d
  induction d with
  | zero =>
    intro i a5 a6 a7 a8 v9 v10 h8 hi h5
    refine w_M_bestPlace_12 a1 a2 a3 a4 a5 a6 a7 a8 v9 v10 σ _ ⟨fun _ => ⟨_, rfl, h5, rfl⟩, fun h => absurd ?_ h⟩
    rw [t_le, h8]
    show (256 : Int) ≤ _
    rw [Nat.add_zero] at hi
    omega
  | succ d ih =>
    intro i a5 a6 a7 a8 v9 v10 h8 hi h5
    have hi2 : (i + (d + 1)) * 2 ^ o = i * 2 ^ o + (d * 2 ^ o + 2 ^ o) := by rw [Nat.add_mul, Nat.succ_mul]
    have hlt : i * 2 ^ o < 256 := by omega
    have hs8 : (a8 + ((1 : Int32) <<< (a3 &&& 31))).toInt = (((i + 1) * 2 ^ o : Nat) : Int) := by
      rw [t_add h8 (t_pow h3 (by omega)) (by omega) (by omega), Nat.succ_mul]
      omega
    have go : ∀ (b5 b6 b7 : Int32) (w9 w10 : Value), (b5 = -1 ∨ ∃ p : Nat, b5.toInt = p ∧ p < 256 ∧ p % 2 ^ o = 0) → xE xM m_M_bestPlace 12 [.ref 0, .int a1, .int a2, .int a3, .int a4, .int b5, .int b6, .int b7, .int (a8 + ((1 : Int32) <<< (a3 &&& 31))), w9, w10] [] σ (sm_I (fun x σ' => (x = -1 ∨ ∃ p : Nat, x.toInt = p ∧ p < 256 ∧ p % 2 ^ o = 0) ∧ σ' = σ)) :=
      fun b5 b6 b7 w9 w10 hb => ih (i + 1) b5 b6 b7 _ w9 w10 hs8 (by rw [← hi]; congr 1; omega) hb
    have h8g : a8 = -1 ∨ ∃ p : Nat, a8.toInt = p ∧ p < 256 ∧ p % 2 ^ o = 0 := Or.inr ⟨i * 2 ^ o, h8, hlt, Nat.mul_mod_left _ _⟩
    refine w_M_bestPlace_12 a1 a2 a3 a4 a5 a6 a7 a8 v9 v10 σ _ ⟨fun h => ?_, fun h => (c_spanOf h8 σ).int ?_⟩
    · rw [t_le, h8] at h
      have h : (256 : Int) ≤ _ := h
      omega
    · rintro sp _ ⟨hsp, rfl⟩
      have hsp8 : i * 2 ^ o / 32 < 8 := by omega
      refine (c_rankOf hsp hsp8 h1 hm _).int ?_
      rintro rk _ ⟨-, -, rfl⟩
      have h8n : i * 2 ^ o < 700 := by omega
      refine ⟨fun _ => go _ _ _ _ _ h5, fun _ => ⟨fun _ => (c_areFree h8 h8n h3 (by omega) _).int ?_, fun _ => (c_spanOf h8 _).int ?_⟩⟩
      · rintro x6 _ ⟨-, rfl⟩
        refine ⟨fun _ => (c_holeFrom h8 h8n h3 (by omega) _).int ?_, fun _ => go _ _ _ _ _ h5⟩
        rintro x8 _ ⟨-, rfl⟩
        exact ⟨fun _ => go _ _ _ _ _ h8g, fun _ => ⟨fun _ => go _ _ _ _ _ h5, fun _ => ⟨fun _ => go _ _ _ _ _ h8g, fun _ => ⟨fun _ => go _ _ _ _ _ h8g, fun _ => go _ _ _ _ _ h5⟩⟩⟩⟩
      · rintro sp2 _ ⟨hsp2, rfl⟩
        refine (c_spanState hsp2 hsp8 _).int ?_
        rintro st _ ⟨-, rfl⟩
        refine ⟨fun _ => go _ _ _ _ _ h5, fun _ => (c_areFree h8 h8n h3 (by omega) _).int ?_⟩
        rintro x6 _ ⟨-, rfl⟩
        refine ⟨fun _ => (c_holeFrom h8 h8n h3 (by omega) _).int ?_, fun _ => go _ _ _ _ _ h5⟩
        rintro x8 _ ⟨-, rfl⟩
        exact ⟨fun _ => go _ _ _ _ _ h8g, fun _ => ⟨fun _ => go _ _ _ _ _ h5, fun _ => ⟨fun _ => go _ _ _ _ _ h8g, fun _ => ⟨fun _ => go _ _ _ _ _ h8g, fun _ => go _ _ _ _ _ h5⟩⟩⟩⟩
theorem t_256 {o : Nat} (ho : o ≤ 4) : (0 + 256 / 2 ^ o) * 2 ^ o = 256 := by
  rcases (show o = 0 ∨ o = 1 ∨ o = 2 ∨ o = 3 ∨ o = 4 by omega) with rfl | rfl | rfl | rfl | rfl <;> decide
theorem c_bestPlace {a1 a2 a3 a4 : Int32} {m o : Nat} (h1 : a1.toInt = m) (hm : m < 6) (h3 : a3.toInt = o) (ho : o ≤ 4) (σ : sm_S) : xC xM j_M_bestPlace [.ref 0, .int a1, .int a2, .int a3, .int a4] σ (sm_I (fun x σ' => (x = -1 ∨ ∃ p : Nat, x.toInt = p ∧ p < 256 ∧ p % 2 ^ o = 0) ∧ σ' = σ)) :=
  w_M_bestPlace a1 a2 a3 a4 σ _ (l_bestPlace h1 hm h3 ho σ (256 / 2 ^ o) 0 _ _ _ _ _ _ (by rw [Nat.zero_mul]; rfl) (t_256 ho) (Or.inl rfl))
end
section
/-! ===== the model: what a block is, and how it comes and goes ===== -/
/-- a block's row: order, first frame, owner, where to, how much is copied -/
def bk_ok (v : Nat → Int32) (b : Nat) : Prop := ∃ o fr : Nat, (v (786 + 16 * b + 2)).toInt = o ∧ o ≤ 4 ∧ (v (786 + 16 * b + 1)).toInt = fr ∧ fr < 256 ∧ fr % 2 ^ o = 0 ∧ (∃ w : Nat, (v (786 + 16 * b + 4)).toInt = w ∧ w < 6) ∧
  (∃ q : Nat, (v (786 + 16 * b + 6)).toInt = q ∧ (q = 0 ∨ (1 ≤ q ∧ q ≤ 256 ∧ (q - 1) % 2 ^ o = 0))) ∧ 0 ≤ (v (786 + 16 * b + 7)).toInt
/-- a block that is none has not its first frame -/
def dn_ok (v : Nat → Int32) (n : Nat) : Prop := v (786 + 16 * n + 0) = 1 ∨ ∀ fr : Nat, fr < 256 → (v (786 + 16 * n + 1)).toInt = fr → v (18 + 3 * fr) = 3 → (v (18 + 3 * fr + 1)).toInt ≠ ((n + 1 : Nat) : Int)
/-- frames: F_BLOCK in 0 .. 96, and dn_ok -/
def fr_ok (v : Nat → Int32) : Prop := (∀ f, f < 256 → 0 ≤ (v (18 + 3 * f + 1)).toInt ∧ (v (18 + 3 * f + 1)).toInt ≤ 96) ∧ ∀ n, n < 96 → dn_ok v n
theorem dn_cong {v v' : Nat → Int32} {n : Nat} (h1 : ∀ i, 18 ≤ i → i < 786 → v' i = v i) (h2 : v' (786 + 16 * n + 0) = v (786 + 16 * n + 0)) (h3 : v' (786 + 16 * n + 1) = v (786 + 16 * n + 1)) (h : dn_ok v n) : dn_ok v' n := by
  rcases h with h | h
  · exact Or.inl (h2.trans h)
  · refine Or.inr (fun fr hf a b => ?_)
    rw [h3] at a
    rw [h1 _ (by omega) (by omega)] at b ⊢
    exact h fr hf a b
theorem fr_cong {v v' : Nat → Int32} (h1 : ∀ i, 18 ≤ i → i < 786 → v' i = v i) (h2 : ∀ n k, n < 96 → k < 2 → v' (786 + 16 * n + k) = v (786 + 16 * n + k)) (h : fr_ok v) : fr_ok v' := by
  refine ⟨fun f hf => ?_, fun n hn => dn_cong h1 (h2 n 0 hn (by omega)) (h2 n 1 hn (by omega)) (h.2 n hn)⟩
  rw [h1 _ (by omega) (by omega)]
  exact h.1 f hf
theorem fr_mono {v v' : Nat → Int32} (h1 : ∀ f, f < 256 → 0 ≤ (v' (18 + 3 * f + 1)).toInt ∧ (v' (18 + 3 * f + 1)).toInt ≤ 96) (h2 : ∀ n k, n < 96 → k < 2 → v' (786 + 16 * n + k) = v (786 + 16 * n + k)) (h3 : ∀ f, f < 256 → v' (18 + 3 * f) = 3 → v (18 + 3 * f) = 3 ∧ v' (18 + 3 * f + 1) = v (18 + 3 * f + 1)) (h : fr_ok v) : fr_ok v' := by
  refine ⟨h1, fun n hn => ?_⟩
  rcases h.2 n hn with g | g
  · exact Or.inl ((h2 n 0 hn (by omega)).trans g)
  · refine Or.inr (fun fr hf a b => ?_)
    rw [h2 n 1 hn (by omega)] at a
    obtain ⟨c1, c2⟩ := h3 fr hf b
    rw [c2]
    exact g fr hf a c1
/-- a frame's state, but to TAKEN -/
theorem fr_st1 {v : Nat → Int32} {i f : Nat} {x : Int32} (hi : i = 18 + 3 * f) (hx : x ≠ 3) (hf : f < 256) (h : fr_ok v) : fr_ok (upd v i x) := by
  subst hi
  refine fr_mono (fun g hg => ?_) (fun n k hn hk => u_ne (by omega)) (fun g hg e => ?_) h
  · rw [u_ne (by omega)]; exact h.1 g hg
  · by_cases hgf : g = f
    · subst hgf
      rw [u_at] at e
      exact absurd e hx
    · rw [u_ne (by omega)] at e
      exact ⟨e, u_ne (by omega)⟩
/-- the block n is none any more -/
theorem fr_gone {v : Nat → Int32} {n fr : Nat} {x : Int32} (hn : n < 96) (h1 : (v (786 + 16 * n + 1)).toInt = fr) (h2 : v (18 + 3 * fr) = 1 ∨ v (18 + 3 * fr) = 2) (h : fr_ok v) : fr_ok (upd v (786 + 16 * n + 0) x) := by
  refine ⟨fun g hg => ?_, fun m hm => ?_⟩
  · rw [u_ne (by omega)]; exact h.1 g hg
  · by_cases hmn : m = n
    · subst hmn
      refine Or.inr (fun fr' hf a b => ?_)
      rw [u_ne (by omega)] at a b
      rw [h1] at a
      have hff : fr = fr' := by omega
      subst hff
      rcases h2 with h2 | h2 <;> (rw [h2] at b; exact absurd b (by decide))
    · rcases h.2 m hm with g | g
      · refine Or.inl ?_
        rw [u_ne (by omega)]; exact g
      · refine Or.inr (fun fr' hf a b => ?_)
        rw [u_ne (by omega)] at a b ⊢
        exact g fr' hf a b
/-- a block that is one, elsewhere -/
theorem fr_frame {v : Nat → Int32} {n : Nat} {x : Int32} (hI : v (786 + 16 * n + 0) = 1) (h : fr_ok v) : fr_ok (upd v (786 + 16 * n + 1) x) := by
  refine ⟨fun g hg => ?_, fun m hm => ?_⟩
  · rw [u_ne (by omega)]; exact h.1 g hg
  · by_cases hmn : m = n
    · subst hmn
      refine Or.inl ?_
      rw [u_ne (by omega)]; exact hI
    · exact dn_cong (fun i h1 h2 => u_ne (by omega)) (u_ne (by omega)) (u_ne (by omega)) (h.2 m hm)
def fr_eq (v v' : Nat → Int32) : Prop := ∀ i, (i < 18 ∨ 786 ≤ i) → v' i = v i
theorem fr_eq.rf {v : Nat → Int32} : fr_eq v v := fun _ _ => rfl
theorem fr_eq.tr {a b c : Nat → Int32} (h1 : fr_eq a b) (h2 : fr_eq b c) : fr_eq a c := fun i hi => (h2 i hi).trans (h1 i hi)
theorem fr_upd {v : Nat → Int32} {i : Nat} {x : Int32} (h : 18 ≤ i) (h2 : i < 786) : fr_eq v (upd v i x) := fun j hj => u_ne (by omega)
/-- leaves: as a change of frames -/
theorem c_leaves' {f : Int32} {n : Nat} (hf : f.toInt = n) (hn : n < 256) (σ : sm_S) (hF : fr_ok (σ 1)) : xC xM j_M_leaves [.ref 0, .int f] σ (sm_V (fun σ' => ∃ v, σ' = sm_set σ 1 v ∧ fr_ok v ∧ fr_eq (σ 1) v ∧ (v (18 + 3 * n) = 1 ∨ v (18 + 3 * n) = 2) ∧ ∀ i, i < 18 + 3 * n ∨ 18 + 3 * n + 3 ≤ i → v i = σ 1 i)) := by
  refine (c_leaves hf hn σ).mono ?_
  rintro r σ' ⟨rfl, s, hs, rfl⟩
  refine ⟨rfl, _, rfl, fr_mono (fun g hg => ?_) (fun m k hm hk => ?_) (fun g hg e => ?_) hF, ?_, ?_, fun i hi => ?_⟩
  · by_cases hgn : g = n
    · subst hgn
      rw [u_ne (by omega), u_at]
      decide
    · rw [u_ne (by omega), u_ne (by omega), u_ne (by omega)]
      exact hF.1 g hg
  · rw [u_ne (by omega), u_ne (by omega), u_ne (by omega)]
  · by_cases hgn : g = n
    · subst hgn
      rw [u_ne (by omega), u_ne (by omega), u_at] at e
      rcases hs with hs | hs <;> (rw [hs] at e; exact absurd e (by decide))
    · rw [u_ne (by omega), u_ne (by omega), u_ne (by omega)] at e ⊢
      exact ⟨e, rfl⟩
  · exact ((fr_upd (by omega) (by omega)).tr (fr_upd (by omega) (by omega))).tr (fr_upd (by omega) (by omega))
  · rw [u_ne (by omega), u_ne (by omega), u_at]
    exact hs
  · rw [u_ne (by omega), u_ne (by omega), u_ne (by omega)]
theorem c_has' {f b s : Int32} {n m : Nat} (hf : f.toInt = n) (hn : n < 256) (hb : b.toInt = m) (hm : m < 96) (σ : sm_S) (hF : fr_ok (σ 1)) (h3 : s = 3 → σ 1 (786 + 16 * m + 0) = 1) : xC xM j_M_has [.ref 0, .int f, .int b, .int s] σ (sm_V (fun σ' => ∃ v, σ' = sm_set σ 1 v ∧ fr_ok v ∧ fr_eq (σ 1) v ∧ v (18 + 3 * n) = s ∧ (v (18 + 3 * n + 1)).toInt = ((m + 1 : Nat) : Int) ∧ ∀ i, i < 18 + 3 * n ∨ 18 + 3 * n + 2 ≤ i → v i = σ 1 i)) := by
  have hb1 : (b + 1).toInt = ((m + 1 : Nat) : Int) := by
    rw [t_add hb (y := 1) rfl (by omega) (by omega)]
    omega
  refine (c_has hf (by omega) b s σ).mono ?_
  rintro r σ' ⟨rfl, rfl⟩
  refine ⟨rfl, _, rfl, ⟨fun g hg => ?_, fun l hl => ?_⟩, ?_, ?_, ?_, fun i hi => ?_⟩
  · by_cases hgn : g = n
    · subst hgn
      rw [u_at, hb1]
      omega
    · rw [u_ne (by omega), u_ne (by omega)]
      exact hF.1 g hg
  · rcases Classical.em (σ 1 (786 + 16 * l + 0) = 1) with e | e
    · refine Or.inl ?_
      rw [u_ne (by omega), u_ne (by omega)]; exact e
    · have e2 := (hF.2 l hl).resolve_left e
      refine Or.inr (fun fr hf a c => ?_)
      rw [u_ne (by omega), u_ne (by omega)] at a
      by_cases hgn : fr = n
      · subst hgn
        rw [u_ne (by omega), u_at] at c
        rw [u_at, hb1]
        intro z
        have hml : m = l := by omega
        subst hml
        exact e (h3 c)
      · rw [u_ne (by omega), u_ne (by omega)] at c ⊢
        exact e2 fr hf a c
  · exact (fr_upd (by omega) (by omega)).tr (fr_upd (by omega) (by omega))
  · rw [u_ne (by omega), u_at]
  · rw [u_at]; exact hb1
  · rw [u_ne (by omega), u_ne (by omega)]
theorem c_lays' {f x : Int32} {n : Nat} (hf : f.toInt = n) (hn : n < 256) (σ : sm_S) (hF : fr_ok (σ 1)) : xC xM j_M_lays [.ref 0, .int f, .int x] σ (sm_V (fun σ' => ∃ v, σ' = sm_set σ 1 v ∧ fr_ok v ∧ fr_eq (σ 1) v ∧ ∀ i, i ≠ 18 + 3 * n + 2 → v i = σ 1 i)) := by
  refine (c_lays hf (by omega) x σ).mono ?_
  rintro r σ' ⟨rfl, rfl⟩
  refine ⟨rfl, _, rfl, fr_mono (fun g hg => ?_) (fun m k hm hk => u_ne (by omega)) (fun g hg e => ?_) hF, fr_upd (by omega) (by omega), fun i hi => u_ne hi⟩
  · rw [u_ne (by omega)]
    exact hF.1 g hg
  · rw [u_ne (by omega)] at e ⊢
    exact ⟨e, rfl⟩
end
section
/-! ===== the model: what holds between its calls ===== -/
/-- who waits for block b -/
def ln_ok (w : Nat → Int32) (b : Nat) : Prop := ∃ L o : Nat, (w (786 + 16 * b + 9)).toInt = L ∧ L ≤ 6 ∧ (w (786 + 16 * b + 2)).toInt = o ∧ (0 < L → w (786 + 16 * b + 6) ≠ 0) ∧
  (∀ n, n < L → ∃ t a : Nat, t < 6 ∧ (w (786 + 16 * b + (10 + n))).toInt = t ∧ (w (2322 + 6 * t + 1)).toInt = ((b + 1 : Nat) : Int) ∧ (w (2322 + 6 * t + 3)).toInt = a ∧ a < 2 ^ o) ∧
  ∀ n m, n < m → m < L → w (786 + 16 * b + (10 + n)) ≠ w (786 + 16 * b + (10 + m))
/-- a span: state, shut parts, how far, which block is on its way -/
def sp_ok (w : Nat → Int32) (s : Nat) : Prop := ∃ st pt at' q : Nat, (w (2358 + 8 * s + 0)).toInt = st ∧ st ≤ 3 ∧ (w (2358 + 8 * s + 2)).toInt = pt ∧ pt ≤ 4 ∧ (st = 2 → pt ≤ 3) ∧ (w (2358 + 8 * s + 5)).toInt = at' ∧ at' ≤ 32 ∧ (w (2358 + 8 * s + 6)).toInt = q ∧
  (q = 0 ∨ ∃ b, b < 96 ∧ q = b + 1 ∧ st = 3 ∧ w (786 + 16 * b + 6) ≠ 0 ∧ ∃ fr : Nat, (w (786 + 16 * b + 1)).toInt = fr ∧ fr / 32 = s)
/-- a block on its way is one, and its span knows it -/
def wy_ok (w : Nat → Int32) (b : Nat) : Prop := w (786 + 16 * b + 6) ≠ 0 → w (786 + 16 * b + 0) = 1 ∧ ∃ fr : Nat, (w (786 + 16 * b + 1)).toInt = fr ∧ fr < 256 ∧ (w (2358 + 8 * (fr / 32) + 6)).toInt = ((b + 1 : Nat) : Int)
def z0_ok (w : Nat → Int32) : Prop := ∃ s, s < 8 ∧ w (2358 + 8 * s + 0) = 1 ∧ w (2358 + 8 * s + 1) = 0
def jr (w : Nat → Int32) : Prop := (∀ b, b < 96 → bk_ok w b) ∧ (∀ b, b < 96 → ln_ok w b) ∧ (∀ s, s < 8 → sp_ok w s) ∧ (∀ b, b < 96 → wy_ok w b) ∧ z0_ok w
/-- the cells of which jr speaks -/
def ceq (v v' : Nat → Int32) : Prop := (∀ b k, b < 96 → k < 16 → k ≠ 3 → k ≠ 5 → k ≠ 8 → v' (786 + 16 * b + k) = v (786 + 16 * b + k)) ∧ (∀ t k, t < 6 → (k = 1 ∨ k = 3) → v' (2322 + 6 * t + k) = v (2322 + 6 * t + k)) ∧ ∀ s k, s < 8 → (k = 0 ∨ k = 1 ∨ k = 2 ∨ k = 5 ∨ k = 6) → v' (2358 + 8 * s + k) = v (2358 + 8 * s + k)
theorem ceq.rf {v : Nat → Int32} : ceq v v := ⟨fun _ _ _ _ _ _ _ => rfl, fun _ _ _ _ => rfl, fun _ _ _ _ => rfl⟩
theorem ceq.tr {a b c : Nat → Int32} (h1 : ceq a b) (h2 : ceq b c) : ceq a c :=
  ⟨fun x k g1 g2 g3 g4 g5 => (h2.1 x k g1 g2 g3 g4 g5).trans (h1.1 x k g1 g2 g3 g4 g5), fun x k g1 g2 => (h2.2.1 x k g1 g2).trans (h1.2.1 x k g1 g2), fun x k g1 g2 => (h2.2.2 x k g1 g2).trans (h1.2.2 x k g1 g2)⟩
theorem ceq.of {v v' : Nat → Int32} (h : ∀ i, 786 ≤ i → i < 2422 → v' i = v i) : ceq v v' := ⟨fun b k _ _ _ _ _ => h _ (by omega) (by omega), fun t k _ hk => h _ (by omega) (by omega), fun s k _ hk => h _ (by omega) (by omega)⟩
theorem ceq.fr {v v' : Nat → Int32} (h : fr_eq v v') : ceq v v' := ceq.of (fun i h1 _ => h i (Or.inr h1))
theorem bk_cong {v v' : Nat → Int32} {b : Nat} (h : ∀ k, k < 16 → k ≠ 3 → k ≠ 5 → k ≠ 8 → v' (786 + 16 * b + k) = v (786 + 16 * b + k)) (hb : bk_ok v b) : bk_ok v' b := by
  obtain ⟨o, fr, h1, h2, h3, h4, h5, h6, h7, h8⟩ := hb
  refine ⟨o, fr, ?_, h2, ?_, h4, h5, ?_, ?_, ?_⟩
  · rw [h 2 (by decide) (by decide) (by decide) (by decide)]; exact h1
  · rw [h 1 (by decide) (by decide) (by decide) (by decide)]; exact h3
  · rw [h 4 (by decide) (by decide) (by decide) (by decide)]; exact h6
  · rw [h 6 (by decide) (by decide) (by decide) (by decide)]; exact h7
  · rw [h 7 (by decide) (by decide) (by decide) (by decide)]; exact h8
theorem ln_cong {v v' : Nat → Int32} {b : Nat} (h : ∀ k, k < 16 → k ≠ 3 → k ≠ 5 → k ≠ 8 → v' (786 + 16 * b + k) = v (786 + 16 * b + k)) (ht : ∀ t k, t < 6 → (k = 1 ∨ k = 3) → v' (2322 + 6 * t + k) = v (2322 + 6 * t + k)) (hb : ln_ok v b) : ln_ok v' b := by
  obtain ⟨L, o, h1, h2, h3, h4, h5, h6⟩ := hb
  refine ⟨L, o, ?_, h2, ?_, ?_, fun n hn => ?_, fun n m hnm hm => ?_⟩
  · rw [h 9 (by decide) (by decide) (by decide) (by decide)]; exact h1
  · rw [h 2 (by decide) (by decide) (by decide) (by decide)]; exact h3
  · rw [h 6 (by decide) (by decide) (by decide) (by decide)]; exact h4
  · obtain ⟨t, a, g1, g2, g3, g4, g5⟩ := h5 n hn
    refine ⟨t, a, g1, ?_, ?_, ?_, g5⟩
    · rw [h (10 + n) (by omega) (by omega) (by omega) (by omega)]; exact g2
    · rw [ht t 1 g1 (Or.inl rfl)]; exact g3
    · rw [ht t 3 g1 (Or.inr rfl)]; exact g4
  · rw [h (10 + n) (by omega) (by omega) (by omega) (by omega), h (10 + m) (by omega) (by omega) (by omega) (by omega)]
    exact h6 n m hnm hm
theorem sp_cong {v v' : Nat → Int32} {s : Nat} (hs : s < 8) (h : ceq v v') (hb : sp_ok v s) : sp_ok v' s := by
  obtain ⟨st, pt, at', q, h1, h2, h3, h4, h5, h6, h7, h8, h9⟩ := hb
  refine ⟨st, pt, at', q, ?_, h2, ?_, h4, h5, ?_, h7, ?_, ?_⟩
  · rw [h.2.2 s 0 hs (by omega)]; exact h1
  · rw [h.2.2 s 2 hs (by omega)]; exact h3
  · rw [h.2.2 s 5 hs (by omega)]; exact h6
  · rw [h.2.2 s 6 hs (by omega)]; exact h8
  · rcases h9 with h9 | ⟨b, g1, g2, g3, g4, fr, g5, g6⟩
    · exact Or.inl h9
    · refine Or.inr ⟨b, g1, g2, g3, ?_, fr, ?_, g6⟩
      · rw [h.1 b 6 g1 (by decide) (by decide) (by decide) (by decide)]; exact g4
      · rw [h.1 b 1 g1 (by decide) (by decide) (by decide) (by decide)]; exact g5
theorem wy_cong {v v' : Nat → Int32} {b : Nat} (hb : b < 96) (h : ceq v v') (hw : wy_ok v b) : wy_ok v' b := by
  intro h6
  rw [h.1 b 6 hb (by decide) (by decide) (by decide) (by decide)] at h6
  obtain ⟨h1, fr, h2, h3, h4⟩ := hw h6
  refine ⟨?_, fr, ?_, h3, ?_⟩
  · rw [h.1 b 0 hb (by decide) (by decide) (by decide) (by decide)]; exact h1
  · rw [h.1 b 1 hb (by decide) (by decide) (by decide) (by decide)]; exact h2
  · rw [h.2.2 (fr / 32) 6 (by omega) (by omega)]; exact h4
theorem jr_cong {v v' : Nat → Int32} (h : ceq v v') (hj : jr v) : jr v' := by
  obtain ⟨j1, j2, j3, j4, s, hs, z1, z2⟩ := hj
  refine ⟨fun b hb => bk_cong (fun k g1 g2 g3 g4 => h.1 b k hb g1 g2 g3 g4) (j1 b hb), fun b hb => ln_cong (fun k g1 g2 g3 g4 => h.1 b k hb g1 g2 g3 g4) h.2.1 (j2 b hb), fun s hs => sp_cong hs h (j3 s hs), fun b hb => wy_cong hb h (j4 b hb), s, hs, ?_, ?_⟩
  · rw [h.2.2 s 0 hs (by omega)]; exact z1
  · rw [h.2.2 s 1 hs (by omega)]; exact z2
/-- a change of one cell that jr doesn't speak of -/
theorem ceq_upd {v : Nat → Int32} {i : Nat} {x : Int32} (h : i < 786 ∨ 2422 ≤ i ∨ (∃ b, b < 96 ∧ (i = 786 + 16 * b + 3 ∨ i = 786 + 16 * b + 5 ∨ i = 786 + 16 * b + 8)) ∨ (∃ t, t < 6 ∧ (i = 2322 + 6 * t ∨ i = 2322 + 6 * t + 2 ∨ i = 2322 + 6 * t + 4 ∨ i = 2322 + 6 * t + 5)) ∨ ∃ s, s < 8 ∧ (i = 2358 + 8 * s + 3 ∨ i = 2358 + 8 * s + 4 ∨ i = 2358 + 8 * s + 7)) : ceq v (upd v i x) := by
  refine ⟨fun b k hb hk h3 h5 h8 => u_ne ?_, fun t k ht hk => u_ne ?_, fun s k hs hk => u_ne ?_⟩
  · rcases h with h | h | ⟨c, hc, h⟩ | ⟨c, hc, h⟩ | ⟨c, hc, h⟩ <;> omega
  · rcases h with h | h | ⟨c, hc, h⟩ | ⟨c, hc, h⟩ | ⟨c, hc, h⟩ <;> omega
  · rcases h with h | h | ⟨c, hc, h⟩ | ⟨c, hc, h⟩ | ⟨c, hc, h⟩ <;> omega
/-- the whole of it; n: the lines of the log -/
def jj (n : Nat) (v : Nat → Int32) : Prop := fr_ok v ∧ jr v ∧ (v 5).toInt = n
end
section
/-! ===== the model: blocks go ===== -/
/-- frames are left, or are as they were -/
def fr_lv (v v' : Nat → Int32) : Prop := ∀ g, g < 256 → (v' (18 + 3 * g) = 1 ∨ v' (18 + 3 * g) = 2) ∨ (v' (18 + 3 * g) = v (18 + 3 * g) ∧ v' (18 + 3 * g + 1) = v (18 + 3 * g + 1))
theorem fr_lv.rf {v : Nat → Int32} : fr_lv v v := fun _ _ => Or.inr ⟨rfl, rfl⟩
theorem fr_lv.tr {a b c : Nat → Int32} (h1 : fr_lv a b) (h2 : fr_lv b c) : fr_lv a c := by
  intro g hg
  rcases h2 g hg with h | ⟨h3, h4⟩
  · exact Or.inl h
  · rcases h1 g hg with h5 | ⟨h5, h6⟩
    · rw [h3]; exact Or.inl h5
    · exact Or.inr ⟨h3.trans h5, h4.trans h6⟩
theorem fr_lv.of {v v' : Nat → Int32} {n : Nat} (h1 : v' (18 + 3 * n) = 1 ∨ v' (18 + 3 * n) = 2) (h2 : ∀ i, i < 18 + 3 * n ∨ 18 + 3 * n + 3 ≤ i → v' i = v i) : fr_lv v v' := by
  intro g hg
  by_cases hgn : g = n
  · subst hgn; exact Or.inl h1
  · exact Or.inr ⟨h2 _ (by omega), h2 _ (by omega)⟩
theorem l_goes {a1 : Int32} {n o fr : Nat} (h1 : a1.toInt = n) (hn : n < 96) (ho : o ≤ 4) (hfr : fr < 256) (hal : fr % 2 ^ o = 0) : ∀ (d k : Nat) (a2 : Int32) (σ : sm_S), a2.toInt = k → k + d = 2 ^ o → (σ 1 (786 + 16 * n + 2)).toInt = o → (σ 1 (786 + 16 * n + 1)).toInt = fr → fr_ok (σ 1) →
    xE xM m_M_goes 2 [.ref 0, .int a1, .int a2] [] σ (sm_V (fun σ' => ∃ v, σ' = sm_set σ 1 (upd v (786 + 16 * n + 0) 0) ∧ fr_ok v ∧ fr_eq (σ 1) v ∧ fr_lv (σ 1) v ∧ ∀ j, k ≤ j → j < 2 ^ o → v (18 + 3 * (fr + j)) = 1 ∨ v (18 + 3 * (fr + j)) = 2)) := by
  have hp := t_pw (k := o) (by omega)
  have hsp := t_al (k := o) (by omega) hal
  intro d
  induction d with
  | zero =>
    intro k a2 σ h2 hk ho2 hf2 hF
    refine w_M_goes_2 a1 a2 σ _ ((c_longOf h1 hn σ).int ?_)
    rintro _ _ ⟨rfl, rfl⟩
    refine ⟨fun _ => (c_lay (k := 0) (j := 0) h1 rfl (by omega) 0 _).void ?_, fun h => absurd ?_ h⟩
    · rintro _ rfl
      exact ⟨rfl, _, rfl, hF, fr_eq.rf, fr_lv.rf, fun j h3 h4 => by omega⟩
    · rw [t_le, t_pow ho2 (by omega), h2]
      omega
  | succ d ih =>
    intro k a2 σ h2 hk ho2 hf2 hF
    refine w_M_goes_2 a1 a2 σ _ ((c_longOf h1 hn σ).int ?_)
    rintro _ _ ⟨rfl, rfl⟩
    refine ⟨fun h => ?_, fun _ => (c_frameOf h1 hn _).int ?_⟩
    · rw [t_le, t_pow ho2 (by omega), h2] at h
      omega
    · rintro _ _ ⟨rfl, rfl⟩
      have hf3 := t_add hf2 h2 (by omega) (by omega)
      rw [← Int.natCast_add] at hf3
      refine (c_leaves' hf3 (by omega) _ hF).void ?_
      rintro _ ⟨v, rfl, g1, g2, g3, g4⟩
      have h2' : (a2 + 1).toInt = ((k + 1 : Nat) : Int) := by
        rw [t_add h2 (y := 1) rfl (by omega) (by omega)]
        omega
      refine (ih (k + 1) (a2 + 1) _ h2' (by omega) ?_ ?_ ?_).mono ?_
      · rw [s_at, g2 _ (by omega)]; exact ho2
      · rw [s_at, g2 _ (by omega)]; exact hf2
      · rw [s_at]; exact g1
      · rintro r σ' ⟨rfl, w, rfl, e1, e2, e3, e4⟩
        rw [s_at] at e2 e3
        refine ⟨rfl, w, s_ss, e1, g2.tr e2, (fr_lv.of g3 g4).tr e3, fun j hj1 hj2 => ?_⟩
        rcases Nat.lt_or_ge k j with hlt | hge
        · exact e4 j hlt hj2
        · have hjk : j = k := by omega
          subst hjk
          rcases e3 (fr + j) (by omega) with h | ⟨h, -⟩
          · exact h
          · rw [h]; exact g3
theorem c_goes {b : Int32} {n : Nat} (hb : b.toInt = n) (hn : n < 96) (σ : sm_S) (hB : bk_ok (σ 1) n) (hF : fr_ok (σ 1)) : xC xM j_M_goes [.ref 0, .int b] σ (sm_V (fun σ' => ∃ v fr, σ' = sm_set σ 1 (upd v (786 + 16 * n + 0) 0) ∧ fr_ok v ∧ fr_eq (σ 1) v ∧ fr_lv (σ 1) v ∧ (σ 1 (786 + 16 * n + 1)).toInt = ((fr : Nat) : Int) ∧ fr < 256 ∧ (v (18 + 3 * fr) = 1 ∨ v (18 + 3 * fr) = 2))) := by
  obtain ⟨o, fr, h1, h2, h3, h4, h5, -⟩ := hB
  have hp := t_pw (k := o) (by omega)
  refine w_M_goes b σ _ ((l_goes hb hn h2 h4 h5 (2 ^ o) 0 0 σ rfl (by omega) h1 h3 hF).mono ?_)
  rintro r σ' ⟨rfl, v, rfl, e1, e2, e3, e4⟩
  exact ⟨rfl, v, fr, rfl, e1, e2, e3, h3, h4, e4 0 (Nat.le_refl 0) (by omega)⟩
theorem jr_gone {v : Nat → Int32} {n : Nat} (hn : n < 96) (hj : jr v) (h6 : v (786 + 16 * n + 6) = 0) : jr (upd v (786 + 16 * n + 0) 0) := by
  obtain ⟨j1, j2, j3, j4, s, hs, z1, z2⟩ := hj
  have e : ∀ i, i ≠ 786 + 16 * n + 0 → upd v (786 + 16 * n + 0) 0 i = v i := fun i hi => u_ne hi
  refine ⟨fun b hb => ?_, fun b hb => ?_, fun s hs => ?_, fun b hb => ?_, s, hs, ?_, ?_⟩
  · obtain ⟨o, fr, h1, h2, h3, h4, h5, h6, h7, h8⟩ := j1 b hb
    refine ⟨o, fr, ?_, h2, ?_, h4, h5, ?_, ?_, ?_⟩ <;> rw [e _ (by omega)] <;> assumption
  · obtain ⟨L, o, h1, h2, h3, h4, h5, h6⟩ := j2 b hb
    refine ⟨L, o, ?_, h2, ?_, ?_, fun k hk => ?_, fun k m hkm hm => ?_⟩
    · rw [e _ (by omega)]; exact h1
    · rw [e _ (by omega)]; exact h3
    · rw [e _ (by omega)]; exact h4
    · obtain ⟨t, a, g1, g2, g3, g4, g5⟩ := h5 k hk
      refine ⟨t, a, g1, ?_, ?_, ?_, g5⟩ <;> rw [e _ (by omega)] <;> assumption
    · rw [e _ (by omega), e _ (by omega)]; exact h6 k m hkm hm
  · obtain ⟨st, pt, at', q, h1, h2, h3, h4, h5, h6, h7, h8, h9⟩ := j3 s hs
    refine ⟨st, pt, at', q, ?_, h2, ?_, h4, h5, ?_, h7, ?_, ?_⟩
    · rw [e _ (by omega)]; exact h1
    · rw [e _ (by omega)]; exact h3
    · rw [e _ (by omega)]; exact h6
    · rw [e _ (by omega)]; exact h8
    · rcases h9 with h9 | ⟨b, g1, g2, g3, g4, fr, g5, g6⟩
      · exact Or.inl h9
      · refine Or.inr ⟨b, g1, g2, g3, ?_, fr, ?_, g6⟩ <;> rw [e _ (by omega)] <;> assumption
  · intro hb6
    rw [e _ (by omega)] at hb6
    have hbn : b ≠ n := fun z => by subst z; exact hb6 h6
    obtain ⟨h1, fr, h2, h3, h4⟩ := j4 b hb hb6
    refine ⟨?_, fr, ?_, h3, ?_⟩
    · rw [e _ (by omega)]; exact h1
    · rw [e _ (by omega)]; exact h2
    · rw [e _ (by omega)]; exact h4
  · rw [e _ (by omega)]; exact z1
  · rw [e _ (by omega)]; exact z2
/-- drops: the block goes, a line more in the log -/
theorem c_drops {b : Int32} {n N : Nat} (hb : b.toInt = n) (hn : n < 96) (hN : N < 2000000000) (σ : sm_S) (hj : jj N (σ 1)) (h6 : σ 1 (786 + 16 * n + 6) = 0) : xC xM j_M_drops [.ref 0, .int b] σ (sm_V (fun σ' => ∃ v fr, σ' = sm_set σ 1 v ∧ jj (N + 1) v ∧ fr_lv (σ 1) v ∧ v (786 + 16 * n + 0) = 0 ∧ (∀ i, 786 ≤ i → i < 2422 → i ≠ 786 + 16 * n + 0 → v i = σ 1 i) ∧ (σ 1 (786 + 16 * n + 1)).toInt = ((fr : Nat) : Int) ∧ fr < 256 ∧ (v (18 + 3 * fr) = 1 ∨ v (18 + 3 * fr) = 2))) := by
  obtain ⟨jF, jR, jN⟩ := hj
  refine w_M_drops b σ _ ((c_frameOf hb hn σ).int ?_)
  rintro _ σ ⟨rfl, rfl⟩
  refine (c_writes _ _ _ _ jN).void ?_
  rintro _ ⟨v1, rfl, w1, w2⟩
  refine (c_counts (k := 5) (j := 5) rfl (by omega) 1 _).void ?_
  rintro _ rfl
  rw [s_at, s_ss]
  have hv2 : ∀ i, 18 ≤ i → i < 2422 → upd v1 12 (v1 12 + 1) i = σ 1 i := fun i h1 h2 => by rw [u_ne (by omega), w2 i h2 (by omega)]
  have hF2 : fr_ok (upd v1 12 (v1 12 + 1)) := fr_cong (fun i h1 h2 => hv2 i h1 (by omega)) (fun n k hn hk => hv2 _ (by omega) (by omega)) jF
  have hB2 : bk_ok (upd v1 12 (v1 12 + 1)) n := bk_cong (fun k hk _ _ _ => hv2 _ (by omega) (by omega)) (jR.1 n hn)
  refine (c_goes hb hn _ (by rw [s_at]; exact hB2) (by rw [s_at]; exact hF2)).void ?_
  rintro _ ⟨v, fr, rfl, e1, e2, e3, e4, e5, e6⟩
  rw [s_at] at e2 e3 e4
  have hv3 : ∀ i, 786 ≤ i → i < 2422 → v i = σ 1 i := fun i h1 h2 => (e2 i (Or.inr h1)).trans (hv2 i (by omega) h2)
  have hjr : jr v := jr_cong (ceq.of hv3) jR
  refine ⟨rfl, upd v (786 + 16 * n + 0) 0, fr, s_ss, ⟨fr_gone hn (by rw [e2 _ (Or.inr (by omega))]; exact e4) e6 e1, jr_gone hn hjr (by rw [hv3 _ (by omega) (by omega)]; exact h6), ?_⟩, ?_, u_at, fun i h1 h2 h3 => ?_, ?_, e5, ?_⟩
  · rw [u_ne (by omega), e2 5 (by omega), u_ne (by omega), w1]
    rw [t_add jN (y := 1) rfl (by omega) (by omega)]
    omega
  · intro g hg
    rw [u_ne (by omega), u_ne (by omega)]
    rcases e3 g hg with h | ⟨h, h'⟩
    · exact Or.inl h
    · exact Or.inr ⟨h.trans (hv2 _ (by omega) (by omega)), h'.trans (hv2 _ (by omega) (by omega))⟩
  · rw [u_ne h3, hv3 i h1 h2]
  · rw [← hv2 _ (by omega) (by omega)]; exact e4
  · rw [u_ne (by omega)]; exact e6
end
section
/-! ===== the model: blocks come ===== -/
def cn (P : Nat → Bool) : Nat → Nat
  | 0 => 0
  | n + 1 => cn P n + (if P n = true then 1 else 0)
theorem cn_le {P P' : Nat → Bool} : ∀ {N : Nat}, (∀ i, i < N → P' i = true → P i = true) → cn P' N ≤ cn P N
  | 0, _ => Nat.le_refl 0
  | n + 1, h => by
    have h1 := cn_le (N := n) (fun i hi => h i (by omega))
    have h2 := h n (by omega)
    simp only [cn]
    by_cases hp : P' n = true
    · rw [if_pos hp, if_pos (h2 hp)]; omega
    · rw [if_neg hp]; omega
theorem cn_lt {P P' : Nat → Bool} {j : Nat} (h1 : P j = true) (h2 : P' j = false) : ∀ {N : Nat}, j < N → (∀ i, i < N → P' i = true → P i = true) → cn P' N < cn P N
  | 0, hj, _ => absurd hj (Nat.not_lt_zero j)
  | n + 1, hj, h => by
    simp only [cn]
    by_cases hjn : j = n
    · subst hjn
      have h3 := cn_le (N := j) (P := P) (P' := P') (fun i hi => h i (by omega))
      rw [if_pos h1, if_neg (by rw [h2]; decide)]
      omega
    · have h3 := cn_lt h1 h2 (N := n) (by omega) (fun i hi => h i (by omega))
      have h4 := h n (by omega)
      by_cases hp : P' n = true
      · rw [if_pos hp, if_pos (h4 hp)]; omega
      · rw [if_neg hp]; omega
theorem cn_bd {P : Nat → Bool} : ∀ {N : Nat}, cn P N ≤ N
  | 0 => Nat.le_refl 0
  | n + 1 => by
    have := cn_bd (P := P) (N := n)
    simp only [cn]
    split <;> omega
theorem l_leastUsed (σ : sm_S) : ∀ (d k : Nat) (a1 a2 : Int32), a2.toInt = k → k + d = 96 → (a1 = -1 ∨ ∃ n : Nat, a1.toInt = n ∧ n < 96 ∧ σ 1 (786 + 16 * n + 0) = 1 ∧ σ 1 (786 + 16 * n + 3) = 2 ∧ σ 1 (786 + 16 * n + 6) ≤ 0) →
    xE xM m_M_leastUsed 4 [.ref 0, .int a1, .int a2] [] σ (sm_I (fun x σ' => (x = -1 ∨ ∃ n : Nat, x.toInt = n ∧ n < 96 ∧ σ 1 (786 + 16 * n + 0) = 1 ∧ σ 1 (786 + 16 * n + 3) = 2 ∧ σ 1 (786 + 16 * n + 6) ≤ 0) ∧ σ' = σ)) := by
  intro d
  induction d with
  | zero =>
    intro k a1 a2 h2 hk h1
    refine w_M_leastUsed_4 a1 a2 σ _ ⟨fun _ => ⟨_, rfl, h1, rfl⟩, fun h => absurd ?_ h⟩
    rw [t_le, h2]
    show (96 : Int) ≤ _
    omega
  | succ d ih =>
    intro k a1 a2 h2 hk h1
    have h2' : (a2 + 1).toInt = ((k + 1 : Nat) : Int) := by
      rw [t_add h2 (y := 1) rfl (by omega) (by omega)]
      omega
    have go := fun b1 hb => ih (k + 1) b1 (a2 + 1) h2' (by omega) hb
    refine w_M_leastUsed_4 a1 a2 σ _ ⟨fun h => ?_, fun _ => (c_of (k := 0) (j := 0) h2 rfl (by omega) σ).int ?_⟩
    · rw [t_le, h2] at h
      have h : (96 : Int) ≤ k := h
      omega
    · rintro _ _ ⟨rfl, rfl⟩
      refine ⟨fun _ => go _ h1, fun e0 => (c_of (k := 3) (j := 3) h2 rfl (by omega) _).int ?_⟩
      rintro _ _ ⟨rfl, rfl⟩
      refine ⟨fun _ => go _ h1, fun e3 => (c_isPinned h2 (by omega) _).int ?_⟩
      rintro x5 _ ⟨-, rfl⟩
      refine ⟨fun _ => go _ h1, fun _ => (c_isOnWay h2 (by omega) _).int ?_⟩
      rintro x6 _ ⟨hx6, rfl⟩
      refine ⟨fun _ => go _ h1, fun e6 => ?_⟩
      have h60 := hx6.resolve_right (fun z => e6 (by rw [z.1]; decide))
      have hgo := go a2 (Or.inr ⟨k, h2, by omega, Classical.not_not.mp e0, Classical.not_not.mp e3, h60.2⟩)
      refine ⟨fun _ => hgo, fun ha => (c_of (k := 8) (j := 8) h2 rfl (by omega) _).int ?_⟩
      rintro _ _ ⟨rfl, rfl⟩
      obtain ⟨n, hn1, hn2, -⟩ := h1.resolve_left ha
      refine (c_of (k := 8) (j := 8) hn1 rfl (by omega) _).int ?_
      rintro _ _ ⟨rfl, rfl⟩
      exact ⟨fun _ => go _ h1, fun _ => hgo⟩
theorem c_leastUsed (σ : sm_S) : xC xM j_M_leastUsed [.ref 0] σ (sm_I (fun x σ' => (x = -1 ∨ ∃ n : Nat, x.toInt = n ∧ n < 96 ∧ σ 1 (786 + 16 * n + 0) = 1 ∧ σ 1 (786 + 16 * n + 3) = 2 ∧ σ 1 (786 + 16 * n + 6) ≤ 0) ∧ σ' = σ)) :=
  w_M_leastUsed σ _ (l_leastUsed σ 96 0 (-1) 0 rfl rfl (Or.inl rfl))
/-- the frames of a block that comes -/
theorem l_comes73 {a1 a2 a3 a4 a5 a6 : Int32} {n o fr : Nat} (h1 : a1.toInt = n) (hn : n < 96) (h2 : a2.toInt = fr) (hfr : fr < 256) (h3 : a3.toInt = o) (ho : o ≤ 4) (hal : fr % 2 ^ o = 0) : ∀ (d k : Nat) (a7 : Int32) (σ : sm_S), a7.toInt = k → k + d = 2 ^ o → fr_ok (σ 1) → σ 1 (786 + 16 * n + 0) = 1 →
    xE xM m_M_comes 73 [.ref 0, .int a1, .int a2, .int a3, .int a4, .int a5, .int a6, .int a7] [] σ (sm_V (fun σ' => ∃ v, σ' = sm_set σ 1 v ∧ fr_ok v ∧ fr_eq (σ 1) v ∧ (∀ j, k ≤ j → j < 2 ^ o → v (18 + 3 * (fr + j)) = 3 ∧ (v (18 + 3 * (fr + j) + 1)).toInt = ((n + 1 : Nat) : Int)) ∧ ∀ i, (i < 18 + 3 * (fr + k) ∨ 18 + 3 * (fr + 2 ^ o) ≤ i) → v i = σ 1 i)) := by
  have hp := t_pw (k := o) (by omega)
  have hsp := t_al (k := o) (by omega) hal
  intro d
  induction d with
  | zero =>
    intro k a7 σ h7 hk hF hI
    refine w_M_comes_73 a1 a2 a3 a4 a5 a6 a7 σ _ ⟨fun _ => ⟨rfl, σ 1, s_id.symm, hF, fr_eq.rf, fun j h4 h5 => by omega, fun _ _ => rfl⟩, fun h => absurd ?_ h⟩
    rw [t_le, t_pow h3 (by omega), h7]
    omega
  | succ d ih =>
    intro k a7 σ h7 hk hF hI
    have h7' : (a7 + 1).toInt = ((k + 1 : Nat) : Int) := by
      rw [t_add h7 (y := 1) rfl (by omega) (by omega)]
      omega
    have hf3 := t_add h2 h7 (by omega) (by omega)
    rw [← Int.natCast_add] at hf3
    refine w_M_comes_73 a1 a2 a3 a4 a5 a6 a7 σ _ ⟨fun h => ?_, fun _ => (c_has' hf3 (by omega) h1 hn σ hF (fun _ => hI)).void ?_⟩
    · rw [t_le, t_pow h3 (by omega), h7] at h
      omega
    · rintro _ ⟨v, rfl, g1, g2, g3, g4, g5⟩
      refine (ih (k + 1) (a7 + 1) _ h7' (by omega) (by rw [s_at]; exact g1) (by rw [s_at, g5 _ (by omega)]; exact hI)).mono ?_
      rintro r σ' ⟨rfl, w, rfl, e1, e2, e3, e4⟩
      rw [s_at] at e2 e4
      refine ⟨rfl, w, s_ss, e1, g2.tr e2, fun j hj1 hj2 => ?_, fun i hi => ?_⟩
      · rcases Nat.lt_or_ge k j with hlt | hge
        · exact e3 j hlt hj2
        · have hjk : j = k := by omega
          subst hjk
          rw [e4 _ (by omega), e4 _ (by omega)]
          exact ⟨g3, g4⟩
      · rw [e4 i (by omega), g5 i (by omega)]
/-- fr_ok but for the block n -/
def fx_ok (v : Nat → Int32) (n : Nat) : Prop := (∀ f, f < 256 → 0 ≤ (v (18 + 3 * f + 1)).toInt ∧ (v (18 + 3 * f + 1)).toInt ≤ 96) ∧ ∀ m, m < 96 → m ≠ n → dn_ok v m
theorem fx_cong {v v' : Nat → Int32} {n : Nat} (h1 : ∀ i, 18 ≤ i → i < 786 + 16 * n ∨ 786 + 16 * n + 16 ≤ i → v' i = v i) (h : fx_ok v n) : fx_ok v' n := by
  refine ⟨fun f hf => ?_, fun m hm hmn => dn_cong (fun i g1 g2 => h1 i g1 (by omega)) (h1 _ (by omega) (by omega)) (h1 _ (by omega) (by omega)) (h.2 m hm hmn)⟩
  rw [h1 _ (by omega) (by omega)]
  exact h.1 f hf
theorem fx_fr {v : Nat → Int32} {n : Nat} (h : fx_ok v n) (h1 : v (786 + 16 * n + 0) = 1) : fr_ok v := by
  refine ⟨h.1, fun m hm => ?_⟩
  by_cases hmn : m = n
  · rw [hmn]; exact Or.inl h1
  · exact h.2 m hm hmn
theorem fr_fx {v : Nat → Int32} {n : Nat} (h : fr_ok v) : fx_ok v n := ⟨h.1, fun m hm _ => h.2 m hm⟩
/-- a block comes: its row, its frames -/
theorem l_comes3 {a1 a2 a3 a4 a5 a6 : Int32} {n o fr : Nat} (h1 : a1.toInt = n) (hn : n < 96) (h2 : a2.toInt = fr) (hfr : fr < 256) (h3 : a3.toInt = o) (ho : o ≤ 4) (hal : fr % 2 ^ o = 0) : ∀ (d k : Nat) (a7 : Int32) (σ : sm_S), a7.toInt = k → k + d = 16 → fx_ok (σ 1) n → (∀ j, j < k → σ 1 (786 + 16 * n + j) = 0) →
    xE xM m_M_comes 3 [.ref 0, .int a1, .int a2, .int a3, .int a4, .int a5, .int a6, .int a7] [] σ (sm_V (fun σ' => ∃ v, σ' = sm_set σ 1 v ∧ fr_ok v ∧ (∀ i, (i < 18 ∨ 786 ≤ i) → (i < 786 + 16 * n ∨ 786 + 16 * n + 16 ≤ i) → v i = σ 1 i) ∧
      (v (786 + 16 * n + 0) = 1 ∧ v (786 + 16 * n + 1) = a2 ∧ v (786 + 16 * n + 2) = a3 ∧ v (786 + 16 * n + 3) = a4 ∧ v (786 + 16 * n + 4) = a5 ∧ v (786 + 16 * n + 8) = a6 ∧ ∀ j, j < 16 → j ≠ 0 → j ≠ 1 → j ≠ 2 → j ≠ 3 → j ≠ 4 → j ≠ 8 → v (786 + 16 * n + j) = 0) ∧
      (∀ j, j < 2 ^ o → v (18 + 3 * (fr + j)) = 3 ∧ (v (18 + 3 * (fr + j) + 1)).toInt = ((n + 1 : Nat) : Int)) ∧ ∀ i, 18 ≤ i → i < 786 → (i < 18 + 3 * fr ∨ 18 + 3 * (fr + 2 ^ o) ≤ i) → v i = σ 1 i)) := by
  have hp := t_pw (k := o) (by omega)
  intro d
  induction d with
  | zero =>
    intro k a7 σ h7 hk hF h0
    refine w_M_comes_3 a1 a2 a3 a4 a5 a6 a7 σ _ ⟨fun _ => (c_lay (k := 0) (j := 0) h1 rfl (by omega) 1 σ).void ?_, fun h => absurd ?_ h⟩
    · rintro _ rfl
      refine (c_lay (k := 1) (j := 1) h1 rfl (by omega) a2 _).void ?_
      rintro _ rfl
      refine (c_lay (k := 2) (j := 2) h1 rfl (by omega) a3 _).void ?_
      rintro _ rfl
      refine (c_lay (k := 3) (j := 3) h1 rfl (by omega) a4 _).void ?_
      rintro _ rfl
      refine (c_lay (k := 4) (j := 4) h1 rfl (by omega) a5 _).void ?_
      rintro _ rfl
      refine (c_lay (k := 8) (j := 8) h1 rfl (by omega) a6 _).void ?_
      rintro _ rfl
      simp only [s_at, s_ss]
      refine (l_comes73 h1 hn h2 hfr h3 ho hal (2 ^ o) 0 0 _ rfl (by omega) ?_ ?_).mono ?_
      · rw [s_at]
        refine fx_fr (fx_cong (fun i g1 g2 => ?_) hF) ?_
        · rw [u_ne (by omega), u_ne (by omega), u_ne (by omega), u_ne (by omega), u_ne (by omega), u_ne (by omega)]
        · rw [u_ne (by omega), u_ne (by omega), u_ne (by omega), u_ne (by omega), u_ne (by omega), u_at]
      · rw [s_at, u_ne (by omega), u_ne (by omega), u_ne (by omega), u_ne (by omega), u_ne (by omega), u_at]
      · rintro r σ' ⟨rfl, v, rfl, e1, e2, e3, e4⟩
        rw [s_at] at e2 e4
        refine ⟨rfl, v, s_ss, e1, fun i hi hi2 => ?_, ⟨?_, ?_, ?_, ?_, ?_, ?_, fun j hj n0 n1 n2 n3 n4 n8 => ?_⟩, fun j hj => e3 j (Nat.zero_le j) hj, fun i hi1 hi2 hi3 => ?_⟩
        · rw [e2 i hi, u_ne (by omega), u_ne (by omega), u_ne (by omega), u_ne (by omega), u_ne (by omega), u_ne (by omega)]
        · rw [e2 _ (by omega), u_ne (by omega), u_ne (by omega), u_ne (by omega), u_ne (by omega), u_ne (by omega), u_at]
        · rw [e2 _ (by omega), u_ne (by omega), u_ne (by omega), u_ne (by omega), u_ne (by omega), u_at]
        · rw [e2 _ (by omega), u_ne (by omega), u_ne (by omega), u_ne (by omega), u_at]
        · rw [e2 _ (by omega), u_ne (by omega), u_ne (by omega), u_at]
        · rw [e2 _ (by omega), u_ne (by omega), u_at]
        · rw [e2 _ (by omega), u_at]
        · rw [e2 _ (by omega), u_ne (by omega), u_ne (by omega), u_ne (by omega), u_ne (by omega), u_ne (by omega), u_ne (by omega)]
          exact h0 j (by omega)
        · rw [e4 i (by omega), u_ne (by omega), u_ne (by omega), u_ne (by omega), u_ne (by omega), u_ne (by omega), u_ne (by omega)]
    · rw [t_le, h7]
      show (16 : Int) ≤ _
      omega
  | succ d ih =>
    intro k a7 σ h7 hk hF h0
    have h7' : (a7 + 1).toInt = ((k + 1 : Nat) : Int) := by
      rw [t_add h7 (y := 1) rfl (by omega) (by omega)]
      omega
    refine w_M_comes_3 a1 a2 a3 a4 a5 a6 a7 σ _ ⟨fun h => ?_, fun _ => (c_lay h1 h7 (by omega) 0 σ).void ?_⟩
    · rw [t_le, h7] at h
      have h : (16 : Int) ≤ k := h
      omega
    · rintro _ rfl
      refine (ih (k + 1) (a7 + 1) _ h7' (by omega) ?_ ?_).mono ?_
      · rw [s_at]
        exact fx_cong (fun i g1 g2 => u_ne (by omega)) hF
      · intro j hj
        rw [s_at]
        by_cases hjk : j = k
        · rw [hjk, u_at]
        · rw [u_ne (by omega)]
          exact h0 j (by omega)
      · rintro r σ' ⟨rfl, v, rfl, e1, e2, e3, e4, e5⟩
        rw [s_at] at e2 e5
        refine ⟨rfl, v, s_ss, e1, fun i hi hi2 => ?_, e3, e4, fun i hi1 hi2 hi3 => ?_⟩
        · rw [e2 i hi hi2, u_ne (by omega)]
        · rw [e5 i hi1 hi2 hi3, u_ne (by omega)]
/-- the block n has come, with order o, at frame fr, for task t -/
theorem jr_came {v v' : Nat → Int32} {n o fr t : Nat} (hn : n < 96) (hj : jr v) (h0 : v (786 + 16 * n + 0) = 0) (hoth : ∀ i, 786 ≤ i → i < 2422 → (i < 786 + 16 * n ∨ 786 + 16 * n + 16 ≤ i) → v' i = v i)
    (hfr : (v' (786 + 16 * n + 1)).toInt = fr) (hfr2 : fr < 256) (ho : (v' (786 + 16 * n + 2)).toInt = o) (ho2 : o ≤ 4) (hal : fr % 2 ^ o = 0) (ht : (v' (786 + 16 * n + 4)).toInt = t) (ht2 : t < 6) (hz : ∀ j, j < 16 → j ≠ 0 → j ≠ 1 → j ≠ 2 → j ≠ 3 → j ≠ 4 → j ≠ 8 → v' (786 + 16 * n + j) = 0) : jr v' := by
  obtain ⟨j1, j2, j3, j4, s, hs, z1, z2⟩ := hj
  have hn6 : v (786 + 16 * n + 6) = 0 := by
    rcases Classical.em (v (786 + 16 * n + 6) = 0) with h | h
    · exact h
    · have := (j4 n hn h).1
      rw [h0] at this
      exact absurd this (by decide)
  have eb : ∀ b k, b < 96 → b ≠ n → k < 16 → v' (786 + 16 * b + k) = v (786 + 16 * b + k) := fun b k hb hbn hk => hoth _ (by omega) (by omega) (by omega)
  have es : ∀ s k, s < 8 → k < 8 → v' (2358 + 8 * s + k) = v (2358 + 8 * s + k) := fun s k hs hk => hoth _ (by omega) (by omega) (by omega)
  have et : ∀ t k, t < 6 → k < 6 → v' (2322 + 6 * t + k) = v (2322 + 6 * t + k) := fun s k hs hk => hoth _ (by omega) (by omega) (by omega)
  have h6' : v' (786 + 16 * n + 6) = 0 := hz 6 (by decide) (by decide) (by decide) (by decide) (by decide) (by decide) (by decide)
  have h7' : v' (786 + 16 * n + 7) = 0 := hz 7 (by decide) (by decide) (by decide) (by decide) (by decide) (by decide) (by decide)
  have h9' : v' (786 + 16 * n + 9) = 0 := hz 9 (by decide) (by decide) (by decide) (by decide) (by decide) (by decide) (by decide)
  refine ⟨fun b hb => ?_, fun b hb => ?_, fun s hs => ?_, fun b hb => ?_, s, hs, ?_, ?_⟩
  · by_cases hbn : b = n
    · subst hbn
      exact ⟨o, fr, ho, ho2, hfr, hfr2, hal, ⟨t, ht, ht2⟩, ⟨0, by rw [h6']; rfl, Or.inl rfl⟩, by rw [h7']; decide⟩
    · exact bk_cong (fun k hk _ _ _ => eb b k hb hbn hk) (j1 b hb)
  · by_cases hbn : b = n
    · subst hbn
      exact ⟨0, o, by rw [h9']; rfl, by omega, ho, fun h => by omega, fun k hk => by omega, fun k m _ hm => by omega⟩
    · exact ln_cong (fun k hk _ _ _ => eb b k hb hbn hk) (fun t k ht hk => et t k ht (by omega)) (j2 b hb)
  · obtain ⟨st, pt, at', q, h1, h2, h3, h4, h5, h6, h7, h8, h9⟩ := j3 s hs
    refine ⟨st, pt, at', q, ?_, h2, ?_, h4, h5, ?_, h7, ?_, ?_⟩
    · rw [es s 0 hs (by omega)]; exact h1
    · rw [es s 2 hs (by omega)]; exact h3
    · rw [es s 5 hs (by omega)]; exact h6
    · rw [es s 6 hs (by omega)]; exact h8
    · rcases h9 with h9 | ⟨b, g1, g2, g3, g4, fr2, g5, g6⟩
      · exact Or.inl h9
      · have hbn : b ≠ n := fun z => by subst z; exact g4 hn6
        refine Or.inr ⟨b, g1, g2, g3, ?_, fr2, ?_, g6⟩
        · rw [eb b 6 g1 hbn (by omega)]; exact g4
        · rw [eb b 1 g1 hbn (by omega)]; exact g5
  · by_cases hbn : b = n
    · subst hbn
      exact fun z => absurd h6' z
    · intro hb6
      rw [eb b 6 hb hbn (by omega)] at hb6
      obtain ⟨h1, fr2, h2, h3, h4⟩ := j4 b hb hb6
      refine ⟨?_, fr2, ?_, h3, ?_⟩
      · rw [eb b 0 hb hbn (by omega)]; exact h1
      · rw [eb b 1 hb hbn (by omega)]; exact h2
      · rw [es _ 6 (by omega) (by omega)]; exact h4
  · rw [es s 0 hs (by omega)]; exact z1
  · rw [es s 1 hs (by omega)]; exact z2
theorem c_comes {a1 a2 a3 a4 a5 a6 : Int32} {n o fr t N : Nat} (h1 : a1.toInt = n) (hn : n < 96) (h2 : a2.toInt = fr) (hfr : fr < 256) (h3 : a3.toInt = o) (ho : o ≤ 4) (hal : fr % 2 ^ o = 0) (h5 : a5.toInt = t) (ht : t < 6) (σ : sm_S) (hj : jj N (σ 1)) (h0 : σ 1 (786 + 16 * n + 0) = 0) :
    xC xM j_M_comes [.ref 0, .int a1, .int a2, .int a3, .int a4, .int a5, .int a6] σ (sm_V (fun σ' => ∃ v, σ' = sm_set σ 1 v ∧ jj N v ∧ (∀ i, (i < 18 ∨ 786 ≤ i) → (i < 786 + 16 * n ∨ 786 + 16 * n + 16 ≤ i) → v i = σ 1 i) ∧
      (v (786 + 16 * n + 0) = 1 ∧ v (786 + 16 * n + 1) = a2 ∧ v (786 + 16 * n + 2) = a3 ∧ v (786 + 16 * n + 3) = a4) ∧
      (∀ j, j < 2 ^ o → v (18 + 3 * (fr + j)) = 3 ∧ (v (18 + 3 * (fr + j) + 1)).toInt = ((n + 1 : Nat) : Int)) ∧ ∀ i, 18 ≤ i → i < 786 → (i < 18 + 3 * fr ∨ 18 + 3 * (fr + 2 ^ o) ≤ i) → v i = σ 1 i)) := by
  obtain ⟨jF, jR, jN⟩ := hj
  refine w_M_comes a1 a2 a3 a4 a5 a6 σ _ ((l_comes3 h1 hn h2 hfr h3 ho hal 16 0 0 σ rfl rfl (fr_fx jF) (fun j hj => absurd hj (Nat.not_lt_zero j))).mono ?_)
  rintro r σ' ⟨rfl, v, rfl, e1, e2, ⟨r0, r1, r2, r3, r4, r8, rz⟩, e4, e5⟩
  refine ⟨rfl, v, rfl, ⟨e1, ?_, ?_⟩, e2, ⟨r0, r1, r2, r3⟩, e4, e5⟩
  · exact jr_came hn jR h0 (fun i hi1 _ hi2 => e2 i (Or.inr hi1) hi2) (by rw [r1]; exact h2) hfr (by rw [r2]; exact h3) ho hal (by rw [r4]; exact h5) ht rz
  · rw [e2 5 (by omega) (by omega)]; exact jN
end
section
/-! ===== the model: take, free ===== -/
theorem sm_C.det {TB : List (List Int32)} {MS : List sm_M} {SH : List sm_Sh} {j : Nat} {as : List Value} {σ : sm_S} {P : Int32 → sm_S → Prop} (h : sm_C TB MS SH j as σ (sm_I P)) : ∃ x0, sm_C TB MS SH j as σ (sm_I (fun x σ' => x = x0 ∧ P x σ')) := by
  obtain ⟨M, h1, n, r, σ', h2, x, rfl, hx⟩ := h
  exact ⟨x, M, h1, n, _, σ', h2, x, rfl, rfl, hx⟩
def isB (v : Nat → Int32) (b : Nat) : Bool := decide (v (786 + 16 * b + 0) = 1)
/-- counts and the log's number aside, nothing of jj lies below 18 -/
theorem jj_low {v : Nat → Int32} {N i : Nat} {x : Int32} (hi : i < 18) (h5 : i ≠ 5) (hj : jj N v) : jj N (upd v i x) :=
  ⟨fr_cong (fun i h1 h2 => u_ne (by omega)) (fun n k hn hk => u_ne (by omega)) hj.1, jr_cong (ceq_upd (Or.inl (by omega))) hj.2.1, by rw [u_ne (by omega)]; exact hj.2.2⟩
theorem jj_fr {v v' : Nat → Int32} {N : Nat} (hF : fr_ok v') (he : fr_eq v v') (hj : jj N v) : jj N v' :=
  ⟨hF, jr_cong (ceq.fr he) hj.2.1, by rw [he 5 (by omega)]; exact hj.2.2⟩
theorem l_take135 {a1 a2 a3 a4 a5 a6 : Int32} {o fr N : Nat} (h5 : a5.toInt = fr) (hfr : fr < 256) (h3 : a3.toInt = o) (ho : o ≤ 4) (hal : fr % 2 ^ o = 0) : ∀ (d k : Nat) (a7 : Int32) (σ : sm_S), a7.toInt = k → k + d = 2 ^ o → jj N (σ 1) →
    xE xM m_M_take 135 [.ref 0, .int a1, .int a2, .int a3, .int a4, .int a5, .int a6, .int a7] [] σ (sm_I (fun x σ' => ∃ v, σ' = sm_set σ 1 v ∧ jj N v)) := by
  have hp := t_pw (k := o) (by omega)
  have hsp := t_al (k := o) (by omega) hal
  intro d
  induction d with
  | zero =>
    intro k a7 σ h7 hk hj
    refine w_M_take_135 a1 a2 a3 a4 a5 a6 a7 σ _ ⟨fun _ => (c_counts (k := 0) (j := 0) rfl (by omega) 1 σ).void ?_, fun h => absurd ?_ h⟩
    · rintro _ rfl
      exact ⟨_, rfl, _, rfl, jj_low (by omega) (by omega) hj⟩
    · rw [t_le, t_pow h3 (by omega), h7]
      omega
  | succ d ih =>
    intro k a7 σ h7 hk hj
    have h7' : (a7 + 1).toInt = ((k + 1 : Nat) : Int) := by
      rw [t_add h7 (y := 1) rfl (by omega) (by omega)]
      omega
    have hf3 := t_add h5 h7 (by omega) (by omega)
    rw [← Int.natCast_add] at hf3
    refine w_M_take_135 a1 a2 a3 a4 a5 a6 a7 σ _ ⟨fun h => ?_, fun _ => (c_lays' hf3 (by omega) σ hj.1).void ?_⟩
    · rw [t_le, t_pow h3 (by omega), h7] at h
      omega
    · rintro _ ⟨v, rfl, g1, g2, -⟩
      refine (ih (k + 1) (a7 + 1) _ h7' (by omega) (by rw [s_at]; exact jj_fr g1 g2 hj)).mono ?_
      rintro r σ' ⟨x, rfl, w, rfl, hw⟩
      exact ⟨x, rfl, w, s_ss, hw⟩
theorem l_take46 {a1 a2 a3 a4 : Int32} {m o : Nat} (h1 : a1.toInt = m) (hm : m < 6) (h3 : a3.toInt = o) (ho : o ≤ 4) : ∀ (c : Nat) (a5 : Int32) (v6 v7 : Value) (σ : sm_S) (N : Nat), cn (isB (σ 1)) 96 ≤ c → jj N (σ 1) → N + c < 2000000000 → (a5 = -1 ∨ ∃ p : Nat, a5.toInt = p ∧ p < 256 ∧ p % 2 ^ o = 0) →
    xE xM m_M_take 46 [.ref 0, .int a1, .int a2, .int a3, .int a4, .int a5, v6, v7] [] σ (sm_I (fun x σ' => ∃ v N', σ' = sm_set σ 1 v ∧ jj N' v ∧ N ≤ N' ∧ N' ≤ N + c)) := by
  intro c
  induction c with
  | zero =>
    intro a5 v6 v7 σ N hc hj hN h5
    have hcnt : xC xM j_M_counts [.ref 0, .int 1, .int 1] σ (sm_rv False (fun σ' => sm_I (fun x σ' => ∃ v N', σ' = sm_set σ 1 v ∧ jj N' v ∧ N ≤ N' ∧ N' ≤ N + 0) (some (.int (-1))) σ')) := by
      refine (c_counts (k := 1) (j := 1) rfl (by omega) 1 σ).void ?_
      rintro _ rfl
      exact ⟨_, rfl, _, N, rfl, jj_low (by omega) (by omega) hj, Nat.le_refl N, by omega⟩
    have hcome : ∀ (b : Int32) (n p : Nat), b.toInt = n → n < 96 → σ 1 (786 + 16 * n) = 0 → a5.toInt = p → p < 256 → p % 2 ^ o = 0 → xC xM j_M_more [.ref 0, .int 6, .int 1] σ (sm_rv False (fun σ4 => (vp_in (6 : Int32) 2662 ∧ xC xM j_M_comes [.ref 0, .int b, .int a5, .int a3, .int a2, .int a1, .int (σ4 1 ((6 : Int32)).toNatClampNeg)] σ4 (sm_rv False (fun σ5 => xE xM m_M_take 135 [.ref 0, .int a1, .int a2, .int a3, .int a4, .int a5, .int b, .int 0] [] σ5 (sm_I (fun x σ' => ∃ v N', σ' = sm_set σ 1 v ∧ jj N' v ∧ N ≤ N' ∧ N' ≤ N + 0))))))) := by
      intro b n p hb hn h0 hp hp2 hp3
      refine (c_more (k := 6) (j := 6) rfl (by omega) 1 σ).void ?_
      rintro _ rfl
      refine ⟨t_vp (n := 6) rfl (by omega), ?_⟩
      have hj2 : jj N (upd (σ 1) 6 (σ 1 6 + 1)) := jj_low (by omega) (by omega) hj
      refine (c_comes hb hn hp hp2 h3 ho hp3 h1 hm _ (by rw [s_at]; exact hj2) (by rw [s_at, u_ne (by omega)]; exact h0)).void ?_
      rintro _ ⟨v, rfl, hv, -⟩
      rw [s_ss]
      have hpo := t_pw (k := o) (by omega)
      refine (l_take135 hp hp2 h3 ho hp3 (2 ^ o) 0 0 _ rfl (by omega) (by rw [s_at]; exact hv)).mono ?_
      rintro r σ' ⟨x, rfl, w, rfl, hw⟩
      exact ⟨x, rfl, w, N, s_ss, hw, Nat.le_refl N, by omega⟩
    have hend : ∀ (y : Int32), ((y = -1 ∧ ∀ j, j < 96 → σ 1 (786 + 16 * j) ≠ 0) ∨ ∃ j : Nat, y.toInt = j ∧ j < 96 ∧ σ 1 (786 + 16 * j) = 0 ∧ ∀ i, i < j → σ 1 (786 + 16 * i) ≠ 0) → ¬ a5 = -1 → y ≠ -1 → ∃ n p : Nat, y.toInt = n ∧ n < 96 ∧ σ 1 (786 + 16 * n) = 0 ∧ a5.toInt = p ∧ p < 256 ∧ p % 2 ^ o = 0 := by
      intro y hy ha hy1
      obtain ⟨p, g1, g2, g3⟩ := h5.resolve_left ha
      obtain ⟨n, e1, e2, e3, -⟩ := hy.resolve_left (fun z => hy1 z.1)
      exact ⟨n, p, e1, e2, e3, g1, g2, g3⟩
    obtain ⟨x0, hLU⟩ := sm_C.det (c_leastUsed σ)
    refine w_M_take_46 a1 a2 a3 a4 a5 v6 v7 σ _ ⟨fun ha => (c_freeNumber σ).int ?_, fun ha => hLU.int ?_⟩
    · rintro y _ ⟨hy, rfl⟩
      refine ⟨fun z => absurd z ha, fun _ => ⟨fun hy1 => ?_, fun _ => hcnt⟩⟩
      obtain ⟨n, p, g1, g2, g3, g4, g5, g6⟩ := hend y hy ha hy1
      exact hcome y n p g1 g2 g3 g4 g5 g6
    · rintro y σ ⟨rfl, hy, rfl⟩
      refine ⟨fun _ => (c_freeNumber _).int ?_, fun hy1 => hLU.int ?_⟩
      · rintro z _ ⟨hz, rfl⟩
        exact ⟨fun _ => hcnt, fun z => absurd (Classical.not_not.mp ha) z⟩
      · exfalso
        obtain ⟨n, g1, g2, g3, -⟩ := hy.resolve_left hy1
        have := cn_lt (P := isB (σ 1)) (P' := fun _ => false) (j := n) (by simpa [isB] using g3) rfl (N := 96) g2 (fun i _ h => by cases h)
        omega
  | succ c ih =>
    intro a5 v6 v7 σ N hc hj hN h5
    have hcnt : xC xM j_M_counts [.ref 0, .int 1, .int 1] σ (sm_rv False (fun σ' => sm_I (fun x σ' => ∃ v N', σ' = sm_set σ 1 v ∧ jj N' v ∧ N ≤ N' ∧ N' ≤ N + (c + 1)) (some (.int (-1))) σ')) := by
      refine (c_counts (k := 1) (j := 1) rfl (by omega) 1 σ).void ?_
      rintro _ rfl
      exact ⟨_, rfl, _, N, rfl, jj_low (by omega) (by omega) hj, Nat.le_refl N, by omega⟩
    have hcome : ∀ (b : Int32) (n p : Nat), b.toInt = n → n < 96 → σ 1 (786 + 16 * n) = 0 → a5.toInt = p → p < 256 → p % 2 ^ o = 0 → xC xM j_M_more [.ref 0, .int 6, .int 1] σ (sm_rv False (fun σ4 => (vp_in (6 : Int32) 2662 ∧ xC xM j_M_comes [.ref 0, .int b, .int a5, .int a3, .int a2, .int a1, .int (σ4 1 ((6 : Int32)).toNatClampNeg)] σ4 (sm_rv False (fun σ5 => xE xM m_M_take 135 [.ref 0, .int a1, .int a2, .int a3, .int a4, .int a5, .int b, .int 0] [] σ5 (sm_I (fun x σ' => ∃ v N', σ' = sm_set σ 1 v ∧ jj N' v ∧ N ≤ N' ∧ N' ≤ N + (c + 1)))))))) := by
      intro b n p hb hn h0 hp hp2 hp3
      refine (c_more (k := 6) (j := 6) rfl (by omega) 1 σ).void ?_
      rintro _ rfl
      refine ⟨t_vp (n := 6) rfl (by omega), ?_⟩
      have hj2 : jj N (upd (σ 1) 6 (σ 1 6 + 1)) := jj_low (by omega) (by omega) hj
      refine (c_comes hb hn hp hp2 h3 ho hp3 h1 hm _ (by rw [s_at]; exact hj2) (by rw [s_at, u_ne (by omega)]; exact h0)).void ?_
      rintro _ ⟨v, rfl, hv, -⟩
      rw [s_ss]
      have hpo := t_pw (k := o) (by omega)
      refine (l_take135 hp hp2 h3 ho hp3 (2 ^ o) 0 0 _ rfl (by omega) (by rw [s_at]; exact hv)).mono ?_
      rintro r σ' ⟨x, rfl, w, rfl, hw⟩
      exact ⟨x, rfl, w, N, s_ss, hw, Nat.le_refl N, by omega⟩
    have hend : ∀ (y : Int32), ((y = -1 ∧ ∀ j, j < 96 → σ 1 (786 + 16 * j) ≠ 0) ∨ ∃ j : Nat, y.toInt = j ∧ j < 96 ∧ σ 1 (786 + 16 * j) = 0 ∧ ∀ i, i < j → σ 1 (786 + 16 * i) ≠ 0) → ¬ a5 = -1 → y ≠ -1 → ∃ n p : Nat, y.toInt = n ∧ n < 96 ∧ σ 1 (786 + 16 * n) = 0 ∧ a5.toInt = p ∧ p < 256 ∧ p % 2 ^ o = 0 := by
      intro y hy ha hy1
      obtain ⟨p, g1, g2, g3⟩ := h5.resolve_left ha
      obtain ⟨n, e1, e2, e3, -⟩ := hy.resolve_left (fun z => hy1 z.1)
      exact ⟨n, p, e1, e2, e3, g1, g2, g3⟩
    obtain ⟨x0, hLU⟩ := sm_C.det (c_leastUsed σ)
    refine w_M_take_46 a1 a2 a3 a4 a5 v6 v7 σ _ ⟨fun ha => (c_freeNumber σ).int ?_, fun ha => hLU.int ?_⟩
    · rintro y _ ⟨hy, rfl⟩
      refine ⟨fun z => absurd z ha, fun _ => ⟨fun hy1 => ?_, fun _ => hcnt⟩⟩
      obtain ⟨n, p, g1, g2, g3, g4, g5, g6⟩ := hend y hy ha hy1
      exact hcome y n p g1 g2 g3 g4 g5 g6
    · rintro y σ ⟨rfl, hy, rfl⟩
      refine ⟨fun _ => (c_freeNumber _).int ?_, fun hy1 => hLU.int ?_⟩
      · rintro z _ ⟨hz, rfl⟩
        exact ⟨fun _ => hcnt, fun z => absurd (Classical.not_not.mp ha) z⟩
      · rintro z σ ⟨rfl, hz, rfl⟩
        obtain ⟨n, g1, g2, g3, g4, g5⟩ := hz.resolve_left hy1
        obtain ⟨o2, fr2, b1, b2, b3, b4, b5, b6, ⟨q, b7, b8⟩, b9⟩ := hj.2.1.1 n g2
        have h60 : σ 1 (786 + 16 * n + 6) = 0 := by
          apply t_inj
          rw [t_le, b7] at g5
          have g5 : (q : Int) ≤ 0 := g5
          rw [b7]
          show (q : Int) = 0
          omega
        refine (c_drops g1 g2 (by omega) _ hj h60).void ?_
        rintro _ ⟨v, fr, rfl, k1, k2, k3, k4, -⟩
        refine (c_bestPlace h1 hm h3 ho _).int ?_
        rintro y2 _ ⟨hy2, rfl⟩
        have hlt : cn (isB v) 96 < cn (isB (σ 1)) 96 := by
          refine cn_lt (j := n) (by simpa [isB] using g3) (by simp only [isB, k3]; decide) g2 (fun i hi h => ?_)
          by_cases hin : i = n
          · subst hin; simpa [isB] using g3
          · simp only [isB, decide_eq_true_eq] at h ⊢
            rw [← k4 _ (by omega) (by omega) (by omega)]
            exact h
        refine (ih y2 v6 v7 _ (N + 1) (by rw [s_at]; omega) (by rw [s_at]; exact k1) (by omega) hy2).mono ?_
        rintro r σ' ⟨x, rfl, w, N', rfl, hw, l1, l2⟩
        exact ⟨x, rfl, w, N', s_ss, hw, by omega, by omega⟩
theorem c_take {N : Nat} (a1 a2 a3 a4 : Int32) (σ : sm_S) (hj : jj N (σ 1)) (hN : N < 1900000000) : xC xM j_M_take [.ref 0, .int a1, .int a2, .int a3, .int a4] σ (sm_I (fun x σ' => ∃ v N', σ' = sm_set (sm_set σ 0 (upd (σ 0) 0 0)) 1 v ∧ jj N' v ∧ N ≤ N' ∧ N' ≤ N + 96)) := by
  have keep : ∀ σ1 : sm_S, σ1 = sm_set σ 0 (upd (σ 0) 0 0) → ∃ v N', σ1 = sm_set (sm_set σ 0 (upd (σ 0) 0 0)) 1 v ∧ jj N' v ∧ N ≤ N' ∧ N' ≤ N + 96 := by
    rintro _ rfl
    exact ⟨σ 1, N, by rw [show σ 1 = (sm_set σ 0 (upd (σ 0) 0 0)) 1 from (s_ne (by decide)).symm, s_id], hj, Nat.le_refl N, by omega⟩
  refine w_M_take a1 a2 a3 a4 σ _ (fun σ1 e1 => (c_isTask a1 σ1).int ?_)
  have hj1 : jj N (σ1 1) := by rw [e1, s_ne (by decide)]; exact hj
  rintro x1 _ ⟨hx1, rfl⟩
  refine ⟨fun _ => ⟨_, rfl, keep _ e1⟩, fun n1 => (c_isIn a2 0 2 _).int ?_⟩
  rintro x2 _ ⟨hx2, rfl⟩
  refine ⟨fun _ => ⟨_, rfl, keep _ e1⟩, fun n2 => (c_isIn a3 0 4 _).int ?_⟩
  rintro x3 _ ⟨hx3, rfl⟩
  refine ⟨fun n3 => ?_, fun _ => ⟨_, rfl, keep _ e1⟩⟩
  obtain ⟨-, m, hm, h1⟩ := hx1.resolve_right (fun z => n1 z.1)
  obtain ⟨-, h31, h32⟩ := hx3.resolve_right (fun z => n3 z.1)
  have h31 : 0 ≤ a3.toInt := h31
  have h32 : a3.toInt ≤ 4 := h32
  obtain ⟨o, ho⟩ := t_of h31
  refine (c_bestPlace h1 hm ho (by omega) _).int ?_
  rintro y _ ⟨hy, rfl⟩
  refine (l_take46 h1 hm ho (by omega) 96 y _ _ _ N cn_bd hj1 (by omega) hy).mono ?_
  rintro r σ' ⟨x, rfl, w, N', rfl, hw, l1, l2⟩
  exact ⟨x, rfl, w, N', by rw [e1], hw, l1, l2⟩
end
section
/-! ===== the model: free; what a task does ===== -/
/-- behind a public call: told is 0, now is well, the log has at most D lines more -/
def pub (N D : Nat) (σ : sm_S) (_ : Int32) (σ' : sm_S) : Prop := ∃ v N', σ' = sm_set (sm_set σ 0 (upd (σ 0) 0 0)) 1 v ∧ jj N' v ∧ N ≤ N' ∧ N' ≤ N + D
theorem pub_keep {N D : Nat} {σ σ1 : sm_S} {x : Int32} (hj : jj N (σ 1)) (e1 : σ1 = sm_set σ 0 (upd (σ 0) 0 0)) : pub N D σ x σ1 := by
  subst e1
  exact ⟨σ 1, N, by rw [show σ 1 = (sm_set σ 0 (upd (σ 0) 0 0)) 1 from (s_ne (by decide)).symm, s_id], hj, Nat.le_refl N, by omega⟩
theorem pub_set {N D N' : Nat} {σ σ1 : sm_S} {x : Int32} {v : Nat → Int32} (e1 : σ1 = sm_set σ 0 (upd (σ 0) 0 0)) (hv : jj N' v) (h1 : N ≤ N') (h2 : N' ≤ N + D) : pub N D σ x (sm_set σ1 1 v) := ⟨v, N', by rw [e1], hv, h1, h2⟩
theorem t_to0 {v : Nat → Int32} {n : Nat} (hB : bk_ok v n) (h : v (786 + 16 * n + 6) ≤ 0) : v (786 + 16 * n + 6) = 0 := by
  obtain ⟨o2, fr2, b1, b2, b3, b4, b5, b6, ⟨q, b7, b8⟩, b9⟩ := hB
  apply t_inj
  rw [t_le, b7] at h
  have h : (q : Int) ≤ 0 := h
  rw [b7]
  show (q : Int) = 0
  omega
theorem jj_gone {v w : Nat → Int32} {n N fr : Nat} (hn : n < 96) (hj : jj N v) (h6 : v (786 + 16 * n + 6) = 0) (hF : fr_ok w) (he : fr_eq v w) (hfr : (v (786 + 16 * n + 1)).toInt = fr) (hlv : w (18 + 3 * fr) = 1 ∨ w (18 + 3 * fr) = 2) : jj N (upd w (786 + 16 * n + 0) 0) := by
  have hw := jj_fr hF he hj
  refine ⟨fr_gone hn (by rw [he _ (by omega)]; exact hfr) hlv hF, jr_gone hn hw.2.1 (by rw [he _ (by omega)]; exact h6), by rw [u_ne (by omega)]; exact hw.2.2⟩
theorem c_free {N : Nat} (a1 : Int32) (σ : sm_S) (hj : jj N (σ 1)) : xC xM j_M_free [.ref 0, .int a1] σ (sm_I (pub N 0 σ)) := by
  refine w_M_free a1 σ _ (fun σ1 e1 => (c_isBlock a1 σ1).int ?_)
  have hj1 : jj N (σ1 1) := by rw [e1, s_ne (by decide)]; exact hj
  rintro x1 σ1 ⟨hx1, rfl⟩
  refine ⟨fun _ => ⟨Or.inl rfl, _, rfl, pub_keep hj e1⟩, fun n1 => ?_⟩
  obtain ⟨-, n, hn, h1, hi⟩ := hx1.resolve_right (fun z => n1 z.1)
  refine (c_isPinned h1 hn _).int ?_
  rintro x2 σ1 ⟨hx2, rfl⟩
  refine ⟨fun _ => ⟨Or.inl rfl, _, rfl, pub_keep hj e1⟩, fun n2 => (c_isOnWay h1 hn _).int ?_⟩
  rintro x3 σ1 ⟨hx3, rfl⟩
  refine ⟨fun n3 => ?_, fun _ => ⟨Or.inl rfl, _, rfl, pub_keep hj e1⟩⟩
  have h6 := hx3.resolve_right (fun z => by rw [z.1] at n3; exact absurd n3 (by decide))
  refine (c_goes h1 hn _ (hj1.2.1.1 n hn) hj1.1).void ?_
  rintro _ ⟨v, fr, rfl, e2, e3, -, e5, -, e6⟩
  exact ⟨Or.inr rfl, _, rfl, pub_set e1 (jj_gone hn hj1 (t_to0 (hj1.2.1.1 n hn) h6.2) e2 e3 e5 e6) (Nat.le_refl N) (Nat.le_refl N)⟩
theorem jj_cell {v : Nat → Int32} {N i : Nat} {x : Int32} (hi : 786 ≤ i) (h : (∃ b, b < 96 ∧ (i = 786 + 16 * b + 3 ∨ i = 786 + 16 * b + 5 ∨ i = 786 + 16 * b + 8)) ∨ (∃ t, t < 6 ∧ (i = 2322 + 6 * t ∨ i = 2322 + 6 * t + 2 ∨ i = 2322 + 6 * t + 4 ∨ i = 2322 + 6 * t + 5)) ∨ ∃ s, s < 8 ∧ (i = 2358 + 8 * s + 3 ∨ i = 2358 + 8 * s + 4 ∨ i = 2358 + 8 * s + 7)) (hj : jj N v) : jj N (upd v i x) :=
  ⟨fr_cong (fun k h1 h2 => u_ne (by omega)) (fun n k hn hk => u_ne (by rcases h with ⟨c, hc, h⟩ | ⟨c, hc, h⟩ | ⟨c, hc, h⟩ <;> omega)) hj.1, jr_cong (ceq_upd (Or.inr (Or.inr h))) hj.2.1, by rw [u_ne (by omega)]; exact hj.2.2⟩
/-- frames have what they had -/
def fr_st (v v' : Nat → Int32) : Prop := ∀ g, g < 256 → v' (18 + 3 * g) = v (18 + 3 * g) ∧ v' (18 + 3 * g + 1) = v (18 + 3 * g + 1)
theorem fr_st.tr {a b c : Nat → Int32} (h1 : fr_st a b) (h2 : fr_st b c) : fr_st a c := fun g hg => ⟨(h2 g hg).1.trans (h1 g hg).1, (h2 g hg).2.trans (h1 g hg).2⟩
theorem c_uses {b : Int32} {n N : Nat} (hb : b.toInt = n) (hn : n < 96) (σ : sm_S) (hj : jj N (σ 1)) : xC xM j_M_uses [.ref 0, .int b] σ (sm_V (fun σ' => ∃ w, σ' = sm_set σ 1 w ∧ jj N w ∧ ∀ i, i ≠ 6 → i ≠ 786 + 16 * n + 8 → w i = σ 1 i)) := by
  refine w_M_uses b σ _ ((c_more (k := 6) (j := 6) rfl (by omega) 1 σ).void ?_)
  rintro _ rfl
  refine ⟨t_vp (n := 6) rfl (by omega), (c_lay (k := 8) (j := 8) hb rfl (by omega) _ _).void ?_⟩
  rintro _ rfl
  refine ⟨rfl, _, s_ss, ?_, fun i h1 h2 => ?_⟩
  · rw [s_at]
    exact jj_cell (by omega) (Or.inl ⟨n, hn, Or.inr (Or.inr rfl)⟩) (jj_low (by omega) (by omega) hj)
  · rw [s_at, u_ne h2, u_ne h1]
theorem c_does {t b i : Int32} {n m a fr N : Nat} (ht : t.toInt = m) (hm : m < 6) (hb : b.toInt = n) (hn : n < 96) (hi : i.toInt = a) (what x : Int32) (σ : sm_S) (hfr : (σ 1 (786 + 16 * n + 1)).toInt = fr) (h : fr + a < 256) (hj : jj N (σ 1)) :
    xC xM j_M_does [.ref 0, .int t, .int b, .int what, .int i, .int x] σ (sm_V (fun σ' => ∃ w, σ' = sm_set σ 1 w ∧ jj N w ∧ (∀ i, 786 ≤ i → i ≠ 786 + 16 * n + 5 → i ≠ 786 + 16 * n + 8 → i ≠ 2322 + 6 * m + 5 → w i = σ 1 i) ∧ fr_st (σ 1) w)) := by
  refine w_M_does t b what i x σ _ ⟨fun _ => (c_uses hb hn σ hj).void ?_, fun _ => (c_of (k := 5) (j := 5) hb rfl (by omega) σ).int ?_⟩
  · rintro _ ⟨w, rfl, hw, ew⟩
    have hf3 : ∀ y : Int32, y = w (786 + 16 * n + 1) → (y + i).toInt = ((fr + a : Nat) : Int) := by
      rintro _ rfl
      rw [ew _ (by omega) (by omega)]
      have := t_add hfr hi (by omega) (by omega)
      rw [this]
      omega
    refine ⟨fun _ => (c_frameOf hb hn _).int ?_, fun _ => (c_taskAt t _).int ?_⟩
    · rintro y _ ⟨hy, rfl⟩
      rw [s_at] at hy
      refine (c_lays' (hf3 y hy) h _ (by rw [s_at]; exact hw.1)).void ?_
      rintro _ ⟨z, rfl, g1, g2, g3⟩
      rw [s_at] at g2 g3
      refine ⟨rfl, z, s_ss, jj_fr g1 g2 hw, fun k h1 h2 h3 h4 => ?_, fun g hg => ⟨?_, ?_⟩⟩
      · rw [g3 _ (by omega), ew _ (by omega) h3]
      · rw [g3 _ (by omega), ew _ (by omega) (by omega)]
      · rw [g3 _ (by omega), ew _ (by omega) (by omega)]
    · rintro _ _ ⟨rfl, rfl⟩
      refine (c_frameOf hb hn _).int ?_
      rintro y _ ⟨hy, rfl⟩
      rw [s_at] at hy
      refine (c_valueOf (hf3 y hy) (by omega) _).int ?_
      rintro z _ ⟨-, rfl⟩
      obtain ⟨p1, p2⟩ := ixT (k := 5) (j := 5) ht rfl (by omega)
      rw [p2]
      refine ⟨p1, fun σ2 e2 => ⟨rfl, upd w (2322 + 6 * m + 5) z, ?_, ?_, fun k h1 h2 h3 h4 => ?_, fun g hg => ⟨?_, ?_⟩⟩⟩
      · rw [e2, s_at, s_ss]
      · exact jj_cell (by omega) (Or.inr (Or.inl ⟨m, hm, by omega⟩)) hw
      · rw [u_ne h4, ew _ (by omega) h3]
      · rw [u_ne (by omega), ew _ (by omega) (by omega)]
      · rw [u_ne (by omega), ew _ (by omega) (by omega)]
  · rintro y _ ⟨-, rfl⟩
    refine (c_lay (k := 5) (j := 5) hb rfl (by omega) _ _).void ?_
    rintro _ rfl
    exact ⟨rfl, _, rfl, jj_cell (by omega) (Or.inl ⟨n, hn, Or.inr (Or.inl rfl)⟩) hj, fun k h1 h2 h3 h4 => u_ne h2, fun g hg => ⟨u_ne (by omega), u_ne (by omega)⟩⟩
/-- L different ones below k are at most k -/
theorem php : ∀ (k L : Nat) (f : Nat → Nat), (∀ n, n < L → f n < k) → (∀ n m, n < m → m < L → f n ≠ f m) → L ≤ k
  | 0, L, f, h1, _ => by
    rcases Nat.eq_zero_or_pos L with h | h
    · omega
    · exact absurd (h1 0 h) (Nat.not_lt_zero _)
  | k + 1, L, f, h1, h2 => by
    by_cases hex : ∃ n0, n0 < L ∧ f n0 = k
    · obtain ⟨n0, hn0, hf0⟩ := hex
      have := php k (L - 1) (fun n => if n < n0 then f n else f (n + 1)) (fun n hn => by
        show (if n < n0 then f n else f (n + 1)) < k
        split
        · next hlt =>
          have a1 := h1 n (by omega)
          have a2 := h2 n n0 hlt hn0
          omega
        · next hge =>
          have a1 := h1 (n + 1) (by omega)
          have a2 := h2 n0 (n + 1) (by omega) (by omega)
          omega) (fun n m hnm hm => by
        show (if n < n0 then f n else f (n + 1)) ≠ (if m < n0 then f m else f (m + 1))
        split <;> split
        · exact h2 n m hnm (by omega)
        · exact h2 n (m + 1) (by omega) (by omega)
        · omega
        · exact h2 (n + 1) (m + 1) (by omega) (by omega))
      omega
    · have := php k L f (fun n hn => by
        have a1 := h1 n hn
        have a2 : f n ≠ k := fun z => hex ⟨n, hn, z⟩
        omega) h2
      omega
end
section
/-! ===== the model: who wants something waits, or does it ===== -/
theorem jr_wait {v v' : Nat → Int32} {n m a o L : Nat} (hn : n < 96) (hm : m < 6) (hj : jr v) (h6 : v (786 + 16 * n + 6) ≠ 0) (hw : v (2322 + 6 * m + 1) = 0) (ho : (v (786 + 16 * n + 2)).toInt = o) (ha : a < 2 ^ o) (hL : (v (786 + 16 * n + 9)).toInt = L)
    (e1 : (v' (2322 + 6 * m + 1)).toInt = ((n + 1 : Nat) : Int)) (e3 : (v' (2322 + 6 * m + 3)).toInt = a) (e9 : (v' (786 + 16 * n + 9)).toInt = ((L + 1 : Nat) : Int)) (e10 : (v' (786 + 16 * n + (10 + L))).toInt = m)
    (e : ∀ i, 786 ≤ i → i < 2422 → (i < 2322 + 6 * m + 1 ∨ 2322 + 6 * m + 5 ≤ i) → i ≠ 786 + 16 * n + 9 → i ≠ 786 + 16 * n + (10 + L) → v' i = v i) : jr v' ∧ L < 6 := by
  obtain ⟨j1, j2, j3, j4, s, hs, z1, z2⟩ := hj
  have hL6 : L < 6 := by
    obtain ⟨L2, o2, h1, h2, h3, h4, h5, h6'⟩ := j2 n hn
    have : L2 = L := by rw [hL] at h1; omega
    subst this
    have hp := php 6 (L2 + 1) (fun k => if k < L2 then (v (786 + 16 * n + (10 + k))).toNatClampNeg else m) (fun k hk => by
      show (if k < L2 then (v (786 + 16 * n + (10 + k))).toNatClampNeg else m) < 6
      split
      · next hlt =>
        obtain ⟨t, a2, g1, g2, -⟩ := h5 k hlt
        rw [t_nat g2]
        exact g1
      · exact hm) (fun k k2 hkk hk2 => by
      show (if k < L2 then (v (786 + 16 * n + (10 + k))).toNatClampNeg else m) ≠ (if k2 < L2 then (v (786 + 16 * n + (10 + k2))).toNatClampNeg else m)
      rw [if_pos (by omega)]
      obtain ⟨t, a2, g1, g2, g3, -⟩ := h5 k (by omega)
      rw [t_nat g2]
      split
      · next hlt =>
        obtain ⟨t2, a3, f1, f2, f3, -⟩ := h5 k2 hlt
        rw [t_nat f2]
        intro z
        exact h6' k k2 hkk hlt (t_inj (by rw [g2, f2, z]))
      · intro z
        rw [z, hw] at g3
        have g3 : (0 : Int) = ((n + 1 : Nat) : Int) := g3
        omega)
    omega
  refine ⟨⟨fun b hb => ?_, fun b hb => ?_, fun s hs => ?_, fun b hb => ?_, s, hs, ?_, ?_⟩, hL6⟩
  · obtain ⟨o2, fr, h1, h2, h3, h4, h5, h6', h7, h8⟩ := j1 b hb
    refine ⟨o2, fr, ?_, h2, ?_, h4, h5, ?_, ?_, ?_⟩ <;> rw [e _ (by omega) (by omega) (by omega) (by omega) (by omega)] <;> assumption
  · obtain ⟨L2, o2, h1, h2, h3, h4, h5, h6'⟩ := j2 b hb
    by_cases hbn : b = n
    · subst hbn
      have hLL : L2 = L := by rw [hL] at h1; omega
      have hoo : o2 = o := by rw [ho] at h3; omega
      subst hLL hoo
      refine ⟨L2 + 1, o2, e9, by omega, ?_, fun _ => ?_, fun k hk => ?_, fun k k2 hkk hk2 => ?_⟩
      · rw [e _ (by omega) (by omega) (by omega) (by omega) (by omega)]; exact h3
      · rw [e _ (by omega) (by omega) (by omega) (by omega) (by omega)]; exact h6
      · by_cases hkL : k = L2
        · subst hkL
          exact ⟨m, a, hm, e10, e1, e3, ha⟩
        · obtain ⟨t, a2, g1, g2, g3, g4, g5⟩ := h5 k (by omega)
          have htm : t ≠ m := fun z => by
            rw [z, hw] at g3
            have g3 : (0 : Int) = ((b + 1 : Nat) : Int) := g3
            omega
          refine ⟨t, a2, g1, ?_, ?_, ?_, g5⟩ <;> rw [e _ (by omega) (by omega) (by omega) (by omega) (by omega)] <;> assumption
      · by_cases hkL : k2 = L2
        · subst hkL
          obtain ⟨t, a2, g1, g2, g3, g4, g5⟩ := h5 k (by omega)
          rw [e (786 + 16 * b + (10 + k)) (by omega) (by omega) (by omega) (by omega) (by omega)]
          intro z
          rw [z, e10] at g2
          have htm : t = m := by omega
          rw [htm, hw] at g3
          have g3 : (0 : Int) = ((b + 1 : Nat) : Int) := g3
          omega
        · rw [e _ (by omega) (by omega) (by omega) (by omega) (by omega), e _ (by omega) (by omega) (by omega) (by omega) (by omega)]
          exact h6' k k2 hkk (by omega)
    · refine ⟨L2, o2, ?_, h2, ?_, ?_, fun k hk => ?_, fun k k2 hkk hk2 => ?_⟩
      · rw [e _ (by omega) (by omega) (by omega) (by omega) (by omega)]; exact h1
      · rw [e _ (by omega) (by omega) (by omega) (by omega) (by omega)]; exact h3
      · rw [e _ (by omega) (by omega) (by omega) (by omega) (by omega)]; exact h4
      · obtain ⟨t, a2, g1, g2, g3, g4, g5⟩ := h5 k hk
        have htm : t ≠ m := fun z => by
          rw [z, hw] at g3
          have g3 : (0 : Int) = ((b + 1 : Nat) : Int) := g3
          omega
        refine ⟨t, a2, g1, ?_, ?_, ?_, g5⟩ <;> rw [e _ (by omega) (by omega) (by omega) (by omega) (by omega)] <;> assumption
      · rw [e _ (by omega) (by omega) (by omega) (by omega) (by omega), e _ (by omega) (by omega) (by omega) (by omega) (by omega)]
        exact h6' k k2 hkk hk2
  · obtain ⟨st, pt, at', q, h1, h2, h3, h4, h5, h6', h7, h8, h9⟩ := j3 s hs
    refine ⟨st, pt, at', q, ?_, h2, ?_, h4, h5, ?_, h7, ?_, ?_⟩
    · rw [e _ (by omega) (by omega) (by omega) (by omega) (by omega)]; exact h1
    · rw [e _ (by omega) (by omega) (by omega) (by omega) (by omega)]; exact h3
    · rw [e _ (by omega) (by omega) (by omega) (by omega) (by omega)]; exact h6'
    · rw [e _ (by omega) (by omega) (by omega) (by omega) (by omega)]; exact h8
    · rcases h9 with h9 | ⟨b, g1, g2, g3, g4, fr, g5, g6⟩
      · exact Or.inl h9
      · refine Or.inr ⟨b, g1, g2, g3, ?_, fr, ?_, g6⟩ <;> rw [e _ (by omega) (by omega) (by omega) (by omega) (by omega)] <;> assumption
  · intro hb6
    rw [e _ (by omega) (by omega) (by omega) (by omega) (by omega)] at hb6
    obtain ⟨h1, fr, h2, h3, h4⟩ := j4 b hb hb6
    refine ⟨?_, fr, ?_, h3, ?_⟩ <;> rw [e _ (by omega) (by omega) (by omega) (by omega) (by omega)] <;> assumption
  · rw [e _ (by omega) (by omega) (by omega) (by omega) (by omega)]; exact z1
  · rw [e _ (by omega) (by omega) (by omega) (by omega) (by omega)]; exact z2
theorem c_wants {t b i : Int32} {n m a o N : Nat} (ht : t.toInt = m) (hm : m < 6) (hb : b.toInt = n) (hn : n < 96) (hi : i.toInt = a) (what x : Int32) (σ : sm_S) (ho : (σ 1 (786 + 16 * n + 2)).toInt = o) (ha : a < 2 ^ o) (hw0 : σ 1 (2322 + 6 * m + 1) = 0) (hj : jj N (σ 1)) (hN : N < 2000000000) :
    xC xM j_M_wants [.ref 0, .int t, .int b, .int what, .int i, .int x] σ (sm_I (fun _ σ' => ∃ w N', σ' = sm_set σ 1 w ∧ jj N' w ∧ N ≤ N' ∧ N' ≤ N + 1)) := by
  obtain ⟨o2, fr, b1, b2, b3, b4, b5, b6, ⟨q, b7, b8⟩, b9⟩ := hj.2.1.1 n hn
  have hoo : o2 = o := by rw [ho] at b1; omega
  subst hoo
  have hal := t_al (k := o2) (by omega) b5
  have hpw := t_pw (k := o2) (by omega)
  obtain ⟨L, oL, l1, l2, -⟩ := hj.2.1.2.1 n hn
  refine w_M_wants t b what i x σ _ ((c_isOnWay hb hn σ).int ?_)
  rintro y σ ⟨hy, rfl⟩
  refine ⟨fun hy1 => (c_taskAt t _).int ?_, fun _ => (c_does ht hm hb hn hi what x _ b3 (by omega) hj).void ?_⟩
  · have h6 : σ 1 (786 + 16 * n + 6) ≠ 0 := fun z => by
      rcases hy with ⟨rfl, -⟩ | ⟨-, h⟩
      · exact hy1 rfl
      · rw [z] at h; exact h (by decide)
    rintro _ σ ⟨rfl, rfl⟩
    obtain ⟨p1, q1⟩ := ixT (k := 1) (j := 1) ht rfl (by omega)
    obtain ⟨p2, q2⟩ := ixT (k := 2) (j := 2) ht rfl (by omega)
    obtain ⟨p3, q3⟩ := ixT (k := 3) (j := 3) ht rfl (by omega)
    obtain ⟨p4, q4⟩ := ixT (k := 4) (j := 4) ht rfl (by omega)
    rw [q1, q2, q3, q4]
    refine ⟨p1, fun σ5 e5 => ⟨p2, fun σ6 e6 => ⟨p3, fun σ7 e7 => ⟨p4, fun σ8 e8 => ?_⟩⟩⟩⟩
    have hv8 : ∃ v8, σ8 = sm_set σ 1 v8 ∧ v8 = upd (upd (upd (upd (σ 1) (2322 + 6 * m + 1) (b + 1)) (2322 + 6 * m + 2) what) (2322 + 6 * m + 3) i) (2322 + 6 * m + 4) x := by
      refine ⟨_, ?_, rfl⟩
      rw [e8, e7, e6, e5]
      simp only [s_at, s_ss]
    obtain ⟨v8, rfl, hv8⟩ := hv8
    have hb1 : (b + 1).toInt = ((n + 1 : Nat) : Int) := by
      rw [t_add hb (y := 1) rfl (by omega) (by omega)]
      omega
    have w1 : v8 (2322 + 6 * m + 1) = b + 1 := by rw [hv8, u_ne (by omega), u_ne (by omega), u_ne (by omega), u_at]
    have w3 : v8 (2322 + 6 * m + 3) = i := by rw [hv8, u_ne (by omega), u_at]
    have we : ∀ k, (k < 2322 + 6 * m + 1 ∨ 2322 + 6 * m + 5 ≤ k) → v8 k = σ 1 k := fun k hk => by rw [hv8, u_ne (by omega), u_ne (by omega), u_ne (by omega), u_ne (by omega)]
    clear hv8 e5 e6 e7 e8
    refine (c_of (k := 9) (j := 9) hb rfl (by omega) _).int ?_
    rintro y9 _ ⟨hy9, rfl⟩
    rw [s_at, we _ (by omega)] at hy9
    have hy9L : y9.toInt = L := by rw [hy9]; exact l1
    have hk : (10 + y9).toInt = ((10 + L : Nat) : Int) := by
      rw [t_add (x := 10) rfl hy9L (by omega) (by omega)]
      omega
    refine (c_lay hb hk (by omega) t _).void ?_
    rintro _ rfl
    refine (c_of (k := 9) (j := 9) hb rfl (by omega) _).int ?_
    rintro y9b _ ⟨hy9b, rfl⟩
    rw [s_at, s_at, u_ne (by omega), we _ (by omega)] at hy9b
    refine (c_lay (k := 9) (j := 9) hb rfl (by omega) _ _).void ?_
    rintro _ rfl
    simp only [s_at, s_ss]
    have hv9 : ∃ v9, v9 = upd (upd v8 (786 + 16 * n + (10 + L)) t) (786 + 16 * n + 9) (y9b + 1) := ⟨_, rfl⟩
    obtain ⟨v9, hv9⟩ := hv9
    rw [← hv9]
    have hjr := jr_wait (v := σ 1) (v' := v9) hn hm hj.2.1 h6 hw0 b1 ha l1 (by rw [hv9, u_ne (by omega), u_ne (by omega), w1]; exact hb1) (by rw [hv9, u_ne (by omega), u_ne (by omega), w3]; exact hi) (by
      rw [hv9, u_at, hy9b, t_add l1 (y := 1) rfl (by omega) (by omega)]
      omega) (by rw [hv9, u_ne (by omega), u_at]; exact ht) (fun k h1 h2 h3 h4 h5 => by rw [hv9, u_ne h4, u_ne h5, we k h3])
    have hj9 : jj N v9 := ⟨fr_cong (fun i h1 h2 => by rw [hv9, u_ne (by omega), u_ne (by omega), we _ (by omega)]) (fun b k hb hk => by rw [hv9, u_ne (by omega), u_ne (by omega), we _ (by omega)]) hj.1, hjr.1, by rw [hv9, u_ne (by omega), u_ne (by omega), we _ (by omega)]; exact hj.2.2⟩
    refine (c_writes _ _ _ _ (n := N) (by rw [s_at]; exact hj9.2.2)).void ?_
    rintro _ ⟨v10, rfl, f1, f2⟩
    rw [s_at] at f1 f2
    refine (c_counts (k := 8) (j := 8) rfl (by omega) 1 _).void ?_
    rintro _ rfl
    simp only [s_at, s_ss]
    refine ⟨_, rfl, _, N + 1, rfl, jj_low (by omega) (by omega) ⟨fr_cong (fun i h1 h2 => f2 _ (by omega) (by omega)) (fun b k hb hk => f2 _ (by omega) (by omega)) hj9.1, jr_cong (ceq.of (fun k h1 h2 => f2 k h2 (by omega))) hj9.2.1, ?_⟩, by omega, by omega⟩
    rw [f1, t_add hj9.2.2 (y := 1) rfl (by omega) (by omega)]
    omega
  · rintro _ ⟨w, rfl, hw, -⟩
    exact ⟨_, rfl, w, N, rfl, hw, Nat.le_refl N, by omega⟩
end
section
/-! ===== the model: read, write, pin, unpin, set, home ===== -/
theorem c_canDo (t b : Int32) (σ : sm_S) : xC xM j_M_canDo [.ref 0, .int t, .int b] σ (sm_I (fun x σ' => (x = 0 ∨ (x = 1 ∧ ∃ m n : Nat, m < 6 ∧ t.toInt = m ∧ n < 96 ∧ b.toInt = n ∧ σ 1 (2322 + 6 * m + 1) = 0)) ∧ σ' = σ)) := by
  refine w_M_canDo t b σ _ ((c_isTask t σ).int ?_)
  rintro x1 σ ⟨hx1, rfl⟩
  refine ⟨fun _ => ⟨Or.inl rfl, _, rfl, Or.inl rfl, rfl⟩, fun n1 => (c_taskAt t _).int ?_⟩
  obtain ⟨-, m, hm, ht⟩ := hx1.resolve_right (fun z => n1 z.1)
  rintro _ σ ⟨rfl, rfl⟩
  obtain ⟨p1, q1⟩ := ixT (k := 1) (j := 1) ht rfl (by omega)
  rw [q1]
  refine ⟨p1, fun _ => ⟨Or.inl rfl, _, rfl, Or.inl rfl, rfl⟩, fun hw => (c_isBlock b _).int ?_⟩
  rintro x2 σ ⟨hx2, rfl⟩
  refine ⟨fun _ => ⟨Or.inl rfl, _, rfl, Or.inl rfl, rfl⟩, fun n2 => ?_⟩
  obtain ⟨-, n, hn, hb, -⟩ := hx2.resolve_right (fun z => n2 z.1)
  exact ⟨Or.inr rfl, _, rfl, Or.inr ⟨rfl, m, n, hm, ht, hn, hb, Classical.not_not.mp hw⟩, rfl⟩
theorem c_hasPin {t b : Int32} {n : Nat} (hb : b.toInt = n) (hn : n < 96) (σ : sm_S) : xC xM j_M_hasPin [.ref 0, .int t, .int b] σ (sm_I (fun x σ' => (x = 0 ∨ x = 1) ∧ σ' = σ)) := by
  refine w_M_hasPin t b σ _ ((c_of (k := 5) (j := 5) hb rfl (by omega) σ).int ?_)
  rintro _ σ ⟨rfl, rfl⟩
  exact ⟨fun _ => ⟨Or.inl rfl, _, rfl, Or.inl rfl, rfl⟩, fun _ => ⟨Or.inr rfl, _, rfl, Or.inr rfl, rfl⟩⟩
theorem pub_wants {N : Nat} {σ σ1 : sm_S} (hj : jj N (σ 1)) (hN : N < 2000000000) (e1 : σ1 = sm_set σ 0 (upd (σ 0) 0 0)) {t b i : Int32} {n m a o : Nat} (ht : t.toInt = m) (hm : m < 6) (hb : b.toInt = n) (hn : n < 96) (hi : i.toInt = a) (what x : Int32) (ho : (σ1 1 (786 + 16 * n + 2)).toInt = o) (ha : a < 2 ^ o) (hw0 : σ1 1 (2322 + 6 * m + 1) = 0) :
    xC xM j_M_wants [.ref 0, .int t, .int b, .int what, .int i, .int x] σ1 (sm_ri False (fun y σ' => sm_I (pub N 1 σ) (some (.int y)) σ')) := by
  have hj1 : jj N (σ1 1) := by rw [e1, s_ne (by decide)]; exact hj
  refine (c_wants ht hm hb hn hi what x σ1 ho ha hw0 hj1 hN).int ?_
  rintro y _ ⟨w, N', rfl, hw, h1, h2⟩
  exact ⟨_, rfl, pub_set e1 hw h1 h2⟩
theorem c_read {N : Nat} (a1 a2 a3 : Int32) (σ : sm_S) (hj : jj N (σ 1)) (hN : N < 2000000000) : xC xM j_M_read [.ref 0, .int a1, .int a2, .int a3] σ (sm_I (pub N 1 σ)) := by
  refine w_M_read a1 a2 a3 σ _ (fun σ1 e1 => (c_canDo a1 a2 σ1).int ?_)
  rintro x1 σ1 ⟨hx1, rfl⟩
  refine ⟨fun _ => ⟨_, rfl, pub_keep hj e1⟩, fun n1 => ?_⟩
  obtain ⟨-, m, n, hm, ht, hn, hb, hw0⟩ := hx1.resolve_left n1
  have hj1 : jj N (σ1 1) := by rw [e1, s_ne (by decide)]; exact hj
  obtain ⟨o, fr, b1, b2, -⟩ := hj1.2.1.1 n hn
  have hpw := t_pw (k := o) (by omega)
  refine (c_longOf hb hn _).int ?_
  rintro _ σ1 ⟨rfl, rfl⟩
  refine (c_isIn a3 0 _ _).int ?_
  rintro x2 σ1 ⟨hx2, rfl⟩
  refine ⟨fun _ => ⟨_, rfl, pub_keep hj e1⟩, fun n2 => ?_⟩
  obtain ⟨-, h31, h32⟩ := hx2.resolve_right (fun z => n2 z.1)
  rw [t_sub (t_pow b1 (by omega)) (y := 1) rfl (by omega) (by omega)] at h32
  have h31 : 0 ≤ a3.toInt := h31
  obtain ⟨a, ha⟩ := t_of h31
  exact pub_wants hj hN e1 ht hm hb hn ha 0 0 b1 (by omega) hw0
theorem c_write {N : Nat} (a1 a2 a3 a4 : Int32) (σ : sm_S) (hj : jj N (σ 1)) (hN : N < 2000000000) : xC xM j_M_write [.ref 0, .int a1, .int a2, .int a3, .int a4] σ (sm_I (pub N 1 σ)) := by
  refine w_M_write a1 a2 a3 a4 σ _ (fun σ1 e1 => (c_canDo a1 a2 σ1).int ?_)
  rintro x1 σ1 ⟨hx1, rfl⟩
  refine ⟨fun _ => ⟨_, rfl, pub_keep hj e1⟩, fun n1 => ?_⟩
  obtain ⟨-, m, n, hm, ht, hn, hb, hw0⟩ := hx1.resolve_left n1
  have hj1 : jj N (σ1 1) := by rw [e1, s_ne (by decide)]; exact hj
  obtain ⟨o, fr, b1, b2, -⟩ := hj1.2.1.1 n hn
  have hpw := t_pw (k := o) (by omega)
  refine (c_longOf hb hn _).int ?_
  rintro _ σ1 ⟨rfl, rfl⟩
  refine (c_isIn a3 0 _ _).int ?_
  rintro x2 σ1 ⟨hx2, rfl⟩
  refine ⟨fun _ => ⟨_, rfl, pub_keep hj e1⟩, fun n2 => ?_⟩
  obtain ⟨-, h31, h32⟩ := hx2.resolve_right (fun z => n2 z.1)
  rw [t_sub (t_pow b1 (by omega)) (y := 1) rfl (by omega) (by omega)] at h32
  have h31 : 0 ≤ a3.toInt := h31
  obtain ⟨a, ha⟩ := t_of h31
  exact pub_wants hj hN e1 ht hm hb hn ha 1 a4 b1 (by omega) hw0
theorem c_pin {N : Nat} (a1 a2 : Int32) (σ : sm_S) (hj : jj N (σ 1)) (hN : N < 2000000000) : xC xM j_M_pin [.ref 0, .int a1, .int a2] σ (sm_I (pub N 1 σ)) := by
  refine w_M_pin a1 a2 σ _ (fun σ1 e1 => (c_canDo a1 a2 σ1).int ?_)
  rintro x1 σ1 ⟨hx1, rfl⟩
  refine ⟨fun _ => ⟨_, rfl, pub_keep hj e1⟩, fun n1 => ?_⟩
  obtain ⟨-, m, n, hm, ht, hn, hb, hw0⟩ := hx1.resolve_left n1
  have hj1 : jj N (σ1 1) := by rw [e1, s_ne (by decide)]; exact hj
  obtain ⟨o, fr, b1, b2, -⟩ := hj1.2.1.1 n hn
  have hpw := t_pw (k := o) (by omega)
  refine (c_hasPin hb hn _).int ?_
  rintro x2 σ1 ⟨hx2, rfl⟩
  exact ⟨fun _ => ⟨_, rfl, pub_keep hj e1⟩, fun _ => pub_wants hj hN e1 ht hm hb hn (i := 0) (a := 0) rfl 2 0 b1 (by omega) hw0⟩
theorem c_unpin {N : Nat} (a1 a2 : Int32) (σ : sm_S) (hj : jj N (σ 1)) : xC xM j_M_unpin [.ref 0, .int a1, .int a2] σ (sm_I (pub N 0 σ)) := by
  refine w_M_unpin a1 a2 σ _ (fun σ1 e1 => (c_isTask a1 σ1).int ?_)
  rintro x1 σ1 ⟨hx1, rfl⟩
  refine ⟨fun _ => ⟨Or.inl rfl, _, rfl, pub_keep hj e1⟩, fun n1 => (c_isBlock a2 _).int ?_⟩
  rintro x2 σ1 ⟨hx2, rfl⟩
  refine ⟨fun _ => ⟨Or.inl rfl, _, rfl, pub_keep hj e1⟩, fun n2 => ?_⟩
  obtain ⟨-, n, hn, hb, -⟩ := hx2.resolve_right (fun z => n2 z.1)
  have hj1 : jj N (σ1 1) := by rw [e1, s_ne (by decide)]; exact hj
  refine (c_hasPin hb hn _).int ?_
  rintro x3 σ1 ⟨hx3, rfl⟩
  refine ⟨fun _ => (c_of (k := 5) (j := 5) hb rfl (by omega) _).int ?_, fun _ => ⟨Or.inl rfl, _, rfl, pub_keep hj e1⟩⟩
  rintro x4 σ1 ⟨-, rfl⟩
  refine (c_lay (k := 5) (j := 5) hb rfl (by omega) _ _).void ?_
  rintro _ rfl
  exact ⟨Or.inr rfl, _, rfl, pub_set e1 (jj_cell (by omega) (Or.inl ⟨n, hn, Or.inr (Or.inl rfl)⟩) hj1) (Nat.le_refl N) (Nat.le_refl N)⟩
end
section
/-! ===== the model: set and home, with their answers; who waited does what it wanted ===== -/
def ansSet (a b : Int32) : Prop := (a = 0 ∧ 1 ≤ b.toInt ∧ b.toInt ≤ 16) ∨ (a = 1 ∧ 1 ≤ b.toInt ∧ b.toInt ≤ 9) ∨ (a = 2 ∧ 0 ≤ b.toInt ∧ b.toInt ≤ 400) ∨ (a = 3 ∧ 1 ≤ b.toInt ∧ b.toInt ≤ 20)
def ansHome (a b : Int32) : Prop := 0 ≤ a.toInt ∧ a.toInt < 6 ∧ 0 ≤ b.toInt ∧ b.toInt ≤ 1
/-- yes or no -/
def isYes (P : Prop) (x : Int32) : Prop := (x = 1 ∧ P) ∨ (x = 0 ∧ ¬ P)
theorem c_firstOf (a : Int32) (σ : sm_S) : xC xM j_M_firstOf [.ref 0, .int a] σ (sm_I (fun _ σ' => σ' = σ)) :=
  w_M_firstOf a σ _ ⟨fun _ => ⟨fun _ => ⟨fun _ => ⟨_, rfl, rfl⟩, fun _ => ⟨_, rfl, rfl⟩⟩, fun _ => ⟨_, rfl, rfl⟩⟩, fun _ => ⟨_, rfl, rfl⟩⟩
theorem c_set {N : Nat} (a1 a2 : Int32) (σ : sm_S) (hj : jj N (σ 1)) : xC xM j_M_set [.ref 0, .int a1, .int a2] σ (sm_I (fun x σ' => isYes (ansSet a1 a2) x ∧ pub N 0 σ x σ')) := by
  refine w_M_set a1 a2 σ _ (fun σ1 e1 => (c_isIn a1 0 3 σ1).int ?_)
  have hj1 : jj N (σ1 1) := by rw [e1, s_ne (by decide)]; exact hj
  rintro x1 σ1 ⟨hx1, rfl⟩
  refine ⟨fun n1 => ⟨Or.inl rfl, _, rfl, Or.inr ⟨rfl, ?_⟩, pub_keep hj e1⟩, fun n1 => ?_⟩
  · have h1 : a1.toInt < 0 ∨ 3 < a1.toInt := (hx1.resolve_left (fun z => by rw [z.1] at n1; exact absurd n1 (by decide))).2
    rintro (⟨rfl, -⟩ | ⟨rfl, -⟩ | ⟨rfl, -⟩ | ⟨rfl, -⟩) <;> revert h1 <;> decide
  · obtain ⟨-, h1, h2⟩ := hx1.resolve_right (fun z => n1 z.1)
    have h1 : 0 ≤ a1.toInt := h1
    have h2 : a1.toInt ≤ 3 := h2
    obtain ⟨n, hn⟩ := t_of h1
    have stp : ∀ lo hi : Int32, (ansSet a1 a2 ↔ lo.toInt ≤ a2.toInt ∧ a2.toInt ≤ hi.toInt) → xC xM j_M_isIn [.ref 0, .int a2, .int lo, .int hi] σ1 (sm_ri False (fun x5 σ4 => ((x5 ≠ 0 → xC xM j_M_firstOf [.ref 0, .int a1] σ4 (sm_ri False (fun x7 σ6 => (vp_in a1 2662 ∧ ∀ σ8, σ8 = sm_set σ6 1 (upd (σ6 1) (a1).toNatClampNeg (a2 - x7)) → (((1 : Int32) = 0 ∨ (1 : Int32) = 1) ∧ sm_I (fun x σ' => isYes (ansSet a1 a2) x ∧ pub N 0 σ x σ') (some (.int 1)) σ8))))) ∧ (¬ (x5 ≠ 0) → (((0 : Int32) = 0 ∨ (0 : Int32) = 1) ∧ sm_I (fun x σ' => isYes (ansSet a1 a2) x ∧ pub N 0 σ x σ') (some (.int 0)) σ4))))) := by
      intro lo hi hiff
      refine (c_isIn a2 lo hi σ1).int ?_
      rintro x2 σ1 ⟨hx2, rfl⟩
      refine ⟨fun n2 => (c_firstOf a1 _).int ?_, fun n2 => ⟨Or.inl rfl, _, rfl, Or.inr ⟨rfl, fun z => ?_⟩, pub_keep hj e1⟩⟩
      · obtain ⟨-, g1, g2⟩ := hx2.resolve_right (fun z => n2 z.1)
        rintro x3 σ1 rfl
        refine ⟨t_vp hn (by omega), fun σ8 e8 => ⟨Or.inr rfl, _, rfl, Or.inl ⟨rfl, hiff.mpr ⟨g1, g2⟩⟩, ?_⟩⟩
        rw [e8, t_nat hn]
        exact pub_set e1 (jj_low (by omega) (by omega) hj1) (Nat.le_refl N) (Nat.le_refl N)
      · have g := (hx2.resolve_left (fun q => n2 (by rw [q.1]; decide))).2
        have g2 := hiff.mp z
        omega
    have e0 : a1 = 0 ∨ a1 = 1 ∨ a1 = 2 ∨ a1 = 3 := by
      rcases (show n = 0 ∨ n = 1 ∨ n = 2 ∨ n = 3 by omega) with rfl | rfl | rfl | rfl
      · exact Or.inl (t_inj (by rw [hn]; rfl))
      · exact Or.inr (Or.inl (t_inj (by rw [hn]; rfl)))
      · exact Or.inr (Or.inr (Or.inl (t_inj (by rw [hn]; rfl))))
      · exact Or.inr (Or.inr (Or.inr (t_inj (by rw [hn]; rfl))))
    refine ⟨fun m2 => ⟨fun m0 => ⟨fun m1 => ⟨fun _ => stp 1 20 ?_, fun z => absurd m2 z⟩, fun m1 => stp 1 9 ?_⟩, fun m0 => stp 1 16 ?_⟩, fun m2 => ⟨fun m0 => ⟨fun m1 => ⟨fun z => absurd z m2, fun _ => stp 0 400 ?_⟩, fun m1 => absurd (fun z => m2 (by rw [z]; decide)) m1⟩, fun m0 => absurd (fun z => m2 (by rw [z]; decide)) m0⟩⟩
    · have h3 : a1 = 3 := ((e0.resolve_left m0).resolve_left m1).resolve_left m2
      subst h3
      constructor
      · rintro (⟨h, -⟩ | ⟨h, -⟩ | ⟨h, -⟩ | ⟨-, h⟩)
        · exact absurd h (by decide)
        · exact absurd h (by decide)
        · exact absurd h (by decide)
        · exact h
      · exact fun h => Or.inr (Or.inr (Or.inr ⟨rfl, h⟩))
    · have h3 : a1 = 1 := Classical.not_not.mp m1
      subst h3
      constructor
      · rintro (⟨h, -⟩ | ⟨-, h⟩ | ⟨h, -⟩ | ⟨h, -⟩)
        · exact absurd h (by decide)
        · exact h
        · exact absurd h (by decide)
        · exact absurd h (by decide)
      · exact fun h => Or.inr (Or.inl ⟨rfl, h⟩)
    · have h3 : a1 = 0 := Classical.not_not.mp m0
      subst h3
      constructor
      · rintro (⟨-, h⟩ | ⟨h, -⟩ | ⟨h, -⟩ | ⟨h, -⟩)
        · exact h
        · exact absurd h (by decide)
        · exact absurd h (by decide)
        · exact absurd h (by decide)
      · exact fun h => Or.inl ⟨rfl, h⟩
    · have h3 : a1 = 2 := Classical.not_not.mp m2
      subst h3
      constructor
      · rintro (⟨h, -⟩ | ⟨h, -⟩ | ⟨-, h⟩ | ⟨h, -⟩)
        · exact absurd h (by decide)
        · exact absurd h (by decide)
        · exact h
        · exact absurd h (by decide)
      · exact fun h => Or.inr (Or.inr (Or.inl ⟨rfl, h⟩))
theorem c_home {N : Nat} (a1 a2 : Int32) (σ : sm_S) (hj : jj N (σ 1)) : xC xM j_M_home [.ref 0, .int a1, .int a2] σ (sm_I (fun x σ' => isYes (ansHome a1 a2) x ∧ pub N 0 σ x σ')) := by
  refine w_M_home a1 a2 σ _ (fun σ1 e1 => (c_isTask a1 σ1).int ?_)
  have hj1 : jj N (σ1 1) := by rw [e1, s_ne (by decide)]; exact hj
  rintro x1 σ1 ⟨hx1, rfl⟩
  refine ⟨fun n1 => ⟨Or.inl rfl, _, rfl, Or.inr ⟨rfl, fun z => ?_⟩, pub_keep hj e1⟩, fun n1 => (c_isIn a2 0 1 _).int ?_⟩
  · have h1 := (hx1.resolve_left (fun q => by rw [q.1] at n1; exact absurd n1 (by decide))).2
    obtain ⟨z1, z2, -⟩ := z
    omega
  · obtain ⟨-, m, hm, h1⟩ := hx1.resolve_right (fun z => n1 z.1)
    rintro x2 σ1 ⟨hx2, rfl⟩
    refine ⟨fun n2 => (c_taskAt a1 _).int ?_, fun n2 => ⟨Or.inl rfl, _, rfl, Or.inr ⟨rfl, fun z => ?_⟩, pub_keep hj e1⟩⟩
    · obtain ⟨-, g1, g2⟩ := hx2.resolve_right (fun z => n2 z.1)
      have g1 : 0 ≤ a2.toInt := g1
      have g2 : a2.toInt ≤ 1 := g2
      rintro _ σ1 ⟨rfl, rfl⟩
      obtain ⟨p1, q1⟩ := ixT (k := 0) (j := 0) h1 rfl (by omega)
      refine ⟨p1, fun σ8 e8 => ⟨Or.inr rfl, _, rfl, Or.inl ⟨rfl, by omega, by omega, g1, g2⟩, ?_⟩⟩
      rw [e8, q1]
      exact pub_set e1 (jj_cell (by omega) (Or.inr (Or.inl ⟨m, hm, Or.inl rfl⟩)) hj1) (Nat.le_refl N) (Nat.le_refl N)
    · have h2 : a2.toInt < 0 ∨ 1 < a2.toInt := (hx2.resolve_left (fun q => n2 (by rw [q.1]; decide))).2
      obtain ⟨-, -, z3, z4⟩ := z
      omega
end
section
/-! ===== the model: those who waited do what they wanted ===== -/
theorem jr_woke {v : Nat → Int32} {n t : Nat} (hn : n < 96) (ht : t < 6) (hj : jr v) (h9 : v (786 + 16 * n + 9) = 0) (hw : (v (2322 + 6 * t + 1)).toInt = ((n + 1 : Nat) : Int) ∨ v (2322 + 6 * t + 1) = 0) : jr (upd v (2322 + 6 * t + 1) 0) := by
  obtain ⟨j1, j2, j3, j4, s, hs, z1, z2⟩ := hj
  have e : ∀ i, i ≠ 2322 + 6 * t + 1 → upd v (2322 + 6 * t + 1) 0 i = v i := fun i hi => u_ne hi
  refine ⟨fun b hb => bk_cong (fun k hk _ _ _ => e _ (by omega)) (j1 b hb), fun b hb => ?_, fun s hs => ?_, fun b hb => ?_, s, hs, ?_, ?_⟩
  · obtain ⟨L, o, h1, h2, h3, h4, h5, h6⟩ := j2 b hb
    refine ⟨L, o, ?_, h2, ?_, ?_, fun k hk => ?_, fun k m hkm hm => ?_⟩
    · rw [e _ (by omega)]; exact h1
    · rw [e _ (by omega)]; exact h3
    · rw [e _ (by omega)]; exact h4
    · obtain ⟨t2, a, g1, g2, g3, g4, g5⟩ := h5 k hk
      have hbn : b ≠ n := fun z => by
        subst z
        rw [h9] at h1
        have h1 : (0 : Int) = L := h1
        omega
      have htt : t2 ≠ t := fun z => by
        subst z
        rcases hw with hw | hw
        · rw [hw] at g3; omega
        · rw [hw] at g3
          have g3 : (0 : Int) = ((b + 1 : Nat) : Int) := g3
          omega
      refine ⟨t2, a, g1, ?_, ?_, ?_, g5⟩ <;> rw [e _ (by omega)] <;> assumption
    · rw [e _ (by omega), e _ (by omega)]; exact h6 k m hkm hm
  · obtain ⟨st, pt, at', q, h1, h2, h3, h4, h5, h6, h7, h8, h9'⟩ := j3 s hs
    refine ⟨st, pt, at', q, ?_, h2, ?_, h4, h5, ?_, h7, ?_, ?_⟩
    · rw [e _ (by omega)]; exact h1
    · rw [e _ (by omega)]; exact h3
    · rw [e _ (by omega)]; exact h6
    · rw [e _ (by omega)]; exact h8
    · rcases h9' with h9' | ⟨b, g1, g2, g3, g4, fr, g5, g6⟩
      · exact Or.inl h9'
      · refine Or.inr ⟨b, g1, g2, g3, ?_, fr, ?_, g6⟩ <;> rw [e _ (by omega)] <;> assumption
  · intro hb6
    rw [e _ (by omega)] at hb6
    obtain ⟨h1, fr, h2, h3, h4⟩ := j4 b hb hb6
    refine ⟨?_, fr, ?_, h3, ?_⟩ <;> rw [e _ (by omega)] <;> assumption
  · rw [e _ (by omega)]; exact z1
  · rw [e _ (by omega)]; exact z2
/-- writes, as a step of jj -/
theorem c_writes' {N : Nat} (a b c : Int32) (σ : sm_S) (hj : jj N (σ 1)) (hN : N < 2147483000) : xC xM j_M_writes [.ref 0, .int a, .int b, .int c] σ (sm_V (fun σ' => ∃ w, σ' = sm_set σ 1 w ∧ jj (N + 1) w ∧ ∀ i, i < 2422 → i ≠ 5 → w i = σ 1 i)) := by
  refine (c_writes a b c σ hj.2.2).mono ?_
  rintro r σ' ⟨rfl, w, rfl, w1, w2⟩
  refine ⟨rfl, w, rfl, ⟨fr_cong (fun i h1 h2 => w2 _ (by omega) (by omega)) (fun b k hb hk => w2 _ (by omega) (by omega)) hj.1, jr_cong (ceq.of (fun i h1 h2 => w2 i h2 (by omega))) hj.2.1, ?_⟩, w2⟩
  rw [w1, t_add hj.2.2 (y := 1) rfl (by omega) (by omega)]
  omega
def lineOf (v : Nat → Int32) (n o L : Nat) : Prop := ∀ j, j < L → ∃ t a : Nat, t < 6 ∧ (v (786 + 16 * n + (10 + j))).toInt = t ∧ (v (2322 + 6 * t + 3)).toInt = a ∧ a < 2 ^ o ∧ ((v (2322 + 6 * t + 1)).toInt = ((n + 1 : Nat) : Int) ∨ v (2322 + 6 * t + 1) = 0)
theorem l_wakes {a1 a2 : Int32} {n L fr o : Nat} (h1 : a1.toInt = n) (hn : n < 96) (h2 : a2.toInt = L) (hL : L ≤ 6) (hfo : fr + 2 ^ o ≤ 256) : ∀ (d k N : Nat) (a3 : Int32) (v4 v5 : Value) (σ : sm_S), a3.toInt = k → k + d = L → jj N (σ 1) → N + d < 2147480000 → σ 1 (786 + 16 * n + 9) = 0 → (σ 1 (786 + 16 * n + 1)).toInt = fr → lineOf (σ 1) n o L →
    xE xM m_M_wakes 18 [.ref 0, .int a1, .int a2, .int a3, v4, v5] [] σ (sm_V (fun σ' => ∃ w N', σ' = sm_set σ 1 w ∧ jj N' w ∧ N ≤ N' ∧ N' ≤ N + d ∧ (∀ i, 786 ≤ i → i < 2422 → (i < 2322 ∨ 2358 ≤ i) → i ≠ 786 + 16 * n + 5 → i ≠ 786 + 16 * n + 8 → w i = σ 1 i) ∧ fr_st (σ 1) w)) := by
  intro d
  induction d with
  | zero =>
    intro k N a3 v4 v5 σ h3 hk hj hN h9 hf hl
    refine w_M_wakes_18 a1 a2 a3 v4 v5 σ _ ⟨fun _ => ⟨rfl, σ 1, N, s_id.symm, hj, Nat.le_refl N, Nat.le_refl N, fun _ _ _ _ _ _ => rfl, fun _ _ => ⟨rfl, rfl⟩⟩, fun h => absurd ?_ h⟩
    rw [t_le, h2, h3]
    omega
  | succ d ih =>
    intro k N a3 v4 v5 σ h3 hk hj hN h9 hf hl
    have h3' : (a3 + 1).toInt = ((k + 1 : Nat) : Int) := by
      rw [t_add h3 (y := 1) rfl (by omega) (by omega)]
      omega
    have hk10 : (10 + a3).toInt = ((10 + k : Nat) : Int) := by
      rw [t_add (x := 10) rfl h3 (by omega) (by omega)]
      omega
    obtain ⟨t, a, ht6, hwho, hat, ha, hwt⟩ := hl k (by omega)
    refine w_M_wakes_18 a1 a2 a3 v4 v5 σ _ ⟨fun h => ?_, fun _ => (c_of h1 hk10 (by omega) σ).int ?_⟩
    · rw [t_le, h2, h3] at h
      omega
    · rintro y σ ⟨hy, rfl⟩
      have hyt : y.toInt = t := by rw [hy]; exact hwho
      refine (c_taskAt y _).int ?_
      rintro _ σ ⟨rfl, rfl⟩
      obtain ⟨p1, q1⟩ := ixT (k := 1) (j := 1) hyt rfl (by omega)
      obtain ⟨p2, q2⟩ := ixT (k := 2) (j := 2) hyt rfl (by omega)
      obtain ⟨p3, q3⟩ := ixT (k := 3) (j := 3) hyt rfl (by omega)
      obtain ⟨p4, q4⟩ := ixT (k := 4) (j := 4) hyt rfl (by omega)
      rw [q1, q2, q3, q4]
      refine ⟨p1, fun σ5 e5 => ⟨p2, p3, p4, ?_⟩⟩
      subst e5
      have hj1 : jj N (upd (σ 1) (2322 + 6 * t + 1) 0) := ⟨fr_cong (fun i h1 h2 => u_ne (by omega)) (fun b k hb hk => u_ne (by omega)) hj.1, jr_woke hn ht6 hj.2.1 h9 hwt, by rw [u_ne (by omega)]; exact hj.2.2⟩
      refine (c_does hyt ht6 h1 hn (a := a) (fr := fr) (by rw [s_at, u_ne (by omega)]; exact hat) _ _ _ (by rw [s_at, u_ne (by omega)]; exact hf) (by omega) (by rw [s_at]; exact hj1)).void ?_
      rintro _ ⟨w, rfl, hw, ew, fw⟩
      rw [s_at] at ew fw
      refine (c_writes' _ _ _ _ (by rw [s_at]; exact hw) (by omega)).void ?_
      rintro _ ⟨w2, rfl, hw2, ew2⟩
      rw [s_at] at ew2
      have hee : ∀ i, 786 ≤ i → i < 2422 → i ≠ 786 + 16 * n + 5 → i ≠ 786 + 16 * n + 8 → i ≠ 2322 + 6 * t + 5 → i ≠ 2322 + 6 * t + 1 → w2 i = σ 1 i := fun i g1 g2 g3 g4 g5 g6 => by rw [ew2 i g2 (by omega), ew i g1 g3 g4 g5, u_ne g6]
      have hw1 : w2 (2322 + 6 * t + 1) = 0 := by rw [ew2 _ (by omega) (by omega), ew _ (by omega) (by omega) (by omega) (by omega), u_at]
      simp only [s_ss]
      refine (ih (k + 1) (N + 1) (a3 + 1) _ _ _ h3' (by omega) (by rw [s_at]; exact hw2) (by omega) ?_ ?_ ?_).mono ?_
      · rw [s_at, hee _ (by omega) (by omega) (by omega) (by omega) (by omega) (by omega)]; exact h9
      · rw [s_at, hee _ (by omega) (by omega) (by omega) (by omega) (by omega) (by omega)]; exact hf
      · intro j hj'
        obtain ⟨t2, a2', g1, g2, g3, g4, g5⟩ := hl j hj'
        rw [s_at]
        refine ⟨t2, a2', g1, ?_, ?_, g4, ?_⟩
        · rw [hee _ (by omega) (by omega) (by omega) (by omega) (by omega) (by omega)]; exact g2
        · rw [hee _ (by omega) (by omega) (by omega) (by omega) (by omega) (by omega)]; exact g3
        · by_cases htt : t2 = t
          · subst htt; exact Or.inr hw1
          · rw [hee _ (by omega) (by omega) (by omega) (by omega) (by omega) (by omega)]; exact g5
      · rintro r σ' ⟨rfl, w3, N', rfl, hw3, l1, l2, ew3, fw3⟩
        rw [s_at] at ew3 fw3
        refine ⟨rfl, w3, N', s_ss, hw3, by omega, by omega, fun i g1 g2 g3 g4 g5 => ?_, fun g hg => ?_⟩
        · rw [ew3 i g1 g2 g3 g4 g5, hee i g1 g2 g4 g5 (by omega) (by omega)]
        · obtain ⟨f1, f2⟩ := fw3 g hg
          obtain ⟨f3, f4⟩ := fw g hg
          rw [f1, f2, ew2 _ (by omega) (by omega), ew2 _ (by omega) (by omega), f3, f4, u_ne (by omega), u_ne (by omega)]
          exact ⟨rfl, rfl⟩
theorem c_wakes {b : Int32} {n L fr o N : Nat} (hb : b.toInt = n) (hn : n < 96) (σ : sm_S) (hL : (σ 1 (786 + 16 * n + 9)).toInt = L) (hL6 : L ≤ 6) (hfr : (σ 1 (786 + 16 * n + 1)).toInt = fr) (hfo : fr + 2 ^ o ≤ 256) (hl : lineOf (σ 1) n o L) (hj : jj N (upd (σ 1) (786 + 16 * n + 9) 0)) (hN : N < 2147479000) :
    xC xM j_M_wakes [.ref 0, .int b] σ (sm_V (fun σ' => ∃ w N', σ' = sm_set σ 1 w ∧ jj N' w ∧ N ≤ N' ∧ N' ≤ N + 6 ∧ (∀ i, 786 ≤ i → i < 2422 → (i < 2322 ∨ 2358 ≤ i) → i ≠ 786 + 16 * n + 5 → i ≠ 786 + 16 * n + 8 → i ≠ 786 + 16 * n + 9 → w i = σ 1 i) ∧ fr_st (σ 1) w)) := by
  refine w_M_wakes b σ _ ((c_of (k := 9) (j := 9) hb rfl (by omega) σ).int ?_)
  rintro y σ ⟨hy, rfl⟩
  have hyL : y.toInt = L := by rw [hy]; exact hL
  refine (c_lay (k := 9) (j := 9) hb rfl (by omega) 0 _).void ?_
  rintro _ rfl
  refine (l_wakes hb hn hyL hL6 hfo L 0 N 0 _ _ _ rfl (by omega) (by rw [s_at]; exact hj) (by omega) (by rw [s_at, u_at]) (by rw [s_at, u_ne (by omega)]; exact hfr) ?_).mono ?_
  · intro j hj'
    obtain ⟨t, a, g1, g2, g3, g4, g5⟩ := hl j hj'
    rw [s_at]
    refine ⟨t, a, g1, ?_, ?_, g4, ?_⟩ <;> rw [u_ne (by omega)] <;> assumption
  · rintro r σ' ⟨rfl, w, N', rfl, hw, l1, l2, ew, fw⟩
    rw [s_at] at ew fw
    refine ⟨rfl, w, N', s_ss, hw, l1, by omega, fun i g1 g2 g3 g4 g5 g6 => ?_, fun g hg => ?_⟩
    · rw [ew i g1 g2 g3 g4 g5, u_ne g6]
    · obtain ⟨f1, f2⟩ := fw g hg
      rw [f1, f2, u_ne (by omega), u_ne (by omega)]
      exact ⟨rfl, rfl⟩
end
section
/-! ===== the model: blocks are moved at once; press, gather ===== -/
/-- behind a public call, as the law needs it -/
def pubX (N D : Nat) (σ : sm_S) (_ : Int32) (σ' : sm_S) : Prop := ∃ N', jj N' (σ' 1) ∧ N ≤ N' ∧ N' ≤ N + D ∧ σ' 5 = σ 5 ∧ σ' 0 6 = σ 0 6 ∧ ∀ k, 5 < k → σ' k = σ k
theorem pub_X {N D : Nat} {σ σ' : sm_S} {x : Int32} (h : pub N D σ x σ') : pubX N D σ x σ' := by
  obtain ⟨v, N', rfl, h1, h2, h3⟩ := h
  refine ⟨N', by rw [s_at]; exact h1, h2, h3, ?_, ?_, fun k hk => ?_⟩
  · rw [s_ne (by decide), s_ne (by decide)]
  · rw [s_ne (by decide), s_at, u_ne (by decide)]
  · rw [s_ne (by omega), s_ne (by omega)]
theorem jr_moved {v : Nat → Int32} {n o p : Nat} {x : Int32} (hn : n < 96) (hj : jr v) (h6 : v (786 + 16 * n + 6) = 0) (ho : (v (786 + 16 * n + 2)).toInt = o) (hx : x.toInt = p) (hp : p < 256) (hal : p % 2 ^ o = 0) : jr (upd v (786 + 16 * n + 1) x) := by
  obtain ⟨j1, j2, j3, j4, s, hs, z1, z2⟩ := hj
  have e : ∀ i, i ≠ 786 + 16 * n + 1 → upd v (786 + 16 * n + 1) x i = v i := fun i hi => u_ne hi
  refine ⟨fun b hb => ?_, fun b hb => ?_, fun s hs => ?_, fun b hb => ?_, s, hs, ?_, ?_⟩
  · by_cases hbn : b = n
    · subst hbn
      obtain ⟨o2, fr, h1, h2, h3, h4, h5, h6', h7, h8⟩ := j1 b hb
      have hoo : o2 = o := by rw [ho] at h1; omega
      subst hoo
      refine ⟨o2, p, ?_, h2, by rw [u_at]; exact hx, hp, hal, ?_, ?_, ?_⟩ <;> rw [e _ (by omega)] <;> assumption
    · exact bk_cong (fun k hk _ _ _ => e _ (by omega)) (j1 b hb)
  · obtain ⟨L, o2, h1, h2, h3, h4, h5, h6'⟩ := j2 b hb
    refine ⟨L, o2, ?_, h2, ?_, ?_, fun k hk => ?_, fun k m hkm hm => ?_⟩
    · rw [e _ (by omega)]; exact h1
    · rw [e _ (by omega)]; exact h3
    · rw [e _ (by omega)]; exact h4
    · obtain ⟨t, a, g1, g2, g3, g4, g5⟩ := h5 k hk
      refine ⟨t, a, g1, ?_, ?_, ?_, g5⟩ <;> rw [e _ (by omega)] <;> assumption
    · rw [e _ (by omega), e _ (by omega)]; exact h6' k m hkm hm
  · obtain ⟨st, pt, at', q, h1, h2, h3, h4, h5, h6', h7, h8, h9⟩ := j3 s hs
    refine ⟨st, pt, at', q, ?_, h2, ?_, h4, h5, ?_, h7, ?_, ?_⟩
    · rw [e _ (by omega)]; exact h1
    · rw [e _ (by omega)]; exact h3
    · rw [e _ (by omega)]; exact h6'
    · rw [e _ (by omega)]; exact h8
    · rcases h9 with h9 | ⟨b, g1, g2, g3, g4, fr, g5, g6⟩
      · exact Or.inl h9
      · have hbn : b ≠ n := fun z => by subst z; exact g4 h6
        refine Or.inr ⟨b, g1, g2, g3, ?_, fr, ?_, g6⟩ <;> rw [e _ (by omega)] <;> assumption
  · intro hb6
    rw [e _ (by omega)] at hb6
    have hbn : b ≠ n := fun z => by subst z; exact hb6 h6
    obtain ⟨h1, fr, h2, h3, h4⟩ := j4 b hb hb6
    refine ⟨?_, fr, ?_, h3, ?_⟩ <;> rw [e _ (by omega)] <;> assumption
  · rw [e _ (by omega)]; exact z1
  · rw [e _ (by omega)]; exact z2
theorem l_movesTo {a1 a2 a3 : Int32} {n o fr p N : Nat} (h1 : a1.toInt = n) (hn : n < 96) (h2 : a2.toInt = p) (hp : p < 256) (hpa : p % 2 ^ o = 0) (h3 : a3.toInt = fr) (hfr : fr < 256) (hal : fr % 2 ^ o = 0) (ho : o ≤ 4) : ∀ (d k : Nat) (a4 : Int32) (σ : sm_S), a4.toInt = k → k + d = 2 ^ o → jj N (σ 1) → (σ 1 (786 + 16 * n + 2)).toInt = o → σ 1 (786 + 16 * n + 6) = 0 → σ 1 (786 + 16 * n + 0) = 1 →
    xE xM m_M_movesTo 9 [.ref 0, .int a1, .int a2, .int a3, .int a4] [] σ (sm_V (fun σ' => ∃ w, σ' = sm_set σ 1 w ∧ jj N w ∧ ∀ i, 786 ≤ i → i ≠ 786 + 16 * n + 1 → w i = σ 1 i)) := by
  have hpw := t_pw (k := o) (by omega)
  have hs1 := t_al (k := o) (by omega) hal
  have hs2 := t_al (k := o) (by omega) hpa
  intro d
  induction d with
  | zero =>
    intro k a4 σ h4 hk hj ho2 h6 hI
    refine w_M_movesTo_9 a1 a2 a3 a4 σ _ ((c_longOf h1 hn σ).int ?_)
    rintro _ σ ⟨rfl, rfl⟩
    refine ⟨fun _ => (c_lay (k := 1) (j := 1) h1 rfl (by omega) a2 _).void ?_, fun h => absurd ?_ h⟩
    · rintro _ rfl
      refine (c_counts (k := 10) (j := 10) rfl (by omega) 1 _).void ?_
      rintro _ rfl
      simp only [s_at, s_ss]
      refine ⟨rfl, _, rfl, jj_low (by omega) (by omega) ⟨fr_frame hI hj.1, jr_moved hn hj.2.1 h6 ho2 h2 hp hpa, by rw [u_ne (by omega)]; exact hj.2.2⟩, fun i hi1 hi2 => ?_⟩
      rw [u_ne (by omega), u_ne hi2]
    · rw [t_le, t_pow ho2 (by omega), h4]
      omega
  | succ d ih =>
    intro k a4 σ h4 hk hj ho2 h6 hI
    have h4' : (a4 + 1).toInt = ((k + 1 : Nat) : Int) := by
      rw [t_add h4 (y := 1) rfl (by omega) (by omega)]
      omega
    have hto := t_add h2 h4 (by omega) (by omega)
    rw [← Int.natCast_add] at hto
    have hfo := t_add h3 h4 (by omega) (by omega)
    rw [← Int.natCast_add] at hfo
    refine w_M_movesTo_9 a1 a2 a3 a4 σ _ ((c_longOf h1 hn σ).int ?_)
    rintro _ σ ⟨rfl, rfl⟩
    refine ⟨fun h => ?_, fun _ => (c_has' hto (by omega) h1 hn _ hj.1 (fun _ => hI)).void ?_⟩
    · rw [t_le, t_pow ho2 (by omega), h4] at h
      omega
    · rintro _ ⟨v1, rfl, g1, g2, -⟩
      refine (c_valueOf hfo (by omega) _).int ?_
      rintro x _ ⟨-, rfl⟩
      refine (c_lays' hto (by omega) _ (by rw [s_at]; exact g1)).void ?_
      rintro _ ⟨v2, rfl, g3, g4, -⟩
      rw [s_at] at g4
      refine (c_leaves' hfo (by omega) _ (by rw [s_at]; exact g3)).void ?_
      rintro _ ⟨v3, rfl, g5, g6, -⟩
      rw [s_at] at g6
      have hfe := (g2.tr g4).tr g6
      simp only [s_ss]
      refine (ih (k + 1) (a4 + 1) _ h4' (by omega) (by rw [s_at]; exact jj_fr g5 hfe hj) (by rw [s_at, hfe _ (by omega)]; exact ho2) (by rw [s_at, hfe _ (by omega)]; exact h6) (by rw [s_at, hfe _ (by omega)]; exact hI)).mono ?_
      rintro r σ' ⟨rfl, w, rfl, hw, ew⟩
      rw [s_at] at ew
      exact ⟨rfl, w, s_ss, hw, fun i hi1 hi2 => by rw [ew i hi1 hi2, hfe i (Or.inr hi1)]⟩
theorem c_movesTo {b x : Int32} {n o p N : Nat} (hb : b.toInt = n) (hn : n < 96) (hx : x.toInt = p) (hp : p < 256) (σ : sm_S) (ho : (σ 1 (786 + 16 * n + 2)).toInt = o) (hpa : p % 2 ^ o = 0) (h6 : σ 1 (786 + 16 * n + 6) = 0) (hI : σ 1 (786 + 16 * n + 0) = 1) (hj : jj N (σ 1)) :
    xC xM j_M_movesTo [.ref 0, .int b, .int x] σ (sm_V (fun σ' => ∃ w, σ' = sm_set σ 1 w ∧ jj N w ∧ ∀ i, 786 ≤ i → i ≠ 786 + 16 * n + 1 → w i = σ 1 i)) := by
  obtain ⟨o2, fr, b1, b2, b3, b4, b5, -⟩ := hj.2.1.1 n hn
  have hoo : o2 = o := by rw [ho] at b1; omega
  subst hoo
  have hpw := t_pw (k := o2) (by omega)
  refine w_M_movesTo b x σ _ ((c_frameOf hb hn σ).int ?_)
  rintro y σ ⟨hy, rfl⟩
  exact l_movesTo hb hn hx hp hpa (by rw [hy]; exact b3) b4 b5 b2 (2 ^ o2) 0 0 _ rfl (by omega) hj b1 h6 hI
theorem c_isLoose {b : Int32} {n : Nat} (hb : b.toInt = n) (hn : n < 96) (σ : sm_S) : xC xM j_M_isLoose [.ref 0, .int b] σ (sm_I (fun x σ' => (x = 0 ∨ (x = 1 ∧ σ 1 (786 + 16 * n + 3) = 0 ∧ σ 1 (786 + 16 * n + 6) ≤ 0)) ∧ σ' = σ)) := by
  refine w_M_isLoose b σ _ ((c_of (k := 3) (j := 3) hb rfl (by omega) σ).int ?_)
  rintro _ σ ⟨rfl, rfl⟩
  refine ⟨fun _ => ⟨Or.inl rfl, _, rfl, Or.inl rfl, rfl⟩, fun h3 => (c_isPinned hb hn _).int ?_⟩
  rintro x2 σ ⟨-, rfl⟩
  refine ⟨fun _ => ⟨Or.inl rfl, _, rfl, Or.inl rfl, rfl⟩, fun _ => (c_isOnWay hb hn _).int ?_⟩
  rintro x3 σ ⟨hx3, rfl⟩
  refine ⟨fun _ => ⟨Or.inl rfl, _, rfl, Or.inl rfl, rfl⟩, fun n3 => ⟨Or.inr rfl, _, rfl, Or.inr ⟨rfl, Classical.not_not.mp h3, ?_⟩, rfl⟩⟩
  exact (hx3.resolve_right (fun z => n3 (by rw [z.1]; decide))).2
/-- the next to press: none, or a loose one of the span that isn't done -/
def toPress (σ : sm_S) (s : Nat) (x : Int32) : Prop := x = -1 ∨ ∃ n : Nat, x.toInt = n ∧ n < 96 ∧ σ 4 n = 0 ∧ σ 1 (786 + 16 * n + 6) ≤ 0 ∧ σ 1 (786 + 16 * n + 0) = 1 ∧ ∃ fr : Nat, (σ 1 (786 + 16 * n + 1)).toInt = fr ∧ fr / 32 = s
theorem l_nextToPress {a1 : Int32} {s N : Nat} (h1 : a1.toInt = s) (σ : sm_S) (hj : jj N (σ 1)) : ∀ (d k : Nat) (a2 a3 : Int32), a3.toInt = k → k + d = 96 → toPress σ s a2 → xE xM m_M_nextToPress 4 [.ref 0, .int a1, .int a2, .int a3] [] σ (sm_I (fun x σ' => toPress σ s x ∧ σ' = σ)) := by
  intro d
  induction d with
  | zero =>
    intro k a2 a3 h3 hk h2
    refine w_M_nextToPress_4 a1 a2 a3 σ _ ⟨fun _ => ⟨_, rfl, h2, rfl⟩, fun h => absurd ?_ h⟩
    rw [t_le, h3]
    show (96 : Int) ≤ _
    omega
  | succ d ih =>
    intro k a2 a3 h3 hk h2
    have h3' : (a3 + 1).toInt = ((k + 1 : Nat) : Int) := by
      rw [t_add h3 (y := 1) rfl (by omega) (by omega)]
      omega
    have go := fun b2 hb => ih (k + 1) b2 (a3 + 1) h3' (by omega) hb
    obtain ⟨o, fr, b1, b2, b3, b4, b5, -⟩ := hj.2.1.1 k (by omega)
    refine w_M_nextToPress_4 a1 a2 a3 σ _ ⟨fun h => ?_, fun _ => (c_isBlock a3 σ).int ?_⟩
    · rw [t_le, h3] at h
      have h : (96 : Int) ≤ k := h
      omega
    · rintro x1 σ ⟨hx1, rfl⟩
      refine ⟨fun _ => go _ h2, fun nI => ⟨t_vp h3 (by omega), fun _ => go _ h2, fun hd => (c_frameOf h3 (by omega) _).int ?_⟩⟩
      rw [t_nat h3] at hd
      rintro x2 σ ⟨hx2, rfl⟩
      have hfr : x2.toInt = fr := by rw [hx2]; exact b3
      refine (c_spanOf hfr _).int ?_
      rintro x3 σ ⟨hx3, rfl⟩
      refine ⟨fun _ => go _ h2, fun hs => (c_isLoose h3 (by omega) _).int ?_⟩
      have hs : x3 = a1 := Classical.not_not.mp hs
      rintro x4 σ ⟨hx4, rfl⟩
      refine ⟨fun _ => go _ h2, fun n4 => ?_⟩
      obtain ⟨-, -, h6⟩ := hx4.resolve_left n4
      have hI : σ 1 (786 + 16 * k + 0) = 1 := by
        obtain ⟨-, k2, -, hk2, hI⟩ := hx1.resolve_right (fun z => nI z.1)
        have : k2 = k := by omega
        subst this
        exact hI
      have hnew := go a3 (Or.inr ⟨k, h3, by omega, Classical.not_not.mp hd, h6, hI, fr, b3, by rw [hs, h1] at hx3; omega⟩)
      refine ⟨fun _ => hnew, fun ha => (c_frameOf h3 (by omega) _).int ?_⟩
      rintro x5 σ ⟨-, rfl⟩
      obtain ⟨n, hn1, hn2, -⟩ := h2.resolve_left ha
      refine (c_frameOf hn1 hn2 _).int ?_
      rintro x6 σ ⟨-, rfl⟩
      exact ⟨fun _ => go _ h2, fun _ => hnew⟩
theorem c_nextToPress {a1 : Int32} {s N : Nat} (h1 : a1.toInt = s) (σ : sm_S) (hj : jj N (σ 1)) : xC xM j_M_nextToPress [.ref 0, .int a1] σ (sm_I (fun x σ' => toPress σ s x ∧ σ' = σ)) :=
  w_M_nextToPress a1 σ _ (l_nextToPress h1 σ hj 96 0 (-1) 0 rfl rfl (Or.inl rfl))
end
