/-! ===== the model: stores, and what looks for places ===== -/
theorem c_lay {b k : Int32} {n j : Nat} (hb : b.toInt = n) (hk : k.toInt = j) (h : 786 + 16 * n + j < 2662) (x : Int32) (σ : sm_S) : xC xM j_M_lay [.ref 0, .int b, .int k, .int x] σ (sm_V (fun σ' => σ' = sm_set σ 1 (upd (σ 1) (786 + 16 * n + j) x))) := by
  refine w_M_lay b k x σ _ ((c_blockAt b σ).int ?_)
  rintro _ _ ⟨rfl, rfl⟩
  obtain ⟨h1, h2⟩ := ixB hb hk h
  rw [h2]
  exact ⟨h1, fun σ' h => ⟨rfl, h⟩⟩
theorem c_lays {f : Int32} {n : Nat} (hf : f.toInt = n) (hn : n < 800) (x : Int32) (σ : sm_S) : xC xM j_M_lays [.ref 0, .int f, .int x] σ (sm_V (fun σ' => σ' = sm_set σ 1 (upd (σ 1) (18 + 3 * n + 2) x))) := by
  refine w_M_lays f x σ _ ((c_frameAt f σ).int ?_)
  rintro _ _ ⟨rfl, rfl⟩
  obtain ⟨h1, h2⟩ := ixF (k := 2) (j := 2) hf rfl (by omega)
  rw [h2]
  exact ⟨h1, fun σ' h => ⟨rfl, h⟩⟩
theorem c_has {f : Int32} {n : Nat} (hf : f.toInt = n) (hn : n < 800) (b s : Int32) (σ : sm_S) : xC xM j_M_has [.ref 0, .int f, .int b, .int s] σ (sm_V (fun σ' => σ' = sm_set σ 1 (upd (upd (σ 1) (18 + 3 * n) s) (18 + 3 * n + 1) (b + 1)))) := by
  refine w_M_has f b s σ _ ((c_frameAt f σ).int ?_)
  rintro _ _ ⟨rfl, rfl⟩
  obtain ⟨h1, h2⟩ := ixF (k := 0) (j := 0) hf rfl (by omega)
  rw [h2]
  refine ⟨h1, fun σ1 e1 => (c_frameAt f σ1).int ?_⟩
  rintro _ _ ⟨rfl, rfl⟩
  obtain ⟨h3, h4⟩ := ixF (k := 1) (j := 1) hf rfl (by omega)
  rw [h4]
  refine ⟨h3, fun σ2 e2 => ⟨rfl, ?_⟩⟩
  rw [e2, e1, s_at, s_ss]
  rfl
theorem c_leaves {f : Int32} {n : Nat} (hf : f.toInt = n) (hn : n < 256) (σ : sm_S) : xC xM j_M_leaves [.ref 0, .int f] σ (sm_V (fun σ' => ∃ s : Int32, (s = 1 ∨ s = 2) ∧ σ' = sm_set σ 1 (upd (upd (upd (σ 1) (18 + 3 * n) s) (18 + 3 * n + 1) 0) (18 + 3 * n + 2) 0))) := by
  refine w_M_leaves f σ _ ((c_frameAt f σ).int ?_)
  rintro _ _ ⟨rfl, rfl⟩
  refine (c_isShut hf hn _).int ?_
  rintro x _ ⟨hx, rfl⟩
  obtain ⟨h1, h2⟩ := ixF (k := 0) (j := 0) hf rfl (by omega)
  obtain ⟨h3, h4⟩ := ixF (k := 1) (j := 1) hf rfl (by omega)
  obtain ⟨h5, h6⟩ := ixF (k := 2) (j := 2) hf rfl (by omega)
  rw [h2, h4, h6]
  refine ⟨fun _ => ⟨h1, fun σ1 e1 => ⟨h3, fun σ2 e2 => ⟨h5, fun σ3 e3 => ⟨rfl, 1, Or.inl rfl, ?_⟩⟩⟩⟩, fun _ => ⟨h1, fun σ1 e1 => ⟨h3, fun σ2 e2 => ⟨h5, fun σ3 e3 => ⟨rfl, 2, Or.inr rfl, ?_⟩⟩⟩⟩⟩ <;>
  · rw [e3, e2, e1]
    simp only [s_at, s_ss, Nat.add_zero]
theorem c_more {k : Int32} {j : Nat} (hk : k.toInt = j) (hj : j < 2662) (x : Int32) (σ : sm_S) : xC xM j_M_more [.ref 0, .int k, .int x] σ (sm_V (fun σ' => σ' = sm_set σ 1 (upd (σ 1) j (σ 1 j + x)))) := by
  refine w_M_more k x σ _ ⟨t_vp hk hj, t_vp hk hj, fun σ' h => ⟨rfl, ?_⟩⟩
  rw [h, t_nat hk]
theorem c_counts {k : Int32} {j : Nat} (hk : k.toInt = j) (hj : j < 11) (x : Int32) (σ : sm_S) : xC xM j_M_counts [.ref 0, .int k, .int x] σ (sm_V (fun σ' => σ' = sm_set σ 1 (upd (σ 1) (7 + j) (σ 1 (7 + j) + x)))) := by
  have h1 : (7 + k).toInt = ((7 + j : Nat) : Int) := by
    rw [t_add (x := 7) rfl hk (by omega) (by omega)]
    omega
  refine w_M_counts k x σ _ ((c_more h1 (by omega) x σ).void ?_)
  rintro _ rfl
  exact ⟨rfl, rfl⟩
theorem c_writes {n : Nat} (a b c : Int32) (σ : sm_S) (h5 : (σ 1 5).toInt = n) : xC xM j_M_writes [.ref 0, .int a, .int b, .int c] σ (sm_V (fun σ' => ∃ v, σ' = sm_set σ 1 v ∧ v 5 = σ 1 5 + 1 ∧ ∀ i, i < 2422 → i ≠ 5 → v i = σ 1 i)) := by
  have hr : (σ 1 ((5 : Int32)).toNatClampNeg - σ 1 ((5 : Int32)).toNatClampNeg / (60 : Int32) * (60 : Int32)).toInt = ((n % 60 : Nat) : Int) := t_rem (d := 60) h5 rfl (by decide)
  have hm : n % 60 < 60 := Nat.mod_lt _ (by decide)
  have hx : ∀ (k : Int32) (j : Nat), k.toInt = j → j < 4 → vp_in (2422 + 4 * (σ 1 ((5 : Int32)).toNatClampNeg - σ 1 ((5 : Int32)).toNatClampNeg / (60 : Int32) * (60 : Int32)) + k) 2662 ∧ (2422 + 4 * (σ 1 ((5 : Int32)).toNatClampNeg - σ 1 ((5 : Int32)).toNatClampNeg / (60 : Int32) * (60 : Int32)) + k).toNatClampNeg = 2422 + 4 * (n % 60) + j := by
    intro k j hk hj
    have h1 := t_ix (c := 2422) (m := 4) (C := 2422) (M := 4) rfl rfl hr hk (by omega)
    exact ⟨t_vp h1 (by omega), t_nat h1⟩
  obtain ⟨p0, q0⟩ := hx 0 0 rfl (by omega)
  obtain ⟨p1, q1⟩ := hx 1 1 rfl (by omega)
  obtain ⟨p2, q2⟩ := hx 2 2 rfl (by omega)
  obtain ⟨p3, q3⟩ := hx 3 3 rfl (by omega)
  rw [Int32.add_zero] at p0 q0
  refine w_M_writes a b c σ _ ⟨t_vp (n := 5) rfl (by omega), by decide, t_vp (n := 4) rfl (by omega), p0, fun σ1 e1 => ⟨p1, fun σ2 e2 => ⟨p2, fun σ3 e3 => ⟨p3, fun σ4 e4 => ?_⟩⟩⟩⟩
  refine (c_more (k := 5) (j := 5) rfl (by omega) 1 σ4).void ?_
  rintro _ rfl
  rw [q0] at e1
  rw [q1] at e2
  rw [q2] at e3
  rw [q3] at e4
  have hv : ∀ i, i < 2422 → σ4 1 i = σ 1 i := by
    intro i hi
    rw [e4, s_at, u_ne (by omega), e3, s_at, u_ne (by omega), e2, s_at, u_ne (by omega), e1, s_at, u_ne (by omega)]
  refine ⟨rfl, upd (σ4 1) 5 (σ4 1 5 + 1), ?_, ?_, fun i hi h5 => ?_⟩
  · rw [e4, e3, e2, e1]
    simp only [s_at, s_ss]
  · rw [u_at, hv 5 (by omega)]
  · rw [u_ne h5, hv i hi]
