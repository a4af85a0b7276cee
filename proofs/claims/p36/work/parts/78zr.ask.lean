/-! ===== the simulation: look answers the same ===== -/
theorem l_howMany2 {v : Nat → Int32} (σ : sm_S) (h : sim0 σ v) : ∀ (d k : Nat) (a b : Int32), b.toInt = k → k + d = 96 → ∃ r : Int32, xE xD m_B_howMany 4 [.ref 8, .int a, .int b] [] σ (sm_I (fun x σ' => x = r ∧ σ' = σ)) ∧ ∀ σ2 : sm_S, σ2 1 = v → xE xM m_M_blocks 4 [.ref 0, .int a, .int b] [] σ2 (sm_I (fun x σ' => x = r ∧ σ' = σ2)) := by
  intro d
  induction d with
  | zero =>
    intro k a b hb hk
    have l : (96 : Int32) ≤ b := by rw [t_le, hb]; show (96 : Int) ≤ _; omega
    exact ⟨a, d_B_howMany_4 a b σ _ ⟨fun _ => ⟨_, rfl, rfl, rfl⟩, fun z => absurd l z⟩, fun σ2 _ => w_M_blocks_4 a b σ2 _ ⟨fun _ => ⟨_, rfl, rfl, rfl⟩, fun z => absurd l z⟩⟩
  | succ d ih =>
    intro k a b hb hk
    have hb' : (b + 1).toInt = ((k + 1 : Nat) : Int) := by
      rw [t_add hb (y := 1) rfl (by omega) (by omega)]
      omega
    have l : ¬ (96 : Int32) ≤ b := by rw [t_le, hb]; show ¬ (96 : Int) ≤ _; omega
    have vv := t_vp (N := 96) hb (by omega)
    rcases h.B k (by omega) with ⟨g1, g2⟩ | ⟨g1, g2, -⟩
    · obtain ⟨r, r1, r2⟩ := ih (k + 1) (a + 0) (b + 1) hb' (by omega)
      refine ⟨r, d_B_howMany_4 a b σ _ ⟨fun z => absurd z l, fun _ => ?_⟩, fun σ2 e2 => w_M_blocks_4 a b σ2 _ ⟨fun z => absurd z l, fun _ => (c_of (k := 0) (j := 0) hb rfl (by omega) σ2).int ?_⟩⟩
      · rw [t_nat hb]
        exact ⟨vv, fun _ => r1, fun z => absurd g1 z⟩
      · rintro x2 σ3 ⟨ex2, es⟩
        rw [ex2, es, e2, g2]
        exact r2 σ2 e2
    · obtain ⟨r, r1, r2⟩ := ih (k + 1) (a + 1) (b + 1) hb' (by omega)
      refine ⟨r, d_B_howMany_4 a b σ _ ⟨fun z => absurd z l, fun _ => ?_⟩, fun σ2 e2 => w_M_blocks_4 a b σ2 _ ⟨fun z => absurd z l, fun _ => (c_of (k := 0) (j := 0) hb rfl (by omega) σ2).int ?_⟩⟩
      · rw [t_nat hb]
        exact ⟨vv, fun z => absurd z g1, fun _ => r1⟩
      · rintro x2 σ3 ⟨ex2, es⟩
        rw [ex2, es, e2, g2]
        exact r2 σ2 e2
theorem l_waits2 {v : Nat → Int32} (σ : sm_S) (h : sim0 σ v) (hk : kk σ) : ∀ (d k : Nat) (a b : Int32), b.toInt = k → k + d = 6 → ∃ r : Int32, xE xD m_K_waitingSet 4 [.ref 26, .int a, .int b] [] σ (sm_I (fun x σ' => x = r ∧ σ' = σ)) ∧ ∀ σ2 : sm_S, σ2 1 = v → xE xM m_M_waiters 4 [.ref 0, .int a, .int b] [] σ2 (sm_I (fun x σ' => x = r ∧ σ' = σ2)) := by
  intro d
  induction d with
  | zero =>
    intro k a b hb hkd
    have l : (6 : Int32) ≤ b := by rw [t_le, hb]; show (6 : Int) ≤ _; omega
    exact ⟨a, d_K_waitingSet_4 a b σ _ ⟨fun _ => ⟨_, rfl, rfl, rfl⟩, fun z => absurd l z⟩, fun σ2 _ => w_M_waiters_4 a b σ2 _ ⟨fun _ => ⟨_, rfl, rfl, rfl⟩, fun z => absurd l z⟩⟩
  | succ d ih =>
    intro k a b hb hkd
    have hb' : (b + 1).toInt = ((k + 1 : Nat) : Int) := by
      rw [t_add hb (y := 1) rfl (by omega) (by omega)]
      omega
    have l : ¬ (6 : Int32) ≤ b := by rw [t_le, hb]; show ¬ (6 : Int) ≤ _; omega
    have vv := t_vp (N := 6) hb (by omega)
    have w := t_wt hk h (show k < 6 by omega)
    have ix := t_ix (c := 2322) (m := 6) (C := 2322) (M := 6) (k := 1) (j := 1) rfl rfl hb rfl (by omega)
    obtain ⟨r, r1, r2⟩ := ih (k + 1) (if σ 28 k = -1 then a else a ||| ((1 : Int32) <<< (b &&& 31))) (b + 1) hb' (by omega)
    refine ⟨r, d_K_waitingSet_4 a b σ _ ⟨fun z => absurd z l, fun _ => ?_⟩, fun σ2 e2 => w_M_waiters_4 a b σ2 _ ⟨fun z => absurd z l, fun _ => (c_taskAt b σ2).int ?_⟩⟩
    · rw [t_nat hb, show a ||| 0 = a from Int32.or_zero]
      refine ⟨vv, fun z => ?_, fun z => ?_⟩
      · rw [if_pos z] at r1
        exact r1
      · rw [if_neg z] at r1
        exact r1
    · rintro x2 σ3 ⟨ex2, es⟩
      rw [ex2, es, t_nat ix, e2]
      refine ⟨t_vp ix (by omega), fun z => ?_, fun z => ?_⟩
      · rw [if_pos (w.mp z)] at r2
        exact r2 σ2 e2
      · rw [if_neg (fun y => z (w.mpr y))] at r2
        exact r2 σ2 e2
theorem l_goes3 {v : Nat → Int32} (σ : sm_S) (h : sim0 σ v) (hg : ∀ s, s < 8 → (v (2358 + 8 * s) < 2 ↔ ¬ (σ 18 s = 2 ∨ σ 18 s = 3))) : ∀ (d k : Nat) (a b : Int32), b.toInt = k → k + d = 8 → ∃ r : Int32, xE xD m_S_goingSet 4 [.ref 17, .int a, .int b] [] σ (sm_I (fun x σ' => x = r ∧ σ' = σ)) ∧ ∀ σ2 : sm_S, σ2 1 = v → xE xM m_M_goers 4 [.ref 0, .int a, .int b] [] σ2 (sm_I (fun x σ' => x = r ∧ σ' = σ2)) := by
  intro d
  induction d with
  | zero =>
    intro k a b hb hk
    have l : (8 : Int32) ≤ b := by rw [t_le, hb]; show (8 : Int) ≤ _; omega
    exact ⟨a, d_S_goingSet_4 a b σ _ ⟨fun _ => ⟨_, rfl, rfl, rfl⟩, fun z => absurd l z⟩, fun σ2 _ => w_M_goers_4 a b σ2 _ ⟨fun _ => ⟨_, rfl, rfl, rfl⟩, fun z => absurd l z⟩⟩
  | succ d ih =>
    intro k a b hb hk
    have hb' : (b + 1).toInt = ((k + 1 : Nat) : Int) := by
      rw [t_add hb (y := 1) rfl (by omega) (by omega)]
      omega
    have l : ¬ (8 : Int32) ≤ b := by rw [t_le, hb]; show ¬ (8 : Int) ≤ _; omega
    have vv := t_vp (N := 8) hb (by omega)
    have w := hg k (by omega)
    by_cases q : σ 18 k = 2 ∨ σ 18 k = 3
    · obtain ⟨r, r1, r2⟩ := ih (k + 1) (a ||| ((1 : Int32) <<< (b &&& 31))) (b + 1) hb' (by omega)
      refine ⟨r, d_S_goingSet_4 a b σ _ ⟨fun z => absurd z l, fun _ => (e_isGoing2 hb (by omega) σ).int ?_⟩, fun σ2 e2 => w_M_goers_4 a b σ2 _ ⟨fun z => absurd z l, fun _ => (c_isGoing hb (by omega) σ2).int ?_⟩⟩
      · rintro x2 σ3 ⟨hx2, es⟩
        rw [es]
        exact ⟨fun z => absurd q (hx2.b.1.mp z), fun _ => r1⟩
      · rintro x2 σ3 ⟨hx2, es⟩
        rw [e2] at hx2
        rw [es]
        refine ⟨fun z => ?_, fun _ => r2 σ2 e2⟩
        rcases hx2 with ⟨-, y⟩ | ⟨y, -⟩
        · exact absurd q (w.mp y)
        · rw [y] at z; exact absurd z (by decide)
    · obtain ⟨r, r1, r2⟩ := ih (k + 1) a (b + 1) hb' (by omega)
      refine ⟨r, d_S_goingSet_4 a b σ _ ⟨fun z => absurd z l, fun _ => (e_isGoing2 hb (by omega) σ).int ?_⟩, fun σ2 e2 => w_M_goers_4 a b σ2 _ ⟨fun z => absurd z l, fun _ => (c_isGoing hb (by omega) σ2).int ?_⟩⟩
      · rintro x2 σ3 ⟨hx2, es⟩
        rw [es, show a ||| 0 = a from Int32.or_zero]
        exact ⟨fun _ => r1, fun z => absurd (hx2.b.2.mp z) q⟩
      · rintro x2 σ3 ⟨hx2, es⟩
        rw [e2] at hx2
        rw [es]
        refine ⟨fun _ => r2 σ2 e2, fun z => ?_⟩
        rcases hx2 with ⟨y, -⟩ | ⟨-, y⟩
        · exact absurd y z
        · exact absurd (w.mpr q) y
theorem l_bits2 {v : Nat → Int32} (σ : sm_S) (h : sim0 σ v) : ∀ (d k : Nat) (a b : Int32) (v5 : Value), b.toInt = k → k + d = 8 → ∃ r : Int32, xE xF m_R_bitsIn 10 [.ref 2, .int a, .ref 2, .int 8, .int b, v5] [] σ (sm_I (fun x σ' => x = r ∧ σ' = σ)) ∧ ∀ σ2 : sm_S, σ2 1 = v → xE xM m_M_framesIn 4 [.ref 0, .int 1, .int a, .int b] [] σ2 (sm_I (fun x σ' => x = r ∧ σ' = σ2)) := by
  intro d
  induction d with
  | zero =>
    intro k a b v5 hb hk
    have l : (8 : Int32) ≤ b := by rw [t_le, hb]; show (8 : Int) ≤ _; omega
    exact ⟨a, f_R_bitsIn2_10 a 8 b v5 σ _ ⟨fun _ => ⟨_, rfl, rfl, rfl⟩, fun z => absurd l z⟩, fun σ2 _ => w_M_framesIn_4 1 a b σ2 _ ⟨fun _ => ⟨_, rfl, rfl, rfl⟩, fun z => absurd l z⟩⟩
  | succ d ih =>
    intro k a b v5 hb hk
    have hb' : (b + 1).toInt = ((k + 1 : Nat) : Int) := by
      rw [t_add hb (y := 1) rfl (by omega) (by omega)]
      omega
    have l : ¬ (8 : Int32) ≤ b := by rw [t_le, hb]; show ¬ (8 : Int) ≤ _; omega
    have vv := t_vp (N := 8) hb (by omega)
    have e := (pc_fr h (show k < 8 by omega)).1
    obtain ⟨r, r1, r2⟩ := ih (k + 1) (a + nI (cnS v k 1)) (b + 1) (.int (σ 2 k)) hb' (by omega)
    refine ⟨r, f_R_bitsIn2_10 a 8 b v5 σ _ ⟨fun z => absurd z l, fun _ => ⟨vv, ?_⟩⟩, fun σ2 e2 => w_M_framesIn_4 1 a b σ2 _ ⟨fun z => absurd z l, fun _ => (c_manyIn2 hb (by omega) 1 σ2).int ?_⟩⟩
    · rw [t_nat hb]
      refine (nw0 (c_bitCount2 (σ 2 k) σ)).int ?_
      rintro x2 σ3 ⟨ex2, es⟩
      rw [e] at ex2
      rw [t_nI ex2, es]
      exact r1
    · rintro x2 σ3 ⟨ex2, es⟩
      rw [e2] at ex2
      rw [t_nI ex2, es]
      exact r2 σ2 e2
theorem l_bits3 {v : Nat → Int32} (σ : sm_S) (h : sim0 σ v) : ∀ (d k : Nat) (a b : Int32) (v5 : Value), b.toInt = k → k + d = 8 → ∃ r : Int32, xE xF m_R_bitsIn 10 [.ref 3, .int a, .ref 3, .int 8, .int b, v5] [] σ (sm_I (fun x σ' => x = r ∧ σ' = σ)) ∧ ∀ σ2 : sm_S, σ2 1 = v → xE xM m_M_framesIn 4 [.ref 0, .int 2, .int a, .int b] [] σ2 (sm_I (fun x σ' => x = r ∧ σ' = σ2)) := by
  intro d
  induction d with
  | zero =>
    intro k a b v5 hb hk
    have l : (8 : Int32) ≤ b := by rw [t_le, hb]; show (8 : Int) ≤ _; omega
    exact ⟨a, f_R_bitsIn3_10 a 8 b v5 σ _ ⟨fun _ => ⟨_, rfl, rfl, rfl⟩, fun z => absurd l z⟩, fun σ2 _ => w_M_framesIn_4 2 a b σ2 _ ⟨fun _ => ⟨_, rfl, rfl, rfl⟩, fun z => absurd l z⟩⟩
  | succ d ih =>
    intro k a b v5 hb hk
    have hb' : (b + 1).toInt = ((k + 1 : Nat) : Int) := by
      rw [t_add hb (y := 1) rfl (by omega) (by omega)]
      omega
    have l : ¬ (8 : Int32) ≤ b := by rw [t_le, hb]; show ¬ (8 : Int) ≤ _; omega
    have vv := t_vp (N := 8) hb (by omega)
    have e := (pc_fr h (show k < 8 by omega)).2.1
    obtain ⟨r, r1, r2⟩ := ih (k + 1) (a + nI (cnS v k 2)) (b + 1) (.int (σ 3 k)) hb' (by omega)
    refine ⟨r, f_R_bitsIn3_10 a 8 b v5 σ _ ⟨fun z => absurd z l, fun _ => ⟨vv, ?_⟩⟩, fun σ2 e2 => w_M_framesIn_4 2 a b σ2 _ ⟨fun z => absurd z l, fun _ => (c_manyIn2 hb (by omega) 2 σ2).int ?_⟩⟩
    · rw [t_nat hb]
      refine (nw0 (c_bitCount2 (σ 3 k) σ)).int ?_
      rintro x2 σ3 ⟨ex2, es⟩
      rw [e] at ex2
      rw [t_nI ex2, es]
      exact r1
    · rintro x2 σ3 ⟨ex2, es⟩
      rw [e2] at ex2
      rw [t_nI ex2, es]
      exact r2 σ2 e2
theorem l_bits4 {v : Nat → Int32} (σ : sm_S) (h : sim0 σ v) : ∀ (d k : Nat) (a b : Int32) (v5 : Value), b.toInt = k → k + d = 8 → ∃ r : Int32, xE xF m_R_bitsIn 10 [.ref 4, .int a, .ref 4, .int 8, .int b, v5] [] σ (sm_I (fun x σ' => x = r ∧ σ' = σ)) ∧ ∀ σ2 : sm_S, σ2 1 = v → xE xM m_M_framesIn 4 [.ref 0, .int 3, .int a, .int b] [] σ2 (sm_I (fun x σ' => x = r ∧ σ' = σ2)) := by
  intro d
  induction d with
  | zero =>
    intro k a b v5 hb hk
    have l : (8 : Int32) ≤ b := by rw [t_le, hb]; show (8 : Int) ≤ _; omega
    exact ⟨a, f_R_bitsIn4_10 a 8 b v5 σ _ ⟨fun _ => ⟨_, rfl, rfl, rfl⟩, fun z => absurd l z⟩, fun σ2 _ => w_M_framesIn_4 3 a b σ2 _ ⟨fun _ => ⟨_, rfl, rfl, rfl⟩, fun z => absurd l z⟩⟩
  | succ d ih =>
    intro k a b v5 hb hk
    have hb' : (b + 1).toInt = ((k + 1 : Nat) : Int) := by
      rw [t_add hb (y := 1) rfl (by omega) (by omega)]
      omega
    have l : ¬ (8 : Int32) ≤ b := by rw [t_le, hb]; show ¬ (8 : Int) ≤ _; omega
    have vv := t_vp (N := 8) hb (by omega)
    have e := (pc_fr h (show k < 8 by omega)).2.2.1
    obtain ⟨r, r1, r2⟩ := ih (k + 1) (a + nI (cnS v k 3)) (b + 1) (.int (σ 4 k)) hb' (by omega)
    refine ⟨r, f_R_bitsIn4_10 a 8 b v5 σ _ ⟨fun z => absurd z l, fun _ => ⟨vv, ?_⟩⟩, fun σ2 e2 => w_M_framesIn_4 3 a b σ2 _ ⟨fun z => absurd z l, fun _ => (c_manyIn2 hb (by omega) 3 σ2).int ?_⟩⟩
    · rw [t_nat hb]
      refine (nw0 (c_bitCount2 (σ 4 k) σ)).int ?_
      rintro x2 σ3 ⟨ex2, es⟩
      rw [e] at ex2
      rw [t_nI ex2, es]
      exact r1
    · rintro x2 σ3 ⟨ex2, es⟩
      rw [e2] at ex2
      rw [t_nI ex2, es]
      exact r2 σ2 e2
theorem l_bits5 {v : Nat → Int32} (σ : sm_S) (h : sim0 σ v) : ∀ (d k : Nat) (a b : Int32) (v5 : Value), b.toInt = k → k + d = 8 → ∃ r : Int32, xE xF m_R_bitsIn 10 [.ref 5, .int a, .ref 5, .int 8, .int b, v5] [] σ (sm_I (fun x σ' => x = r ∧ σ' = σ)) ∧ ∀ σ2 : sm_S, σ2 1 = v → xE xM m_M_framesIn 4 [.ref 0, .int 4, .int a, .int b] [] σ2 (sm_I (fun x σ' => x = r ∧ σ' = σ2)) := by
  intro d
  induction d with
  | zero =>
    intro k a b v5 hb hk
    have l : (8 : Int32) ≤ b := by rw [t_le, hb]; show (8 : Int) ≤ _; omega
    exact ⟨a, f_R_bitsIn5_10 a 8 b v5 σ _ ⟨fun _ => ⟨_, rfl, rfl, rfl⟩, fun z => absurd l z⟩, fun σ2 _ => w_M_framesIn_4 4 a b σ2 _ ⟨fun _ => ⟨_, rfl, rfl, rfl⟩, fun z => absurd l z⟩⟩
  | succ d ih =>
    intro k a b v5 hb hk
    have hb' : (b + 1).toInt = ((k + 1 : Nat) : Int) := by
      rw [t_add hb (y := 1) rfl (by omega) (by omega)]
      omega
    have l : ¬ (8 : Int32) ≤ b := by rw [t_le, hb]; show ¬ (8 : Int) ≤ _; omega
    have vv := t_vp (N := 8) hb (by omega)
    have e := (pc_fr h (show k < 8 by omega)).2.2.2
    obtain ⟨r, r1, r2⟩ := ih (k + 1) (a + nI (cnS v k 4)) (b + 1) (.int (σ 5 k)) hb' (by omega)
    refine ⟨r, f_R_bitsIn5_10 a 8 b v5 σ _ ⟨fun z => absurd z l, fun _ => ⟨vv, ?_⟩⟩, fun σ2 e2 => w_M_framesIn_4 4 a b σ2 _ ⟨fun z => absurd z l, fun _ => (c_manyIn2 hb (by omega) 4 σ2).int ?_⟩⟩
    · rw [t_nat hb]
      refine (nw0 (c_bitCount2 (σ 5 k) σ)).int ?_
      rintro x2 σ3 ⟨ex2, es⟩
      rw [e] at ex2
      rw [t_nI ex2, es]
      exact r1
    · rintro x2 σ3 ⟨ex2, es⟩
      rw [e2] at ex2
      rw [t_nI ex2, es]
      exact r2 σ2 e2
theorem z0_cn {v : Nat → Int32} (h : z0_ok v) : 1 ≤ cnZ v 0 := by
  obtain ⟨s, hs, h1, h2⟩ := h
  have ez : zV v s = 0 := by
    unfold zV
    rw [if_neg (by have h1 : v (2358 + 8 * s) = 1 := h1; rw [h1]; decide)]
    exact h2
  have := sumN_lt (F := fun _ => 0) (G := fun s => if zV v s = 0 then 1 else 0) (j := s) (by show 0 < if zV v s = 0 then 1 else 0; rw [if_pos ez]; omega) hs (fun i _ => Nat.zero_le _)
  unfold cnZ
  omega
theorem ky_look {N : Nat} (a1 : Int32) (σ : sm_S) (ht : tie True N σ (σ 169)) (hj : jj N (σ 169)) (hk : kk σ) : ky j_A_look j_M_look [.ref 42, .int a1] [.ref 0, .int a1] σ := by
  have h4 : (4 : Int32).toNatClampNeg = 4 := rfl
  have h5 : (5 : Int32).toNatClampNeg = 5 := rfl
  have v4 : vp_in (4 : Int32) 2662 := t_vp (n := 4) rfl (by decide)
  have v5 : vp_in (5 : Int32) 2662 := t_vp (n := 5) rfl (by decide)
  have hN := ht.s.N
  have hl := ht.l trivial
  have c0 := z0_cn hj.2.1.2.2.2.2
  have l0 := cnZ_le (σ 169) 0
  have l1 := cnZ_le (σ 169) 1
  have hg : ∀ s, s < 8 → (σ 169 (2358 + 8 * s) < 2 ↔ ¬ (σ 18 s = 2 ∨ σ 18 s = 3)) := fun s hs => by
    obtain ⟨st, pt, at', q, g1, g2, -⟩ := hj.2.1.2.2.1 s hs
    have e : σ 169 (2358 + 8 * s) = σ 18 s := (ht.s.S s hs).sta
    have g1 : (σ 169 (2358 + 8 * s)).toInt = st := g1
    rw [e] at g1 ⊢
    rw [t_lt, g1]
    refine ⟨fun z => ?_, fun z => ?_⟩
    · have z : (st : Int) < 2 := z
      rintro (w | w) <;> rw [w] at g1
      · have g1 : (2 : Int) = st := g1
        omega
      · have g1 : (3 : Int) = st := g1
        omega
    · show (st : Int) < 2
      refine Classical.byContradiction (fun w => z ?_)
      rcases (show (st : Int) = 2 ∨ (st : Int) = 3 by omega) with y | y
      · exact Or.inl (t_inj (by rw [g1, y]; rfl))
      · exact Or.inr (t_inj (by rw [g1, y]; rfl))
  obtain ⟨rb, b1, b2⟩ := l_howMany2 σ ht.s 96 0 0 0 rfl rfl
  obtain ⟨rw', w1, w2⟩ := l_waits2 σ ht.s hk 6 0 0 0 rfl rfl
  obtain ⟨rg, g1, g2⟩ := l_goes3 σ ht.s hg 8 0 0 0 rfl rfl
  obtain ⟨r2, p21, p22⟩ := l_bits2 σ ht.s 8 0 0 0 .null rfl rfl
  obtain ⟨r3, p31, p32⟩ := l_bits3 σ ht.s 8 0 0 0 .null rfl rfl
  obtain ⟨r4, p41, p42⟩ := l_bits4 σ ht.s 8 0 0 0 .null rfl rfl
  obtain ⟨r5, p51, p52⟩ := l_bits5 σ ht.s 8 0 0 0 .null rfl rfl
  have bitsC : ∀ {K : Nat} {r : Int32}, xC xF j_R_bitsIn [.ref K] σ (sm_I (fun x σ' => x = r ∧ σ' = σ)) → xC xF j_R_bitsIn [.ref K] σ (sm_ri False (fun x σ' => sm_I (fun x _ => x = r) (some (.int x)) σ')) := fun h => h.int (fun x _ e => ⟨x, rfl, e.1⟩)
  have mbn : xC xF j_A_movableByNormal [.ref 42] σ (sm_ri False (fun x σ' => sm_I (fun x _ => x = nI (100 * cnZ (σ 169) 1 / cnZ (σ 169) 0)) (some (.int x)) σ')) := by
    have : xC xF j_A_movableByNormal [.ref 42] σ (sm_I (fun x _ => x = nI (100 * cnZ (σ 169) 1 / cnZ (σ 169) 0))) := by
      refine f_A_movableByNormal σ _ ((nw0 (e_inZone2 0 ht.s)).int ?_)
      rintro x2 σ1 ⟨ex2, es⟩
      rw [es]
      have n2 : x2 ≠ 0 := fun z => by
        rw [z] at ex2
        have ex2 : (0 : Int) = _ := ex2
        omega
      refine ⟨fun _ => (nw0 (e_inZone2 1 ht.s)).int ?_, fun z => absurd n2 z⟩
      rintro x4 σ3 ⟨ex4, es3⟩
      refine ⟨n2, an_ (t_nI ?_)⟩
      have em : (100 * x4).toInt = ((100 * cnZ (σ 169) 1 : Nat) : Int) := by
        rw [t_mul (x := 100) rfl ex4 (by omega) (by omega)]
        omega
      exact t_div em ex2 (by omega)
    exact this.mono (by rintro r σ' ⟨x, rfl, hx⟩; exact ⟨x, rfl, hx⟩)
  by_cases k1 : 0 ≤ a1.toInt ∧ a1.toInt < 15
  · rcases cs15 k1 with q | q | q | q | q | q | q | q | q | q | q | q | q | q | q
    · subst q
      refine ⟨σ 169 0 + 4, f_A_look 0 σ _ ⟨fun z => absurd z (by decide), fun _ => ⟨fun z => absurd z (by decide), fun _ => ⟨t_vp (n := 0) rfl (by decide), an_ hN.rat⟩⟩⟩, fun σ2 e2 => ?_⟩
      refine w_M_look 0 σ2 _ (fun σ1 e1 => (c_isInX (L := 0) (H := 3) rfl rfl 0 σ1).int ?_)
      obtain ⟨f1, -⟩ := told1 e2 e1
      rintro x3 σ3 ⟨hx3, es3⟩
      rw [es3, h4, h5]
      refine ⟨fun z => absurd (by decide) (hx3.b.1.mp z), fun _ => anM ?_⟩
      have fo : xC xM j_M_firstOf [.ref 0, .int 0] σ1 (sm_I (fun x σ' => x = 4 ∧ σ' = σ1)) := w_M_firstOf 0 σ1 _ ⟨fun z => absurd rfl z, fun _ => ⟨_, rfl, rfl, rfl⟩⟩
      refine w_M_settingOf 0 σ1 _ ⟨t_vp (n := 0) rfl (by decide), fo.int ?_⟩
      rintro x σ4 ⟨ex, es4⟩
      rw [ex, es4]
      exact ⟨_, rfl, by rw [show (0 : Int32).toNatClampNeg = 0 from rfl, f1], rfl⟩
    · subst q
      refine ⟨σ 169 1 + 3, f_A_look 1 σ _ ⟨fun z => absurd z (by decide), fun _ => ⟨fun z => absurd z (by decide), fun _ => ⟨t_vp (n := 1) rfl (by decide), an_ hN.tri⟩⟩⟩, fun σ2 e2 => ?_⟩
      refine w_M_look 1 σ2 _ (fun σ1 e1 => (c_isInX (L := 0) (H := 3) rfl rfl 1 σ1).int ?_)
      obtain ⟨f1, -⟩ := told1 e2 e1
      rintro x3 σ3 ⟨hx3, es3⟩
      rw [es3, h4, h5]
      refine ⟨fun z => absurd (by decide) (hx3.b.1.mp z), fun _ => anM ?_⟩
      have fo : xC xM j_M_firstOf [.ref 0, .int 1] σ1 (sm_I (fun x σ' => x = 3 ∧ σ' = σ1)) := w_M_firstOf 1 σ1 _ ⟨fun _ => ⟨fun z => absurd rfl z, fun _ => ⟨_, rfl, rfl, rfl⟩⟩, fun z => absurd (by decide) z⟩
      refine w_M_settingOf 1 σ1 _ ⟨t_vp (n := 1) rfl (by decide), fo.int ?_⟩
      rintro x σ4 ⟨ex, es4⟩
      rw [ex, es4]
      exact ⟨_, rfl, by rw [show (1 : Int32).toNatClampNeg = 1 from rfl, f1], rfl⟩
    · subst q
      refine ⟨σ 169 2 + 150, f_A_look 2 σ _ ⟨fun z => absurd z (by decide), fun _ => ⟨fun z => absurd z (by decide), fun _ => ⟨t_vp (n := 2) rfl (by decide), an_ hN.rto⟩⟩⟩, fun σ2 e2 => ?_⟩
      refine w_M_look 2 σ2 _ (fun σ1 e1 => (c_isInX (L := 0) (H := 3) rfl rfl 2 σ1).int ?_)
      obtain ⟨f1, -⟩ := told1 e2 e1
      rintro x3 σ3 ⟨hx3, es3⟩
      rw [es3, h4, h5]
      refine ⟨fun z => absurd (by decide) (hx3.b.1.mp z), fun _ => anM ?_⟩
      have fo : xC xM j_M_firstOf [.ref 0, .int 2] σ1 (sm_I (fun x σ' => x = 150 ∧ σ' = σ1)) := w_M_firstOf 2 σ1 _ ⟨fun _ => ⟨fun _ => ⟨fun z => absurd rfl z, fun _ => ⟨_, rfl, rfl, rfl⟩⟩, fun z => absurd (by decide) z⟩, fun z => absurd (by decide) z⟩
      refine w_M_settingOf 2 σ1 _ ⟨t_vp (n := 2) rfl (by decide), fo.int ?_⟩
      rintro x σ4 ⟨ex, es4⟩
      rw [ex, es4]
      exact ⟨_, rfl, by rw [show (2 : Int32).toNatClampNeg = 2 from rfl, f1], rfl⟩
    · subst q
      refine ⟨σ 169 3 + 2, f_A_look 3 σ _ ⟨fun z => absurd z (by decide), fun _ => ⟨fun z => absurd z (by decide), fun _ => ⟨t_vp (n := 3) rfl (by decide), an_ hN.pau⟩⟩⟩, fun σ2 e2 => ?_⟩
      refine w_M_look 3 σ2 _ (fun σ1 e1 => (c_isInX (L := 0) (H := 3) rfl rfl 3 σ1).int ?_)
      obtain ⟨f1, -⟩ := told1 e2 e1
      rintro x3 σ3 ⟨hx3, es3⟩
      rw [es3, h4, h5]
      refine ⟨fun z => absurd (by decide) (hx3.b.1.mp z), fun _ => anM ?_⟩
      have fo : xC xM j_M_firstOf [.ref 0, .int 3] σ1 (sm_I (fun x σ' => x = 2 ∧ σ' = σ1)) := w_M_firstOf 3 σ1 _ ⟨fun _ => ⟨fun _ => ⟨fun _ => ⟨_, rfl, rfl, rfl⟩, fun z => absurd (by decide) z⟩, fun z => absurd (by decide) z⟩, fun z => absurd (by decide) z⟩
      refine w_M_settingOf 3 σ1 _ ⟨t_vp (n := 3) rfl (by decide), fo.int ?_⟩
      rintro x σ4 ⟨ex, es4⟩
      rw [ex, es4]
      exact ⟨_, rfl, by rw [show (3 : Int32).toNatClampNeg = 3 from rfl, f1], rfl⟩
    · subst q
      refine ⟨σ 169 4, f_A_look 4 σ _ ⟨fun z => absurd z (by decide), fun _ => ⟨fun _ => ⟨fun _ => an_ hN.tic, fun z => absurd rfl z⟩, fun z => absurd (by decide) z⟩⟩, fun σ2 e2 => ?_⟩
      refine w_M_look 4 σ2 _ (fun σ1 e1 => (c_isInX (L := 0) (H := 3) rfl rfl 4 σ1).int ?_)
      obtain ⟨f1, -⟩ := told1 e2 e1
      rintro x3 σ3 ⟨hx3, es3⟩
      rw [es3, h4, h5]
      refine ⟨fun _ => ?_, fun z => absurd (hx3.b.2.mp z) (by decide)⟩
      exact ⟨fun z => absurd rfl z, fun _ => ⟨v4, an_ (by rw [f1])⟩⟩
    · subst q
      refine ⟨rb, f_A_look 5 σ _ ⟨fun z => absurd z (by decide), fun _ => ⟨fun _ => ⟨fun z => absurd z (by decide), fun _ => ⟨fun _ => anC (d_B_howMany σ _ b1), fun z => absurd rfl z⟩⟩, fun z => absurd (by decide) z⟩⟩, fun σ2 e2 => ?_⟩
      refine w_M_look 5 σ2 _ (fun σ1 e1 => (c_isInX (L := 0) (H := 3) rfl rfl 5 σ1).int ?_)
      obtain ⟨f1, -⟩ := told1 e2 e1
      rintro x3 σ3 ⟨hx3, es3⟩
      rw [es3, h4, h5]
      refine ⟨fun _ => ?_, fun z => absurd (hx3.b.2.mp z) (by decide)⟩
      exact ⟨fun _ => ⟨fun z => absurd rfl z, fun _ => anM (w_M_blocks σ1 _ (b2 σ1 f1))⟩, fun z => absurd (by decide) z⟩
    · subst q
      refine ⟨nI (cnZ (σ 169) 0 + cnZ (σ 169) 1), f_A_look 6 σ _ ⟨fun z => absurd z (by decide), fun _ => ⟨fun _ => ⟨fun z => absurd z (by decide), fun _ => ⟨fun z => absurd z (by decide), fun _ => ⟨fun _ => (nw0 (e_inZone2 0 ht.s)).int (by
        rintro x2 σ1 ⟨ex2, es⟩
        rw [es]
        refine (nw0 (e_inZone2 1 ht.s)).int ?_
        rintro x4 σ3 ⟨ex4, es3⟩
        exact an_ (t_nI (n := cnZ (σ 169) 0 + cnZ (σ 169) 1) (by rw [t_add ex2 ex4 (by omega) (by omega)]; omega))), fun z => absurd rfl z⟩⟩⟩, fun z => absurd (by decide) z⟩⟩, fun σ2 e2 => ?_⟩
      refine w_M_look 6 σ2 _ (fun σ1 e1 => (c_isInX (L := 0) (H := 3) rfl rfl 6 σ1).int ?_)
      obtain ⟨f1, -⟩ := told1 e2 e1
      rintro x3 σ3 ⟨hx3, es3⟩
      rw [es3, h4, h5]
      refine ⟨fun _ => ?_, fun z => absurd (hx3.b.2.mp z) (by decide)⟩
      exact ⟨fun _ => ⟨fun _ => ⟨fun z => absurd rfl z, fun _ => (c_framesOf2 0 σ1).int (by
        rintro x17 σ16 ⟨ex17, es16⟩
        rw [es16]
        refine (c_framesOf2 1 σ1).int ?_
        rintro x19 σ18 ⟨ex19, es18⟩
        rw [f1] at ex17 ex19
        refine ⟨by decide, an_ (t_nI ?_)⟩
        have es : (x17 + x19).toInt = ((32 * (cnZ (σ 169) 0 + cnZ (σ 169) 1) : Nat) : Int) := by
          rw [t_add ex17 ex19 (by omega) (by omega)]
          omega
        rw [t_div es (d := 32) rfl (by decide), Nat.mul_div_cancel_left _ (by decide)])⟩, fun z => absurd (by decide) z⟩, fun z => absurd (by decide) z⟩
    · subst q
      refine ⟨r2, f_A_look 7 σ _ ⟨fun z => absurd z (by decide), fun _ => ⟨fun _ => ⟨fun z => absurd z (by decide), fun _ => ⟨fun z => absurd z (by decide), fun _ => ⟨fun z => absurd z (by decide), fun _ => ⟨fun _ => bitsC (f_R_bitsIn2 σ _ (p21 : xE xF m_R_bitsIn 10 [.ref 2, .int 0, .ref 2, .int 8, .int 0, .null] [] σ _)), fun z => absurd rfl z⟩⟩⟩⟩, fun z => absurd (by decide) z⟩⟩, fun σ2 e2 => ?_⟩
      refine w_M_look 7 σ2 _ (fun σ1 e1 => (c_isInX (L := 0) (H := 3) rfl rfl 7 σ1).int ?_)
      obtain ⟨f1, -⟩ := told1 e2 e1
      rintro x3 σ3 ⟨hx3, es3⟩
      rw [es3, h4, h5]
      refine ⟨fun _ => ?_, fun z => absurd (hx3.b.2.mp z) (by decide)⟩
      refine ⟨fun _ => ⟨fun _ => ⟨fun _ => (c_isInX (L := 7) (H := 10) rfl rfl 7 σ1).int ?_, fun z => absurd (by decide) z⟩, fun z => absurd (by decide) z⟩, fun z => absurd (by decide) z⟩
      rintro x5 σ5 ⟨hx5, es5⟩
      rw [es5]
      exact ⟨fun z => absurd (by decide) (hx5.b.1.mp z), fun _ => anM (w_M_framesIn 1 σ1 _ (p22 σ1 f1))⟩
    · subst q
      refine ⟨r3, f_A_look 8 σ _ ⟨fun z => absurd z (by decide), fun _ => ⟨fun _ => ⟨fun z => absurd z (by decide), fun _ => ⟨fun z => absurd z (by decide), fun _ => ⟨fun z => absurd z (by decide), fun _ => ⟨fun z => absurd z (by decide), fun _ => ⟨fun _ => bitsC (f_R_bitsIn3 σ _ (p31 : xE xF m_R_bitsIn 10 [.ref 3, .int 0, .ref 3, .int 8, .int 0, .null] [] σ _)), fun z => absurd rfl z⟩⟩⟩⟩⟩, fun z => absurd (by decide) z⟩⟩, fun σ2 e2 => ?_⟩
      refine w_M_look 8 σ2 _ (fun σ1 e1 => (c_isInX (L := 0) (H := 3) rfl rfl 8 σ1).int ?_)
      obtain ⟨f1, -⟩ := told1 e2 e1
      rintro x3 σ3 ⟨hx3, es3⟩
      rw [es3, h4, h5]
      refine ⟨fun _ => ?_, fun z => absurd (hx3.b.2.mp z) (by decide)⟩
      refine ⟨fun _ => ⟨fun _ => ⟨fun _ => (c_isInX (L := 7) (H := 10) rfl rfl 8 σ1).int ?_, fun z => absurd (by decide) z⟩, fun z => absurd (by decide) z⟩, fun z => absurd (by decide) z⟩
      rintro x5 σ5 ⟨hx5, es5⟩
      rw [es5]
      exact ⟨fun z => absurd (by decide) (hx5.b.1.mp z), fun _ => anM (w_M_framesIn 2 σ1 _ (p32 σ1 f1))⟩
    · subst q
      refine ⟨r4, f_A_look 9 σ _ ⟨fun z => absurd z (by decide), fun _ => ⟨fun _ => ⟨fun z => absurd z (by decide), fun _ => ⟨fun z => absurd z (by decide), fun _ => ⟨fun z => absurd z (by decide), fun _ => ⟨fun z => absurd z (by decide), fun _ => ⟨fun z => absurd z (by decide), fun _ => ⟨fun _ => bitsC (f_R_bitsIn4 σ _ (p41 : xE xF m_R_bitsIn 10 [.ref 4, .int 0, .ref 4, .int 8, .int 0, .null] [] σ _)), fun z => absurd rfl z⟩⟩⟩⟩⟩⟩, fun z => absurd (by decide) z⟩⟩, fun σ2 e2 => ?_⟩
      refine w_M_look 9 σ2 _ (fun σ1 e1 => (c_isInX (L := 0) (H := 3) rfl rfl 9 σ1).int ?_)
      obtain ⟨f1, -⟩ := told1 e2 e1
      rintro x3 σ3 ⟨hx3, es3⟩
      rw [es3, h4, h5]
      refine ⟨fun _ => ?_, fun z => absurd (hx3.b.2.mp z) (by decide)⟩
      refine ⟨fun _ => ⟨fun _ => ⟨fun _ => (c_isInX (L := 7) (H := 10) rfl rfl 9 σ1).int ?_, fun z => absurd (by decide) z⟩, fun z => absurd (by decide) z⟩, fun z => absurd (by decide) z⟩
      rintro x5 σ5 ⟨hx5, es5⟩
      rw [es5]
      exact ⟨fun z => absurd (by decide) (hx5.b.1.mp z), fun _ => anM (w_M_framesIn 3 σ1 _ (p42 σ1 f1))⟩
    · subst q
      refine ⟨r5, f_A_look 10 σ _ ⟨fun z => absurd z (by decide), fun _ => ⟨fun _ => ⟨fun z => absurd z (by decide), fun _ => ⟨fun z => absurd z (by decide), fun _ => ⟨fun z => absurd z (by decide), fun _ => ⟨fun z => absurd z (by decide), fun _ => ⟨fun z => absurd z (by decide), fun _ => ⟨fun z => absurd z (by decide), fun _ => ⟨fun _ => bitsC (f_R_bitsIn5 σ _ (p51 : xE xF m_R_bitsIn 10 [.ref 5, .int 0, .ref 5, .int 8, .int 0, .null] [] σ _)), fun z => absurd rfl z⟩⟩⟩⟩⟩⟩⟩, fun z => absurd (by decide) z⟩⟩, fun σ2 e2 => ?_⟩
      refine w_M_look 10 σ2 _ (fun σ1 e1 => (c_isInX (L := 0) (H := 3) rfl rfl 10 σ1).int ?_)
      obtain ⟨f1, -⟩ := told1 e2 e1
      rintro x3 σ3 ⟨hx3, es3⟩
      rw [es3, h4, h5]
      refine ⟨fun _ => ?_, fun z => absurd (hx3.b.2.mp z) (by decide)⟩
      refine ⟨fun _ => ⟨fun _ => ⟨fun _ => (c_isInX (L := 7) (H := 10) rfl rfl 10 σ1).int ?_, fun z => absurd (by decide) z⟩, fun z => absurd (by decide) z⟩, fun z => absurd (by decide) z⟩
      rintro x5 σ5 ⟨hx5, es5⟩
      rw [es5]
      exact ⟨fun z => absurd (by decide) (hx5.b.1.mp z), fun _ => anM (w_M_framesIn 4 σ1 _ (p52 σ1 f1))⟩
    · subst q
      refine ⟨rw', f_A_look 11 σ _ ⟨fun z => absurd z (by decide), fun _ => ⟨fun _ => ⟨fun z => absurd z (by decide), fun _ => ⟨fun z => absurd z (by decide), fun _ => ⟨fun z => absurd z (by decide), fun _ => ⟨fun z => absurd z (by decide), fun _ => ⟨fun z => absurd z (by decide), fun _ => ⟨fun z => absurd z (by decide), fun _ => ⟨fun z => absurd z (by decide), fun _ => ⟨fun _ => anC (d_K_waitingSet σ _ w1), fun z => absurd rfl z⟩⟩⟩⟩⟩⟩⟩⟩, fun z => absurd (by decide) z⟩⟩, fun σ2 e2 => ?_⟩
      refine w_M_look 11 σ2 _ (fun σ1 e1 => (c_isInX (L := 0) (H := 3) rfl rfl 11 σ1).int ?_)
      obtain ⟨f1, -⟩ := told1 e2 e1
      rintro x3 σ3 ⟨hx3, es3⟩
      rw [es3, h4, h5]
      refine ⟨fun _ => ?_, fun z => absurd (hx3.b.2.mp z) (by decide)⟩
      refine ⟨fun _ => ⟨fun _ => ⟨fun _ => (c_isInX (L := 7) (H := 10) rfl rfl 11 σ1).int ?_, fun z => absurd (by decide) z⟩, fun z => absurd (by decide) z⟩, fun z => absurd (by decide) z⟩
      rintro x5 σ5 ⟨hx5, es5⟩
      rw [es5]
      exact ⟨fun _ => ⟨fun z => absurd rfl z, fun _ => anM (w_M_waiters σ1 _ (w2 σ1 f1))⟩, fun z => absurd (hx5.b.2.mp z) (by decide)⟩
    · subst q
      refine ⟨rg, f_A_look 12 σ _ ⟨fun z => absurd z (by decide), fun _ => ⟨fun _ => ⟨fun z => absurd z (by decide), fun _ => ⟨fun z => absurd z (by decide), fun _ => ⟨fun z => absurd z (by decide), fun _ => ⟨fun z => absurd z (by decide), fun _ => ⟨fun z => absurd z (by decide), fun _ => ⟨fun z => absurd z (by decide), fun _ => ⟨fun z => absurd z (by decide), fun _ => ⟨fun z => absurd z (by decide), fun _ => ⟨fun _ => anC (d_S_goingSet σ _ g1), fun z => absurd rfl z⟩⟩⟩⟩⟩⟩⟩⟩⟩, fun z => absurd (by decide) z⟩⟩, fun σ2 e2 => ?_⟩
      refine w_M_look 12 σ2 _ (fun σ1 e1 => (c_isInX (L := 0) (H := 3) rfl rfl 12 σ1).int ?_)
      obtain ⟨f1, -⟩ := told1 e2 e1
      rintro x3 σ3 ⟨hx3, es3⟩
      rw [es3, h4, h5]
      refine ⟨fun _ => ?_, fun z => absurd (hx3.b.2.mp z) (by decide)⟩
      refine ⟨fun _ => ⟨fun _ => ⟨fun _ => (c_isInX (L := 7) (H := 10) rfl rfl 12 σ1).int ?_, fun z => absurd (by decide) z⟩, fun z => absurd (by decide) z⟩, fun z => absurd (by decide) z⟩
      rintro x5 σ5 ⟨hx5, es5⟩
      rw [es5]
      exact ⟨fun _ => ⟨fun _ => ⟨fun z => absurd rfl z, fun _ => anM (w_M_goers σ1 _ (g2 σ1 f1))⟩, fun z => absurd (by decide) z⟩, fun z => absurd (hx5.b.2.mp z) (by decide)⟩
    · subst q
      refine ⟨σ 169 5, f_A_look 13 σ _ ⟨fun z => absurd z (by decide), fun _ => ⟨fun _ => ⟨fun z => absurd z (by decide), fun _ => ⟨fun z => absurd z (by decide), fun _ => ⟨fun z => absurd z (by decide), fun _ => ⟨fun z => absurd z (by decide), fun _ => ⟨fun z => absurd z (by decide), fun _ => ⟨fun z => absurd z (by decide), fun _ => ⟨fun z => absurd z (by decide), fun _ => ⟨fun z => absurd z (by decide), fun _ => ⟨fun z => absurd z (by decide), fun _ => ⟨fun _ => an_ hl.lns, fun z => absurd rfl z⟩⟩⟩⟩⟩⟩⟩⟩⟩⟩, fun z => absurd (by decide) z⟩⟩, fun σ2 e2 => ?_⟩
      refine w_M_look 13 σ2 _ (fun σ1 e1 => (c_isInX (L := 0) (H := 3) rfl rfl 13 σ1).int ?_)
      obtain ⟨f1, -⟩ := told1 e2 e1
      rintro x3 σ3 ⟨hx3, es3⟩
      rw [es3, h4, h5]
      refine ⟨fun _ => ?_, fun z => absurd (hx3.b.2.mp z) (by decide)⟩
      refine ⟨fun _ => ⟨fun _ => ⟨fun _ => (c_isInX (L := 7) (H := 10) rfl rfl 13 σ1).int ?_, fun z => absurd (by decide) z⟩, fun z => absurd (by decide) z⟩, fun z => absurd (by decide) z⟩
      rintro x5 σ5 ⟨hx5, es5⟩
      rw [es5]
      exact ⟨fun _ => ⟨fun _ => ⟨fun _ => ⟨fun z => absurd rfl z, fun _ => ⟨v5, an_ (by rw [f1])⟩⟩, fun z => absurd (by decide) z⟩, fun z => absurd (by decide) z⟩, fun z => absurd (hx5.b.2.mp z) (by decide)⟩
    · subst q
      refine ⟨nI (100 * cnZ (σ 169) 1 / cnZ (σ 169) 0), f_A_look 14 σ _ ⟨fun z => absurd z (by decide), fun _ => ⟨fun _ => ⟨fun z => absurd z (by decide), fun _ => ⟨fun z => absurd z (by decide), fun _ => ⟨fun z => absurd z (by decide), fun _ => ⟨fun z => absurd z (by decide), fun _ => ⟨fun z => absurd z (by decide), fun _ => ⟨fun z => absurd z (by decide), fun _ => ⟨fun z => absurd z (by decide), fun _ => ⟨fun z => absurd z (by decide), fun _ => ⟨fun z => absurd z (by decide), fun _ => ⟨fun z => absurd z (by decide), fun _ => ⟨fun _ => mbn, fun z => absurd rfl z⟩⟩⟩⟩⟩⟩⟩⟩⟩⟩⟩, fun z => absurd (by decide) z⟩⟩, fun σ2 e2 => ?_⟩
      refine w_M_look 14 σ2 _ (fun σ1 e1 => (c_isInX (L := 0) (H := 3) rfl rfl 14 σ1).int ?_)
      obtain ⟨f1, -⟩ := told1 e2 e1
      rintro x3 σ3 ⟨hx3, es3⟩
      rw [es3, h4, h5]
      refine ⟨fun _ => ?_, fun z => absurd (hx3.b.2.mp z) (by decide)⟩
      refine ⟨fun _ => ⟨fun _ => ⟨fun _ => (c_isInX (L := 7) (H := 10) rfl rfl 14 σ1).int ?_, fun z => absurd (by decide) z⟩, fun z => absurd (by decide) z⟩, fun z => absurd (by decide) z⟩
      rintro x5 σ5 ⟨hx5, es5⟩
      rw [es5]
      exact ⟨fun _ => ⟨fun _ => ⟨fun _ => ⟨fun _ => ⟨fun z => absurd rfl z, fun _ => (c_framesOf2 1 σ1).int (by
        rintro x7 σ6 ⟨ex7, es6⟩
        rw [es6]
        refine (c_framesOf2 0 σ1).int ?_
        rintro x9 σ8 ⟨ex9, es8⟩
        rw [f1] at ex7 ex9
        refine ⟨fun z => ?_, an_ (t_nI ?_)⟩
        · rw [z] at ex9
          have ex9 : (0 : Int) = _ := ex9
          omega
        · have em : (100 * x7).toInt = ((32 * (100 * cnZ (σ 169) 1) : Nat) : Int) := by
            rw [t_mul (x := 100) rfl ex7 (by omega) (by omega)]
            omega
          rw [t_div em ex9 (by omega), Nat.mul_div_mul_left _ _ (by decide)])⟩, fun z => absurd (by decide) z⟩, fun z => absurd (by decide) z⟩, fun z => absurd (by decide) z⟩, fun z => absurd (hx5.b.2.mp z) (by decide)⟩
  · refine ⟨-1, f_A_look a1 σ _ ⟨fun _ => ⟨fun z => absurd (by rw [z]; decide) k1, fun _ => ⟨fun z => absurd (by rw [z]; decide) k1, fun _ => ⟨fun z => absurd (by rw [z]; decide) k1, fun _ => ⟨fun z => absurd (by rw [z]; decide) k1, fun _ => ⟨fun z => absurd (by rw [z]; decide) k1, fun _ => ⟨fun z => absurd (by rw [z]; decide) k1, fun _ => ⟨fun z => absurd (by rw [z]; decide) k1, fun _ => ⟨fun z => absurd (by rw [z]; decide) k1, fun _ => ⟨fun z => absurd (by rw [z]; decide) k1, fun _ => ⟨fun z => absurd (by rw [z]; decide) k1, fun _ => ⟨fun z => absurd (by rw [z]; decide) k1, fun _ => an_ rfl⟩⟩⟩⟩⟩⟩⟩⟩⟩⟩⟩, fun n0 => ⟨fun _ => ⟨fun z => absurd (by rw [z]; decide) k1, fun _ => ⟨fun z => absurd (by rw [z]; decide) k1, fun _ => ⟨fun z => absurd (by rw [z]; decide) k1, fun _ => ⟨fun z => absurd (by rw [z]; decide) k1, fun _ => ⟨fun z => absurd (by rw [z]; decide) k1, fun _ => ⟨fun z => absurd (by rw [z]; decide) k1, fun _ => ⟨fun z => absurd (by rw [z]; decide) k1, fun _ => ⟨fun z => absurd (by rw [z]; decide) k1, fun _ => ⟨fun z => absurd (by rw [z]; decide) k1, fun _ => ⟨fun z => absurd (by rw [z]; decide) k1, fun _ => ⟨fun z => absurd (by rw [z]; decide) k1, fun _ => an_ rfl⟩⟩⟩⟩⟩⟩⟩⟩⟩⟩⟩, fun n4 => ?_⟩⟩, fun σ2 e2 => ?_⟩
    · rw [t_lt] at n0
      rw [t_le] at n4
      have n0 : ¬ a1.toInt < 0 := n0
      have n4 : ¬ 4 ≤ a1.toInt := n4
      omega
    · refine w_M_look a1 σ2 _ (fun σ1 e1 => (c_isInX (L := 0) (H := 3) rfl rfl a1 σ1).int ?_)
      rintro x3 σ3 ⟨hx3, es3⟩
      rw [es3]
      refine ⟨fun _ => ⟨fun _ => ⟨fun _ => ⟨fun _ => (c_isInX (L := 7) (H := 10) rfl rfl a1 σ1).int ?_, fun z => absurd (by rw [Classical.not_not.mp z]; decide) k1⟩, fun z => absurd (by rw [Classical.not_not.mp z]; decide) k1⟩, fun z => absurd (by rw [Classical.not_not.mp z]; decide) k1⟩, fun z => absurd (by have := hx3.b.2.mp z; omega) k1⟩
      rintro x5 σ5 ⟨hx5, es5⟩
      rw [es5]
      exact ⟨fun _ => ⟨fun _ => ⟨fun _ => ⟨fun _ => ⟨fun _ => an_ rfl, fun z => absurd (by rw [Classical.not_not.mp z]; decide) k1⟩, fun z => absurd (by rw [Classical.not_not.mp z]; decide) k1⟩, fun z => absurd (by rw [Classical.not_not.mp z]; decide) k1⟩, fun z => absurd (by rw [Classical.not_not.mp z]; decide) k1⟩, fun z => absurd (by have := hx5.b.2.mp z; omega) k1⟩
theorem ce_look {B : Nat} (a1 : Int32) (σ : sm_S) (hB : B < 1500000000) (h : LR B σ) : two (fun x y => x = y) j_A_look j_M_look [.ref 42, .int a1] [.ref 168, .int a1] B σ := by
  have h2 := h
  obtain ⟨hL, ⟨N, hN, ht⟩, -⟩ := h2
  exact CLk h (a_lookQ a1 σ h.1.1) (fun σ1 q => m_look a1 σ1 hB q.2.1) (fun σ1 q => by
    obtain ⟨N, hN, hj⟩ := (lw_bs q.2.1).1
    exact qU (as := [.ref 0, .int a1]) rfl (k_look (N := N) a1 (sh rM σ1) hj)) (asM := [.ref 0, .int a1]) rfl (ky_look a1 σ ht.1 ht.2.1 h.1.1.1)
