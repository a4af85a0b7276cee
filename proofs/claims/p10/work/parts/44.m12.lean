/-! ===== the model: those who waited do what they wanted ===== -/
theorem jr_woke {v : Nat → Int32} {n t : Nat} (hn : n < 96) (ht : t < 6) (hj : jr v) (h9 : v (786 + 16 * n + 9) = 0) (hw : (v (2322 + 6 * t + 1)).toInt = ((n + 1 : Nat) : Int) ∨ v (2322 + 6 * t + 1) = 0) : jr (upd v (2322 + 6 * t + 1) 0) := by
  obtain ⟨j1, j2, j3, j4, s, hs, z1, z2⟩ := hj
  have e : ∀ i, i ≠ 2322 + 6 * t + 1 → upd v (2322 + 6 * t + 1) 0 i = v i := fun i hi => u_ne hi
  refine ⟨fun b hb => bk_cong (fun k hk _ _ _ => e _ (by omega)) (j1 b hb), fun b hb => ?_, fun s hs => ?_, fun b hb => ?_, s, hs, ?_, ?_⟩
  · obtain ⟨L, o, h1, h2, h3, h4, h5, h6⟩ := j2 b hb
    refine ⟨L, o, ?_, h2, ?_, ?_, fun k hk => ?_, fun k m hkm hm => ?_⟩
    · rw [e _ (by omega)]; exact h1
    · rw [e _ (by omega)]; exact h3
    · rw [e _ (by omega)]; exact h4
    · obtain ⟨t2, a, g1, g2, g3, g4, g5⟩ := h5 k hk
      have hbn : b ≠ n := fun z => by
        subst z
        rw [h9] at h1
        have h1 : (0 : Int) = L := h1
        omega
      have htt : t2 ≠ t := fun z => by
        subst z
        rcases hw with hw | hw
        · rw [hw] at g3; omega
        · rw [hw] at g3
          have g3 : (0 : Int) = ((b + 1 : Nat) : Int) := g3
          omega
      refine ⟨t2, a, g1, ?_, ?_, ?_, g5⟩ <;> rw [e _ (by omega)] <;> assumption
    · rw [e _ (by omega), e _ (by omega)]; exact h6 k m hkm hm
  · obtain ⟨st, pt, at', q, h1, h2, h3, h4, h5, h6, h7, h8, h9'⟩ := j3 s hs
    refine ⟨st, pt, at', q, ?_, h2, ?_, h4, h5, ?_, h7, ?_, ?_⟩
    · rw [e _ (by omega)]; exact h1
    · rw [e _ (by omega)]; exact h3
    · rw [e _ (by omega)]; exact h6
    · rw [e _ (by omega)]; exact h8
    · rcases h9' with h9' | ⟨b, g1, g2, g3, g4, fr, g5, g6⟩
      · exact Or.inl h9'
      · refine Or.inr ⟨b, g1, g2, g3, ?_, fr, ?_, g6⟩ <;> rw [e _ (by omega)] <;> assumption
  · intro hb6
    rw [e _ (by omega)] at hb6
    obtain ⟨h1, fr, h2, h3, h4⟩ := j4 b hb hb6
    refine ⟨?_, fr, ?_, h3, ?_⟩ <;> rw [e _ (by omega)] <;> assumption
  · rw [e _ (by omega)]; exact z1
  · rw [e _ (by omega)]; exact z2
/-- writes, as a step of jj -/
theorem c_writes' {N : Nat} (a b c : Int32) (σ : sm_S) (hj : jj N (σ 1)) (hN : N < 2147483000) : xC xM j_M_writes [.ref 0, .int a, .int b, .int c] σ (sm_V (fun σ' => ∃ w, σ' = sm_set σ 1 w ∧ jj (N + 1) w ∧ ∀ i, i < 2422 → i ≠ 5 → w i = σ 1 i)) := by
  refine (c_writes a b c σ hj.2.2).mono ?_
  rintro r σ' ⟨rfl, w, rfl, w1, w2⟩
  refine ⟨rfl, w, rfl, ⟨fr_cong (fun i h1 h2 => w2 _ (by omega) (by omega)) (fun b k hb hk => w2 _ (by omega) (by omega)) hj.1, jr_cong (ceq.of (fun i h1 h2 => w2 i h2 (by omega))) hj.2.1, ?_⟩, w2⟩
  rw [w1, t_add hj.2.2 (y := 1) rfl (by omega) (by omega)]
  omega
def lineOf (v : Nat → Int32) (n o L : Nat) : Prop := ∀ j, j < L → ∃ t a : Nat, t < 6 ∧ (v (786 + 16 * n + (10 + j))).toInt = t ∧ (v (2322 + 6 * t + 3)).toInt = a ∧ a < 2 ^ o ∧ ((v (2322 + 6 * t + 1)).toInt = ((n + 1 : Nat) : Int) ∨ v (2322 + 6 * t + 1) = 0)
theorem l_wakes {a1 a2 : Int32} {n L fr o : Nat} (h1 : a1.toInt = n) (hn : n < 96) (h2 : a2.toInt = L) (hL : L ≤ 6) (hfo : fr + 2 ^ o ≤ 256) : ∀ (d k N : Nat) (a3 : Int32) (v4 v5 : Value) (σ : sm_S), a3.toInt = k → k + d = L → jj N (σ 1) → N + d < 2147480000 → σ 1 (786 + 16 * n + 9) = 0 → (σ 1 (786 + 16 * n + 1)).toInt = fr → lineOf (σ 1) n o L →
    xE xM m_M_wakes 18 [.ref 0, .int a1, .int a2, .int a3, v4, v5] [] σ (sm_V (fun σ' => ∃ w N', σ' = sm_set σ 1 w ∧ jj N' w ∧ N ≤ N' ∧ N' ≤ N + d ∧ (∀ i, 786 ≤ i → i < 2422 → (i < 2322 ∨ 2358 ≤ i) → i ≠ 786 + 16 * n + 5 → i ≠ 786 + 16 * n + 8 → w i = σ 1 i) ∧ fr_st (σ 1) w)) := by
  intro d
  induction d with
  | zero =>
    intro k N a3 v4 v5 σ h3 hk hj hN h9 hf hl
    refine w_M_wakes_18 a1 a2 a3 v4 v5 σ _ ⟨fun _ => ⟨rfl, σ 1, N, s_id.symm, hj, Nat.le_refl N, Nat.le_refl N, fun _ _ _ _ _ _ => rfl, fun _ _ => ⟨rfl, rfl⟩⟩, fun h => absurd ?_ h⟩
    rw [t_le, h2, h3]
    omega
  | succ d ih =>
    intro k N a3 v4 v5 σ h3 hk hj hN h9 hf hl
    have h3' : (a3 + 1).toInt = ((k + 1 : Nat) : Int) := by
      rw [t_add h3 (y := 1) rfl (by omega) (by omega)]
      omega
    have hk10 : (10 + a3).toInt = ((10 + k : Nat) : Int) := by
      rw [t_add (x := 10) rfl h3 (by omega) (by omega)]
      omega
    obtain ⟨t, a, ht6, hwho, hat, ha, hwt⟩ := hl k (by omega)
    refine w_M_wakes_18 a1 a2 a3 v4 v5 σ _ ⟨fun h => ?_, fun _ => (c_of h1 hk10 (by omega) σ).int ?_⟩
    · rw [t_le, h2, h3] at h
      omega
    · rintro y σ ⟨hy, rfl⟩
      have hyt : y.toInt = t := by rw [hy]; exact hwho
      refine (c_taskAt y _).int ?_
      rintro _ σ ⟨rfl, rfl⟩
      obtain ⟨p1, q1⟩ := ixT (k := 1) (j := 1) hyt rfl (by omega)
      obtain ⟨p2, q2⟩ := ixT (k := 2) (j := 2) hyt rfl (by omega)
      obtain ⟨p3, q3⟩ := ixT (k := 3) (j := 3) hyt rfl (by omega)
      obtain ⟨p4, q4⟩ := ixT (k := 4) (j := 4) hyt rfl (by omega)
      rw [q1, q2, q3, q4]
      refine ⟨p1, fun σ5 e5 => ⟨p2, p3, p4, ?_⟩⟩
      subst e5
      have hj1 : jj N (upd (σ 1) (2322 + 6 * t + 1) 0) := ⟨fr_cong (fun i h1 h2 => u_ne (by omega)) (fun b k hb hk => u_ne (by omega)) hj.1, jr_woke hn ht6 hj.2.1 h9 hwt, by rw [u_ne (by omega)]; exact hj.2.2⟩
      refine (c_does hyt ht6 h1 hn (a := a) (fr := fr) (by rw [s_at, u_ne (by omega)]; exact hat) _ _ _ (by rw [s_at, u_ne (by omega)]; exact hf) (by omega) (by rw [s_at]; exact hj1)).void ?_
      rintro _ ⟨w, rfl, hw, ew, fw⟩
      rw [s_at] at ew fw
      refine (c_writes' _ _ _ _ (by rw [s_at]; exact hw) (by omega)).void ?_
      rintro _ ⟨w2, rfl, hw2, ew2⟩
      rw [s_at] at ew2
      have hee : ∀ i, 786 ≤ i → i < 2422 → i ≠ 786 + 16 * n + 5 → i ≠ 786 + 16 * n + 8 → i ≠ 2322 + 6 * t + 5 → i ≠ 2322 + 6 * t + 1 → w2 i = σ 1 i := fun i g1 g2 g3 g4 g5 g6 => by rw [ew2 i g2 (by omega), ew i g1 g3 g4 g5, u_ne g6]
      have hw1 : w2 (2322 + 6 * t + 1) = 0 := by rw [ew2 _ (by omega) (by omega), ew _ (by omega) (by omega) (by omega) (by omega), u_at]
      simp only [s_ss]
      refine (ih (k + 1) (N + 1) (a3 + 1) _ _ _ h3' (by omega) (by rw [s_at]; exact hw2) (by omega) ?_ ?_ ?_).mono ?_
      · rw [s_at, hee _ (by omega) (by omega) (by omega) (by omega) (by omega) (by omega)]; exact h9
      · rw [s_at, hee _ (by omega) (by omega) (by omega) (by omega) (by omega) (by omega)]; exact hf
      · intro j hj'
        obtain ⟨t2, a2', g1, g2, g3, g4, g5⟩ := hl j hj'
        rw [s_at]
        refine ⟨t2, a2', g1, ?_, ?_, g4, ?_⟩
        · rw [hee _ (by omega) (by omega) (by omega) (by omega) (by omega) (by omega)]; exact g2
        · rw [hee _ (by omega) (by omega) (by omega) (by omega) (by omega) (by omega)]; exact g3
        · by_cases htt : t2 = t
          · subst htt; exact Or.inr hw1
          · rw [hee _ (by omega) (by omega) (by omega) (by omega) (by omega) (by omega)]; exact g5
      · rintro r σ' ⟨rfl, w3, N', rfl, hw3, l1, l2, ew3, fw3⟩
        rw [s_at] at ew3 fw3
        refine ⟨rfl, w3, N', s_ss, hw3, by omega, by omega, fun i g1 g2 g3 g4 g5 => ?_, fun g hg => ?_⟩
        · rw [ew3 i g1 g2 g3 g4 g5, hee i g1 g2 g4 g5 (by omega) (by omega)]
        · obtain ⟨f1, f2⟩ := fw3 g hg
          obtain ⟨f3, f4⟩ := fw g hg
          rw [f1, f2, ew2 _ (by omega) (by omega), ew2 _ (by omega) (by omega), f3, f4, u_ne (by omega), u_ne (by omega)]
          exact ⟨rfl, rfl⟩
theorem c_wakes {b : Int32} {n L fr o N : Nat} (hb : b.toInt = n) (hn : n < 96) (σ : sm_S) (hL : (σ 1 (786 + 16 * n + 9)).toInt = L) (hL6 : L ≤ 6) (hfr : (σ 1 (786 + 16 * n + 1)).toInt = fr) (hfo : fr + 2 ^ o ≤ 256) (hl : lineOf (σ 1) n o L) (hj : jj N (upd (σ 1) (786 + 16 * n + 9) 0)) (hN : N < 2147479000) :
    xC xM j_M_wakes [.ref 0, .int b] σ (sm_V (fun σ' => ∃ w N', σ' = sm_set σ 1 w ∧ jj N' w ∧ N ≤ N' ∧ N' ≤ N + 6 ∧ (∀ i, 786 ≤ i → i < 2422 → (i < 2322 ∨ 2358 ≤ i) → i ≠ 786 + 16 * n + 5 → i ≠ 786 + 16 * n + 8 → i ≠ 786 + 16 * n + 9 → w i = σ 1 i) ∧ fr_st (σ 1) w)) := by
  refine w_M_wakes b σ _ ((c_of (k := 9) (j := 9) hb rfl (by omega) σ).int ?_)
  rintro y σ ⟨hy, rfl⟩
  have hyL : y.toInt = L := by rw [hy]; exact hL
  refine (c_lay (k := 9) (j := 9) hb rfl (by omega) 0 _).void ?_
  rintro _ rfl
  refine (l_wakes hb hn hyL hL6 hfo L 0 N 0 _ _ _ rfl (by omega) (by rw [s_at]; exact hj) (by omega) (by rw [s_at, u_at]) (by rw [s_at, u_ne (by omega)]; exact hfr) ?_).mono ?_
  · intro j hj'
    obtain ⟨t, a, g1, g2, g3, g4, g5⟩ := hl j hj'
    rw [s_at]
    refine ⟨t, a, g1, ?_, ?_, g4, ?_⟩ <;> rw [u_ne (by omega)] <;> assumption
  · rintro r σ' ⟨rfl, w, N', rfl, hw, l1, l2, ew, fw⟩
    rw [s_at] at ew fw
    refine ⟨rfl, w, N', s_ss, hw, l1, by omega, fun i g1 g2 g3 g4 g5 g6 => ?_, fun g hg => ?_⟩
    · rw [ew i g1 g2 g3 g4 g5, u_ne g6]
    · obtain ⟨f1, f2⟩ := fw g hg
      rw [f1, f2, u_ne (by omega), u_ne (by omega)]
      exact ⟨rfl, rfl⟩
