/-! ===== the model: who wants something waits, or does it ===== -/
theorem jr_wait {v v' : Nat → Int32} {n m a o L : Nat} (hn : n < 96) (hm : m < 6) (hj : jr v) (h6 : v (786 + 16 * n + 6) ≠ 0) (hw : v (2322 + 6 * m + 1) = 0) (ho : (v (786 + 16 * n + 2)).toInt = o) (ha : a < 2 ^ o) (hL : (v (786 + 16 * n + 9)).toInt = L)
    (e1 : (v' (2322 + 6 * m + 1)).toInt = ((n + 1 : Nat) : Int)) (e3 : (v' (2322 + 6 * m + 3)).toInt = a) (e9 : (v' (786 + 16 * n + 9)).toInt = ((L + 1 : Nat) : Int)) (e10 : (v' (786 + 16 * n + (10 + L))).toInt = m)
    (e : ∀ i, 786 ≤ i → i < 2422 → (i < 2322 + 6 * m + 1 ∨ 2322 + 6 * m + 5 ≤ i) → i ≠ 786 + 16 * n + 9 → i ≠ 786 + 16 * n + (10 + L) → v' i = v i) : jr v' ∧ L < 6 := by
  obtain ⟨j1, j2, j3, j4, s, hs, z1, z2⟩ := hj
  have hL6 : L < 6 := by
    obtain ⟨L2, o2, h1, h2, h3, h4, h5, h6'⟩ := j2 n hn
    have : L2 = L := by rw [hL] at h1; omega
    subst this
    have hp := php 6 (L2 + 1) (fun k => if k < L2 then (v (786 + 16 * n + (10 + k))).toNatClampNeg else m) (fun k hk => by
      show (if k < L2 then (v (786 + 16 * n + (10 + k))).toNatClampNeg else m) < 6
      split
      · next hlt =>
        obtain ⟨t, a2, g1, g2, -⟩ := h5 k hlt
        rw [t_nat g2]
        exact g1
      · exact hm) (fun k k2 hkk hk2 => by
      show (if k < L2 then (v (786 + 16 * n + (10 + k))).toNatClampNeg else m) ≠ (if k2 < L2 then (v (786 + 16 * n + (10 + k2))).toNatClampNeg else m)
      rw [if_pos (by omega)]
      obtain ⟨t, a2, g1, g2, g3, -⟩ := h5 k (by omega)
      rw [t_nat g2]
      split
      · next hlt =>
        obtain ⟨t2, a3, f1, f2, f3, -⟩ := h5 k2 hlt
        rw [t_nat f2]
        intro z
        exact h6' k k2 hkk hlt (t_inj (by rw [g2, f2, z]))
      · intro z
        rw [z, hw] at g3
        have g3 : (0 : Int) = ((n + 1 : Nat) : Int) := g3
        omega)
    omega
  refine ⟨⟨fun b hb => ?_, fun b hb => ?_, fun s hs => ?_, fun b hb => ?_, s, hs, ?_, ?_⟩, hL6⟩
  · obtain ⟨o2, fr, h1, h2, h3, h4, h5, h6', h7, h8⟩ := j1 b hb
    refine ⟨o2, fr, ?_, h2, ?_, h4, h5, ?_, ?_, ?_⟩ <;> rw [e _ (by omega) (by omega) (by omega) (by omega) (by omega)] <;> assumption
  · obtain ⟨L2, o2, h1, h2, h3, h4, h5, h6'⟩ := j2 b hb
    by_cases hbn : b = n
    · subst hbn
      have hLL : L2 = L := by rw [hL] at h1; omega
      have hoo : o2 = o := by rw [ho] at h3; omega
      subst hLL hoo
      refine ⟨L2 + 1, o2, e9, by omega, ?_, fun _ => ?_, fun k hk => ?_, fun k k2 hkk hk2 => ?_⟩
      · rw [e _ (by omega) (by omega) (by omega) (by omega) (by omega)]; exact h3
      · rw [e _ (by omega) (by omega) (by omega) (by omega) (by omega)]; exact h6
      · by_cases hkL : k = L2
        · subst hkL
          exact ⟨m, a, hm, e10, e1, e3, ha⟩
        · obtain ⟨t, a2, g1, g2, g3, g4, g5⟩ := h5 k (by omega)
          have htm : t ≠ m := fun z => by
            rw [z, hw] at g3
            have g3 : (0 : Int) = ((b + 1 : Nat) : Int) := g3
            omega
          refine ⟨t, a2, g1, ?_, ?_, ?_, g5⟩ <;> rw [e _ (by omega) (by omega) (by omega) (by omega) (by omega)] <;> assumption
      · by_cases hkL : k2 = L2
        · subst hkL
          obtain ⟨t, a2, g1, g2, g3, g4, g5⟩ := h5 k (by omega)
          rw [e (786 + 16 * b + (10 + k)) (by omega) (by omega) (by omega) (by omega) (by omega)]
          intro z
          rw [z, e10] at g2
          have htm : t = m := by omega
          rw [htm, hw] at g3
          have g3 : (0 : Int) = ((b + 1 : Nat) : Int) := g3
          omega
        · rw [e _ (by omega) (by omega) (by omega) (by omega) (by omega), e _ (by omega) (by omega) (by omega) (by omega) (by omega)]
          exact h6' k k2 hkk (by omega)
    · refine ⟨L2, o2, ?_, h2, ?_, ?_, fun k hk => ?_, fun k k2 hkk hk2 => ?_⟩
      · rw [e _ (by omega) (by omega) (by omega) (by omega) (by omega)]; exact h1
      · rw [e _ (by omega) (by omega) (by omega) (by omega) (by omega)]; exact h3
      · rw [e _ (by omega) (by omega) (by omega) (by omega) (by omega)]; exact h4
      · obtain ⟨t, a2, g1, g2, g3, g4, g5⟩ := h5 k hk
        have htm : t ≠ m := fun z => by
          rw [z, hw] at g3
          have g3 : (0 : Int) = ((b + 1 : Nat) : Int) := g3
          omega
        refine ⟨t, a2, g1, ?_, ?_, ?_, g5⟩ <;> rw [e _ (by omega) (by omega) (by omega) (by omega) (by omega)] <;> assumption
      · rw [e _ (by omega) (by omega) (by omega) (by omega) (by omega), e _ (by omega) (by omega) (by omega) (by omega) (by omega)]
        exact h6' k k2 hkk hk2
  · obtain ⟨st, pt, at', q, h1, h2, h3, h4, h5, h6', h7, h8, h9⟩ := j3 s hs
    refine ⟨st, pt, at', q, ?_, h2, ?_, h4, h5, ?_, h7, ?_, ?_⟩
    · rw [e _ (by omega) (by omega) (by omega) (by omega) (by omega)]; exact h1
    · rw [e _ (by omega) (by omega) (by omega) (by omega) (by omega)]; exact h3
    · rw [e _ (by omega) (by omega) (by omega) (by omega) (by omega)]; exact h6'
    · rw [e _ (by omega) (by omega) (by omega) (by omega) (by omega)]; exact h8
    · rcases h9 with h9 | ⟨b, g1, g2, g3, g4, fr, g5, g6⟩
      · exact Or.inl h9
      · refine Or.inr ⟨b, g1, g2, g3, ?_, fr, ?_, g6⟩ <;> rw [e _ (by omega) (by omega) (by omega) (by omega) (by omega)] <;> assumption
  · intro hb6
    rw [e _ (by omega) (by omega) (by omega) (by omega) (by omega)] at hb6
    obtain ⟨h1, fr, h2, h3, h4⟩ := j4 b hb hb6
    refine ⟨?_, fr, ?_, h3, ?_⟩ <;> rw [e _ (by omega) (by omega) (by omega) (by omega) (by omega)] <;> assumption
  · rw [e _ (by omega) (by omega) (by omega) (by omega) (by omega)]; exact z1
  · rw [e _ (by omega) (by omega) (by omega) (by omega) (by omega)]; exact z2
theorem c_wants {t b i : Int32} {n m a o N : Nat} (ht : t.toInt = m) (hm : m < 6) (hb : b.toInt = n) (hn : n < 96) (hi : i.toInt = a) (what x : Int32) (σ : sm_S) (ho : (σ 1 (786 + 16 * n + 2)).toInt = o) (ha : a < 2 ^ o) (hw0 : σ 1 (2322 + 6 * m + 1) = 0) (hj : jj N (σ 1)) (hN : N < 2000000000) :
    xC xM j_M_wants [.ref 0, .int t, .int b, .int what, .int i, .int x] σ (sm_I (fun _ σ' => ∃ w N', σ' = sm_set σ 1 w ∧ jj N' w ∧ N ≤ N' ∧ N' ≤ N + 1)) := by
  obtain ⟨o2, fr, b1, b2, b3, b4, b5, b6, ⟨q, b7, b8⟩, b9⟩ := hj.2.1.1 n hn
  have hoo : o2 = o := by rw [ho] at b1; omega
  subst hoo
  have hal := t_al (k := o2) (by omega) b5
  have hpw := t_pw (k := o2) (by omega)
  obtain ⟨L, oL, l1, l2, -⟩ := hj.2.1.2.1 n hn
  refine w_M_wants t b what i x σ _ ((c_isOnWay hb hn σ).int ?_)
  rintro y σ ⟨hy, rfl⟩
  refine ⟨fun hy1 => (c_taskAt t _).int ?_, fun _ => (c_does ht hm hb hn hi what x _ b3 (by omega) hj).void ?_⟩
  · have h6 : σ 1 (786 + 16 * n + 6) ≠ 0 := fun z => by
      rcases hy with ⟨rfl, -⟩ | ⟨-, h⟩
      · exact hy1 rfl
      · rw [z] at h; exact h (by decide)
    rintro _ σ ⟨rfl, rfl⟩
    obtain ⟨p1, q1⟩ := ixT (k := 1) (j := 1) ht rfl (by omega)
    obtain ⟨p2, q2⟩ := ixT (k := 2) (j := 2) ht rfl (by omega)
    obtain ⟨p3, q3⟩ := ixT (k := 3) (j := 3) ht rfl (by omega)
    obtain ⟨p4, q4⟩ := ixT (k := 4) (j := 4) ht rfl (by omega)
    rw [q1, q2, q3, q4]
    refine ⟨p1, fun σ5 e5 => ⟨p2, fun σ6 e6 => ⟨p3, fun σ7 e7 => ⟨p4, fun σ8 e8 => ?_⟩⟩⟩⟩
    have hv8 : ∃ v8, σ8 = sm_set σ 1 v8 ∧ v8 = upd (upd (upd (upd (σ 1) (2322 + 6 * m + 1) (b + 1)) (2322 + 6 * m + 2) what) (2322 + 6 * m + 3) i) (2322 + 6 * m + 4) x := by
      refine ⟨_, ?_, rfl⟩
      rw [e8, e7, e6, e5]
      simp only [s_at, s_ss]
    obtain ⟨v8, rfl, hv8⟩ := hv8
    have hb1 : (b + 1).toInt = ((n + 1 : Nat) : Int) := by
      rw [t_add hb (y := 1) rfl (by omega) (by omega)]
      omega
    have w1 : v8 (2322 + 6 * m + 1) = b + 1 := by rw [hv8, u_ne (by omega), u_ne (by omega), u_ne (by omega), u_at]
    have w3 : v8 (2322 + 6 * m + 3) = i := by rw [hv8, u_ne (by omega), u_at]
    have we : ∀ k, (k < 2322 + 6 * m + 1 ∨ 2322 + 6 * m + 5 ≤ k) → v8 k = σ 1 k := fun k hk => by rw [hv8, u_ne (by omega), u_ne (by omega), u_ne (by omega), u_ne (by omega)]
    clear hv8 e5 e6 e7 e8
    refine (c_of (k := 9) (j := 9) hb rfl (by omega) _).int ?_
    rintro y9 _ ⟨hy9, rfl⟩
    rw [s_at, we _ (by omega)] at hy9
    have hy9L : y9.toInt = L := by rw [hy9]; exact l1
    have hk : (10 + y9).toInt = ((10 + L : Nat) : Int) := by
      rw [t_add (x := 10) rfl hy9L (by omega) (by omega)]
      omega
    refine (c_lay hb hk (by omega) t _).void ?_
    rintro _ rfl
    refine (c_of (k := 9) (j := 9) hb rfl (by omega) _).int ?_
    rintro y9b _ ⟨hy9b, rfl⟩
    rw [s_at, s_at, u_ne (by omega), we _ (by omega)] at hy9b
    refine (c_lay (k := 9) (j := 9) hb rfl (by omega) _ _).void ?_
    rintro _ rfl
    simp only [s_at, s_ss]
    have hv9 : ∃ v9, v9 = upd (upd v8 (786 + 16 * n + (10 + L)) t) (786 + 16 * n + 9) (y9b + 1) := ⟨_, rfl⟩
    obtain ⟨v9, hv9⟩ := hv9
    rw [← hv9]
    have hjr := jr_wait (v := σ 1) (v' := v9) hn hm hj.2.1 h6 hw0 b1 ha l1 (by rw [hv9, u_ne (by omega), u_ne (by omega), w1]; exact hb1) (by rw [hv9, u_ne (by omega), u_ne (by omega), w3]; exact hi) (by
      rw [hv9, u_at, hy9b, t_add l1 (y := 1) rfl (by omega) (by omega)]
      omega) (by rw [hv9, u_ne (by omega), u_at]; exact ht) (fun k h1 h2 h3 h4 h5 => by rw [hv9, u_ne h4, u_ne h5, we k h3])
    have hj9 : jj N v9 := ⟨fr_cong (fun i h1 h2 => by rw [hv9, u_ne (by omega), u_ne (by omega), we _ (by omega)]) (fun b k hb hk => by rw [hv9, u_ne (by omega), u_ne (by omega), we _ (by omega)]) hj.1, hjr.1, by rw [hv9, u_ne (by omega), u_ne (by omega), we _ (by omega)]; exact hj.2.2⟩
    refine (c_writes _ _ _ _ (n := N) (by rw [s_at]; exact hj9.2.2)).void ?_
    rintro _ ⟨v10, rfl, f1, f2⟩
    rw [s_at] at f1 f2
    refine (c_counts (k := 8) (j := 8) rfl (by omega) 1 _).void ?_
    rintro _ rfl
    simp only [s_at, s_ss]
    refine ⟨_, rfl, _, N + 1, rfl, jj_low (by omega) (by omega) ⟨fr_cong (fun i h1 h2 => f2 _ (by omega) (by omega)) (fun b k hb hk => f2 _ (by omega) (by omega)) hj9.1, jr_cong (ceq.of (fun k h1 h2 => f2 k h2 (by omega))) hj9.2.1, ?_⟩, by omega, by omega⟩
    rw [f1, t_add hj9.2.2 (y := 1) rfl (by omega) (by omega)]
    omega
  · rintro _ ⟨w, rfl, hw, -⟩
    exact ⟨_, rfl, w, N, rfl, hw, Nat.le_refl N, by omega⟩
