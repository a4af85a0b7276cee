/-! ===== the model: blocks come ===== -/
def cn (P : Nat → Bool) : Nat → Nat
  | 0 => 0
  | n + 1 => cn P n + (if P n = true then 1 else 0)
theorem cn_le {P P' : Nat → Bool} : ∀ {N : Nat}, (∀ i, i < N → P' i = true → P i = true) → cn P' N ≤ cn P N
  | 0, _ => Nat.le_refl 0
  | n + 1, h => by
    have h1 := cn_le (N := n) (fun i hi => h i (by omega))
    have h2 := h n (by omega)
    simp only [cn]
    by_cases hp : P' n = true
    · rw [if_pos hp, if_pos (h2 hp)]; omega
    · rw [if_neg hp]; omega
theorem cn_lt {P P' : Nat → Bool} {j : Nat} (h1 : P j = true) (h2 : P' j = false) : ∀ {N : Nat}, j < N → (∀ i, i < N → P' i = true → P i = true) → cn P' N < cn P N
  | 0, hj, _ => absurd hj (Nat.not_lt_zero j)
  | n + 1, hj, h => by
    simp only [cn]
    by_cases hjn : j = n
    · subst hjn
      have h3 := cn_le (N := j) (P := P) (P' := P') (fun i hi => h i (by omega))
      rw [if_pos h1, if_neg (by rw [h2]; decide)]
      omega
    · have h3 := cn_lt h1 h2 (N := n) (by omega) (fun i hi => h i (by omega))
      have h4 := h n (by omega)
      by_cases hp : P' n = true
      · rw [if_pos hp, if_pos (h4 hp)]; omega
      · rw [if_neg hp]; omega
theorem cn_bd {P : Nat → Bool} : ∀ {N : Nat}, cn P N ≤ N
  | 0 => Nat.le_refl 0
  | n + 1 => by
    have := cn_bd (P := P) (N := n)
    simp only [cn]
    split <;> omega
theorem l_leastUsed (σ : sm_S) : ∀ (d k : Nat) (a1 a2 : Int32), a2.toInt = k → k + d = 96 → (a1 = -1 ∨ ∃ n : Nat, a1.toInt = n ∧ n < 96 ∧ σ 1 (786 + 16 * n + 0) = 1 ∧ σ 1 (786 + 16 * n + 3) = 2 ∧ σ 1 (786 + 16 * n + 6) ≤ 0) →
    xE xM m_M_leastUsed 4 [.ref 0, .int a1, .int a2] [] σ (sm_I (fun x σ' => (x = -1 ∨ ∃ n : Nat, x.toInt = n ∧ n < 96 ∧ σ 1 (786 + 16 * n + 0) = 1 ∧ σ 1 (786 + 16 * n + 3) = 2 ∧ σ 1 (786 + 16 * n + 6) ≤ 0) ∧ σ' = σ)) := by
  intro d
  induction d with
  | zero =>
    intro k a1 a2 h2 hk h1
    refine w_M_leastUsed_4 a1 a2 σ _ ⟨fun _ => ⟨_, rfl, h1, rfl⟩, fun h => absurd ?_ h⟩
    rw [t_le, h2]
    show (96 : Int) ≤ _
    omega
  | succ d ih =>
    intro k a1 a2 h2 hk h1
    have h2' : (a2 + 1).toInt = ((k + 1 : Nat) : Int) := by
      rw [t_add h2 (y := 1) rfl (by omega) (by omega)]
      omega
    have go := fun b1 hb => ih (k + 1) b1 (a2 + 1) h2' (by omega) hb
    refine w_M_leastUsed_4 a1 a2 σ _ ⟨fun h => ?_, fun _ => (c_of (k := 0) (j := 0) h2 rfl (by omega) σ).int ?_⟩
    · rw [t_le, h2] at h
      have h : (96 : Int) ≤ k := h
      omega
    · rintro _ _ ⟨rfl, rfl⟩
      refine ⟨fun _ => go _ h1, fun e0 => (c_of (k := 3) (j := 3) h2 rfl (by omega) _).int ?_⟩
      rintro _ _ ⟨rfl, rfl⟩
      refine ⟨fun _ => go _ h1, fun e3 => (c_isPinned h2 (by omega) _).int ?_⟩
      rintro x5 _ ⟨-, rfl⟩
      refine ⟨fun _ => go _ h1, fun _ => (c_isOnWay h2 (by omega) _).int ?_⟩
      rintro x6 _ ⟨hx6, rfl⟩
      refine ⟨fun _ => go _ h1, fun e6 => ?_⟩
      have h60 := hx6.resolve_right (fun z => e6 (by rw [z.1]; decide))
      have hgo := go a2 (Or.inr ⟨k, h2, by omega, Classical.not_not.mp e0, Classical.not_not.mp e3, h60.2⟩)
      refine ⟨fun _ => hgo, fun ha => (c_of (k := 8) (j := 8) h2 rfl (by omega) _).int ?_⟩
      rintro _ _ ⟨rfl, rfl⟩
      obtain ⟨n, hn1, hn2, -⟩ := h1.resolve_left ha
      refine (c_of (k := 8) (j := 8) hn1 rfl (by omega) _).int ?_
      rintro _ _ ⟨rfl, rfl⟩
      exact ⟨fun _ => go _ h1, fun _ => hgo⟩
theorem c_leastUsed (σ : sm_S) : xC xM j_M_leastUsed [.ref 0] σ (sm_I (fun x σ' => (x = -1 ∨ ∃ n : Nat, x.toInt = n ∧ n < 96 ∧ σ 1 (786 + 16 * n + 0) = 1 ∧ σ 1 (786 + 16 * n + 3) = 2 ∧ σ 1 (786 + 16 * n + 6) ≤ 0) ∧ σ' = σ)) :=
  w_M_leastUsed σ _ (l_leastUsed σ 96 0 (-1) 0 rfl rfl (Or.inl rfl))
/-- the frames of a block that comes -/
theorem l_comes73 {a1 a2 a3 a4 a5 a6 : Int32} {n o fr : Nat} (h1 : a1.toInt = n) (hn : n < 96) (h2 : a2.toInt = fr) (hfr : fr < 256) (h3 : a3.toInt = o) (ho : o ≤ 4) (hal : fr % 2 ^ o = 0) : ∀ (d k : Nat) (a7 : Int32) (σ : sm_S), a7.toInt = k → k + d = 2 ^ o → fr_ok (σ 1) → σ 1 (786 + 16 * n + 0) = 1 →
    xE xM m_M_comes 73 [.ref 0, .int a1, .int a2, .int a3, .int a4, .int a5, .int a6, .int a7] [] σ (sm_V (fun σ' => ∃ v, σ' = sm_set σ 1 v ∧ fr_ok v ∧ fr_eq (σ 1) v ∧ (∀ j, k ≤ j → j < 2 ^ o → v (18 + 3 * (fr + j)) = 3 ∧ (v (18 + 3 * (fr + j) + 1)).toInt = ((n + 1 : Nat) : Int)) ∧ ∀ i, (i < 18 + 3 * (fr + k) ∨ 18 + 3 * (fr + 2 ^ o) ≤ i) → v i = σ 1 i)) := by
  have hp := t_pw (k := o) (by omega)
  have hsp := t_al (k := o) (by omega) hal
  intro d
  induction d with
  | zero =>
    intro k a7 σ h7 hk hF hI
    refine w_M_comes_73 a1 a2 a3 a4 a5 a6 a7 σ _ ⟨fun _ => ⟨rfl, σ 1, s_id.symm, hF, fr_eq.rf, fun j h4 h5 => by omega, fun _ _ => rfl⟩, fun h => absurd ?_ h⟩
    rw [t_le, t_pow h3 (by omega), h7]
    omega
  | succ d ih =>
    intro k a7 σ h7 hk hF hI
    have h7' : (a7 + 1).toInt = ((k + 1 : Nat) : Int) := by
      rw [t_add h7 (y := 1) rfl (by omega) (by omega)]
      omega
    have hf3 := t_add h2 h7 (by omega) (by omega)
    rw [← Int.natCast_add] at hf3
    refine w_M_comes_73 a1 a2 a3 a4 a5 a6 a7 σ _ ⟨fun h => ?_, fun _ => (c_has' hf3 (by omega) h1 hn σ hF (fun _ => hI)).void ?_⟩
    · rw [t_le, t_pow h3 (by omega), h7] at h
      omega
    · rintro _ ⟨v, rfl, g1, g2, g3, g4, g5⟩
      refine (ih (k + 1) (a7 + 1) _ h7' (by omega) (by rw [s_at]; exact g1) (by rw [s_at, g5 _ (by omega)]; exact hI)).mono ?_
      rintro r σ' ⟨rfl, w, rfl, e1, e2, e3, e4⟩
      rw [s_at] at e2 e4
      refine ⟨rfl, w, s_ss, e1, g2.tr e2, fun j hj1 hj2 => ?_, fun i hi => ?_⟩
      · rcases Nat.lt_or_ge k j with hlt | hge
        · exact e3 j hlt hj2
        · have hjk : j = k := by omega
          subst hjk
          rw [e4 _ (by omega), e4 _ (by omega)]
          exact ⟨g3, g4⟩
      · rw [e4 i (by omega), g5 i (by omega)]
/-- fr_ok but for the block n -/
def fx_ok (v : Nat → Int32) (n : Nat) : Prop := (∀ f, f < 256 → 0 ≤ (v (18 + 3 * f + 1)).toInt ∧ (v (18 + 3 * f + 1)).toInt ≤ 96) ∧ ∀ m, m < 96 → m ≠ n → dn_ok v m
theorem fx_cong {v v' : Nat → Int32} {n : Nat} (h1 : ∀ i, 18 ≤ i → i < 786 + 16 * n ∨ 786 + 16 * n + 16 ≤ i → v' i = v i) (h : fx_ok v n) : fx_ok v' n := by
  refine ⟨fun f hf => ?_, fun m hm hmn => dn_cong (fun i g1 g2 => h1 i g1 (by omega)) (h1 _ (by omega) (by omega)) (h1 _ (by omega) (by omega)) (h.2 m hm hmn)⟩
  rw [h1 _ (by omega) (by omega)]
  exact h.1 f hf
theorem fx_fr {v : Nat → Int32} {n : Nat} (h : fx_ok v n) (h1 : v (786 + 16 * n + 0) = 1) : fr_ok v := by
  refine ⟨h.1, fun m hm => ?_⟩
  by_cases hmn : m = n
  · rw [hmn]; exact Or.inl h1
  · exact h.2 m hm hmn
theorem fr_fx {v : Nat → Int32} {n : Nat} (h : fr_ok v) : fx_ok v n := ⟨h.1, fun m hm _ => h.2 m hm⟩
/-- a block comes: its row, its frames -/
theorem l_comes3 {a1 a2 a3 a4 a5 a6 : Int32} {n o fr : Nat} (h1 : a1.toInt = n) (hn : n < 96) (h2 : a2.toInt = fr) (hfr : fr < 256) (h3 : a3.toInt = o) (ho : o ≤ 4) (hal : fr % 2 ^ o = 0) : ∀ (d k : Nat) (a7 : Int32) (σ : sm_S), a7.toInt = k → k + d = 16 → fx_ok (σ 1) n → (∀ j, j < k → σ 1 (786 + 16 * n + j) = 0) →
    xE xM m_M_comes 3 [.ref 0, .int a1, .int a2, .int a3, .int a4, .int a5, .int a6, .int a7] [] σ (sm_V (fun σ' => ∃ v, σ' = sm_set σ 1 v ∧ fr_ok v ∧ (∀ i, (i < 18 ∨ 786 ≤ i) → (i < 786 + 16 * n ∨ 786 + 16 * n + 16 ≤ i) → v i = σ 1 i) ∧
      (v (786 + 16 * n + 0) = 1 ∧ v (786 + 16 * n + 1) = a2 ∧ v (786 + 16 * n + 2) = a3 ∧ v (786 + 16 * n + 3) = a4 ∧ v (786 + 16 * n + 4) = a5 ∧ v (786 + 16 * n + 8) = a6 ∧ ∀ j, j < 16 → j ≠ 0 → j ≠ 1 → j ≠ 2 → j ≠ 3 → j ≠ 4 → j ≠ 8 → v (786 + 16 * n + j) = 0) ∧
      (∀ j, j < 2 ^ o → v (18 + 3 * (fr + j)) = 3 ∧ (v (18 + 3 * (fr + j) + 1)).toInt = ((n + 1 : Nat) : Int)) ∧ ∀ i, 18 ≤ i → i < 786 → (i < 18 + 3 * fr ∨ 18 + 3 * (fr + 2 ^ o) ≤ i) → v i = σ 1 i)) := by
  have hp := t_pw (k := o) (by omega)
  intro d
  induction d with
  | zero =>
    intro k a7 σ h7 hk hF h0
    refine w_M_comes_3 a1 a2 a3 a4 a5 a6 a7 σ _ ⟨fun _ => (c_lay (k := 0) (j := 0) h1 rfl (by omega) 1 σ).void ?_, fun h => absurd ?_ h⟩
    · rintro _ rfl
      refine (c_lay (k := 1) (j := 1) h1 rfl (by omega) a2 _).void ?_
      rintro _ rfl
      refine (c_lay (k := 2) (j := 2) h1 rfl (by omega) a3 _).void ?_
      rintro _ rfl
      refine (c_lay (k := 3) (j := 3) h1 rfl (by omega) a4 _).void ?_
      rintro _ rfl
      refine (c_lay (k := 4) (j := 4) h1 rfl (by omega) a5 _).void ?_
      rintro _ rfl
      refine (c_lay (k := 8) (j := 8) h1 rfl (by omega) a6 _).void ?_
      rintro _ rfl
      simp only [s_at, s_ss]
      refine (l_comes73 h1 hn h2 hfr h3 ho hal (2 ^ o) 0 0 _ rfl (by omega) ?_ ?_).mono ?_
      · rw [s_at]
        refine fx_fr (fx_cong (fun i g1 g2 => ?_) hF) ?_
        · rw [u_ne (by omega), u_ne (by omega), u_ne (by omega), u_ne (by omega), u_ne (by omega), u_ne (by omega)]
        · rw [u_ne (by omega), u_ne (by omega), u_ne (by omega), u_ne (by omega), u_ne (by omega), u_at]
      · rw [s_at, u_ne (by omega), u_ne (by omega), u_ne (by omega), u_ne (by omega), u_ne (by omega), u_at]
      · rintro r σ' ⟨rfl, v, rfl, e1, e2, e3, e4⟩
        rw [s_at] at e2 e4
        refine ⟨rfl, v, s_ss, e1, fun i hi hi2 => ?_, ⟨?_, ?_, ?_, ?_, ?_, ?_, fun j hj n0 n1 n2 n3 n4 n8 => ?_⟩, fun j hj => e3 j (Nat.zero_le j) hj, fun i hi1 hi2 hi3 => ?_⟩
        · rw [e2 i hi, u_ne (by omega), u_ne (by omega), u_ne (by omega), u_ne (by omega), u_ne (by omega), u_ne (by omega)]
        · rw [e2 _ (by omega), u_ne (by omega), u_ne (by omega), u_ne (by omega), u_ne (by omega), u_ne (by omega), u_at]
        · rw [e2 _ (by omega), u_ne (by omega), u_ne (by omega), u_ne (by omega), u_ne (by omega), u_at]
        · rw [e2 _ (by omega), u_ne (by omega), u_ne (by omega), u_ne (by omega), u_at]
        · rw [e2 _ (by omega), u_ne (by omega), u_ne (by omega), u_at]
        · rw [e2 _ (by omega), u_ne (by omega), u_at]
        · rw [e2 _ (by omega), u_at]
        · rw [e2 _ (by omega), u_ne (by omega), u_ne (by omega), u_ne (by omega), u_ne (by omega), u_ne (by omega), u_ne (by omega)]
          exact h0 j (by omega)
        · rw [e4 i (by omega), u_ne (by omega), u_ne (by omega), u_ne (by omega), u_ne (by omega), u_ne (by omega), u_ne (by omega)]
    · rw [t_le, h7]
      show (16 : Int) ≤ _
      omega
  | succ d ih =>
    intro k a7 σ h7 hk hF h0
    have h7' : (a7 + 1).toInt = ((k + 1 : Nat) : Int) := by
      rw [t_add h7 (y := 1) rfl (by omega) (by omega)]
      omega
    refine w_M_comes_3 a1 a2 a3 a4 a5 a6 a7 σ _ ⟨fun h => ?_, fun _ => (c_lay h1 h7 (by omega) 0 σ).void ?_⟩
    · rw [t_le, h7] at h
      have h : (16 : Int) ≤ k := h
      omega
    · rintro _ rfl
      refine (ih (k + 1) (a7 + 1) _ h7' (by omega) ?_ ?_).mono ?_
      · rw [s_at]
        exact fx_cong (fun i g1 g2 => u_ne (by omega)) hF
      · intro j hj
        rw [s_at]
        by_cases hjk : j = k
        · rw [hjk, u_at]
        · rw [u_ne (by omega)]
          exact h0 j (by omega)
      · rintro r σ' ⟨rfl, v, rfl, e1, e2, e3, e4, e5⟩
        rw [s_at] at e2 e5
        refine ⟨rfl, v, s_ss, e1, fun i hi hi2 => ?_, e3, e4, fun i hi1 hi2 hi3 => ?_⟩
        · rw [e2 i hi hi2, u_ne (by omega)]
        · rw [e5 i hi1 hi2 hi3, u_ne (by omega)]
/-- the block n has come, with order o, at frame fr, for task t -/
theorem jr_came {v v' : Nat → Int32} {n o fr t : Nat} (hn : n < 96) (hj : jr v) (h0 : v (786 + 16 * n + 0) = 0) (hoth : ∀ i, 786 ≤ i → i < 2422 → (i < 786 + 16 * n ∨ 786 + 16 * n + 16 ≤ i) → v' i = v i)
    (hfr : (v' (786 + 16 * n + 1)).toInt = fr) (hfr2 : fr < 256) (ho : (v' (786 + 16 * n + 2)).toInt = o) (ho2 : o ≤ 4) (hal : fr % 2 ^ o = 0) (ht : (v' (786 + 16 * n + 4)).toInt = t) (ht2 : t < 6) (hz : ∀ j, j < 16 → j ≠ 0 → j ≠ 1 → j ≠ 2 → j ≠ 3 → j ≠ 4 → j ≠ 8 → v' (786 + 16 * n + j) = 0) : jr v' := by
  obtain ⟨j1, j2, j3, j4, s, hs, z1, z2⟩ := hj
  have hn6 : v (786 + 16 * n + 6) = 0 := by
    rcases Classical.em (v (786 + 16 * n + 6) = 0) with h | h
    · exact h
    · have := (j4 n hn h).1
      rw [h0] at this
      exact absurd this (by decide)
  have eb : ∀ b k, b < 96 → b ≠ n → k < 16 → v' (786 + 16 * b + k) = v (786 + 16 * b + k) := fun b k hb hbn hk => hoth _ (by omega) (by omega) (by omega)
  have es : ∀ s k, s < 8 → k < 8 → v' (2358 + 8 * s + k) = v (2358 + 8 * s + k) := fun s k hs hk => hoth _ (by omega) (by omega) (by omega)
  have et : ∀ t k, t < 6 → k < 6 → v' (2322 + 6 * t + k) = v (2322 + 6 * t + k) := fun s k hs hk => hoth _ (by omega) (by omega) (by omega)
  have h6' : v' (786 + 16 * n + 6) = 0 := hz 6 (by decide) (by decide) (by decide) (by decide) (by decide) (by decide) (by decide)
  have h7' : v' (786 + 16 * n + 7) = 0 := hz 7 (by decide) (by decide) (by decide) (by decide) (by decide) (by decide) (by decide)
  have h9' : v' (786 + 16 * n + 9) = 0 := hz 9 (by decide) (by decide) (by decide) (by decide) (by decide) (by decide) (by decide)
  refine ⟨fun b hb => ?_, fun b hb => ?_, fun s hs => ?_, fun b hb => ?_, s, hs, ?_, ?_⟩
  · by_cases hbn : b = n
    · subst hbn
      exact ⟨o, fr, ho, ho2, hfr, hfr2, hal, ⟨t, ht, ht2⟩, ⟨0, by rw [h6']; rfl, Or.inl rfl⟩, by rw [h7']; decide⟩
    · exact bk_cong (fun k hk _ _ _ => eb b k hb hbn hk) (j1 b hb)
  · by_cases hbn : b = n
    · subst hbn
      exact ⟨0, o, by rw [h9']; rfl, by omega, ho, fun h => by omega, fun k hk => by omega, fun k m _ hm => by omega⟩
    · exact ln_cong (fun k hk _ _ _ => eb b k hb hbn hk) (fun t k ht hk => et t k ht (by omega)) (j2 b hb)
  · obtain ⟨st, pt, at', q, h1, h2, h3, h4, h5, h6, h7, h8, h9⟩ := j3 s hs
    refine ⟨st, pt, at', q, ?_, h2, ?_, h4, h5, ?_, h7, ?_, ?_⟩
    · rw [es s 0 hs (by omega)]; exact h1
    · rw [es s 2 hs (by omega)]; exact h3
    · rw [es s 5 hs (by omega)]; exact h6
    · rw [es s 6 hs (by omega)]; exact h8
    · rcases h9 with h9 | ⟨b, g1, g2, g3, g4, fr2, g5, g6⟩
      · exact Or.inl h9
      · have hbn : b ≠ n := fun z => by subst z; exact g4 hn6
        refine Or.inr ⟨b, g1, g2, g3, ?_, fr2, ?_, g6⟩
        · rw [eb b 6 g1 hbn (by omega)]; exact g4
        · rw [eb b 1 g1 hbn (by omega)]; exact g5
  · by_cases hbn : b = n
    · subst hbn
      exact fun z => absurd h6' z
    · intro hb6
      rw [eb b 6 hb hbn (by omega)] at hb6
      obtain ⟨h1, fr2, h2, h3, h4⟩ := j4 b hb hb6
      refine ⟨?_, fr2, ?_, h3, ?_⟩
      · rw [eb b 0 hb hbn (by omega)]; exact h1
      · rw [eb b 1 hb hbn (by omega)]; exact h2
      · rw [es _ 6 (by omega) (by omega)]; exact h4
  · rw [es s 0 hs (by omega)]; exact z1
  · rw [es s 1 hs (by omega)]; exact z2
theorem c_comes {a1 a2 a3 a4 a5 a6 : Int32} {n o fr t N : Nat} (h1 : a1.toInt = n) (hn : n < 96) (h2 : a2.toInt = fr) (hfr : fr < 256) (h3 : a3.toInt = o) (ho : o ≤ 4) (hal : fr % 2 ^ o = 0) (h5 : a5.toInt = t) (ht : t < 6) (σ : sm_S) (hj : jj N (σ 1)) (h0 : σ 1 (786 + 16 * n + 0) = 0) :
    xC xM j_M_comes [.ref 0, .int a1, .int a2, .int a3, .int a4, .int a5, .int a6] σ (sm_V (fun σ' => ∃ v, σ' = sm_set σ 1 v ∧ jj N v ∧ (∀ i, (i < 18 ∨ 786 ≤ i) → (i < 786 + 16 * n ∨ 786 + 16 * n + 16 ≤ i) → v i = σ 1 i) ∧
      (v (786 + 16 * n + 0) = 1 ∧ v (786 + 16 * n + 1) = a2 ∧ v (786 + 16 * n + 2) = a3 ∧ v (786 + 16 * n + 3) = a4) ∧
      (∀ j, j < 2 ^ o → v (18 + 3 * (fr + j)) = 3 ∧ (v (18 + 3 * (fr + j) + 1)).toInt = ((n + 1 : Nat) : Int)) ∧ ∀ i, 18 ≤ i → i < 786 → (i < 18 + 3 * fr ∨ 18 + 3 * (fr + 2 ^ o) ≤ i) → v i = σ 1 i)) := by
  obtain ⟨jF, jR, jN⟩ := hj
  refine w_M_comes a1 a2 a3 a4 a5 a6 σ _ ((l_comes3 h1 hn h2 hfr h3 ho hal 16 0 0 σ rfl rfl (fr_fx jF) (fun j hj => absurd hj (Nat.not_lt_zero j))).mono ?_)
  rintro r σ' ⟨rfl, v, rfl, e1, e2, ⟨r0, r1, r2, r3, r4, r8, rz⟩, e4, e5⟩
  refine ⟨rfl, v, rfl, ⟨e1, ?_, ?_⟩, e2, ⟨r0, r1, r2, r3⟩, e4, e5⟩
  · exact jr_came hn jR h0 (fun i hi1 _ hi2 => e2 i (Or.inr hi1) hi2) (by rw [r1]; exact h2) hfr (by rw [r2]; exact h3) ho hal (by rw [r4]; exact h5) ht rz
  · rw [e2 5 (by omega) (by omega)]; exact jN
