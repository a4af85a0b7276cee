/-! ===== the model: ticks; what is thought ===== -/
def offs (v v' : Nat → Int32) : Prop := ∀ t, t < 8 → v (2358 + 8 * t) = 0 → v' (2358 + 8 * t) = 0
theorem offs.rf {v : Nat → Int32} : offs v v := fun _ _ h => h
theorem offs.tr {a b c : Nat → Int32} (h1 : offs a b) (h2 : offs b c) : offs a c := fun t ht h => h2 t ht (h1 t ht h)
theorem oth.offs {s : Nat} {v v' : Nat → Int32} (h : oth s v v') (hs : v (2358 + 8 * s) ≠ 0) : offs v v' := by
  intro t ht h0
  by_cases hts : t = s
  · subst hts; exact absurd h0 hs
  · rw [h _ (by omega) (by omega) (by omega)]; exact h0
theorem l_ticks : ∀ (d k N : Nat) (a1 : Int32) (σ : sm_S), a1.toInt = k → k + d = 8 → jj N (σ 1) → N + 3100 * d < 1790000000 → xE xM m_M_ticks 8 [.ref 0, .int a1] [] σ (sm_V (fun σ' => ∃ w N', σ' = sm_set σ 1 w ∧ jj N' w ∧ N ≤ N' ∧ N' ≤ N + 3100 * d ∧ offs (σ 1) w)) := by
  intro d
  induction d with
  | zero =>
    intro k N a1 σ h1 hk hj hN
    refine w_M_ticks_8 a1 σ _ ⟨fun _ => ⟨rfl, σ 1, N, s_id.symm, hj, Nat.le_refl N, by omega, offs.rf⟩, fun h => absurd ?_ h⟩
    rw [t_le, h1]
    show (8 : Int) ≤ _
    omega
  | succ d ih =>
    intro k N a1 σ h1 hk hj hN
    have h1' : (a1 + 1).toInt = ((k + 1 : Nat) : Int) := by
      rw [t_add h1 (y := 1) rfl (by omega) (by omega)]
      omega
    have hk8 : k < 8 := by omega
    refine w_M_ticks_8 a1 σ _ ⟨fun h => ?_, fun _ => (c_spanState h1 hk8 σ).int ?_⟩
    · rw [t_le, h1] at h
      have h : (8 : Int) ≤ k := h
      omega
    · rintro x2 σ ⟨hx2, rfl⟩
      refine ⟨fun _ => (c_spanState h1 hk8 _).int ?_, fun n2 => ?_⟩
      · rintro x4 σ ⟨hx4, rfl⟩
        refine ⟨fun _ => ?_, fun n4 => ?_⟩
        · refine (ih (k + 1) N (a1 + 1) _ h1' (by omega) hj (by omega)).mono ?_
          rintro r σ' ⟨rfl, w, N', rfl, hw, l1, l2, l3⟩
          exact ⟨rfl, w, N', rfl, hw, l1, by omega, l3⟩
        · have hst : σ 1 (2358 + 8 * k) = 3 := by rw [← hx4]; exact Classical.not_not.mp n4
          refine (c_moves (N := N) h1 hk8 (by omega) _ hj hst).void ?_
          rintro _ ⟨v, N1, rfl, hv, m1, m2, m3⟩
          refine (ih (k + 1) N1 (a1 + 1) _ h1' (by omega) (by rw [s_at]; exact hv) (by omega)).mono ?_
          rintro r σ' ⟨rfl, w, N', rfl, hw, l1, l2, l3⟩
          rw [s_at] at l3
          exact ⟨rfl, w, N', s_ss, hw, by omega, by omega, (m3.offs (by rw [hst]; decide)).tr l3⟩
      · have hst : σ 1 (2358 + 8 * k) = 2 := by rw [← hx2]; exact Classical.not_not.mp n2
        refine (c_shuts (N := N) h1 hk8 (by omega) _ hj hst).void ?_
        rintro _ ⟨v, N1, rfl, hv, m1, m2, m3⟩
        refine (ih (k + 1) N1 (a1 + 1) _ h1' (by omega) (by rw [s_at]; exact hv) (by omega)).mono ?_
        rintro r σ' ⟨rfl, w, N', rfl, hw, l1, l2, l3⟩
        rw [s_at] at l3
        exact ⟨rfl, w, N', s_ss, hw, by omega, by omega, (m3.offs (by rw [hst]; decide)).tr l3⟩
theorem c_ticks {N : Nat} (hN : N < 1780000000) (σ : sm_S) (hj : jj N (σ 1)) : xC xM j_M_ticks [.ref 0] σ (sm_V (fun σ' => ∃ w N', σ' = sm_set σ 1 w ∧ jj N' w ∧ N ≤ N' ∧ N' ≤ N + 24800 ∧ offs (σ 1) w)) := by
  refine w_M_ticks σ _ ((c_more (j := 4) rfl (by omega) 1 σ).void ?_)
  rintro _ rfl
  refine (l_ticks 8 0 N 0 _ rfl rfl (by rw [s_at]; exact jj_low (by omega) (by omega) hj) (by omega)).mono ?_
  rintro r σ' ⟨rfl, w, N', rfl, hw, l1, l2, l3⟩
  rw [s_at] at l3
  refine ⟨rfl, w, N', s_ss, hw, l1, by omega, fun t ht h0 => l3 t ht ?_⟩
  rw [u_ne (by omega)]; exact h0
theorem l_tick {a1 : Int32} {n : Nat} (h1 : a1.toInt = n) (hn : n ≤ 60) : ∀ (d k N : Nat) (a2 : Int32) (σ : sm_S), a2.toInt = k → k + d = n → jj N (σ 1) → N + 24800 * d < 1700000000 → xE xM m_M_tick 34 [.ref 0, .int a1, .int a2] [] σ (sm_I (fun _ σ' => ∃ w N', σ' = sm_set σ 1 w ∧ jj N' w ∧ N ≤ N' ∧ N' ≤ N + 24800 * d)) := by
  intro d
  induction d with
  | zero =>
    intro k N a2 σ h2 hk hj hN
    refine w_M_tick_34 a1 a2 σ _ ⟨fun _ => ⟨t_vp (n := 4) rfl (by omega), _, rfl, σ 1, N, s_id.symm, hj, Nat.le_refl N, by omega⟩, fun h => absurd (by rw [t_le, h1, h2]; omega) h⟩
  | succ d ih =>
    intro k N a2 σ h2 hk hj hN
    have h2' : (a2 + 1).toInt = ((k + 1 : Nat) : Int) := by
      rw [t_add h2 (y := 1) rfl (by omega) (by omega)]
      omega
    refine w_M_tick_34 a1 a2 σ _ ⟨fun h => ?_, fun _ => (c_ticks (N := N) (by omega) σ hj).void ?_⟩
    · rw [t_le, h1, h2] at h; omega
    · rintro _ ⟨v, N1, rfl, hv, m1, m2, -⟩
      refine (ih (k + 1) N1 (a2 + 1) _ h2' (by omega) (by rw [s_at]; exact hv) (by omega)).mono ?_
      rintro r σ' ⟨x, rfl, w, N', rfl, hw, l1, l2⟩
      exact ⟨x, rfl, w, N', s_ss, hw, by omega, by omega⟩
theorem c_tick {N : Nat} (a1 : Int32) (hN : N < 1600000000) (σ : sm_S) (hj : jj N (σ 1)) : xC xM j_M_tick [.ref 0, .int a1] σ (sm_I (pubX N 1488000 σ)) := by
  refine w_M_tick a1 σ _ (fun σ1 e1 => (c_isIn a1 1 60 σ1).int ?_)
  have hj1 : jj N (σ1 1) := by rw [e1, s_ne (by decide)]; exact hj
  rintro x3 σ1 ⟨hx3, rfl⟩
  refine ⟨fun _ => ⟨_, rfl, pub_X (pub_keep hj e1)⟩, fun n3 => ⟨t_vp (n := 4) rfl (by omega), fun _ => ?_, fun _ => ⟨_, rfl, pub_X (pub_keep hj e1)⟩⟩⟩
  obtain ⟨-, g1, g2⟩ := hx3.resolve_right (fun z => n3 z.1)
  have g1 : (1 : Int) ≤ a1.toInt := g1
  have g2 : a1.toInt ≤ (60 : Int) := g2
  obtain ⟨n, hn⟩ := t_of (x := a1) (by omega)
  refine (l_tick hn (by omega) n 0 N 0 _ rfl (by omega) hj1 (by omega)).mono ?_
  rintro r σ' ⟨x, rfl, w, N', rfl, hw, l1, l2⟩
  exact ⟨x, rfl, pub_X (pub_set e1 hw l1 (by omega))⟩
theorem jj_eq {v v' : Nat → Int32} {N : Nat} (h : ∀ i, i < 2662 → v' i = v i) (hj : jj N v) : jj N v' :=
  ⟨fr_cong (fun i _ _ => h i (by omega)) (fun b k hb hk => h _ (by omega)) hj.1, jr_cong (ceq.of (fun i _ _ => h i (by omega))) hj.2.1, by rw [h 5 (by omega)]; exact hj.2.2⟩
theorem l_thinks : ∀ (d k : Nat) (a1 : Int32) (σ : sm_S), a1.toInt = k → k + d = 2662 → xE xM m_M_thinks 2 [.ref 0, .int a1] [] σ (sm_V (fun σ' => ∃ f, σ' = sm_set σ 2 f ∧ (∀ i, k ≤ i → i < 2662 → f i = σ 1 i) ∧ ∀ i, i < k → f i = σ 2 i)) := by
  intro d
  induction d with
  | zero =>
    intro k a1 σ h1 hk
    refine w_M_thinks_2 a1 σ _ ⟨fun _ => ⟨rfl, σ 2, s_id.symm, fun i _ _ => by omega, fun _ _ => rfl⟩, fun h => absurd ?_ h⟩
    rw [t_le, h1]
    show (2662 : Int) ≤ _
    omega
  | succ d ih =>
    intro k a1 σ h1 hk
    have h1' : (a1 + 1).toInt = ((k + 1 : Nat) : Int) := by
      rw [t_add h1 (y := 1) rfl (by omega) (by omega)]
      omega
    refine w_M_thinks_2 a1 σ _ ⟨fun h => ?_, fun _ => ⟨t_vp h1 (by omega), t_vp h1 (by omega), fun σ1 e1 => ?_⟩⟩
    · rw [t_le, h1] at h
      have h : (2662 : Int) ≤ k := h
      omega
    · rw [t_nat h1] at e1
      refine (ih (k + 1) (a1 + 1) σ1 h1' (by omega)).mono ?_
      rintro r σ' ⟨rfl, f, rfl, g1, g2⟩
      subst e1
      refine ⟨rfl, f, s_ss, fun i i1 i2 => ?_, fun i i1 => ?_⟩
      · rcases Nat.lt_or_ge k i with hl | hl
        · rw [g1 i hl i2, s_ne (by decide)]
        · have hik : i = k := by omega
          rw [g2 i (by omega), s_at, hik, u_at]
      · rw [g2 i (by omega), s_at, u_ne (by omega)]
theorem c_thinks (σ : sm_S) : xC xM j_M_thinks [.ref 0] σ (sm_V (fun σ' => ∃ f, σ' = sm_set σ 2 f ∧ ∀ i, i < 2662 → f i = σ 1 i)) := by
  refine w_M_thinks σ _ ((l_thinks 2662 0 0 σ rfl rfl).mono ?_)
  rintro r σ' ⟨rfl, f, rfl, g1, -⟩
  exact ⟨rfl, f, rfl, fun i hi => g1 i (Nat.zero_le i) hi⟩
theorem l_forgets : ∀ (d k : Nat) (a1 : Int32) (σ : sm_S), a1.toInt = k → k + d = 2662 → xE xM m_M_forgets 2 [.ref 0, .int a1] [] σ (sm_V (fun σ' => ∃ f, σ' = sm_set σ 1 f ∧ (∀ i, k ≤ i → i < 2662 → f i = σ 2 i) ∧ ∀ i, i < k → f i = σ 1 i)) := by
  intro d
  induction d with
  | zero =>
    intro k a1 σ h1 hk
    refine w_M_forgets_2 a1 σ _ ⟨fun _ => ⟨rfl, σ 1, s_id.symm, fun i _ _ => by omega, fun _ _ => rfl⟩, fun h => absurd ?_ h⟩
    rw [t_le, h1]
    show (2662 : Int) ≤ _
    omega
  | succ d ih =>
    intro k a1 σ h1 hk
    have h1' : (a1 + 1).toInt = ((k + 1 : Nat) : Int) := by
      rw [t_add h1 (y := 1) rfl (by omega) (by omega)]
      omega
    refine w_M_forgets_2 a1 σ _ ⟨fun h => ?_, fun _ => ⟨t_vp h1 (by omega), t_vp h1 (by omega), fun σ1 e1 => ?_⟩⟩
    · rw [t_le, h1] at h
      have h : (2662 : Int) ≤ k := h
      omega
    · rw [t_nat h1] at e1
      refine (ih (k + 1) (a1 + 1) σ1 h1' (by omega)).mono ?_
      rintro r σ' ⟨rfl, f, rfl, g1, g2⟩
      subst e1
      refine ⟨rfl, f, s_ss, fun i i1 i2 => ?_, fun i i1 => ?_⟩
      · rcases Nat.lt_or_ge k i with hl | hl
        · rw [g1 i hl i2, s_ne (by decide)]
        · have hik : i = k := by omega
          rw [g2 i (by omega), s_at, hik, u_at]
      · rw [g2 i (by omega), s_at, u_ne (by omega)]
theorem c_forgets (σ : sm_S) : xC xM j_M_forgets [.ref 0] σ (sm_V (fun σ' => ∃ f, σ' = sm_set σ 1 f ∧ ∀ i, i < 2662 → f i = σ 2 i)) := by
  refine w_M_forgets σ _ ((l_forgets 2662 0 0 σ rfl rfl).mono ?_)
  rintro r σ' ⟨rfl, f, rfl, g1, -⟩
  exact ⟨rfl, f, rfl, fun i hi => g1 i (Nat.zero_le i) hi⟩
/-- behind what was thought, all is as it was -/
theorem pub_th {N D : Nat} {σ σ1 σ2 : sm_S} {x : Int32} {f g : Nat → Int32} (hj : jj N (σ 1)) (e1 : σ1 = sm_set σ 0 (upd (σ 0) 0 0)) (hf : ∀ i, i < 2662 → f i = σ 1 i) (h2 : σ2 2 = f) (h3 : ∀ k, k ≠ 1 → k ≠ 2 → k ≠ 4 → σ2 k = σ1 k) (hg : ∀ i, i < 2662 → g i = σ2 2 i) : pubX N D σ x (sm_set σ2 1 g) := by
  refine ⟨N, ?_, Nat.le_refl N, by omega, ?_, ?_, fun k hk => ?_⟩
  · rw [s_at]
    exact jj_eq (fun i hi => by rw [hg i hi, h2, hf i hi]) hj
  · rw [s_ne (by decide), h3 5 (by decide) (by decide) (by decide), e1, s_ne (by decide)]
  · rw [s_ne (by decide), h3 0 (by decide) (by decide) (by decide), e1, s_at, u_ne (by decide)]
  · rw [s_ne (by omega), h3 k (by omega) (by omega) (by omega), e1, s_ne (by omega)]
/-- a span goes away in thought -/
theorem l_goesAway {a1 : Int32} {s : Nat} (h1 : a1.toInt = s) (hs : s < 8) : ∀ (d k N : Nat) (a2 : Int32) (σ : sm_S), a2.toInt = k → k + d = 500 → jj N (σ 1) → N + 24800 * d < 1750000000 → xE xM m_M_goesAway 7 [.ref 0, .int a1, .int a2] [] σ (sm_I (fun _ σ' => ∃ w N', σ' = sm_set σ 1 w ∧ jj N' w ∧ N ≤ N' ∧ N' ≤ N + 24800 * d ∧ offs (σ 1) w)) := by
  intro d
  induction d with
  | zero =>
    intro k N a2 σ h2 hk hj hN
    refine w_M_goesAway_7 a1 a2 σ _ ⟨fun _ => ⟨_, rfl, σ 1, N, s_id.symm, hj, Nat.le_refl N, by omega, offs.rf⟩, fun h => absurd ?_ h⟩
    rw [t_le, h2]
    show (500 : Int) ≤ _
    omega
  | succ d ih =>
    intro k N a2 σ h2 hk hj hN
    have h2' : (a2 + 1).toInt = ((k + 1 : Nat) : Int) := by
      rw [t_add h2 (y := 1) rfl (by omega) (by omega)]
      omega
    refine w_M_goesAway_7 a1 a2 σ _ ⟨fun h => ?_, fun _ => (c_isGoing h1 hs σ).int ?_⟩
    · rw [t_le, h2] at h
      have h : (500 : Int) ≤ k := h
      omega
    · rintro x2 σ ⟨-, rfl⟩
      refine ⟨fun _ => ⟨_, rfl, σ 1, N, s_id.symm, hj, Nat.le_refl N, by omega, offs.rf⟩, fun _ => (c_ticks (N := N) (by omega) σ hj).void ?_⟩
      rintro _ ⟨v, N1, rfl, hv, m1, m2, m3⟩
      refine (ih (k + 1) N1 (a2 + 1) _ h2' (by omega) (by rw [s_at]; exact hv) (by omega)).mono ?_
      rintro r σ' ⟨x, rfl, w, N', rfl, hw, l1, l2, l3⟩
      rw [s_at] at l3
      exact ⟨x, rfl, w, N', s_ss, hw, by omega, by omega, m3.tr l3⟩
theorem c_goesAway {a1 : Int32} {s N : Nat} (h1 : a1.toInt = s) (hs : s < 8) (hN : N < 1730000000) (σ : sm_S) (hj : jj N (σ 1)) (hon : σ 1 (2358 + 8 * s) = 1) (hel : onElse (σ 1) 0 a1) : xC xM j_M_goesAway [.ref 0, .int a1] σ (sm_I (fun _ σ' => ∃ w N', σ' = sm_set σ 1 w ∧ jj N' w ∧ N ≤ N' ∧ N' ≤ N + 12400001 ∧ offs (σ 1) w)) := by
  refine w_M_goesAway a1 σ _ ((c_beginsToGo (N := N) h1 hs (by omega) σ hj hon hel).void ?_)
  rintro _ ⟨v, rfl, hv, -, ev⟩
  obtain ⟨d, hd⟩ : ∃ d, d = 500 := ⟨_, rfl⟩
  refine (l_goesAway h1 hs d 0 (N + 1) 0 _ rfl (by omega) (by rw [s_at]; exact hv) (by omega)).mono ?_
  rintro r σ' ⟨x, rfl, w, N', rfl, hw, l1, l2, l3⟩
  rw [s_at] at l3
  refine ⟨x, rfl, w, N', s_ss, hw, by omega, by omega, fun t ht h0 => l3 t ht ?_⟩
  by_cases hts : t = s
  · subst hts
    rw [hon] at h0
    exact absurd h0 (by decide)
  · rw [ev _ (by omega) (by omega) (by omega)]; exact h0
theorem c_would {N : Nat} (a1 a2 : Int32) (hN : N < 1600000000) (σ : sm_S) (hj : jj N (σ 1)) : xC xM j_M_would [.ref 0, .int a1, .int a2] σ (sm_I (pubX N 0 σ)) := by
  refine w_M_would a1 a2 σ _ (fun σ1 e1 => (c_canGo a1 σ1).int ?_)
  have hj1 : jj N (σ1 1) := by rw [e1, s_ne (by decide)]; exact hj
  rintro x3 σ1 ⟨hx3, rfl⟩
  refine ⟨fun _ => ⟨_, rfl, pub_X (pub_keep hj e1)⟩, fun n3 => (c_isIn _ _ _ _).int ?_⟩
  obtain ⟨-, s, hs, h1, hon, hel⟩ := hx3.resolve_left n3
  rintro x5 σ1 ⟨-, rfl⟩
  refine ⟨fun _ => (c_thinks _).void ?_, fun _ => ⟨_, rfl, pub_X (pub_keep hj e1)⟩⟩
  rintro _ ⟨f, rfl, hf⟩
  have v10 : vp_in (10 : Int32) 2662 := t_vp (n := 10) rfl (by omega)
  have v11 : vp_in (11 : Int32) 2662 := t_vp (n := 11) rfl (by omega)
  have v12 : vp_in (12 : Int32) 2662 := t_vp (n := 12) rfl (by omega)
  refine ⟨v10, v11, v12, (c_goesAway (N := N) h1 hs (by omega) _ (by rw [s_ne (by decide)]; exact hj1) (by rw [s_ne (by decide)]; exact hon) (by rw [s_ne (by decide)]; exact hel)).int ?_⟩
  rintro x8 _ ⟨w, N', rfl, hw, -⟩
  have hf' : ∀ i, i < 2662 → f i = σ 1 i := fun i hi => by rw [hf i hi, e1, s_ne (by decide)]
  have fin : ∀ y : Int32, xC xM j_M_forgets [.ref 0] (sm_set (sm_set σ1 2 f) 1 w) (sm_rv False (fun σ9 => sm_I (pubX N 0 σ) (some (.int y)) σ9)) := by
    intro y
    refine (c_forgets _).void ?_
    rintro _ ⟨g, rfl, hg⟩
    exact ⟨y, rfl, pub_th hj e1 hf' (by rw [s_ne (by decide), s_at]) (fun k k1 k2 _ => by rw [s_ne k1, s_ne k2]) hg⟩
  refine ⟨fun _ => ?_, fun _ => (c_spanState h1 hs _).int ?_⟩
  · repeat' (first | exact fin _ | exact v10 | exact v11 | exact v12 | intro _ | refine ⟨?_, ?_⟩)
  · rintro x18 σ18 ⟨-, e18⟩
    subst e18
    repeat' (first | exact fin _ | exact v10 | exact v11 | exact v12 | intro _ | refine ⟨?_, ?_⟩)
theorem l_movable {N : Nat} {σ0 σ1 : sm_S} {f : Nat → Int32} (hj0 : jj N (σ0 1)) (e1 : σ1 = sm_set σ0 0 (upd (σ0 0) 0 0)) (hf : ∀ i, i < 2662 → f i = σ0 1 i) : ∀ (m N1 : Nat) (a1 : Int32) (σ : sm_S), cn (fun s => decide (σ 1 (2358 + 8 * s) = 0)) 8 ≤ m → jj N1 (σ 1) → N1 + m < 2000000000 → σ 2 = f → (∀ k, k ≠ 1 → k ≠ 2 → k ≠ 4 → σ k = σ1 k) → xE xM m_M_movable 11 [.ref 0, .int a1] [] σ (sm_I (pubX N 0 σ0)) := by
  have fin : ∀ (y : Int32) (σ : sm_S), σ 2 = f → (∀ k, k ≠ 1 → k ≠ 2 → k ≠ 4 → σ k = σ1 k) → xC xM j_M_forgets [.ref 0] σ (sm_rv False (fun σ9 => sm_I (pubX N 0 σ0) (some (.int y)) σ9)) := by
    intro y σ h2 h3
    refine (c_forgets _).void ?_
    rintro _ ⟨g, rfl, hg⟩
    exact ⟨y, rfl, pub_th hj0 e1 hf h2 h3 hg⟩
  intro m
  induction m with
  | zero =>
    intro N1 a1 σ hm hj hN h2 h3
    refine w_M_movable_11 a1 σ _ ((c_turnOf σ).int ?_)
    rintro x2 σ ⟨hx2, rfl⟩
    refine ⟨fun _ => fin _ _ h2 h3, fun n2 => ?_⟩
    obtain ⟨s, k1, k2, k3⟩ := hx2.resolve_left n2
    have := cn_lt (P := fun s => decide (σ 1 (2358 + 8 * s) = 0)) (P' := fun _ => false) (j := s) (decide_eq_true k3) rfl (N := 8) k2 (fun i _ h => by cases h)
    omega
  | succ m ih =>
    intro N1 a1 σ hm hj hN h2 h3
    obtain ⟨x0, hT⟩ := sm_C.det (c_turnOf σ)
    refine w_M_movable_11 a1 σ _ (hT.int ?_)
    rintro x2 σ ⟨e2, -, rfl⟩
    refine ⟨fun _ => fin _ _ h2 h3, fun n2 => (c_zoneByRatio _).int ?_⟩
    rintro x5 σ ⟨-, rfl⟩
    refine ⟨fun _ => fin _ _ h2 h3, fun _ => hT.int ?_⟩
    rintro x8 σ ⟨e8, hx8, rfl⟩
    · obtain ⟨s, k1, k2, k3⟩ := hx8.resolve_left (fun z => n2 (by rw [e2, ← e8]; exact z))
      refine (c_comesOn (N := N1) k1 k2 (by omega) _ hj k3).int ?_
      rintro x10 _ ⟨w, rfl, hw, hws, ew⟩
      refine ih (N1 + 1) _ _ ?_ (by rw [s_at]; exact hw) (by omega) (by rw [s_ne (by decide)]; exact h2) (fun k c1 c2 c4 => by rw [s_ne c1]; exact h3 k c1 c2 c4)
      have := cn_lt (P := fun s => decide (σ 1 (2358 + 8 * s) = 0)) (P' := fun t => decide ((sm_set σ 1 w) 1 (2358 + 8 * t) = 0)) (j := s) (decide_eq_true k3) (by rw [s_at, hws]; rfl) (N := 8) k2 (fun i hi h => by
        rw [s_at] at h
        have h := of_decide_eq_true h
        refine decide_eq_true ?_
        by_cases his : i = s
        · subst his; exact k3
        · rw [← ew _ (by omega) (by omega) (by omega) (by omega)]; exact h)
      omega
theorem c_movable {N : Nat} (hN : N < 1600000000) (σ : sm_S) (hj : jj N (σ 1)) : xC xM j_M_movable [.ref 0] σ (sm_I (pubX N 0 σ)) := by
  refine w_M_movable σ _ (fun σ1 e1 => (c_thinks σ1).void ?_)
  have hj1 : jj N (σ1 1) := by rw [e1, s_ne (by decide)]; exact hj
  rintro _ ⟨f, rfl, hf⟩
  have hf' : ∀ i, i < 2662 → f i = σ 1 i := fun i hi => by rw [hf i hi, e1, s_ne (by decide)]
  exact l_movable hj e1 hf' 8 N 0 _ cn_bd (by rw [s_ne (by decide)]; exact hj1) (by omega) s_at (fun k _ k2 _ => s_ne k2)
theorem l_greatestIn15 {a1 : Int32} {s : Nat} (h1 : a1.toInt = s) (hs : s < 8) {σ : sm_S} {o : Nat} (ho : o ≤ 5) {a3 : Int32} (h3 : a3.toInt = o) (ihO : ∀ (a2 : Int32) (v4 : Value), xE xM m_M_greatestIn 4 [.ref 0, .int a1, .int a2, .int (a3 + 1), v4] [] σ (sm_I (fun _ σ' => σ' = σ))) : ∀ (d k : Nat) (a2 a4 : Int32), a4.toInt = ((32 * s + k : Nat) : Int) → 32 ≤ k + d → k < 64 → xE xM m_M_greatestIn 15 [.ref 0, .int a1, .int a2, .int a3, .int a4] [] σ (sm_I (fun _ σ' => σ' = σ)) := by
  have hpw := t_pw ho
  have h38 : (32 * a1 + 32).toInt = ((32 * s + 32 : Nat) : Int) := by
    rw [t_add (t_32s h1 hs) (y := 32) rfl (by omega) (by omega)]
    omega
  intro d
  induction d with
  | zero =>
    intro k a2 a4 h4 hk hk2
    exact w_M_greatestIn_15 a1 a2 a3 a4 σ _ ⟨fun _ => ihO _ _, fun h => absurd (by rw [t_le, h38, h4]; omega) h⟩
  | succ d ih =>
    intro k a2 a4 h4 hk hk2
    refine w_M_greatestIn_15 a1 a2 a3 a4 σ _ ⟨fun _ => ihO _ _, fun h => (c_areFree h4 (by omega) h3 ho σ).int ?_⟩
    rw [t_le, h38, h4] at h
    have h4' : (a4 + ((1 : Int32) <<< (a3 &&& 31))).toInt = ((32 * s + (k + 2 ^ o) : Nat) : Int) := by
      rw [t_add h4 (t_pow h3 (by omega)) (by omega) (by omega)]
      omega
    rintro x2 σ ⟨-, rfl⟩
    exact ⟨fun _ => ih (k + 2 ^ o) _ _ h4' (by omega) (by omega), fun _ => ih (k + 2 ^ o) _ _ h4' (by omega) (by omega)⟩
theorem l_greatestIn4 {a1 : Int32} {s : Nat} (h1 : a1.toInt = s) (hs : s < 8) (σ : sm_S) : ∀ (d o : Nat) (a2 a3 : Int32) (v4 : Value), a3.toInt = o → o + d = 6 → xE xM m_M_greatestIn 4 [.ref 0, .int a1, .int a2, .int a3, v4] [] σ (sm_I (fun _ σ' => σ' = σ)) := by
  intro d
  induction d with
  | zero =>
    intro o a2 a3 v4 h3 ho
    refine w_M_greatestIn_4 a1 a2 a3 v4 σ _ ⟨fun _ => ⟨_, rfl, rfl⟩, fun h => absurd ?_ h⟩
    rw [t_lt, h3]
    show (5 : Int) < _
    omega
  | succ d ih =>
    intro o a2 a3 v4 h3 ho
    have h3' : (a3 + 1).toInt = ((o + 1 : Nat) : Int) := by
      rw [t_add h3 (y := 1) rfl (by omega) (by omega)]
      omega
    exact w_M_greatestIn_4 a1 a2 a3 v4 σ _ ⟨fun _ => ⟨_, rfl, rfl⟩, fun _ => l_greatestIn15 h1 hs (by omega) h3 (fun b2 w4 => ih (o + 1) b2 (a3 + 1) w4 h3' (by omega)) 32 0 a2 _ (t_32s h1 hs) (by omega) (by omega)⟩
theorem c_greatestIn {a1 : Int32} {s : Nat} (h1 : a1.toInt = s) (hs : s < 8) (σ : sm_S) : xC xM j_M_greatestIn [.ref 0, .int a1] σ (sm_I (fun _ σ' => σ' = σ)) :=
  w_M_greatestIn a1 σ _ (l_greatestIn4 h1 hs σ 6 0 _ _ _ rfl rfl)
theorem c_pressed {N : Nat} (a1 : Int32) (σ : sm_S) (hj : jj N (σ 1)) : xC xM j_M_pressed [.ref 0, .int a1] σ (sm_I (pubX N 0 σ)) := by
  refine w_M_pressed a1 σ _ (fun σ1 e1 => (c_isSpan a1 σ1).int ?_)
  have hj1 : jj N (σ1 1) := by rw [e1, s_ne (by decide)]; exact hj
  rintro x3 σ1 ⟨hx3, rfl⟩
  refine ⟨fun _ => ⟨_, rfl, pub_X (pub_keep hj e1)⟩, fun n3 => ?_⟩
  obtain ⟨-, s, hs, h1⟩ := hx3.resolve_right (fun z => n3 z.1)
  refine (c_spanState h1 hs _).int ?_
  rintro x5 σ1 ⟨-, rfl⟩
  refine ⟨fun _ => (c_thinks _).void ?_, fun _ => ⟨_, rfl, pub_X (pub_keep hj e1)⟩⟩
  rintro _ ⟨f, rfl, hf⟩
  have hf' : ∀ i, i < 2662 → f i = σ 1 i := fun i hi => by rw [hf i hi, e1, s_ne (by decide)]
  refine (c_presses (N := N) h1 hs _ (by rw [s_ne (by decide)]; exact hj1)).int ?_
  rintro x8 σ7 ⟨-, k7⟩
  refine (c_greatestIn h1 hs _).int ?_
  rintro x10 σ7 rfl
  refine (c_forgets _).void ?_
  rintro _ ⟨g, rfl, hg⟩
  exact ⟨_, rfl, pub_th hj e1 hf' (by rw [k7 2 (by decide) (by decide), s_at]) (fun k k1 k2 k4 => by rw [k7 k k1 k4, s_ne k2]) hg⟩
theorem l_keepsWhy {a1 a2 : Int32} {n o t : Nat} (h1 : a1.toInt = n) (hn : n < 96) (σ : sm_S) (ho : (σ 1 (786 + 16 * n + 2)).toInt = o) (ho4 : o ≤ 4) (ht : (σ 1 (786 + 16 * n + 4)).toInt = t) (ht6 : t < 6) : ∀ (d k : Nat) (a3 : Int32), a3.toInt = k → 256 ≤ k + d → k < 300 → xE xM m_M_keepsWhy 36 [.ref 0, .int a1, .int a2, .int a3] [] σ (sm_I (fun _ σ' => σ' = σ)) := by
  have hpw := t_pw (k := o) (by omega)
  have hp16 : 2 ^ o ≤ 16 := by
    have := Nat.pow_le_pow_right (n := 2) (by decide) ho4
    omega
  intro d
  induction d with
  | zero =>
    intro k a3 h3 hk hk2
    refine w_M_keepsWhy_36 a1 a2 a3 σ _ ⟨fun _ => ⟨_, rfl, rfl⟩, fun h => absurd ?_ h⟩
    rw [t_le, h3]
    show (256 : Int) ≤ _
    omega
  | succ d ih =>
    intro k a3 h3 hk hk2
    refine w_M_keepsWhy_36 a1 a2 a3 σ _ ⟨fun _ => ⟨_, rfl, rfl⟩, fun h => ?_⟩
    rw [t_le, h3] at h
    have h : ¬ (256 : Int) ≤ k := h
    have next : xC xM j_M_longOf [.ref 0, .int a1] σ (sm_ri False (fun x4 σ3 => xE xM m_M_keepsWhy 36 [.ref 0, .int a1, .int a2, .int (a3 + x4)] [] σ3 (sm_I (fun _ σ' => σ' = σ)))) := by
      refine (c_longOf h1 hn σ).int ?_
      rintro x4 σ ⟨hx4, rfl⟩
      refine ih (k + 2 ^ o) _ ?_ (by omega) (by omega)
      rw [t_add h3 (y := ((2 ^ o : Nat) : Int)) (by rw [hx4]; exact t_pow ho (by omega)) (by omega) (by omega)]
      omega
    refine (c_spanOf h3 σ).int ?_
    rintro x2 σ ⟨hx2, rfl⟩
    refine ⟨fun _ => next, fun _ => (c_spanOf h3 _).int ?_⟩
    rintro x6 σ ⟨hx6, rfl⟩
    refine (c_spanState hx6 (by omega) _).int ?_
    rintro x8 σ ⟨-, rfl⟩
    refine ⟨fun _ => next, fun _ => (c_spanOf h3 _).int ?_⟩
    rintro x12 σ ⟨hx12, rfl⟩
    refine (c_of (k := 3) (j := 3) h1 rfl (by omega) _).int ?_
    rintro x14 σ ⟨-, rfl⟩
    refine (c_of (k := 4) (j := 4) h1 rfl (by omega) _).int ?_
    rintro x16 σ ⟨hx16, rfl⟩
    refine (c_rankOf (m := t) hx12 (by omega) (by rw [hx16]; exact ht) ht6 _).int ?_
    rintro x18 σ ⟨-, -, rfl⟩
    refine ⟨fun _ => next, fun _ => (c_of (k := 2) (j := 2) h1 rfl (by omega) _).int ?_⟩
    rintro x22 σ ⟨hx22, rfl⟩
    refine (c_areFree (k := o) h3 (by omega) (by rw [hx22]; exact ho) (by omega) _).int ?_
    rintro x24 σ ⟨-, rfl⟩
    exact ⟨fun _ => next, fun _ => ⟨_, rfl, rfl⟩⟩
theorem c_keepsWhy {a1 a2 : Int32} {n N : Nat} (h1 : a1.toInt = n) (hn : n < 96) (σ : sm_S) (hj : jj N (σ 1)) : xC xM j_M_keepsWhy [.ref 0, .int a1, .int a2] σ (sm_I (fun _ σ' => σ' = σ)) := by
  obtain ⟨o, fr, b1, b2, b3, b4, b5, ⟨t, b6, b6'⟩, -⟩ := hj.2.1.1 n hn
  refine w_M_keepsWhy a1 a2 σ _ ((c_of (k := 3) (j := 3) h1 rfl (by omega) σ).int ?_)
  rintro x2 σ ⟨-, rfl⟩
  refine ⟨fun _ => (c_isPinned h1 hn _).int ?_, fun _ => ⟨_, rfl, rfl⟩⟩
  rintro x4 σ ⟨-, rfl⟩
  refine ⟨fun _ => (c_of (k := 3) (j := 3) h1 rfl (by omega) _).int ?_, fun _ => ⟨_, rfl, rfl⟩⟩
  rintro x6 σ ⟨-, rfl⟩
  exact ⟨fun _ => l_keepsWhy h1 hn _ b1 b2 b6 b6' 256 0 0 rfl (by omega) (by omega), fun _ => ⟨_, rfl, rfl⟩⟩
theorem l_keeperAt {a1 a2 : Int32} {s N : Nat} (h1 : a1.toInt = s) (hs : s < 8) (σ : sm_S) (hj : jj N (σ 1)) : ∀ (d c fm : Nat) (a3 a4 : Int32), a3.toInt = c → c ≤ fm → fm ≤ 32 → 32 ≤ fm + d → fbk (σ 1) s fm a4 → xE xM m_M_keeperAt 10 [.ref 0, .int a1, .int a2, .int a3, .int a4] [] σ (sm_I (fun x σ' => (a2 = -1 → ∃ m : Nat, m ≤ 32 ∧ x.toInt = m) ∧ (a2 ≠ -1 → ∃ m : Nat, m ≤ 96 ∧ x.toInt = (m : Int) - 1) ∧ σ' = σ)) := by
  have stop : ∀ (a3 : Int32) (c : Nat), a3.toInt = c → c ≤ 32 → ((a2 ≠ -1 → sm_I (fun x σ' => (a2 = -1 → ∃ m : Nat, m ≤ 32 ∧ x.toInt = m) ∧ (a2 ≠ -1 → ∃ m : Nat, m ≤ 96 ∧ x.toInt = (m : Int) - 1) ∧ σ' = σ) (some (.int (-1))) σ) ∧ (¬ (a2 ≠ -1) → sm_I (fun x σ' => (a2 = -1 → ∃ m : Nat, m ≤ 32 ∧ x.toInt = m) ∧ (a2 ≠ -1 → ∃ m : Nat, m ≤ 96 ∧ x.toInt = (m : Int) - 1) ∧ σ' = σ) (some (.int a3)) σ)) := by
    intro a3 c h3 hc
    exact ⟨fun hne => ⟨_, rfl, fun z => absurd z hne, fun _ => ⟨0, by omega, rfl⟩, rfl⟩, fun he => ⟨_, rfl, fun _ => ⟨c, hc, h3⟩, fun z => absurd z he, rfl⟩⟩
  intro d
  induction d with
  | zero =>
    intro c fm a3 a4 h3 hc hfm hd hfb
    refine w_M_keeperAt_10 a1 a2 a3 a4 σ _ ⟨fun _ => stop a3 c h3 (by omega), fun h => ?_⟩
    obtain ⟨n, fr, k1, k2, k3, k4, k5, k6, k7, -⟩ := hfb.resolve_left h
    omega
  | succ d ih =>
    intro c fm a3 a4 h3 hc hfm hd hfb
    refine w_M_keeperAt_10 a1 a2 a3 a4 σ _ ⟨fun _ => stop a3 c h3 (by omega), fun h => ?_⟩
    obtain ⟨n, fr, k1, k2, k3, k4, k5, k6, k7, -⟩ := hfb.resolve_left h
    have next : ∀ (b3 : Int32) (c' : Nat), b3.toInt = c' → c' ≤ fm + 1 → xC xM j_M_frameOf [.ref 0, .int a4] σ (sm_ri False (fun x4 σ3 => (¬ (32 : Int32) = 0 ∧ xC xM j_M_firstBlock [.ref 0, .int a1, .int ((x4 - x4 / (32 : Int32) * (32 : Int32)) + 1)] σ3 (sm_ri False (fun x6 σ5 => xE xM m_M_keeperAt 10 [.ref 0, .int a1, .int a2, .int b3, .int x6] [] σ5 (sm_I (fun x σ' => (a2 = -1 → ∃ m : Nat, m ≤ 32 ∧ x.toInt = m) ∧ (a2 ≠ -1 → ∃ m : Nat, m ≤ 96 ∧ x.toInt = (m : Int) - 1) ∧ σ' = σ))))))) := by
      intro b3 c' hb3 hc'
      refine (c_frameOf k1 k2 σ).int ?_
      rintro x4 σ ⟨hx4, rfl⟩
      have hr : (x4 - x4 / 32 * 32).toInt = ((fr % 32 : Nat) : Int) := t_rem (d := 32) (by rw [hx4]; exact k4) rfl (by decide)
      have hr1 : (x4 - x4 / 32 * 32 + 1).toInt = ((fr % 32 + 1 : Nat) : Int) := by
        rw [t_add hr (y := 1) rfl (by omega) (by omega)]
        omega
      refine ⟨by decide, (c_firstBlock h1 hs hr1 (by omega) _ hj).int ?_⟩
      rintro x6 σ ⟨hx6, rfl⟩
      exact ih c' (fr % 32 + 1) b3 x6 hb3 (by omega) (by omega) (by omega) hx6
    refine (c_keepsWhy k1 k2 σ hj).int ?_
    rintro x2 σ rfl
    refine ⟨fun _ => ⟨fun _ => next (a3 + 1) (c + 1) ?_ (by omega), fun he => ⟨_, rfl, fun z => ?_, fun _ => ⟨n + 1, by omega, by rw [k1]; omega⟩, rfl⟩⟩, fun _ => next a3 c h3 (by omega)⟩
    · rw [t_add h3 (y := 1) rfl (by omega) (by omega)]
      omega
    · have he : a3 = a2 := Classical.not_not.mp he
      rw [he, z] at h3
      have h3 : (-1 : Int) = c := h3
      omega
theorem c_keeperAt {a1 a2 : Int32} {s N : Nat} (h1 : a1.toInt = s) (hs : s < 8) (σ : sm_S) (hj : jj N (σ 1)) : xC xM j_M_keeperAt [.ref 0, .int a1, .int a2] σ (sm_I (fun x σ' => (a2 = -1 → ∃ m : Nat, m ≤ 32 ∧ x.toInt = m) ∧ (a2 ≠ -1 → ∃ m : Nat, m ≤ 96 ∧ x.toInt = (m : Int) - 1) ∧ σ' = σ)) := by
  refine w_M_keeperAt a1 a2 σ _ ((c_firstBlock (fm := 0) h1 hs rfl (by omega) σ hj).int ?_)
  rintro x2 σ ⟨hx2, rfl⟩
  exact l_keeperAt h1 hs _ hj 32 0 0 0 x2 rfl (Nat.le_refl 0) (by omega) (by omega) hx2
theorem c_keeps {N : Nat} (a1 a2 a3 : Int32) (σ : sm_S) (hj : jj N (σ 1)) : xC xM j_M_keeps [.ref 0, .int a1, .int a2, .int a3] σ (sm_I (pubX N 0 σ)) := by
  refine w_M_keeps a1 a2 a3 σ _ (fun σ1 e1 => (c_isSpan a1 σ1).int ?_)
  have hj1 : jj N (σ1 1) := by rw [e1, s_ne (by decide)]; exact hj
  rintro x3 σ1 ⟨hx3, rfl⟩
  have keep : ∀ y : Int32, sm_I (pubX N 0 σ) (some (.int y)) σ1 := fun y => ⟨_, rfl, pub_X (pub_keep hj e1)⟩
  refine ⟨fun n3 => ?_, fun _ => keep _⟩
  obtain ⟨-, s, hs, h1⟩ := hx3.resolve_right (fun z => n3 z.1)
  refine ⟨fun n2 => ⟨fun _ => (c_keeperAt h1 hs _ hj1).int ?_, fun _ => ⟨fun z => absurd rfl z, fun _ => keep _⟩⟩, fun _ => (c_keeperAt h1 hs _ hj1).int ?_⟩
  · rintro x5 σ1 ⟨-, g2, rfl⟩
    refine ⟨fun n5 => ?_, fun _ => keep _⟩
    obtain ⟨m, m1, m2⟩ := g2 n2
    have hm0 : m ≠ 0 := fun z => n5 (t_inj (by rw [m2, z]; rfl))
    have hx5 : x5.toInt = ((m - 1 : Nat) : Int) := by rw [m2]; omega
    refine ⟨fun _ => ⟨fun _ => ⟨fun _ => ⟨fun _ => keep _, fun _ => (c_of (k := 5) (j := 5) hx5 rfl (by omega) _).int ?_⟩, fun _ => (c_of (k := 4) (j := 4) hx5 rfl (by omega) _).int ?_⟩, fun _ => (c_keepsWhy hx5 (by omega) _ hj1).int ?_⟩, fun _ => keep _⟩
    · rintro y σ1 ⟨-, rfl⟩; exact keep _
    · rintro y σ1 ⟨-, rfl⟩; exact keep _
    · rintro y σ1 rfl; exact keep _
  · rintro x19 σ1 ⟨-, -, rfl⟩
    exact keep _
theorem l_holders {a1 : Int32} {s N : Nat} (h1 : a1.toInt = s) (hs : s < 8) (σ : sm_S) (hj : jj N (σ 1)) : ∀ (d k : Nat) (a2 a3 : Int32) (v4 : Value), a3.toInt = k → 33 ≤ k + d → k ≤ 40 → xE xM m_M_holders 19 [.ref 0, .int a1, .int a2, .int a3, v4] [] σ (sm_I (fun _ σ' => σ' = σ)) := by
  intro d
  induction d with
  | zero =>
    intro k a2 a3 v4 h3 hk hk2
    refine w_M_holders_19 a1 a2 a3 v4 σ _ ((c_keeperAt h1 hs σ hj).int ?_)
    rintro x2 σ ⟨g1, -, rfl⟩
    obtain ⟨m, m1, m2⟩ := g1 rfl
    exact ⟨fun _ => ⟨_, rfl, rfl⟩, fun h => absurd (by rw [t_le, m2, h3]; omega) h⟩
  | succ d ih =>
    intro k a2 a3 v4 h3 hk hk2
    refine w_M_holders_19 a1 a2 a3 v4 σ _ ((c_keeperAt h1 hs σ hj).int ?_)
    rintro x2 σ ⟨g1, -, rfl⟩
    obtain ⟨m, m1, m2⟩ := g1 rfl
    refine ⟨fun _ => ⟨_, rfl, rfl⟩, fun h => (c_keeperAt h1 hs _ hj).int ?_⟩
    rw [t_le, m2, h3] at h
    have h3' : (a3 + 1).toInt = ((k + 1 : Nat) : Int) := by
      rw [t_add h3 (y := 1) rfl (by omega) (by omega)]
      omega
    rintro x4 σ ⟨-, g2, rfl⟩
    obtain ⟨m', n1, n2⟩ := g2 (fun z => by rw [z] at h3; have h3 : (-1 : Int) = k := h3; omega)
    refine (c_ofm (k := 3) (j := 3) n2 n1 rfl (by omega) _).int ?_
    rintro x6 σ ⟨-, rfl⟩
    refine ⟨fun _ => (c_ofm (k := 5) (j := 5) n2 n1 rfl (by omega) _).int ?_, fun _ => (c_ofm (k := 4) (j := 4) n2 n1 rfl (by omega) _).int ?_⟩
    · rintro x8 σ ⟨-, rfl⟩
      exact ih (k + 1) _ _ _ h3' (by omega) (by omega)
    · rintro x10 σ ⟨-, rfl⟩
      refine (c_ofm (k := 5) (j := 5) n2 n1 rfl (by omega) _).int ?_
      rintro x12 σ ⟨-, rfl⟩
      exact ih (k + 1) _ _ _ h3' (by omega) (by omega)
theorem c_holders {N : Nat} (a1 : Int32) (σ : sm_S) (hj : jj N (σ 1)) : xC xM j_M_holders [.ref 0, .int a1] σ (sm_I (pubX N 0 σ)) := by
  refine w_M_holders a1 σ _ (fun σ1 e1 => (c_isSpan a1 σ1).int ?_)
  have hj1 : jj N (σ1 1) := by rw [e1, s_ne (by decide)]; exact hj
  rintro x3 σ1 ⟨hx3, rfl⟩
  refine ⟨fun n3 => ?_, fun _ => ⟨_, rfl, pub_X (pub_keep hj e1)⟩⟩
  obtain ⟨-, s, hs, h1⟩ := hx3.resolve_right (fun z => n3 z.1)
  refine (l_holders h1 hs _ hj1 33 0 _ _ _ rfl (by omega) (by omega)).mono ?_
  rintro r σ' ⟨x, rfl, rfl⟩
  exact ⟨x, rfl, pub_X (pub_keep hj e1)⟩
