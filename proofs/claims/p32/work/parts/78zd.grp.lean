section
/-! ===== the simulation: what asks, keeps (the reference) ===== -/
def puQ (N D : Nat) (σ : sm_S) (x : Int32) (σ' : sm_S) : Prop := pubX N D σ x σ' ∧ ∀ i, i < 2662 → σ' 1 i = σ 1 i
theorem puQ_keep {N D : Nat} {σ σ1 : sm_S} {x : Int32} (hj : jj N (σ 1)) (e1 : σ1 = sm_set σ 0 (upd (σ 0) 0 0)) : puQ N D σ x σ1 := ⟨pub_X (pub_keep hj e1), fun i _ => by rw [e1, s_ne (by decide)]⟩
theorem puQ_th {N D : Nat} {σ σ1 σ2 : sm_S} {x : Int32} {f g : Nat → Int32} (hj : jj N (σ 1)) (e1 : σ1 = sm_set σ 0 (upd (σ 0) 0 0)) (hf : ∀ i, i < 2662 → f i = σ 1 i) (h2 : σ2 2 = f) (h3 : ∀ k, k ≠ 1 → k ≠ 2 → k ≠ 4 → σ2 k = σ1 k) (hg : ∀ i, i < 2662 → g i = σ2 2 i) : puQ N D σ x (sm_set σ2 1 g) := ⟨pub_th hj e1 hf h2 h3 hg, fun i hi => by rw [s_at, hg i hi, h2, hf i hi]⟩
theorem k_would {N : Nat} (a1 a2 : Int32) (hN : N < 1600000000) (σ : sm_S) (hj : jj N (σ 1)) : xC xM j_M_would [.ref 0, .int a1, .int a2] σ (sm_I (puQ N 0 σ)) := by
  refine w_M_would a1 a2 σ _ (fun σ1 e1 => (c_canGo a1 σ1).int ?_)
  have hj1 : jj N (σ1 1) := by rw [e1, s_ne (by decide)]; exact hj
  rintro x3 σ1 ⟨hx3, rfl⟩
  refine ⟨fun _ => ⟨_, rfl, puQ_keep hj e1⟩, fun n3 => (c_isIn _ _ _ _).int ?_⟩
  obtain ⟨-, s, hs, h1, hon, hel⟩ := hx3.resolve_left n3
  rintro x5 σ1 ⟨-, rfl⟩
  refine ⟨fun _ => (c_thinks _).void ?_, fun _ => ⟨_, rfl, puQ_keep hj e1⟩⟩
  rintro _ ⟨f, rfl, hf⟩
  have v10 : vp_in (10 : Int32) 2662 := t_vp (n := 10) rfl (by omega)
  have v11 : vp_in (11 : Int32) 2662 := t_vp (n := 11) rfl (by omega)
  have v12 : vp_in (12 : Int32) 2662 := t_vp (n := 12) rfl (by omega)
  refine ⟨v10, v11, v12, (c_goesAway (N := N) h1 hs (by omega) _ (by rw [s_ne (by decide)]; exact hj1) (by rw [s_ne (by decide)]; exact hon) (by rw [s_ne (by decide)]; exact hel)).int ?_⟩
  rintro x8 _ ⟨w, N', rfl, hw, -⟩
  have hf' : ∀ i, i < 2662 → f i = σ 1 i := fun i hi => by rw [hf i hi, e1, s_ne (by decide)]
  have fin : ∀ y : Int32, xC xM j_M_forgets [.ref 0] (sm_set (sm_set σ1 2 f) 1 w) (sm_rv False (fun σ9 => sm_I (puQ N 0 σ) (some (.int y)) σ9)) := by
    intro y
    refine (c_forgets _).void ?_
    rintro _ ⟨g, rfl, hg⟩
    exact ⟨y, rfl, puQ_th hj e1 hf' (by rw [s_ne (by decide), s_at]) (fun k k1 k2 _ => by rw [s_ne k1, s_ne k2]) hg⟩
  refine ⟨fun _ => ?_, fun _ => (c_spanState h1 hs _).int ?_⟩
  · repeat' (first | exact fin _ | exact v10 | exact v11 | exact v12 | intro _ | refine ⟨?_, ?_⟩)
  · rintro x18 σ18 ⟨-, e18⟩
    subst e18
    repeat' (first | exact fin _ | exact v10 | exact v11 | exact v12 | intro _ | refine ⟨?_, ?_⟩)
theorem l_movableQ {N : Nat} {σ0 σ1 : sm_S} {f : Nat → Int32} (hj0 : jj N (σ0 1)) (e1 : σ1 = sm_set σ0 0 (upd (σ0 0) 0 0)) (hf : ∀ i, i < 2662 → f i = σ0 1 i) : ∀ (m N1 : Nat) (a1 : Int32) (σ : sm_S), cn (fun s => decide (σ 1 (2358 + 8 * s) = 0)) 8 ≤ m → jj N1 (σ 1) → N1 + m < 2000000000 → σ 2 = f → (∀ k, k ≠ 1 → k ≠ 2 → k ≠ 4 → σ k = σ1 k) → xE xM m_M_movable 11 [.ref 0, .int a1] [] σ (sm_I (puQ N 0 σ0)) := by
  have fin : ∀ (y : Int32) (σ : sm_S), σ 2 = f → (∀ k, k ≠ 1 → k ≠ 2 → k ≠ 4 → σ k = σ1 k) → xC xM j_M_forgets [.ref 0] σ (sm_rv False (fun σ9 => sm_I (puQ N 0 σ0) (some (.int y)) σ9)) := by
    intro y σ h2 h3
    refine (c_forgets _).void ?_
    rintro _ ⟨g, rfl, hg⟩
    exact ⟨y, rfl, puQ_th hj0 e1 hf h2 h3 hg⟩
  intro m
  induction m with
  | zero =>
    intro N1 a1 σ hm hj hN h2 h3
    refine w_M_movable_11 a1 σ _ ((c_turnOf σ).int ?_)
    rintro x2 σ ⟨hx2, rfl⟩
    refine ⟨fun _ => fin _ _ h2 h3, fun n2 => ?_⟩
    obtain ⟨s, k1, k2, k3⟩ := hx2.resolve_left n2
    have := cn_lt (P := fun s => decide (σ 1 (2358 + 8 * s) = 0)) (P' := fun _ => false) (j := s) (decide_eq_true k3) rfl (N := 8) k2 (fun i _ h => by cases h)
    omega
  | succ m ih =>
    intro N1 a1 σ hm hj hN h2 h3
    obtain ⟨x0, hT⟩ := sm_C.det (c_turnOf σ)
    refine w_M_movable_11 a1 σ _ (hT.int ?_)
    rintro x2 σ ⟨e2, -, rfl⟩
    refine ⟨fun _ => fin _ _ h2 h3, fun n2 => (c_zoneByRatio _).int ?_⟩
    rintro x5 σ ⟨-, rfl⟩
    refine ⟨fun _ => fin _ _ h2 h3, fun _ => hT.int ?_⟩
    rintro x8 σ ⟨e8, hx8, rfl⟩
    · obtain ⟨s, k1, k2, k3⟩ := hx8.resolve_left (fun z => n2 (by rw [e2, ← e8]; exact z))
      refine (c_comesOn (N := N1) k1 k2 (by omega) _ hj k3).int ?_
      rintro x10 _ ⟨w, rfl, hw, hws, ew⟩
      refine ih (N1 + 1) _ _ ?_ (by rw [s_at]; exact hw) (by omega) (by rw [s_ne (by decide)]; exact h2) (fun k c1 c2 c4 => by rw [s_ne c1]; exact h3 k c1 c2 c4)
      have := cn_lt (P := fun s => decide (σ 1 (2358 + 8 * s) = 0)) (P' := fun t => decide ((sm_set σ 1 w) 1 (2358 + 8 * t) = 0)) (j := s) (decide_eq_true k3) (by rw [s_at, hws]; rfl) (N := 8) k2 (fun i hi h => by
        rw [s_at] at h
        have h := of_decide_eq_true h
        refine decide_eq_true ?_
        by_cases his : i = s
        · subst his; exact k3
        · rw [← ew _ (by omega) (by omega) (by omega) (by omega)]; exact h)
      omega
theorem k_movable {N : Nat} (hN : N < 1600000000) (σ : sm_S) (hj : jj N (σ 1)) : xC xM j_M_movable [.ref 0] σ (sm_I (puQ N 0 σ)) := by
  refine w_M_movable σ _ (fun σ1 e1 => (c_thinks σ1).void ?_)
  have hj1 : jj N (σ1 1) := by rw [e1, s_ne (by decide)]; exact hj
  rintro _ ⟨f, rfl, hf⟩
  have hf' : ∀ i, i < 2662 → f i = σ 1 i := fun i hi => by rw [hf i hi, e1, s_ne (by decide)]
  exact l_movableQ hj e1 hf' 8 N 0 _ cn_bd (by rw [s_ne (by decide)]; exact hj1) (by omega) s_at (fun k _ k2 _ => s_ne k2)
theorem k_pressed {N : Nat} (a1 : Int32) (σ : sm_S) (hj : jj N (σ 1)) : xC xM j_M_pressed [.ref 0, .int a1] σ (sm_I (puQ N 0 σ)) := by
  refine w_M_pressed a1 σ _ (fun σ1 e1 => (c_isSpan a1 σ1).int ?_)
  have hj1 : jj N (σ1 1) := by rw [e1, s_ne (by decide)]; exact hj
  rintro x3 σ1 ⟨hx3, rfl⟩
  refine ⟨fun _ => ⟨_, rfl, puQ_keep hj e1⟩, fun n3 => ?_⟩
  obtain ⟨-, s, hs, h1⟩ := hx3.resolve_right (fun z => n3 z.1)
  refine (c_spanState h1 hs _).int ?_
  rintro x5 σ1 ⟨-, rfl⟩
  refine ⟨fun _ => (c_thinks _).void ?_, fun _ => ⟨_, rfl, puQ_keep hj e1⟩⟩
  rintro _ ⟨f, rfl, hf⟩
  have hf' : ∀ i, i < 2662 → f i = σ 1 i := fun i hi => by rw [hf i hi, e1, s_ne (by decide)]
  refine (c_presses (N := N) h1 hs _ (by rw [s_ne (by decide)]; exact hj1)).int ?_
  rintro x8 σ7 ⟨-, k7⟩
  refine (c_greatestIn h1 hs _).int ?_
  rintro x10 σ7 rfl
  refine (c_forgets _).void ?_
  rintro _ ⟨g, rfl, hg⟩
  exact ⟨_, rfl, puQ_th hj e1 hf' (by rw [k7 2 (by decide) (by decide), s_at]) (fun k k1 k2 k4 => by rw [k7 k k1 k4, s_ne k2]) hg⟩
theorem k_keeps {N : Nat} (a1 a2 a3 : Int32) (σ : sm_S) (hj : jj N (σ 1)) : xC xM j_M_keeps [.ref 0, .int a1, .int a2, .int a3] σ (sm_I (puQ N 0 σ)) := by
  refine w_M_keeps a1 a2 a3 σ _ (fun σ1 e1 => (c_isSpan a1 σ1).int ?_)
  have hj1 : jj N (σ1 1) := by rw [e1, s_ne (by decide)]; exact hj
  rintro x3 σ1 ⟨hx3, rfl⟩
  have keep : ∀ y : Int32, sm_I (puQ N 0 σ) (some (.int y)) σ1 := fun y => ⟨_, rfl, puQ_keep hj e1⟩
  refine ⟨fun n3 => ?_, fun _ => keep _⟩
  obtain ⟨-, s, hs, h1⟩ := hx3.resolve_right (fun z => n3 z.1)
  refine ⟨fun n2 => ⟨fun _ => (c_keeperAt h1 hs _ hj1).int ?_, fun _ => ⟨fun z => absurd rfl z, fun _ => keep _⟩⟩, fun _ => (c_keeperAt h1 hs _ hj1).int ?_⟩
  · rintro x5 σ1 ⟨-, g2, rfl⟩
    refine ⟨fun n5 => ?_, fun _ => keep _⟩
    obtain ⟨m, m1, m2⟩ := g2 n2
    have hm0 : m ≠ 0 := fun z => n5 (t_inj (by rw [m2, z]; rfl))
    have hx5 : x5.toInt = ((m - 1 : Nat) : Int) := by rw [m2]; omega
    refine ⟨fun _ => ⟨fun _ => ⟨fun _ => ⟨fun _ => keep _, fun _ => (c_of (k := 5) (j := 5) hx5 rfl (by omega) _).int ?_⟩, fun _ => (c_of (k := 4) (j := 4) hx5 rfl (by omega) _).int ?_⟩, fun _ => (c_keepsWhy hx5 (by omega) _ hj1).int ?_⟩, fun _ => keep _⟩
    · rintro y σ1 ⟨-, rfl⟩; exact keep _
    · rintro y σ1 ⟨-, rfl⟩; exact keep _
    · rintro y σ1 rfl; exact keep _
  · rintro x19 σ1 ⟨-, -, rfl⟩
    exact keep _
theorem k_holders {N : Nat} (a1 : Int32) (σ : sm_S) (hj : jj N (σ 1)) : xC xM j_M_holders [.ref 0, .int a1] σ (sm_I (puQ N 0 σ)) := by
  refine w_M_holders a1 σ _ (fun σ1 e1 => (c_isSpan a1 σ1).int ?_)
  have hj1 : jj N (σ1 1) := by rw [e1, s_ne (by decide)]; exact hj
  rintro x3 σ1 ⟨hx3, rfl⟩
  refine ⟨fun n3 => ?_, fun _ => ⟨_, rfl, puQ_keep hj e1⟩⟩
  obtain ⟨-, s, hs, h1⟩ := hx3.resolve_right (fun z => n3 z.1)
  refine (l_holders h1 hs _ hj1 33 0 _ _ _ rfl (by omega) (by omega)).mono ?_
  rintro r σ' ⟨x, rfl, rfl⟩
  exact ⟨x, rfl, puQ_keep hj e1⟩
theorem k_easiest {N : Nat} (a1 : Int32) (hN : N < 1600000000) (σ : sm_S) (hj : jj N (σ 1)) : xC xN j_M_easiest [.ref 0, .int a1] σ (sm_I (puQ N 0 σ)) := by
  refine w_N_easiest a1 σ _ (fun σ1 e1 => (n_isIn a1 0 1 σ1).int ?_)
  have hj1 : jj N (σ1 1) := by rw [e1, s_ne (by decide)]; exact hj
  rintro x3 σ1 ⟨-, rfl⟩
  refine ⟨fun _ => (n_easiestNow (N := N) (by omega) σ1 hj1).int ?_, fun _ => ⟨_, rfl, puQ_keep hj e1⟩⟩
  rintro x5 σ5 ⟨f, hI, -⟩
  have fin : puQ N 0 σ x5 σ5 := by
    refine ⟨⟨N, jj_eq hI.2.1 (by rw [s_ne (by decide)]; exact hj1), Nat.le_refl N, by omega, ?_, ?_, fun k hk => ?_⟩, fun i hi => ?_⟩
    · rw [hI.1 5 (by decide), s_ne (by decide), e1, s_ne (by decide)]
    · rw [hI.2.2 6 (by decide), s_ne (by decide), e1, s_at, u_ne (by decide)]
    · rw [hI.1 k (by omega), s_ne (by omega), e1, s_ne (by omega)]
    · rw [hI.2.1 i hi, s_ne (by decide), e1, s_ne (by decide)]
  exact ⟨fun _ => ⟨fun _ => ⟨_, rfl, fin⟩, fun _ => ⟨_, rfl, fin⟩⟩, fun _ => ⟨_, rfl, fin⟩⟩
theorem l_gbQ {N : Nat} {σ0 σ1 : sm_S} {f : Nat → Int32} (hj0 : jj N (σ0 1)) (e1 : σ1 = sm_set σ0 0 (upd (σ0 0) 0 0)) (hf : ∀ i, i < 2662 → f i = σ0 1 i) : ∀ (m N1 : Nat) (a1 a2 : Int32) (σ σp : sm_S), cn (fun s => !decide (σ 1 (2358 + 8 * s) = 0)) 8 ≤ m → jj N1 (σ 1) → N1 + 12400001 * m < 1720000000 → σ 2 = f → (∀ k, 5 ≤ k → σ k = σ1 k) → σ 0 6 = σ1 0 6 → esI σp σ → esG σp a2 → xE xN m_M_givenBack 16 [.ref 0, .int a1, .int a2] [] σ (sm_I (puQ N 0 σ0)) := by
  have fin : ∀ (y : Int32) (σ : sm_S), σ 2 = f → (∀ k, 5 ≤ k → σ k = σ1 k) → σ 0 6 = σ1 0 6 → xC xN j_M_forgets [.ref 0] σ (sm_rv False (fun σ9 => sm_I (puQ N 0 σ0) (some (.int y)) σ9)) := by
    intro y σ h2 h3 h6
    refine (n_forgets _).void ?_
    rintro _ ⟨g, rfl, hg⟩
    refine ⟨y, rfl, ⟨N, ?_, Nat.le_refl N, by omega, ?_, ?_, fun k hk => ?_⟩, fun i hi => ?_⟩
    · rw [s_at]
      exact jj_eq (fun i hi => by rw [hg i hi, h2, hf i hi]) hj0
    · rw [s_ne (by decide), h3 5 (by decide), e1, s_ne (by decide)]
    · rw [s_ne (by decide), h6, e1, s_at, u_ne (by decide)]
    · rw [s_ne (by omega), h3 k (by omega), e1, s_ne (by omega)]
    · rw [s_at, hg i hi, h2, hf i hi]
  intro m
  induction m with
  | zero =>
    intro N1 a1 a2 σ σp hm hj hN h2 h3 h6 hI hG
    refine w_N_givenBack_16 a1 a2 σ _ ⟨fun _ => fin _ _ h2 h3 h6, fun n2 => ?_⟩
    obtain ⟨s, hs, hs2, hon, -⟩ := hG.resolve_left n2
    rw [← hI.2.1 _ (by omega)] at hon
    have := cn_lt (P := fun s => !decide (σ 1 (2358 + 8 * s) = 0)) (P' := fun _ => false) (j := s) (by rw [hon]; rfl) rfl (N := 8) hs (fun i _ h => by cases h)
    omega
  | succ m ih =>
    intro N1 a1 a2 σ σp hm hj hN h2 h3 h6 hI hG
    refine w_N_givenBack_16 a1 a2 σ _ ⟨fun _ => fin _ _ h2 h3 h6, fun n2 => ?_⟩
    obtain ⟨s, hs, hs2, hon, hel, hga⟩ := hG.resolve_left n2
    rw [← hI.2.1 _ (by omega)] at hon
    refine ((n_goesAway (N := N1) hs2 hs (by omega) σ hj hon (onElse_eq hI.2.1 hel)).and (hga σ hI.ag)).mono ?_
    rintro r _ ⟨⟨x3, rfl, ⟨w, N', rfl, hw, l1, l2, l3⟩, -⟩, y, -, hoff⟩
    rw [s_at] at hoff
    refine (n_easiestNow (N := N') (by omega) _ (by rw [s_at]; exact hw)).int ?_
    rintro x5 σ5 ⟨g, hI5, hG5⟩
    have e51 : ∀ i, i < 2662 → σ5 1 i = w i := fun i hi => by rw [hI5.2.1 i hi, s_ne (by decide), s_at]
    refine ih N' (a1 + 1) x5 σ5 _ ?_ (jj_eq e51 hw) (by omega) ?_ (fun k hk => ?_) ?_ hI5 hG5
    · have := cn_lt (P := fun s => !decide (σ 1 (2358 + 8 * s) = 0)) (P' := fun s => !decide (σ5 1 (2358 + 8 * s) = 0)) (j := s) (by rw [hon]; rfl) (by rw [e51 _ (by omega), hoff]; rfl) (N := 8) hs (fun i hi h => by
        cases hd : decide (σ 1 (2358 + 8 * i) = 0) with
        | false => rfl
        | true =>
          rw [e51 _ (by omega), l3 i hi (of_decide_eq_true hd)] at h
          cases h)
      omega
    · rw [hI5.1 2 (by omega), s_ne (by decide), s_ne (by decide)]; exact h2
    · rw [hI5.1 k (by omega), s_ne (by omega), s_ne (by omega)]; exact h3 k hk
    · rw [hI5.2.2 6 (by decide), s_ne (by decide), s_ne (by decide)]; exact h6
theorem k_givenBack {N : Nat} (hN : N < 1600000000) (σ : sm_S) (hj : jj N (σ 1)) : xC xN j_M_givenBack [.ref 0] σ (sm_I (puQ N 0 σ)) := by
  refine w_N_givenBack σ _ (fun σ1 e1 => (n_thinks σ1).void ?_)
  have hj1 : jj N (σ1 1) := by rw [e1, s_ne (by decide)]; exact hj
  rintro _ ⟨f, rfl, hf⟩
  have hf' : ∀ i, i < 2662 → f i = σ 1 i := fun i hi => by rw [hf i hi, e1, s_ne (by decide)]
  refine (n_easiestNow (N := N) (by omega) _ (by rw [s_ne (by decide)]; exact hj1)).int ?_
  rintro x4 σ4 ⟨g, hI4, hG4⟩
  refine l_gbQ hj e1 hf' 8 N 0 x4 σ4 _ cn_bd (jj_eq hI4.2.1 (by rw [s_ne (by decide), s_ne (by decide)]; exact hj1)) (by omega) ?_ (fun k hk => ?_) ?_ hI4 hG4
  · rw [hI4.1 2 (by omega), s_ne (by decide), s_at]
  · rw [hI4.1 k (by omega), s_ne (by omega), s_ne (by omega)]
  · rw [hI4.2.2 6 (by decide), s_ne (by decide), s_ne (by decide)]
theorem k_frame {N : Nat} (a1 a2 : Int32) (σ : sm_S) (hj : jj N (σ 1)) : xC xM j_M_frame [.ref 0, .int a1, .int a2] σ (sm_I (puQ N 0 σ)) := by
  refine w_M_frame a1 a2 σ _ (fun σ1 e1 => (c_isIn a1 0 255 σ1).int ?_)
  rintro x3 σ1 ⟨hx3, rfl⟩
  have keep : ∀ y : Int32, sm_I (puQ N 0 σ) (some (.int y)) σ1 := fun y => ⟨_, rfl, puQ_keep hj e1⟩
  refine ⟨fun _ => keep _, fun n3 => (c_isIn a2 0 2 _).int ?_⟩
  obtain ⟨-, g1, g2⟩ := hx3.resolve_right (fun z => n3 z.1)
  obtain ⟨n, hn, hn2⟩ := in_n (C := 255) rfl g1 g2
  rintro x5 σ1 ⟨hx5, rfl⟩
  refine ⟨fun n5 => (c_frameAt a1 _).int ?_, fun _ => keep _⟩
  obtain ⟨-, g3, g4⟩ := hx5.resolve_right (fun z => n5 z.1)
  obtain ⟨m, hm, hm2⟩ := in_n (C := 2) rfl g3 g4
  rintro x7 σ1 ⟨rfl, rfl⟩
  exact ⟨t_vp (t_ix (C := 18) (M := 3) rfl rfl hn hm (by omega)) (by omega), fun _ => keep _, fun _ => keep _⟩
theorem k_block {N : Nat} (a1 a2 : Int32) (σ : sm_S) (hj : jj N (σ 1)) : xC xM j_M_block [.ref 0, .int a1, .int a2] σ (sm_I (puQ N 0 σ)) := by
  refine w_M_block a1 a2 σ _ (fun σ1 e1 => (c_isBlock a1 σ1).int ?_)
  rintro x3 σ1 ⟨hx3, rfl⟩
  have keep : ∀ y : Int32, sm_I (puQ N 0 σ) (some (.int y)) σ1 := fun y => ⟨_, rfl, puQ_keep hj e1⟩
  refine ⟨fun _ => keep _, fun n3 => (c_isIn a2 0 8 _).int ?_⟩
  obtain ⟨-, n, hn2, hn, -⟩ := hx3.resolve_right (fun z => n3 z.1)
  rintro x5 σ1 ⟨hx5, rfl⟩
  refine ⟨fun n5 => ?_, fun _ => keep _⟩
  obtain ⟨-, g3, g4⟩ := hx5.resolve_right (fun z => n5 z.1)
  obtain ⟨m, hm, hm2⟩ := in_n (C := 8) rfl g3 g4
  have hm1 : (a2 + 1).toInt = ((m + 1 : Nat) : Int) := by
    rw [t_add hm (y := 1) rfl (by omega) (by omega)]
    omega
  refine (c_of hn hm1 (by omega) _).int ?_
  rintro x7 σ1 ⟨-, rfl⟩
  exact ⟨fun _ => keep _, fun _ => keep _⟩
theorem k_span {N : Nat} (a1 a2 : Int32) (σ : sm_S) (hj : jj N (σ 1)) : xC xM j_M_span [.ref 0, .int a1, .int a2] σ (sm_I (puQ N 0 σ)) := by
  refine w_M_span a1 a2 σ _ (fun σ1 e1 => (c_isSpan a1 σ1).int ?_)
  rintro x3 σ1 ⟨hx3, rfl⟩
  have keep : ∀ y : Int32, sm_I (puQ N 0 σ) (some (.int y)) σ1 := fun y => ⟨_, rfl, puQ_keep hj e1⟩
  refine ⟨fun _ => keep _, fun n3 => (c_isIn a2 0 10 _).int ?_⟩
  obtain ⟨-, n, hn2, hn⟩ := hx3.resolve_right (fun z => n3 z.1)
  have vs : ∀ (c : Int32) (j : Nat), c.toInt = j → j < 8 → vp_in (2358 + 8 * a1 + c) 2662 := fun c j hc hj => t_vp (t_ix (C := 2358) (M := 8) rfl rfl hn hc (by omega)) (by omega)
  rintro x5 σ1 ⟨-, rfl⟩
  refine ⟨fun n5 => (c_spanAt a1 _).int ?_, fun _ => keep _⟩
  rintro x7 σ1 ⟨rfl, rfl⟩
  refine ⟨fun _ => ⟨fun _ => ⟨fun _ => ⟨fun _ => ⟨fun _ => ⟨fun _ => ⟨fun _ => ⟨vs 7 7 rfl (by omega), keep _⟩, fun _ => ⟨vs 6 6 rfl (by omega), keep _⟩⟩, fun _ => ⟨vs 4 4 rfl (by omega), keep _⟩⟩, fun _ => ⟨vs 3 3 rfl (by omega), keep _⟩⟩, fun _ => ⟨vs 2 2 rfl (by omega), keep _⟩⟩, fun _ => (c_manyIn hn hn2 _ _).int ?_⟩, fun _ => (c_zoneOf hn hn2 _).int ?_⟩, fun _ => ⟨vs 0 0 rfl (by omega), keep _⟩⟩
  · rintro x9 σ1 rfl; exact keep _
  · rintro x9 σ1 ⟨-, rfl⟩; exact keep _
theorem k_task {N : Nat} (a1 a2 : Int32) (σ : sm_S) (hj : jj N (σ 1)) : xC xM j_M_task [.ref 0, .int a1, .int a2] σ (sm_I (puQ N 0 σ)) := by
  refine w_M_task a1 a2 σ _ (fun σ1 e1 => (c_isTask a1 σ1).int ?_)
  rintro x3 σ1 ⟨hx3, rfl⟩
  have keep : ∀ y : Int32, sm_I (puQ N 0 σ) (some (.int y)) σ1 := fun y => ⟨_, rfl, puQ_keep hj e1⟩
  refine ⟨fun _ => keep _, fun n3 => (c_isIn a2 0 5 _).int ?_⟩
  obtain ⟨-, n, hn2, hn⟩ := hx3.resolve_right (fun z => n3 z.1)
  have vs : ∀ (c : Int32) (j : Nat), c.toInt = j → j < 6 → vp_in (2322 + 6 * a1 + c) 2662 := fun c j hc hj => t_vp (t_ix (C := 2322) (M := 6) rfl rfl hn hc (by omega)) (by omega)
  rintro x5 σ1 ⟨-, rfl⟩
  refine ⟨fun n5 => (c_taskAt a1 _).int ?_, fun _ => keep _⟩
  rintro x7 σ1 ⟨rfl, rfl⟩
  refine ⟨fun _ => ⟨fun _ => ⟨fun _ => ⟨fun _ => ⟨fun _ => (c_ownsMany _ _ _).int ?_, fun _ => (c_ownsMany _ _ _).int ?_⟩, fun _ => ⟨vs 5 5 rfl (by omega), keep _⟩⟩, fun _ => ⟨vs 1 1 rfl (by omega), keep _⟩⟩, fun _ => ⟨vs 1 1 rfl (by omega), fun _ => keep _, fun _ => keep _⟩⟩, fun _ => ⟨vs 0 0 rfl (by omega), keep _⟩⟩
  · rintro x9 σ1 rfl; exact keep _
  · rintro x9 σ1 rfl; exact keep _
theorem k_zone {N : Nat} (a1 a2 : Int32) (σ : sm_S) (hj : jj N (σ 1)) : xC xM j_M_zone [.ref 0, .int a1, .int a2] σ (sm_I (puQ N 0 σ)) := by
  refine w_M_zone a1 a2 σ _ (fun σ1 e1 => (c_isIn a1 0 1 σ1).int ?_)
  rintro x3 σ1 ⟨-, rfl⟩
  have keep : ∀ y : Int32, sm_I (puQ N 0 σ) (some (.int y)) σ1 := fun y => ⟨_, rfl, puQ_keep hj e1⟩
  refine ⟨fun _ => keep _, fun n3 => (c_isIn a2 0 2 _).int ?_⟩
  rintro x5 σ1 ⟨-, rfl⟩
  refine ⟨fun _ => ⟨fun _ => ⟨fun _ => (l_zone a1 a2 _ 8 0 _ 0 rfl rfl).mono ?_, fun _ => (c_freeIn a1 _).int ?_⟩, fun _ => (c_framesOf a1 _).int ?_⟩, fun _ => keep _⟩
  · rintro r σ1 ⟨x, rfl, rfl⟩; exact keep _
  · rintro r σ1 rfl; exact keep _
  · rintro r σ1 ⟨-, rfl⟩; exact ⟨by decide, keep _⟩
theorem k_loose {N : Nat} (a1 a2 : Int32) (σ : sm_S) (hj : jj N (σ 1)) : xC xM j_M_loose [.ref 0, .int a1, .int a2] σ (sm_I (puQ N 0 σ)) := by
  refine w_M_loose a1 a2 σ _ (fun σ1 e1 => (c_isIn a1 0 1 σ1).int ?_)
  rintro x3 σ1 ⟨-, rfl⟩
  have keep : ∀ y : Int32, sm_I (puQ N 0 σ) (some (.int y)) σ1 := fun y => ⟨_, rfl, puQ_keep hj e1⟩
  refine ⟨fun _ => keep _, fun n3 => (c_isIn a2 0 5 _).int ?_⟩
  rintro x5 σ1 ⟨hx5, rfl⟩
  refine ⟨fun n5 => ?_, fun _ => keep _⟩
  obtain ⟨-, g3, g4⟩ := hx5.resolve_right (fun z => n5 z.1)
  obtain ⟨m, hm, hm2⟩ := in_n (C := 5) rfl g3 g4
  refine (l_loose hm hm2 a1 _ 256 0 _ 0 rfl rfl).mono ?_
  rintro r σ1 ⟨x, rfl, rfl⟩; exact keep _
theorem k_place {N : Nat} (a1 a2 a3 : Int32) (σ : sm_S) (hj : jj N (σ 1)) : xC xM j_M_place [.ref 0, .int a1, .int a2, .int a3] σ (sm_I (puQ N 0 σ)) := by
  refine w_M_place a1 a2 a3 σ _ (fun σ1 e1 => (c_isTask a1 σ1).int ?_)
  rintro x3 σ1 ⟨hx3, rfl⟩
  have keep : ∀ y : Int32, sm_I (puQ N 0 σ) (some (.int y)) σ1 := fun y => ⟨_, rfl, puQ_keep hj e1⟩
  refine ⟨fun _ => keep _, fun n3 => (c_isIn a2 0 2 _).int ?_⟩
  obtain ⟨-, n, hn2, hn⟩ := hx3.resolve_right (fun z => n3 z.1)
  rintro x5 σ1 ⟨-, rfl⟩
  refine ⟨fun _ => keep _, fun n5 => (c_isIn a3 0 4 _).int ?_⟩
  rintro x7 σ1 ⟨hx7, rfl⟩
  refine ⟨fun _ => keep _, fun n7 => ?_⟩
  obtain ⟨-, g3, g4⟩ := hx7.resolve_right (fun z => n7 z.1)
  obtain ⟨m, hm, hm2⟩ := in_n (C := 4) rfl g3 g4
  refine (c_bestPlace hn hn2 hm hm2 _).int ?_
  rintro x9 σ1 ⟨-, rfl⟩; exact keep _
theorem k_hole {N : Nat} (a1 : Int32) (σ : sm_S) (hj : jj N (σ 1)) : xC xM j_M_hole [.ref 0, .int a1] σ (sm_I (puQ N 0 σ)) := by
  refine w_M_hole a1 σ _ (fun σ1 e1 => (c_isIn a1 0 255 σ1).int ?_)
  rintro x3 σ1 ⟨hx3, rfl⟩
  have keep : ∀ y : Int32, sm_I (puQ N 0 σ) (some (.int y)) σ1 := fun y => ⟨_, rfl, puQ_keep hj e1⟩
  refine ⟨fun _ => keep _, fun n3 => ?_⟩
  obtain ⟨-, g3, g4⟩ := hx3.resolve_right (fun z => n3 z.1)
  obtain ⟨m, hm, hm2⟩ := in_n (C := 255) rfl g3 g4
  refine (c_isFree hm (by omega) _).int ?_
  rintro x5 σ1 ⟨-, rfl⟩
  refine ⟨fun _ => keep _, fun n5 => (c_holeOf hm (by omega) _).int ?_⟩
  rintro x9 σ1 ⟨-, rfl⟩; exact keep _
theorem k_at {N : Nat} (a1 a2 : Int32) (σ : sm_S) (hj : jj N (σ 1)) : xC xM j_M_at [.ref 0, .int a1, .int a2] σ (sm_I (puQ N 0 σ)) := by
  refine w_M_at a1 a2 σ _ (fun σ1 e1 => (c_isTask a1 σ1).int ?_)
  have hj1 : jj N (σ1 1) := by rw [e1, s_ne (by decide)]; exact hj
  rintro x3 σ1 ⟨-, rfl⟩
  have keep : ∀ y : Int32, sm_I (puQ N 0 σ) (some (.int y)) σ1 := fun y => ⟨_, rfl, puQ_keep hj e1⟩
  refine ⟨fun _ => keep _, fun n3 => (c_isIn a2 0 1 _).int ?_⟩
  rintro x5 σ1 ⟨-, rfl⟩
  refine ⟨fun n5 => (l_at a1 a2 _ hj1 256 0 _ 0 rfl rfl).mono ?_, fun _ => keep _⟩
  rintro r σ1 ⟨x, rfl, rfl⟩; exact keep _
theorem k_log {N : Nat} (a1 a2 : Int32) (σ : sm_S) (hj : jj N (σ 1)) : xC xM j_M_log [.ref 0, .int a1, .int a2] σ (sm_I (puQ N 0 σ)) := by
  refine w_M_log a1 a2 σ _ (fun σ1 e1 => ?_)
  have hj1 : jj N (σ1 1) := by rw [e1, s_ne (by decide)]; exact hj
  have keep : ∀ y : Int32, sm_I (puQ N 0 σ) (some (.int y)) σ1 := fun y => ⟨_, rfl, puQ_keep hj e1⟩
  have h5 : (σ1 1 ((5 : Int32)).toNatClampNeg).toInt = N := hj1.2.2
  refine ⟨fun _ => keep _, fun n1 => ⟨fun _ => keep _, fun n2 => ⟨t_vp (n := 5) rfl (by omega), fun _ => keep _, fun n5 => (c_isIn a2 0 3 _).int ?_⟩⟩⟩
  rw [t_lt] at n1
  rw [t_le] at n2
  rw [t_le, h5] at n5
  have n1 : ¬ a1.toInt < (0 : Int) := n1
  have n2 : ¬ (60 : Int) ≤ a1.toInt := n2
  obtain ⟨n, hn⟩ := t_of (x := a1) (by omega)
  have bN := t_bd (σ1 1 ((5 : Int32)).toNatClampNeg)
  rintro x3 σ1 ⟨hx3, rfl⟩
  refine ⟨fun n3 => ?_, fun _ => keep _⟩
  obtain ⟨-, g3, g4⟩ := hx3.resolve_right (fun z => n3 z.1)
  obtain ⟨m, hm, hm2⟩ := in_n (C := 3) rfl g3 g4
  have q1 := t_sub h5 (y := 1) (b := 1) rfl (by omega) (by omega)
  have q2 := t_sub q1 hn (by omega) (by omega)
  have q2' : (σ1 1 ((5 : Int32)).toNatClampNeg - 1 - a1).toInt = ((N - 1 - n : Nat) : Int) := by rw [q2]; omega
  have q3 := t_rem (d := 60) (b := 60) q2' rfl (by decide)
  exact ⟨t_vp (n := 5) rfl (by omega), by decide, t_vp (t_ix (C := 2422) (M := 4) rfl rfl q3 hm (by omega)) (by omega), keep _⟩
theorem k_count {N : Nat} (a1 : Int32) (σ : sm_S) (hj : jj N (σ 1)) : xC xM j_M_count [.ref 0, .int a1] σ (sm_I (puQ N 0 σ)) := by
  refine w_M_count a1 σ _ (fun σ1 e1 => (c_isIn a1 0 10 σ1).int ?_)
  rintro x3 σ1 ⟨hx3, rfl⟩
  have keep : ∀ y : Int32, sm_I (puQ N 0 σ) (some (.int y)) σ1 := fun y => ⟨_, rfl, puQ_keep hj e1⟩
  refine ⟨fun _ => keep _, fun n3 => ?_⟩
  obtain ⟨-, g3, g4⟩ := hx3.resolve_right (fun z => n3 z.1)
  obtain ⟨m, hm, hm2⟩ := in_n (C := 10) rfl g3 g4
  have q : (7 + a1).toInt = ((7 + m : Nat) : Int) := by
    rw [t_add (x := 7) rfl hm (by omega) (by omega)]
    omega
  exact ⟨t_vp q (by omega), keep _⟩
theorem k_look {N : Nat} (a1 : Int32) (σ : sm_S) (hj : jj N (σ 1)) : xC xM j_M_look [.ref 0, .int a1] σ (sm_I (puQ N 0 σ)) := by
  refine w_M_look a1 σ _ (fun σ1 e1 => (c_isIn a1 0 3 σ1).int ?_)
  have hj1 : jj N (σ1 1) := by rw [e1, s_ne (by decide)]; exact hj
  rintro x3 σ1 ⟨hx3, rfl⟩
  have keep : ∀ y : Int32, sm_I (puQ N 0 σ) (some (.int y)) σ1 := fun y => ⟨_, rfl, puQ_keep hj e1⟩
  refine ⟨fun _ => ⟨fun _ => ⟨fun _ => ⟨fun _ => (c_isIn a1 7 10 _).int ?_, fun _ => (c_framesOf 0 _).int ?_⟩, fun _ => (c_blocks _).int ?_⟩, fun _ => ⟨t_vp (n := 4) rfl (by omega), keep _⟩⟩, fun n3 => ?_⟩
  · rintro x5 σ1 ⟨-, rfl⟩
    refine ⟨fun _ => ⟨fun _ => ⟨fun _ => ⟨fun _ => ⟨fun _ => keep _, fun _ => (c_framesOf 1 _).int ?_⟩, fun _ => ⟨t_vp (n := 5) rfl (by omega), keep _⟩⟩, fun _ => (c_goers _).int ?_⟩, fun _ => (c_waiters _).int ?_⟩, fun _ => (c_framesIn _ _).int ?_⟩
    · rintro x7 σ1 ⟨-, rfl⟩
      refine (c_framesOf 0 _).int ?_
      rintro x9 σ1 ⟨⟨c, hc, -, hc1⟩, rfl⟩
      obtain ⟨s, hs, z1, z2⟩ := hj1.2.1.2.2.2.2
      have := hc1 s hs (fun z => by rw [show 2358 + 8 * s = 2358 + 8 * s + 0 from rfl, z1] at z; exact absurd z (by decide)) z2
      refine ⟨fun z => ?_, keep _⟩
      rw [z] at hc
      have hc : (0 : Int) = ((32 * c : Nat) : Int) := hc
      omega
    · rintro x7 σ1 rfl; exact keep _
    · rintro x7 σ1 rfl; exact keep _
    · rintro x7 σ1 rfl; exact keep _
  · rintro x7 σ1 ⟨-, rfl⟩
    refine (c_framesOf 1 _).int ?_
    rintro x9 σ1 ⟨-, rfl⟩
    exact ⟨by decide, keep _⟩
  · rintro x7 σ1 rfl; exact keep _
  · obtain ⟨-, g3, g4⟩ := hx3.resolve_right (fun z => n3 z.1)
    obtain ⟨m, hm, hm2⟩ := in_n (C := 3) rfl g3 g4
    refine (c_settingOf hm (by omega) _).int ?_
    rintro x7 σ1 rfl; exact keep _
end
section
/-! ===== the simulation: what asks, keeps (the class) ===== -/
def BQ (σ σ' : sm_S) : Prop := AQ σ σ' ∧ ∀ a, a < 43 ∨ 127 ≤ a → σ' a = σ a
theorem BQ.rf {σ : sm_S} (h : WW σ) : BQ σ σ := ⟨AQ.rf h, fun _ _ => rfl⟩
theorem BQ.th {σ σ' : sm_S} (h : WW σ) (ht : th σ σ') (hl : kl (bs 43 σ')) : BQ σ σ' := ⟨AQ.th h ht hl, fun a ha => ht a (by omega)⟩
theorem BQ.t2 {σ σ' : sm_S} (h : WW σ) (ht : ∀ a, a < 43 ∨ 127 ≤ a → σ' a = σ a) (hl : kl (bs 43 σ')) (hl2 : kl (bs 86 σ')) : BQ σ σ' := ⟨AQ.t2 h ht hl hl2, ht⟩
theorem kpQ {σ : sm_S} (h : WW σ) (y : Int32) : sm_I (fun _ σ' => BQ σ σ') (some (.int y)) σ := ⟨y, rfl, BQ.rf h⟩
theorem kpbQ {σ : sm_S} (h : WW σ) : ((0 : Int32) = 0 ∨ (0 : Int32) = 1) ∧ sm_I (fun _ σ' => BQ σ σ') (some (.int 0)) σ := ⟨Or.inl rfl, kpQ h 0⟩
theorem kp1Q {σ : sm_S} (h : WW σ) {j : Nat} {as : List Value} (hc : xC xD j as σ (sm_I (fun _ σ' => σ' = σ))) : xC xF j as σ (sm_ri False (fun x σ' => sm_I (fun _ σ' => BQ σ σ') (some (.int x)) σ')) := (nw1 hc).int (fun x σ' e => by rw [e]; exact kpQ h x)
theorem kp0Q {σ : sm_S} (h : WW σ) {j : Nat} {as : List Value} {P : Int32 → Prop} (hc : xC xD j as σ (sm_I (fun x σ' => P x ∧ σ' = σ))) : xC xF j as σ (sm_ri False (fun x σ' => sm_I (fun _ σ' => BQ σ σ') (some (.int x)) σ')) := (nw0 hc).int (fun x σ' e => by rw [e.2]; exact kpQ h x)
theorem a_frameQ (a1 a2 : Int32) (σ : sm_S) (h : WW σ) : xC xF j_A_frame [.ref 42, .int a1, .int a2] σ (sm_I (fun _ σ' => BQ σ σ')) := by
  refine f_A_frame a1 a2 σ _ ⟨fun _ => kpQ h _, fun h1 => ⟨fun h2 => ?_, fun _ => kpQ h _⟩⟩
  obtain ⟨n, hn⟩ := rg_n h1
  rw [t_lt, hn] at h2
  have h2 : (n : Int) < 256 := h2
  have v := t_vp (N := 256) hn (by omega)
  exact ⟨fun _ => kp1Q h (e_stateOf hn (by omega) σ), fun _ => ⟨fun _ => ⟨v, kpQ h _⟩, fun _ => ⟨fun _ => ⟨v, kpQ h _⟩, fun _ => kpQ h _⟩⟩⟩
theorem a_blockQ (a1 a2 : Int32) (σ : sm_S) (h : WW σ) : xC xF j_A_block [.ref 42, .int a1, .int a2] σ (sm_I (fun _ σ' => BQ σ σ')) := by
  refine f_A_block a1 a2 σ _ ((nw0 (e_has a1 σ)).int ?_)
  rintro x2 σ ⟨hx2, rfl⟩
  refine ⟨fun n2 => ?_, fun _ => kpQ h _⟩
  obtain ⟨-, b, hb, hb2, -⟩ := hx2.resolve_right n2
  have v := t_vp hb2 hb
  exact ⟨fun _ => ⟨v, kpQ h _⟩, fun _ => ⟨fun _ => ⟨v, kpQ h _⟩, fun _ => ⟨fun _ => ⟨v, kpQ h _⟩, fun _ => ⟨fun _ => ⟨v, kpQ h _⟩, fun _ => ⟨fun _ => ⟨v, kpQ h _⟩, fun _ => ⟨fun _ => ⟨v, kpQ h _⟩, fun _ => ⟨fun _ => ⟨v, kpQ h _⟩, fun _ => ⟨fun _ => ⟨v, kpQ h _⟩, fun _ => ⟨fun _ => kp1Q h (e_lineOf a1 σ), fun _ => kpQ h _⟩⟩⟩⟩⟩⟩⟩⟩⟩
theorem a_spanQ (a1 a2 : Int32) (σ : sm_S) (h : WW σ) : xC xF j_A_span [.ref 42, .int a1, .int a2] σ (sm_I (fun _ σ' => BQ σ σ')) := by
  refine f_A_span a1 a2 σ _ ((nw0 (e_isSpan a1 σ)).int ?_)
  rintro x2 σ ⟨hx2, rfl⟩
  refine ⟨fun n2 => ?_, fun _ => kpQ h _⟩
  obtain ⟨-, s, hs, h1⟩ := hx2.resolve_right n2
  have v := t_vp h1 hs
  exact ⟨fun _ => ⟨v, kpQ h _⟩, fun _ => ⟨fun _ => ⟨v, kpQ h _⟩, fun _ => ⟨fun _ => ⟨v, kp1Q h (c_bitCount _ σ)⟩, fun _ => ⟨fun _ => ⟨v, kp1Q h (c_bitCount _ σ)⟩, fun _ => ⟨fun _ => ⟨v, kp1Q h (c_bitCount _ σ)⟩, fun _ => ⟨fun _ => ⟨v, kp1Q h (c_bitCount _ σ)⟩, fun _ => ⟨fun _ => ⟨v, kpQ h _⟩, fun _ => ⟨fun _ => ⟨v, kpQ h _⟩, fun _ => ⟨fun _ => ⟨v, kpQ h _⟩, fun _ => ⟨fun _ => ⟨v, kpQ h _⟩, fun _ => ⟨fun _ => ⟨v, kpQ h _⟩, fun _ => kpQ h _⟩⟩⟩⟩⟩⟩⟩⟩⟩⟩⟩
theorem a_taskQ (a1 a2 : Int32) (σ : sm_S) (h : WW σ) : xC xF j_A_task [.ref 42, .int a1, .int a2] σ (sm_I (fun _ σ' => BQ σ σ')) := by
  refine f_A_task a1 a2 σ _ ((nw0 (e_isTask a1 σ)).int ?_)
  rintro x2 σ ⟨hx2, rfl⟩
  refine ⟨fun n2 => ?_, fun _ => kpQ h _⟩
  obtain ⟨-, s, hs, h1⟩ := hx2.resolve_right n2
  have v := t_vp h1 hs
  exact ⟨fun _ => ⟨v, kpQ h _⟩, fun _ => ⟨fun _ => ⟨v, fun _ => kpQ h _, fun _ => kpQ h _⟩, fun _ => ⟨fun _ => ⟨v, kpQ h _⟩, fun _ => ⟨fun _ => ⟨v, kpQ h _⟩, fun _ => ⟨fun _ => kp1Q h (e_ownedBy a1 σ), fun _ => ⟨fun _ => kp1Q h (e_pinnedBy a1 σ), fun _ => kpQ h _⟩⟩⟩⟩⟩⟩
theorem a_zoneQ (a1 a2 : Int32) (σ : sm_S) (h : WW σ) : xC xF j_A_zone [.ref 42, .int a1, .int a2] σ (sm_I (fun _ σ' => BQ σ σ')) := by
  refine f_A_zone a1 a2 σ _ ((nw0 (e_isZone a1 σ)).int ?_)
  rintro x2 σ ⟨-, rfl⟩
  exact ⟨fun _ => ⟨fun _ => kp0Q h (e_inZone a1 σ), fun _ => ⟨fun _ => kp1Q h (e_freeInZone a1 σ), fun _ => ⟨fun _ => kp1Q h (e_widestInZone a1 σ), fun _ => kpQ h _⟩⟩⟩, fun _ => kpQ h _⟩
theorem l_looseAQ {a2 : Int32} {o : Nat} (h2 : a2.toInt = o) (ho : o ≤ 5) (a1 : Int32) (σ : sm_S) (hw : WW σ) : ∀ (d k : Nat) (a3 a4 : Int32) (v5 v6 : Value), a4.toInt = k → k + d = 8 → xE xF m_A_loose 23 [.ref 42, .int a1, .int a2, .int a3, .int a4, v5, v6] [] σ (sm_I (fun _ σ' => BQ σ σ')) := by
  intro d
  induction d with
  | zero =>
    intro k a3 a4 v5 v6 h4 hk
    refine f_A_loose_23 a1 a2 a3 a4 v5 v6 σ _ ⟨fun _ => kpQ hw _, fun h => absurd ?_ h⟩
    rw [t_le, h4]
    show (8 : Int) ≤ _
    omega
  | succ d ih =>
    intro k a3 a4 v5 v6 h4 hk
    have h4' : (a4 + 1).toInt = ((k + 1 : Nat) : Int) := by
      rw [t_add h4 (y := 1) rfl (by omega) (by omega)]
      omega
    have v := t_vp (N := 8) h4 (by omega)
    refine f_A_loose_23 a1 a2 a3 a4 v5 v6 σ _ ⟨fun _ => kpQ hw _, fun _ => ⟨v, fun _ => ih (k + 1) _ _ _ _ h4' (by omega), fun _ => ⟨v, (nw0 (c_starts h2 ho _ σ)).int ?_⟩⟩⟩
    rintro x2 σ ⟨-, rfl⟩
    refine (nw1 (c_bitCount _ σ)).int ?_
    rintro x4 σ rfl
    refine (nw1 (c_bitCount _ σ)).int ?_
    rintro x6 σ rfl
    exact ih (k + 1) _ _ _ _ h4' (by omega)
theorem a_looseQ (a1 a2 : Int32) (σ : sm_S) (h : WW σ) : xC xF j_A_loose [.ref 42, .int a1, .int a2] σ (sm_I (fun _ σ' => BQ σ σ')) := by
  refine f_A_loose a1 a2 σ _ ((nw0 (e_isZone a1 σ)).int ?_)
  rintro x2 σ ⟨-, rfl⟩
  refine ⟨fun _ => kpQ h _, fun _ => ⟨fun _ => kpQ h _, fun h0 => ⟨fun h5 => ?_, fun _ => kpQ h _⟩⟩⟩
  obtain ⟨n, hn⟩ := rg_n h0
  rw [t_le, hn] at h5
  have h5 : (n : Int) ≤ 5 := h5
  exact l_looseAQ hn (by omega) a1 σ h 8 0 _ 0 _ _ rfl rfl
theorem a_placeQ (a1 a2 a3 : Int32) (σ : sm_S) (h : WW σ) : xC xF j_A_place [.ref 42, .int a1, .int a2, .int a3] σ (sm_I (fun _ σ' => BQ σ σ')) := by
  refine f_A_place a1 a2 a3 σ _ ((nw0 (e_isTask a1 σ)).int ?_)
  rintro x2 σ ⟨hx2, rfl⟩
  refine ⟨fun _ => kpQ h _, fun n2 => (nw0 (e_isKind a2 σ)).int ?_⟩
  obtain ⟨-, t, ht, h1⟩ := hx2.resolve_right n2
  rintro x4 σ ⟨-, rfl⟩
  refine ⟨fun _ => kpQ h _, fun n4 => (nw0 (e_isBlockOrder a3 σ)).int ?_⟩
  rintro x6 σ ⟨hx6, rfl⟩
  refine ⟨fun n6 => ?_, fun _ => kpQ h _⟩
  obtain ⟨-, o, ho, h3⟩ := hx6.resolve_right n6
  exact kp0Q h (e_bestPlace h1 ht h3 (by omega) σ)
theorem a_holeQ (a1 : Int32) (σ : sm_S) (h : WW σ) : xC xF j_A_hole [.ref 42, .int a1] σ (sm_I (fun _ σ' => BQ σ σ')) := by
  refine f_A_hole a1 σ _ ⟨fun _ => kpQ h _, fun h1 => ⟨fun h2 => ?_, fun _ => kpQ h _⟩⟩
  obtain ⟨n, hn⟩ := rg_n h1
  rw [t_lt, hn] at h2
  have h2 : (n : Int) < 256 := h2
  exact ⟨by decide, t_vp (t_d32 hn) (by omega), by decide, kp1Q h (c_holeRound _ _ σ)⟩
theorem a_keepsQ (a1 a2 a3 : Int32) (σ : sm_S) (h : WW σ) : xC xF j_A_keeps [.ref 42, .int a1, .int a2, .int a3] σ (sm_I (fun _ σ' => BQ σ σ')) := by
  refine f_A_keeps a1 a2 a3 σ _ ((nw0 (e_isSpan a1 σ)).int ?_)
  rintro x2 σ ⟨hx2, rfl⟩
  refine ⟨fun _ => kpQ h _, fun n2 => ⟨fun _ => kpQ h _, fun _ => ⟨fun _ => ?_, fun _ => kpQ h _⟩⟩⟩
  obtain ⟨-, s, hs, h1⟩ := hx2.resolve_right n2
  refine ⟨fun _ => (nw0 (e_keeper h1 hs a2 σ h.1)).int ?_, fun _ => kp1Q h (e_keepers h1 hs σ h.1)⟩
  rintro x4 σ ⟨hx4, rfl⟩
  refine ⟨fun n4 => ?_, fun _ => kpQ h _⟩
  obtain ⟨b, f, o, w, hb, hb2, he⟩ := hx4.resolve_left n4
  have v := t_vp hb2 hb
  exact ⟨fun _ => kpQ h _, fun _ => ⟨fun _ => kp1Q h (e_whyKeeps hb2 hb σ he), fun _ => ⟨fun _ => ⟨v, kpQ h _⟩, fun _ => ⟨v, kpQ h _⟩⟩⟩⟩
theorem a_holdersQ (a1 : Int32) (σ : sm_S) (h : WW σ) : xC xF j_A_holders [.ref 42, .int a1] σ (sm_I (fun _ σ' => BQ σ σ')) := by
  refine f_A_holders a1 σ _ ((nw0 (e_isSpan a1 σ)).int ?_)
  rintro x2 σ ⟨hx2, rfl⟩
  refine ⟨fun n2 => ?_, fun _ => kpQ h _⟩
  obtain ⟨-, s, hs, h1⟩ := hx2.resolve_right n2
  exact kp1Q h (e_holdersOf h1 hs σ h.1)
theorem a_pressedQ (a1 : Int32) (σ : sm_S) (h : WW σ) : xC xF j_A_pressed [.ref 42, .int a1] σ (sm_I (fun _ σ' => BQ σ σ')) := by
  refine f_A_pressed a1 σ _ ((nw0 (e_isSpan a1 σ)).int ?_)
  rintro x2 σ ⟨hx2, rfl⟩
  refine ⟨fun _ => kpQ h _, fun n2 => ?_⟩
  obtain ⟨-, s, hs, h1⟩ := hx2.resolve_right n2
  refine ⟨t_vp h1 hs, fun _ => (g_widestPacked h1 hs σ h.1 h.2.1).int ?_, fun _ => kpQ h _⟩
  rintro x4 σ3 ⟨t3, l3⟩
  exact ⟨_, rfl, BQ.th h t3 l3⟩
theorem a_atQ (a1 a2 : Int32) (σ : sm_S) (h : WW σ) : xC xF j_A_at [.ref 42, .int a1, .int a2] σ (sm_I (fun _ σ' => BQ σ σ')) := by
  refine f_A_at a1 a2 σ _ ((nw0 (e_isTask a1 σ)).int ?_)
  rintro x2 σ ⟨-, rfl⟩
  refine ⟨fun _ => kpQ h _, fun n2 => (nw0 (e_isNode a2 σ)).int ?_⟩
  rintro x4 σ ⟨-, rfl⟩
  exact ⟨fun _ => kp1Q h (e_framesAt a1 a2 σ), fun _ => kpQ h _⟩
theorem l_movableAQ (a1 a2 a3 : Int32) (σ : sm_S) (hw : WW σ) : ∀ (d : Nat) (a4 : Int32), 0 ≤ a4.toInt → a3.toInt ≤ a4.toInt + d → xE xF m_A_movable 34 [.ref 42, .int a1, .int a2, .int a3, .int a4] [] σ (sm_I (fun _ σ' => BQ σ σ')) := by
  have b3 := t_bd a3
  intro d
  induction d with
  | zero =>
    intro a4 h4 hd
    exact f_A_movable_34 a1 a2 a3 a4 σ _ ⟨fun _ => kpQ hw _, fun h => absurd (by rw [t_le]; omega) h⟩
  | succ d ih =>
    intro a4 h4 hd
    refine f_A_movable_34 a1 a2 a3 a4 σ _ ⟨fun _ => kpQ hw _, fun h => (nw0 (e_staysInRatio _ _ σ)).int ?_⟩
    rw [t_le] at h
    have h4' : (a4 + 1).toInt = a4.toInt + 1 := t_add (x := a4.toInt) rfl (y := 1) rfl (by omega) (by omega)
    rintro x2 σ ⟨-, rfl⟩
    exact ⟨fun _ => kpQ hw _, fun _ => ih _ (by omega) (by omega)⟩
theorem a_movableQ (σ : sm_S) (h : WW σ) : xC xF j_A_movable [.ref 42] σ (sm_I (fun _ σ' => BQ σ σ')) := by
  refine f_A_movable σ _ ((nw0 (e_inZone 0 σ)).int ?_)
  rintro x2 σ ⟨⟨g1, g2⟩, rfl⟩
  refine (nw0 (e_inZone 1 σ)).int ?_
  rintro x4 σ ⟨⟨g3, g4⟩, rfl⟩
  have e1 := t_sub (a := 8) (b := x2) (x := 8) (y := x2.toInt) rfl rfl (by omega) (by omega)
  have e2 := t_sub e1 (b := x4) (y := x4.toInt) rfl (by omega) (by omega)
  exact l_movableAQ _ _ _ σ h 8 0 (by decide) (by rw [e2]; show _ ≤ (0 : Int) + _; omega)
theorem a_wouldQ (a1 a2 : Int32) (σ : sm_S) (h : WW σ) : xC xF j_A_would [.ref 42, .int a1, .int a2] σ (sm_I (fun _ σ' => BQ σ σ')) := by
  refine f_A_would a1 a2 σ _ ⟨fun _ => kpQ h _, fun _ => ⟨fun _ => kpQ h _, fun _ => (nw0 (e_isSpan a1 σ)).int ?_⟩⟩
  rintro x2 σ ⟨hx2, rfl⟩
  refine ⟨fun _ => kpQ h _, fun n2 => ?_⟩
  obtain ⟨-, s, hs, h1⟩ := hx2.resolve_right n2
  refine (nw0 (e_canGo h1 hs σ)).int ?_
  rintro x4 σ ⟨hx4, rfl⟩
  refine ⟨fun n4 => ?_, fun _ => kpQ h _⟩
  obtain ⟨-, hon⟩ := hx4.resolve_left n4
  refine (g_tryOut_n h1 hs σ h.1 h.2.1 hon).int ?_
  rintro x6 σ5 ⟨t5, k5⟩
  have q : BQ σ σ5 := BQ.th h t5 k5.2.2.2.2.1
  have gs : ∀ (c : Int32) (n : Nat), c.toInt = n → n < 11 → xC xF j_H_grownSince [.ref 85, .ref 0, .int c] σ5 (sm_ri False (fun x σ' => sm_I (fun _ σ' => BQ σ σ') (some (.int x)) σ')) := fun c n hc hn => (g_grownSince hc hn σ5).int (fun x σ' e => by rw [e]; exact ⟨x, rfl, q⟩)
  exact ⟨fun _ => ⟨fun _ => ⟨_, rfl, q⟩, fun _ => ⟨_, rfl, q⟩⟩, fun _ => ⟨fun _ => ⟨_, rfl, q⟩, fun _ => ⟨fun _ => gs 3 3 rfl (by omega), fun _ => ⟨fun _ => gs 4 4 rfl (by omega), fun _ => gs 5 5 rfl (by omega)⟩⟩⟩⟩
theorem a_easiestQ (a1 : Int32) (σ : sm_S) (h : WW σ) : xC xF j_A_easiest [.ref 42, .int a1] σ (sm_I (fun _ σ' => BQ σ σ')) := by
  refine f_A_easiest a1 σ _ ⟨fun _ => kpQ h _, fun _ => ⟨fun _ => (g_findEasiest_n σ h.1 h.2.1).int ?_, fun _ => kpQ h _⟩⟩
  rintro x2 σ1 ⟨t1, l1, -⟩
  have q : BQ σ σ1 := BQ.th h t1 l1
  exact ⟨fun _ => ⟨_, rfl, q⟩, fun _ => ⟨fun _ => ⟨_, rfl, q⟩, fun _ => ⟨_, rfl, q⟩⟩⟩
/-- then and the trial alone -/
theorem l_givenBackAQ (σ0 : sm_S) (hw : WW σ0) : ∀ (d k : Nat) (a2 : Int32) (v3 : Value) (σ : sm_S), a2.toInt = k → k + d = 8 → (∀ a, a < 43 ∨ 127 ≤ a → σ a = σ0 a) → kl (bs 43 σ) → kk (bs 86 σ) → xE xF m_A_givenBack 18 [.ref 42, .ref 86, .int a2, v3] [] σ (sm_I (fun _ σ' => BQ σ0 σ')) := by
  intro d
  induction d with
  | zero =>
    intro k a2 v3 σ h2 hk ht hl hk2
    refine f_A_givenBack_18 a2 v3 σ _ ⟨fun _ => ⟨_, rfl, BQ.t2 hw ht hl hk2.2.2.2.2.1⟩, fun h => absurd ?_ h⟩
    rw [t_le, h2]
    show (8 : Int) ≤ _
    omega
  | succ d ih =>
    intro k a2 v3 σ h2 hk ht hl hk2
    have h2' : (a2 + 1).toInt = ((k + 1 : Nat) : Int) := by
      rw [t_add h2 (y := 1) rfl (by omega) (by omega)]
      omega
    refine f_A_givenBack_18 a2 v3 σ _ ⟨fun _ => ⟨_, rfl, BQ.t2 hw ht hl hk2.2.2.2.2.1⟩, fun _ => (g_findEasiest_t σ hk2 hl).int ?_⟩
    rintro x2 σ1 ⟨t1, l1, hx2⟩
    have k1 : kk (bs 86 σ1) := kk_of (fun k hk => by show σ1 (86 + k) = σ (86 + k); exact t1 _ (by omega)) hk2
    have r1 : ∀ a, a < 43 ∨ 127 ≤ a → σ1 a = σ0 a := fun a ha => (t1 a (by omega)).trans (ht a ha)
    refine ⟨fun n2 => ?_, fun _ => ⟨_, rfl, BQ.t2 hw r1 l1 k1.2.2.2.2.1⟩⟩
    obtain ⟨s, hs, hs2, hon⟩ := hx2.resolve_left n2
    refine (g_tryOut_t hs2 hs σ1 k1 l1 (by rw [t1 104 (by omega)]; exact hon)).int ?_
    rintro x4 σ3 ⟨t3, k3⟩
    refine (x_cpy shP4 σ3).void ?_
    rintro σ5 ⟨o5, e5, n5⟩
    have k3' : kk (bs 86 σ3) := kk_of (fun k hk => by show σ3 (86 + k) = σ1 (86 + k); exact t3 _ (by omega)) k1
    refine ih (k + 1) _ _ σ5 h2' (by omega) (fun a ha => (o5 a (by omega)).trans ((t3 a (by omega)).trans (r1 a ha))) ?_ ?_
    · exact kl_of (σ := bs 43 σ3) (by show σ5 77 5 = σ3 77 5; rw [o5 77 (by omega)]) k3.2.2.2.2.1
    · exact kk_eqr e5 (kl_of (σ := bs 86 σ3) n5 k3'.2.2.2.2.1) k3
theorem a_givenBackQ (σ : sm_S) (h : WW σ) : xC xF j_A_givenBack [.ref 42] σ (sm_I (fun _ σ' => BQ σ σ')) := by
  refine f_A_givenBack σ _ ((x_cpy shP3 σ).void ?_)
  rintro σ1 ⟨o1, e1, n1⟩
  refine l_givenBackAQ σ h 8 0 0 _ σ1 rfl rfl (fun a ha => o1 a (by omega)) ?_ ?_
  · exact kl_of (σ := bs 43 σ) (by show σ1 77 5 = σ 77 5; rw [o1 77 (by omega)]) h.2.1
  · exact kk_eqr e1 (kl_of (σ := bs 86 σ) n1 h.2.2.1) (kk_bs0 h.1)
theorem a_logQ (a1 a2 : Int32) (σ : sm_S) (h : WW σ) : xC xF j_A_log [.ref 42, .int a1, .int a2] σ (sm_I (fun _ σ' => BQ σ σ')) :=
  f_A_log a1 a2 σ _ (kp1Q h (e_cell a1 a2 σ h.1.2.2.2.2.1))
theorem a_countQ (a1 : Int32) (σ : sm_S) (h : WW σ) : xC xF j_A_count [.ref 42, .int a1] σ (sm_I (fun _ σ' => BQ σ σ')) := by
  refine f_A_count a1 σ _ ⟨fun _ => kpQ h _, fun h1 => ⟨fun h2 => ?_, fun _ => kpQ h _⟩⟩
  obtain ⟨n, hn⟩ := rg_n h1
  rw [t_lt, hn] at h2
  have h2 : (n : Int) < 11 := h2
  exact ⟨t_vp hn (by omega), kpQ h _⟩
theorem a_movableByNormalQ (σ : sm_S) (h : WW σ) : xC xF j_A_movableByNormal [.ref 42] σ (sm_ri False (fun x σ' => sm_I (fun _ σ' => BQ σ σ') (some (.int x)) σ')) := by
  refine f_A_movableByNormal σ _ ((nw0 (e_inZone 0 σ)).int ?_)
  rintro x2 σ ⟨-, rfl⟩
  refine ⟨fun n2 => (nw0 (e_inZone 1 σ)).int ?_, fun _ => kpQ h _⟩
  rintro x4 σ ⟨-, rfl⟩
  exact ⟨n2, kpQ h _⟩
theorem l_bitsIn2Q (σ : sm_S) (hw : WW σ) : ∀ (d k : Nat) (a1 a4 : Int32) (v5 : Value), a4.toInt = k → k + d = 8 → xE xF m_R_bitsIn 10 [.ref 2, .int a1, .ref 2, .int (Int32.ofNat 8), .int a4, v5] [] σ (sm_I (fun _ σ' => BQ σ σ')) := by
  intro d
  induction d with
  | zero =>
    intro k a1 a4 v5 h4 hk
    refine f_R_bitsIn2_10 a1 _ a4 v5 σ _ ⟨fun _ => kpQ hw _, fun h => absurd ?_ h⟩
    rw [t_le, h4]
    show (8 : Int) ≤ _
    omega
  | succ d ih =>
    intro k a1 a4 v5 h4 hk
    have h4' : (a4 + 1).toInt = ((k + 1 : Nat) : Int) := by
      rw [t_add h4 (y := 1) rfl (by omega) (by omega)]
      omega
    refine f_R_bitsIn2_10 a1 _ a4 v5 σ _ ⟨fun _ => kpQ hw _, fun _ => ⟨t_vp h4 (by omega), (nw1 (c_bitCount _ σ)).int ?_⟩⟩
    rintro x2 σ rfl
    exact ih (k + 1) _ _ _ h4' (by omega)
theorem a_bitsIn2Q (σ : sm_S) (h : WW σ) : xC xF j_R_bitsIn [.ref 2] σ (sm_ri False (fun x σ' => sm_I (fun _ σ' => BQ σ σ') (some (.int x)) σ')) :=
  sm_C.int (P := fun _ σ' => BQ σ σ') (f_R_bitsIn2 σ _ (l_bitsIn2Q σ h 8 0 _ 0 _ rfl rfl)) (fun x σ' q => ⟨x, rfl, q⟩)
theorem l_bitsIn3Q (σ : sm_S) (hw : WW σ) : ∀ (d k : Nat) (a1 a4 : Int32) (v5 : Value), a4.toInt = k → k + d = 8 → xE xF m_R_bitsIn 10 [.ref 3, .int a1, .ref 3, .int (Int32.ofNat 8), .int a4, v5] [] σ (sm_I (fun _ σ' => BQ σ σ')) := by
  intro d
  induction d with
  | zero =>
    intro k a1 a4 v5 h4 hk
    refine f_R_bitsIn3_10 a1 _ a4 v5 σ _ ⟨fun _ => kpQ hw _, fun h => absurd ?_ h⟩
    rw [t_le, h4]
    show (8 : Int) ≤ _
    omega
  | succ d ih =>
    intro k a1 a4 v5 h4 hk
    have h4' : (a4 + 1).toInt = ((k + 1 : Nat) : Int) := by
      rw [t_add h4 (y := 1) rfl (by omega) (by omega)]
      omega
    refine f_R_bitsIn3_10 a1 _ a4 v5 σ _ ⟨fun _ => kpQ hw _, fun _ => ⟨t_vp h4 (by omega), (nw1 (c_bitCount _ σ)).int ?_⟩⟩
    rintro x2 σ rfl
    exact ih (k + 1) _ _ _ h4' (by omega)
theorem a_bitsIn3Q (σ : sm_S) (h : WW σ) : xC xF j_R_bitsIn [.ref 3] σ (sm_ri False (fun x σ' => sm_I (fun _ σ' => BQ σ σ') (some (.int x)) σ')) :=
  sm_C.int (P := fun _ σ' => BQ σ σ') (f_R_bitsIn3 σ _ (l_bitsIn3Q σ h 8 0 _ 0 _ rfl rfl)) (fun x σ' q => ⟨x, rfl, q⟩)
theorem l_bitsIn4Q (σ : sm_S) (hw : WW σ) : ∀ (d k : Nat) (a1 a4 : Int32) (v5 : Value), a4.toInt = k → k + d = 8 → xE xF m_R_bitsIn 10 [.ref 4, .int a1, .ref 4, .int (Int32.ofNat 8), .int a4, v5] [] σ (sm_I (fun _ σ' => BQ σ σ')) := by
  intro d
  induction d with
  | zero =>
    intro k a1 a4 v5 h4 hk
    refine f_R_bitsIn4_10 a1 _ a4 v5 σ _ ⟨fun _ => kpQ hw _, fun h => absurd ?_ h⟩
    rw [t_le, h4]
    show (8 : Int) ≤ _
    omega
  | succ d ih =>
    intro k a1 a4 v5 h4 hk
    have h4' : (a4 + 1).toInt = ((k + 1 : Nat) : Int) := by
      rw [t_add h4 (y := 1) rfl (by omega) (by omega)]
      omega
    refine f_R_bitsIn4_10 a1 _ a4 v5 σ _ ⟨fun _ => kpQ hw _, fun _ => ⟨t_vp h4 (by omega), (nw1 (c_bitCount _ σ)).int ?_⟩⟩
    rintro x2 σ rfl
    exact ih (k + 1) _ _ _ h4' (by omega)
theorem a_bitsIn4Q (σ : sm_S) (h : WW σ) : xC xF j_R_bitsIn [.ref 4] σ (sm_ri False (fun x σ' => sm_I (fun _ σ' => BQ σ σ') (some (.int x)) σ')) :=
  sm_C.int (P := fun _ σ' => BQ σ σ') (f_R_bitsIn4 σ _ (l_bitsIn4Q σ h 8 0 _ 0 _ rfl rfl)) (fun x σ' q => ⟨x, rfl, q⟩)
theorem l_bitsIn5Q (σ : sm_S) (hw : WW σ) : ∀ (d k : Nat) (a1 a4 : Int32) (v5 : Value), a4.toInt = k → k + d = 8 → xE xF m_R_bitsIn 10 [.ref 5, .int a1, .ref 5, .int (Int32.ofNat 8), .int a4, v5] [] σ (sm_I (fun _ σ' => BQ σ σ')) := by
  intro d
  induction d with
  | zero =>
    intro k a1 a4 v5 h4 hk
    refine f_R_bitsIn5_10 a1 _ a4 v5 σ _ ⟨fun _ => kpQ hw _, fun h => absurd ?_ h⟩
    rw [t_le, h4]
    show (8 : Int) ≤ _
    omega
  | succ d ih =>
    intro k a1 a4 v5 h4 hk
    have h4' : (a4 + 1).toInt = ((k + 1 : Nat) : Int) := by
      rw [t_add h4 (y := 1) rfl (by omega) (by omega)]
      omega
    refine f_R_bitsIn5_10 a1 _ a4 v5 σ _ ⟨fun _ => kpQ hw _, fun _ => ⟨t_vp h4 (by omega), (nw1 (c_bitCount _ σ)).int ?_⟩⟩
    rintro x2 σ rfl
    exact ih (k + 1) _ _ _ h4' (by omega)
theorem a_bitsIn5Q (σ : sm_S) (h : WW σ) : xC xF j_R_bitsIn [.ref 5] σ (sm_ri False (fun x σ' => sm_I (fun _ σ' => BQ σ σ') (some (.int x)) σ')) :=
  sm_C.int (P := fun _ σ' => BQ σ σ') (f_R_bitsIn5 σ _ (l_bitsIn5Q σ h 8 0 _ 0 _ rfl rfl)) (fun x σ' q => ⟨x, rfl, q⟩)
theorem a_lookQ (a1 : Int32) (σ : sm_S) (h : WW σ) : xC xF j_A_look [.ref 42, .int a1] σ (sm_I (fun _ σ' => BQ σ σ')) := by
  have z6 : xC xF j_S_inZone [.ref 17, .int 0] σ (sm_ri False (fun x16 σ15 => xC xF j_S_inZone [.ref 17, .int 1] σ15 (sm_ri False (fun x18 σ17 => sm_I (fun _ σ' => BQ σ σ') (some (.int (x16 + x18))) σ17)))) := by
    refine (nw0 (e_inZone 0 σ)).int ?_
    rintro x2 σ ⟨-, rfl⟩
    refine (nw0 (e_inZone 1 σ)).int ?_
    rintro x4 σ ⟨-, rfl⟩
    exact kpQ h _
  refine f_A_look a1 σ _ ⟨fun _ => ?_, fun h0 => ⟨fun _ => ?_, fun h4 => ?_⟩⟩
  · exact ⟨fun _ => kpQ h _, fun _ => ⟨fun _ => kp1Q h (e_howMany σ), fun _ => ⟨fun _ => z6, fun _ => ⟨fun _ => a_bitsIn2Q σ h, fun _ => ⟨fun _ => a_bitsIn3Q σ h, fun _ => ⟨fun _ => a_bitsIn4Q σ h, fun _ => ⟨fun _ => a_bitsIn5Q σ h, fun _ => ⟨fun _ => kp1Q h (e_waitingSet σ), fun _ => ⟨fun _ => kp1Q h (e_goingSet σ), fun _ => ⟨fun _ => kpQ h _, fun _ => ⟨fun _ => a_movableByNormalQ σ h, fun _ => kpQ h _⟩⟩⟩⟩⟩⟩⟩⟩⟩⟩⟩
  · exact ⟨fun _ => kpQ h _, fun _ => ⟨fun _ => kp1Q h (e_howMany σ), fun _ => ⟨fun _ => z6, fun _ => ⟨fun _ => a_bitsIn2Q σ h, fun _ => ⟨fun _ => a_bitsIn3Q σ h, fun _ => ⟨fun _ => a_bitsIn4Q σ h, fun _ => ⟨fun _ => a_bitsIn5Q σ h, fun _ => ⟨fun _ => kp1Q h (e_waitingSet σ), fun _ => ⟨fun _ => kp1Q h (e_goingSet σ), fun _ => ⟨fun _ => kpQ h _, fun _ => ⟨fun _ => a_movableByNormalQ σ h, fun _ => kpQ h _⟩⟩⟩⟩⟩⟩⟩⟩⟩⟩⟩
  · obtain ⟨n, hn⟩ := rg_n h0
    rw [t_le, hn] at h4
    have h4 : ¬ (4 : Int) ≤ n := h4
    exact ⟨t_vp hn (by omega), kpQ h _⟩
end
section
/-! ===== the simulation: the pairs of calls ===== -/
def tw (N : Nat) (c : sm_S) (v : Nat → Int32) : Prop := tie True N c v ∧ jj N v ∧ jx v
theorem tw.eq {N : Nat} {c c' : sm_S} {v v' : Nat → Int32} (h : tw N c v) (e : eqT c c') (hv : ∀ i, i < 2662 → v' i = v i) : tw N c' v' := ⟨h.1.eq e hv, jj_eq hv h.2.1, h.2.2.eq hv⟩
def LR (B : Nat) (σ : sm_S) : Prop := LQ B σ ∧ (∃ N, N ≤ B ∧ tw N σ (σ 169)) ∧ (σ 42 4 ≠ 0 → ∃ N, N ≤ B ∧ tw N (bs 127 σ) (σ 173))
def kQ (σ σ' : sm_S) : Prop := (∀ i, i < 2662 → σ' 169 i = σ 169 i) ∧ σ' 173 = σ 173
theorem qU {j N D : Nat} {as as' : List Value} {σ : sm_S} (ha : as.map (sm_cv rM) = as') (h : xC xM j as (sh rM σ) (sm_I (puQ N D (sh rM σ)))) : xC xF j as' σ (sm_I (fun _ σ' => kQ σ σ')) := by
  subst ha
  refine (x_up shMF h).mono ?_
  rintro r σ' ⟨r1, τ, rfl, ⟨x, rfl, ⟨N', h1, h2, h3, h4, -⟩, hx⟩, hs, ho⟩
  refine ⟨x, rfl, fun i hi => ?_, ?_⟩
  · have e1 : σ' 169 = τ 1 := hs.1 1 (0, 2662) rfl
    rw [e1, hx i hi]
    rfl
  · have e5 : σ' 173 = τ 5 := hs.1 5 (0, 2662) rfl
    rw [e5, h4]
    rfl
theorem qUN {j N D : Nat} {as as' : List Value} {σ : sm_S} (ha : as.map (sm_cv rM) = as') (h : xC xN j as (sh rM σ) (sm_I (puQ N D (sh rM σ)))) : xC xF j as' σ (sm_I (fun _ σ' => kQ σ σ')) := by
  subst ha
  refine (x_up shNF h).mono ?_
  rintro r σ' ⟨r1, τ, rfl, ⟨x, rfl, ⟨N', h1, h2, h3, h4, -⟩, hx⟩, hs, ho⟩
  refine ⟨x, rfl, fun i hi => ?_, ?_⟩
  · have e1 : σ' 169 = τ 1 := hs.1 1 (0, 2662) rfl
    rw [e1, hx i hi]
    rfl
  · have e5 : σ' 173 = τ 5 := hs.1 5 (0, 2662) rfl
    rw [e5, h4]
    rfl
/-- two calls, one after the other -/
def two (C : Int32 → Int32 → Prop) (jA jM : Nat) (asA asM : List Value) (B : Nat) (σ : sm_S) : Prop := xC xF jA asA σ (sm_I (fun x σ1 => xC xF jM asM σ1 (sm_I (fun y σ2 => C x y ∧ LR (B + 1488000) σ2))))
theorem LR.up {B B' : Nat} {σ : sm_S} (h : LR B σ) (hB : B ≤ B') : LR B' σ := by
  obtain ⟨⟨h1, h2, h3⟩, ⟨N, hN, t⟩, h4⟩ := h
  refine ⟨⟨h1, h2.up hB, h3⟩, ⟨N, by omega, t⟩, fun z => ?_⟩
  obtain ⟨N2, hN2, t2⟩ := h4 z
  exact ⟨N2, by omega, t2⟩
theorem CLm {jA jM B : Nat} {asA asM asM' : List Value} {σ : sm_S} (h : LR B σ) (ha : asM.map (sm_cv rM) = asM') (pr : ∀ N, N ≤ B → tw N σ (σ 169) → prC jA jM asA asM N σ) (a : xC xF jA asA σ (sm_I (fun _ σ' => AQ σ σ'))) (m : ∀ σ1, LQ B σ1 → xC xF jM asM' σ1 (sm_I (fun _ σ' => mQ (B + 1488000) σ1 σ'))) : two (fun x y => x = y) jA jM asA asM' B σ := by
  obtain ⟨hL, ⟨N, hN, ht⟩, him⟩ := h
  obtain ⟨r, v', N', n', j', x', C, R⟩ := pr N hN ht
  refine (C.and a).mono ?_
  rintro r0 σ1 ⟨⟨x, e0, hx, t1, o1⟩, x2, -, hA⟩
  refine ⟨x, e0, ?_⟩
  have hL1 := hL.a hA
  refine ((R.up ha σ1 (o1 169 (by omega)) (o1 172 (by omega))).and (m σ1 hL1)).mono ?_
  rintro r3 σ2 ⟨⟨y, e3, hy, w1, w2⟩, y2, -, hm⟩
  refine ⟨y, e3, hx.trans hy.symm, hL1.m hm, ⟨N', by omega, ?_⟩, fun z => ?_⟩
  · rw [w1]
    exact ⟨t1.eq (eqT.of (fun k hk => hm.2.1 k (by omega))) (fun _ _ => rfl), j', x'⟩
  · rw [hm.2.1 42 (by omega), o1 42 (by omega)] at z
    obtain ⟨N2, hN2, t2⟩ := him z
    refine ⟨N2, by omega, ?_⟩
    rw [w2, o1 173 (by omega)]
    refine t2.eq (eqT.of (fun k hk => ?_)) (fun _ _ => rfl)
    show σ2 (127 + k) = σ (127 + k)
    rw [hm.2.1 _ (by omega), o1 _ (by omega)]
theorem CLq {jA jM B : Nat} {asA asM : List Value} {σ : sm_S} (h : LR B σ) (a : xC xF jA asA σ (sm_I (fun _ σ' => BQ σ σ'))) (m : ∀ σ1, LQ B σ1 → xC xF jM asM σ1 (sm_I (fun _ σ' => mQ (B + 1488000) σ1 σ'))) (k : ∀ σ1, LQ B σ1 → xC xF jM asM σ1 (sm_I (fun _ σ' => kQ σ1 σ'))) : two (fun _ _ => True) jA jM asA asM B σ := by
  obtain ⟨hL, ⟨N, hN, ht⟩, him⟩ := h
  refine a.mono ?_
  rintro r0 σ1 ⟨x, e0, hA, o1⟩
  refine ⟨x, e0, ?_⟩
  have hL1 := hL.a hA
  refine ((m σ1 hL1).and (k σ1 hL1)).mono ?_
  rintro r3 σ2 ⟨⟨y, e3, hm⟩, y2, -, w1, w2⟩
  refine ⟨y, e3, trivial, hL1.m hm, ⟨N, by omega, ?_⟩, fun z => ?_⟩
  · refine ht.eq (eqT.of (fun k hk => ?_)) (fun i hi => ?_)
    · rw [hm.2.1 k (by omega), o1 k (by omega)]
    · rw [w1 i hi, o1 169 (by omega)]
  · rw [hm.2.1 42 (by omega), o1 42 (by omega)] at z
    obtain ⟨N2, hN2, t2⟩ := him z
    refine ⟨N2, by omega, ?_⟩
    rw [w2, o1 173 (by omega)]
    refine t2.eq (eqT.of (fun k hk => ?_)) (fun _ _ => rfl)
    show σ2 (127 + k) = σ (127 + k)
    rw [hm.2.1 _ (by omega), o1 _ (by omega)]
theorem cl_take {B : Nat} (a1 a2 a3 a4 : Int32) (σ : sm_S) (hB : B < 1500000000) (h : LR B σ) : two (fun x y => x = y) j_A_take j_M_take [.ref 42, .int a1, .int a2, .int a3, .int a4] [.ref 168, .int a1, .int a2, .int a3, .int a4] B σ :=
  CLm (asM := [.ref 0, .int a1, .int a2, .int a3, .int a4]) h rfl (fun N hN t => pr_take a1 a2 a3 a4 t.1 t.2.1 t.2.2 (by omega)) (a_take a1 a2 a3 a4 σ h.1.1) (fun σ1 q => (m_take a1 a2 a3 a4 σ1 hB q.2.1))
theorem cl_free {B : Nat} (a1 : Int32) (σ : sm_S) (hB : B < 1500000000) (h : LR B σ) : two (fun x y => x = y) j_A_free j_M_free [.ref 42, .int a1] [.ref 168, .int a1] B σ :=
  CLm (asM := [.ref 0, .int a1]) h rfl (fun N hN t => pr_free a1 t.1 t.2.1 t.2.2) (a_free a1 σ h.1.1) (fun σ1 q => (m_free a1 σ1 hB q.2.1))
theorem cl_read {B : Nat} (a1 a2 a3 : Int32) (σ : sm_S) (hB : B < 1500000000) (h : LR B σ) : two (fun x y => x = y) j_A_read j_M_read [.ref 42, .int a1, .int a2, .int a3] [.ref 168, .int a1, .int a2, .int a3] B σ :=
  CLm (asM := [.ref 0, .int a1, .int a2, .int a3]) h rfl (fun N hN t => pr_read a1 a2 a3 t.1 t.2.1 t.2.2 (by omega)) (a_read a1 a2 a3 σ h.1.1) (fun σ1 q => (m_read a1 a2 a3 σ1 hB q.2.1))
theorem cl_write {B : Nat} (a1 a2 a3 a4 : Int32) (σ : sm_S) (hB : B < 1500000000) (h : LR B σ) : two (fun x y => x = y) j_A_write j_M_write [.ref 42, .int a1, .int a2, .int a3, .int a4] [.ref 168, .int a1, .int a2, .int a3, .int a4] B σ :=
  CLm (asM := [.ref 0, .int a1, .int a2, .int a3, .int a4]) h rfl (fun N hN t => pr_write a1 a2 a3 a4 t.1 t.2.1 t.2.2 (by omega)) (a_write a1 a2 a3 a4 σ h.1.1) (fun σ1 q => (m_write a1 a2 a3 a4 σ1 hB q.2.1))
theorem cl_pin {B : Nat} (a1 a2 : Int32) (σ : sm_S) (hB : B < 1500000000) (h : LR B σ) : two (fun x y => x = y) j_A_pin j_M_pin [.ref 42, .int a1, .int a2] [.ref 168, .int a1, .int a2] B σ :=
  CLm (asM := [.ref 0, .int a1, .int a2]) h rfl (fun N hN t => pr_pin a1 a2 t.1 t.2.1 t.2.2 (by omega)) (a_pin a1 a2 σ h.1.1) (fun σ1 q => (m_pin a1 a2 σ1 hB q.2.1))
theorem cl_unpin {B : Nat} (a1 a2 : Int32) (σ : sm_S) (hB : B < 1500000000) (h : LR B σ) : two (fun x y => x = y) j_A_unpin j_M_unpin [.ref 42, .int a1, .int a2] [.ref 168, .int a1, .int a2] B σ :=
  CLm (asM := [.ref 0, .int a1, .int a2]) h rfl (fun N hN t => pr_unpin a1 a2 t.1 t.2.1 t.2.2) (a_unpin a1 a2 σ h.1.1) (fun σ1 q => (m_unpin a1 a2 σ1 hB q.2.1))
theorem cl_come {B : Nat} (a1 a2 : Int32) (σ : sm_S) (hB : B < 1500000000) (h : LR B σ) : two (fun x y => x = y) j_A_come j_M_come [.ref 42, .int a1, .int a2] [.ref 168, .int a1, .int a2] B σ :=
  CLm (asM := [.ref 0, .int a1, .int a2]) h rfl (fun N hN t => pr_come a1 a2 t.1 t.2.1 t.2.2 (by omega)) (a_come a1 a2 σ h.1.1) (fun σ1 q => (m_come a1 a2 σ1 hB q.2.1))
theorem cl_byTurns {B : Nat} (a1 : Int32) (σ : sm_S) (hB : B < 1500000000) (h : LR B σ) : two (fun x y => x = y) j_A_byTurns j_M_byTurns [.ref 42, .int a1] [.ref 168, .int a1] B σ :=
  CLm (asM := [.ref 0, .int a1]) h rfl (fun N hN t => pr_byTurns a1 t.1 t.2.1 t.2.2 (by omega)) (a_byTurns a1 σ h.1.1) (fun σ1 q => (m_byTurns a1 σ1 hB q.2.1))
theorem cl_press {B : Nat} (a1 : Int32) (σ : sm_S) (hB : B < 1500000000) (h : LR B σ) : two (fun x y => x = y) j_A_press j_M_press [.ref 42, .int a1] [.ref 168, .int a1] B σ :=
  CLm (asM := [.ref 0, .int a1]) h rfl (fun N hN t => pr_press a1 t.1 t.2.1 t.2.2) (a_press a1 σ h.1.1) (fun σ1 q => (m_press a1 σ1 hB q.2.1))
theorem cl_gather {B : Nat} (a1 : Int32) (σ : sm_S) (hB : B < 1500000000) (h : LR B σ) : two (fun x y => x = y) j_A_gather j_M_gather [.ref 42, .int a1] [.ref 168, .int a1] B σ :=
  CLm (asM := [.ref 0, .int a1]) h rfl (fun N hN t => pr_gather a1 t.1 t.2.1 t.2.2) (a_gather a1 σ h.1.1) (fun σ1 q => (m_gather a1 σ1 hB q.2.1))
theorem cl_go {B : Nat} (a1 : Int32) (σ : sm_S) (hB : B < 1500000000) (h : LR B σ) : two (fun x y => x = y) j_A_go j_M_go [.ref 42, .int a1] [.ref 168, .int a1] B σ :=
  CLm (asM := [.ref 0, .int a1]) h rfl (fun N hN t => pr_go a1 t.1 t.2.1 t.2.2 (by omega)) (a_go a1 σ h.1.1) (fun σ1 q => (m_go a1 σ1 hB q.2.1))
theorem cl_giveUp {B : Nat} (a1 : Int32) (σ : sm_S) (hB : B < 1500000000) (h : LR B σ) : two (fun x y => x = y) j_A_giveUp j_M_giveUp [.ref 42, .int a1] [.ref 168, .int a1] B σ :=
  CLm (asM := [.ref 0, .int a1]) h rfl (fun N hN t => pr_giveUp a1 t.1 t.2.1 t.2.2 (by omega)) (a_giveUp a1 σ h.1.1) (fun σ1 q => (m_giveUp a1 σ1 hB q.2.1))
theorem cl_tick {B : Nat} (a1 : Int32) (σ : sm_S) (hB : B < 1500000000) (h : LR B σ) : two (fun x y => x = y) j_A_tick j_M_tick [.ref 42, .int a1] [.ref 168, .int a1] B σ :=
  CLm (asM := [.ref 0, .int a1]) h rfl (fun N hN t => pr_tick a1 t.1 t.2.1 t.2.2 (by omega)) (a_tick a1 σ h.1.1) (fun σ1 q => (m_tick a1 σ1 hB q.2.1))
theorem cl_set {B : Nat} (a1 a2 : Int32) (σ : sm_S) (hB : B < 1500000000) (h : LR B σ) : two (fun x y => x = y) j_A_set j_M_set [.ref 42, .int a1, .int a2] [.ref 168, .int a1, .int a2] B σ :=
  CLm (asM := [.ref 0, .int a1, .int a2]) h rfl (fun N hN t => pr_set a1 a2 t.1 t.2.1 t.2.2) ((a_set a1 a2 σ h.1.1).mono (by rintro r0 σ1 ⟨x, e, -, q⟩; exact ⟨x, e, q⟩)) (fun σ1 q => ((m_set a1 a2 σ1 q.2.1).mono (by rintro r0 σ2 ⟨x, e, -, q⟩; exact ⟨x, e, q⟩)))
theorem cl_home {B : Nat} (a1 a2 : Int32) (σ : sm_S) (hB : B < 1500000000) (h : LR B σ) : two (fun x y => x = y) j_A_home j_M_home [.ref 42, .int a1, .int a2] [.ref 168, .int a1, .int a2] B σ :=
  CLm (asM := [.ref 0, .int a1, .int a2]) h rfl (fun N hN t => pr_home a1 a2 t.1 t.2.1 t.2.2) ((a_home a1 a2 σ h.1.1).mono (by rintro r0 σ1 ⟨x, e, -, q⟩; exact ⟨x, e, q⟩)) (fun σ1 q => ((m_home a1 a2 σ1 q.2.1).mono (by rintro r0 σ2 ⟨x, e, -, q⟩; exact ⟨x, e, q⟩)))
theorem cl_frame {B : Nat} (a1 a2 : Int32) (σ : sm_S) (hB : B < 1500000000) (h : LR B σ) : two (fun _ _ => True) j_A_frame j_M_frame [.ref 42, .int a1, .int a2] [.ref 168, .int a1, .int a2] B σ :=
  CLq h (a_frameQ a1 a2 σ h.1.1) (fun σ1 q => m_frame a1 a2 σ1 hB q.2.1) (fun σ1 q => by
    obtain ⟨N, hN, hj⟩ := (lw_bs q.2.1).1
    exact qU (as := [.ref 0, .int a1, .int a2]) rfl (k_frame (N := N) a1 a2 (sh rM σ1) hj))
theorem cl_block {B : Nat} (a1 a2 : Int32) (σ : sm_S) (hB : B < 1500000000) (h : LR B σ) : two (fun _ _ => True) j_A_block j_M_block [.ref 42, .int a1, .int a2] [.ref 168, .int a1, .int a2] B σ :=
  CLq h (a_blockQ a1 a2 σ h.1.1) (fun σ1 q => m_block a1 a2 σ1 hB q.2.1) (fun σ1 q => by
    obtain ⟨N, hN, hj⟩ := (lw_bs q.2.1).1
    exact qU (as := [.ref 0, .int a1, .int a2]) rfl (k_block (N := N) a1 a2 (sh rM σ1) hj))
theorem cl_span {B : Nat} (a1 a2 : Int32) (σ : sm_S) (hB : B < 1500000000) (h : LR B σ) : two (fun _ _ => True) j_A_span j_M_span [.ref 42, .int a1, .int a2] [.ref 168, .int a1, .int a2] B σ :=
  CLq h (a_spanQ a1 a2 σ h.1.1) (fun σ1 q => m_span a1 a2 σ1 hB q.2.1) (fun σ1 q => by
    obtain ⟨N, hN, hj⟩ := (lw_bs q.2.1).1
    exact qU (as := [.ref 0, .int a1, .int a2]) rfl (k_span (N := N) a1 a2 (sh rM σ1) hj))
theorem cl_task {B : Nat} (a1 a2 : Int32) (σ : sm_S) (hB : B < 1500000000) (h : LR B σ) : two (fun _ _ => True) j_A_task j_M_task [.ref 42, .int a1, .int a2] [.ref 168, .int a1, .int a2] B σ :=
  CLq h (a_taskQ a1 a2 σ h.1.1) (fun σ1 q => m_task a1 a2 σ1 hB q.2.1) (fun σ1 q => by
    obtain ⟨N, hN, hj⟩ := (lw_bs q.2.1).1
    exact qU (as := [.ref 0, .int a1, .int a2]) rfl (k_task (N := N) a1 a2 (sh rM σ1) hj))
theorem cl_zone {B : Nat} (a1 a2 : Int32) (σ : sm_S) (hB : B < 1500000000) (h : LR B σ) : two (fun _ _ => True) j_A_zone j_M_zone [.ref 42, .int a1, .int a2] [.ref 168, .int a1, .int a2] B σ :=
  CLq h (a_zoneQ a1 a2 σ h.1.1) (fun σ1 q => m_zone a1 a2 σ1 hB q.2.1) (fun σ1 q => by
    obtain ⟨N, hN, hj⟩ := (lw_bs q.2.1).1
    exact qU (as := [.ref 0, .int a1, .int a2]) rfl (k_zone (N := N) a1 a2 (sh rM σ1) hj))
theorem cl_loose {B : Nat} (a1 a2 : Int32) (σ : sm_S) (hB : B < 1500000000) (h : LR B σ) : two (fun _ _ => True) j_A_loose j_M_loose [.ref 42, .int a1, .int a2] [.ref 168, .int a1, .int a2] B σ :=
  CLq h (a_looseQ a1 a2 σ h.1.1) (fun σ1 q => m_loose a1 a2 σ1 hB q.2.1) (fun σ1 q => by
    obtain ⟨N, hN, hj⟩ := (lw_bs q.2.1).1
    exact qU (as := [.ref 0, .int a1, .int a2]) rfl (k_loose (N := N) a1 a2 (sh rM σ1) hj))
theorem cl_place {B : Nat} (a1 a2 a3 : Int32) (σ : sm_S) (hB : B < 1500000000) (h : LR B σ) : two (fun _ _ => True) j_A_place j_M_place [.ref 42, .int a1, .int a2, .int a3] [.ref 168, .int a1, .int a2, .int a3] B σ :=
  CLq h (a_placeQ a1 a2 a3 σ h.1.1) (fun σ1 q => m_place a1 a2 a3 σ1 hB q.2.1) (fun σ1 q => by
    obtain ⟨N, hN, hj⟩ := (lw_bs q.2.1).1
    exact qU (as := [.ref 0, .int a1, .int a2, .int a3]) rfl (k_place (N := N) a1 a2 a3 (sh rM σ1) hj))
theorem cl_hole {B : Nat} (a1 : Int32) (σ : sm_S) (hB : B < 1500000000) (h : LR B σ) : two (fun _ _ => True) j_A_hole j_M_hole [.ref 42, .int a1] [.ref 168, .int a1] B σ :=
  CLq h (a_holeQ a1 σ h.1.1) (fun σ1 q => m_hole a1 σ1 hB q.2.1) (fun σ1 q => by
    obtain ⟨N, hN, hj⟩ := (lw_bs q.2.1).1
    exact qU (as := [.ref 0, .int a1]) rfl (k_hole (N := N) a1 (sh rM σ1) hj))
theorem cl_keeps {B : Nat} (a1 a2 a3 : Int32) (σ : sm_S) (hB : B < 1500000000) (h : LR B σ) : two (fun _ _ => True) j_A_keeps j_M_keeps [.ref 42, .int a1, .int a2, .int a3] [.ref 168, .int a1, .int a2, .int a3] B σ :=
  CLq h (a_keepsQ a1 a2 a3 σ h.1.1) (fun σ1 q => m_keeps a1 a2 a3 σ1 hB q.2.1) (fun σ1 q => by
    obtain ⟨N, hN, hj⟩ := (lw_bs q.2.1).1
    exact qU (as := [.ref 0, .int a1, .int a2, .int a3]) rfl (k_keeps (N := N) a1 a2 a3 (sh rM σ1) hj))
theorem cl_holders {B : Nat} (a1 : Int32) (σ : sm_S) (hB : B < 1500000000) (h : LR B σ) : two (fun _ _ => True) j_A_holders j_M_holders [.ref 42, .int a1] [.ref 168, .int a1] B σ :=
  CLq h (a_holdersQ a1 σ h.1.1) (fun σ1 q => m_holders a1 σ1 hB q.2.1) (fun σ1 q => by
    obtain ⟨N, hN, hj⟩ := (lw_bs q.2.1).1
    exact qU (as := [.ref 0, .int a1]) rfl (k_holders (N := N) a1 (sh rM σ1) hj))
theorem cl_pressed {B : Nat} (a1 : Int32) (σ : sm_S) (hB : B < 1500000000) (h : LR B σ) : two (fun _ _ => True) j_A_pressed j_M_pressed [.ref 42, .int a1] [.ref 168, .int a1] B σ :=
  CLq h (a_pressedQ a1 σ h.1.1) (fun σ1 q => m_pressed a1 σ1 hB q.2.1) (fun σ1 q => by
    obtain ⟨N, hN, hj⟩ := (lw_bs q.2.1).1
    exact qU (as := [.ref 0, .int a1]) rfl (k_pressed (N := N) a1 (sh rM σ1) hj))
theorem cl_at {B : Nat} (a1 a2 : Int32) (σ : sm_S) (hB : B < 1500000000) (h : LR B σ) : two (fun _ _ => True) j_A_at j_M_at [.ref 42, .int a1, .int a2] [.ref 168, .int a1, .int a2] B σ :=
  CLq h (a_atQ a1 a2 σ h.1.1) (fun σ1 q => m_at a1 a2 σ1 hB q.2.1) (fun σ1 q => by
    obtain ⟨N, hN, hj⟩ := (lw_bs q.2.1).1
    exact qU (as := [.ref 0, .int a1, .int a2]) rfl (k_at (N := N) a1 a2 (sh rM σ1) hj))
theorem cl_movable {B : Nat} (σ : sm_S) (hB : B < 1500000000) (h : LR B σ) : two (fun _ _ => True) j_A_movable j_M_movable [.ref 42] [.ref 168] B σ :=
  CLq h (a_movableQ σ h.1.1) (fun σ1 q => m_movable σ1 hB q.2.1) (fun σ1 q => by
    obtain ⟨N, hN, hj⟩ := (lw_bs q.2.1).1
    exact qU (as := [.ref 0]) rfl (k_movable (N := N) (by omega) (sh rM σ1) hj))
theorem cl_would {B : Nat} (a1 a2 : Int32) (σ : sm_S) (hB : B < 1500000000) (h : LR B σ) : two (fun _ _ => True) j_A_would j_M_would [.ref 42, .int a1, .int a2] [.ref 168, .int a1, .int a2] B σ :=
  CLq h (a_wouldQ a1 a2 σ h.1.1) (fun σ1 q => m_would a1 a2 σ1 hB q.2.1) (fun σ1 q => by
    obtain ⟨N, hN, hj⟩ := (lw_bs q.2.1).1
    exact qU (as := [.ref 0, .int a1, .int a2]) rfl (k_would (N := N) a1 a2 (by omega) (sh rM σ1) hj))
theorem cl_easiest {B : Nat} (a1 : Int32) (σ : sm_S) (hB : B < 1500000000) (h : LR B σ) : two (fun _ _ => True) j_A_easiest j_M_easiest [.ref 42, .int a1] [.ref 168, .int a1] B σ :=
  CLq h (a_easiestQ a1 σ h.1.1) (fun σ1 q => m_easiest a1 σ1 hB q.2.1) (fun σ1 q => by
    obtain ⟨N, hN, hj⟩ := (lw_bs q.2.1).1
    exact qUN (as := [.ref 0, .int a1]) rfl (k_easiest (N := N) a1 (by omega) (sh rM σ1) hj))
theorem cl_givenBack {B : Nat} (σ : sm_S) (hB : B < 1500000000) (h : LR B σ) : two (fun _ _ => True) j_A_givenBack j_M_givenBack [.ref 42] [.ref 168] B σ :=
  CLq h (a_givenBackQ σ h.1.1) (fun σ1 q => m_givenBack σ1 hB q.2.1) (fun σ1 q => by
    obtain ⟨N, hN, hj⟩ := (lw_bs q.2.1).1
    exact qUN (as := [.ref 0]) rfl (k_givenBack (N := N) (by omega) (sh rM σ1) hj))
theorem cl_log {B : Nat} (a1 a2 : Int32) (σ : sm_S) (hB : B < 1500000000) (h : LR B σ) : two (fun _ _ => True) j_A_log j_M_log [.ref 42, .int a1, .int a2] [.ref 168, .int a1, .int a2] B σ :=
  CLq h (a_logQ a1 a2 σ h.1.1) (fun σ1 q => m_log a1 a2 σ1 hB q.2.1) (fun σ1 q => by
    obtain ⟨N, hN, hj⟩ := (lw_bs q.2.1).1
    exact qU (as := [.ref 0, .int a1, .int a2]) rfl (k_log (N := N) a1 a2 (sh rM σ1) hj))
theorem cl_count {B : Nat} (a1 : Int32) (σ : sm_S) (hB : B < 1500000000) (h : LR B σ) : two (fun _ _ => True) j_A_count j_M_count [.ref 42, .int a1] [.ref 168, .int a1] B σ :=
  CLq h (a_countQ a1 σ h.1.1) (fun σ1 q => m_count a1 σ1 hB q.2.1) (fun σ1 q => by
    obtain ⟨N, hN, hj⟩ := (lw_bs q.2.1).1
    exact qU (as := [.ref 0, .int a1]) rfl (k_count (N := N) a1 (sh rM σ1) hj))
theorem cl_look {B : Nat} (a1 : Int32) (σ : sm_S) (hB : B < 1500000000) (h : LR B σ) : two (fun _ _ => True) j_A_look j_M_look [.ref 42, .int a1] [.ref 168, .int a1] B σ :=
  CLq h (a_lookQ a1 σ h.1.1) (fun σ1 q => m_look a1 σ1 hB q.2.1) (fun σ1 q => by
    obtain ⟨N, hN, hj⟩ := (lw_bs q.2.1).1
    exact qU (as := [.ref 0, .int a1]) rfl (k_look (N := N) a1 (sh rM σ1) hj))
end
section
/-! ===== the simulation: the image ===== -/
theorem q_Y2 (σ : sm_S) : xC xP j_Y_copyFrom [.ref 0, .ref 41] σ (sm_V (fun σ' => cp cpL σ σ' ∧ σ' 26 7 = σ 67 7 ∧ σ' 8 8 = σ 49 8 ∧ σ' 0 7 = σ 41 7)) := by
  refine p_Y_copyFrom σ _ ((q_F σ cp.rf).void ?_)
  rintro σ1 ⟨h1, -⟩
  refine (q_B σ1 h1 rfl).void ?_
  rintro σ2 ⟨h2, e2, -⟩
  refine (q_S σ2 h2).void ?_
  rintro σ3 ⟨h3, o3⟩
  refine (q_K σ3 h3 rfl).void ?_
  rintro σ4 ⟨h4, e4, o4⟩
  refine (q_copy39 _).void ?_
  intro σ5 g5
  have h5 := h4.st (k := 39) (by omega) g5
  refine (q_copy40 _).void ?_
  intro σ6 g6
  have h6 := h5.st (k := 40) (by omega) g6
  intro σ7 e7
  subst e7
  refine ⟨rfl, h6.ob (by omega) rfl, ?_, ?_, ?_⟩
  · obtain ⟨w6, rfl, -⟩ := g6
    obtain ⟨w5, rfl, -⟩ := g5
    rw [s_ne (by decide), s_ne (by decide), s_ne (by decide)]
    exact e4
  · obtain ⟨w6, rfl, -⟩ := g6
    obtain ⟨w5, rfl, -⟩ := g5
    rw [s_ne (by decide), s_ne (by decide), s_ne (by decide), o4 8 (by omega), o3 8 (by omega)]
    exact e2
  · rw [s_at, u_at, h6.2.1 41 (by omega)]
theorem q_L2 (σ : sm_S) : xC xP j_L_copyFrom [.ref 34, .ref 75] σ (sm_V (fun σ' => (∀ k, 35 ≤ k → k ≤ 38 → ∀ i, i < 60 → σ' k i = σ (41 + k) i) ∧ σ' 34 4 = σ 75 4 ∧ σ' 34 5 = σ 75 5 ∧ ∀ k, k < 34 ∨ 38 < k → σ' k = σ k)) := by
  refine p_L_copyFrom σ _ ((q_copy35 _).void ?_)
  rintro σ1 ⟨w1, rfl, g1⟩
  refine (q_copy36 _).void ?_
  rintro σ2 ⟨w2, rfl, g2⟩
  refine (q_copy37 _).void ?_
  rintro σ3 ⟨w3, rfl, g3⟩
  refine (q_copy38 _).void ?_
  rintro σ4 ⟨w4, rfl, g4⟩
  intro σ5 e5 σ6 e6
  subst e5 e6
  refine ⟨rfl, fun k k1 k2 i hi => ?_, ?_, ?_, fun k hk => ?_⟩
  · rcases (show k = 35 ∨ k = 36 ∨ k = 37 ∨ k = 38 by omega) with q | q | q | q
    · subst q
      rw [s_ne (by decide), s_ne (by decide), s_ne (by decide), s_ne (by decide), s_ne (by decide), s_at, g1 i hi]
    · subst q
      rw [s_ne (by decide), s_ne (by decide), s_ne (by decide), s_ne (by decide), s_at, g2 i hi, s_ne (by decide)]
    · subst q
      rw [s_ne (by decide), s_ne (by decide), s_ne (by decide), s_at, g3 i hi, s_ne (by decide), s_ne (by decide)]
    · subst q
      rw [s_ne (by decide), s_ne (by decide), s_at, g4 i hi, s_ne (by decide), s_ne (by decide), s_ne (by decide)]
  · rw [s_at, u_ne (by decide), s_at, u_at, s_ne (by decide), s_ne (by decide), s_ne (by decide), s_ne (by decide)]
  · rw [s_at, u_at, s_ne (by decide), s_ne (by decide), s_ne (by decide), s_ne (by decide), s_ne (by decide)]
  · rw [s_ne (by omega), s_ne (by omega), s_ne (by omega), s_ne (by omega), s_ne (by omega), s_ne (by omega)]
theorem arP {k : Nat} (h : arK k) : ∃ q : Nat × Nat, xP[k]? = some (.inl q) := by
  obtain ⟨h1, h2, h3, h4, h5, h6, h7⟩ := h
  have dec : ∀ k, k < 41 → (k ≠ 0 ∧ k ≠ 1 ∧ k ≠ 8 ∧ k ≠ 17 ∧ k ≠ 26 ∧ k ≠ 34) → (match xP[k]? with | some (.inl _) => true | _ => false) = true := by decide +kernel
  have := dec k h1 ⟨h2, h3, h4, h5, h6, h7⟩
  revert this
  split
  · rename_i q hq
    exact fun _ => ⟨q, hq⟩
  · exact fun z => absurd z (by decide)
theorem arL {k : Nat} (h : arK k) (h2 : k < 34 ∨ 38 < k) : cpL.contains k = true := by
  obtain ⟨h1, h2, h3, h4, h5, h6, h7⟩ := h
  have dec : ∀ k, k < 41 → (k ≠ 0 ∧ k ≠ 1 ∧ k ≠ 8 ∧ k ≠ 17 ∧ k ≠ 26 ∧ k ≠ 34) → (k < 34 ∨ 38 < k) → cpL.contains k = true := by decide +kernel
  exact dec k h1 ⟨h2, h3, h4, h5, h6, h7⟩ (by omega)
theorem x_cpy2 {a b : Nat} (hR : sm_shR (r2 a b) xP xF) (σ : sm_S) : xC xF j_Y_copyFrom [.ref a, .ref b] σ (sm_V (fun σ' => (∀ c, c < a ∨ a + 41 ≤ c → σ' c = σ c) ∧ (∀ k, arK k → (k < 34 ∨ 38 < k) → ∀ i, i < ln k → σ' (a + k) i = σ (b + k) i) ∧ σ' (a + 26) 7 = σ (b + 26) 7 ∧ σ' (a + 8) 8 = σ (b + 8) 8 ∧ σ' (a + 0) 7 = σ (b + 0) 7)) := by
  have e : ([.ref 0, .ref 41] : List Value).map (sm_cv (r2 a b)) = [.ref a, .ref b] := by
    show [Value.ref (r2 a b 0), Value.ref (r2 a b (41 + 0))] = _
    rw [r2_lo (by omega), r2_hi (by omega)]
    rfl
  rw [← e]
  refine (x_up hR (q_Y2 (sh (r2 a b) σ))).mono ?_
  rintro r σ' ⟨r1, τ, rfl, ⟨rfl, h1, h26, h8, h0⟩, hs, ho⟩
  refine ⟨rfl, fun c hc => P_out hs ho (fun k hk => h1.2.1 k hk) hc, fun k hk hk2 i hi => ?_, ?_, ?_, ?_⟩
  · obtain ⟨q, hq⟩ := arP hk
    have e1 : σ' (r2 a b k) = τ k := hs.1 k q hq
    rw [r2_lo hk.1] at e1
    have e2 : τ k i = σ (r2 a b (41 + k)) i := h1.1 k (arL hk hk2) i hi
    rw [r2_hi hk.1] at e2
    rw [e1, e2]
  · have e1 : σ' (r2 a b 26) 7 = τ 26 7 := hs.2 26 6 _ 7 0 rfl rfl (by omega)
    have e2 : τ 26 7 = σ (r2 a b (41 + 26)) 7 := h26
    rw [r2_lo (by omega)] at e1
    rw [r2_hi (by omega)] at e2
    rw [e1, e2]
  · have e1 : σ' (r2 a b 8) 8 = τ 8 8 := hs.2 8 0 _ 8 0 rfl rfl (by omega)
    have e2 : τ 8 8 = σ (r2 a b (41 + 8)) 8 := h8
    rw [r2_lo (by omega)] at e1
    rw [r2_hi (by omega)] at e2
    rw [e1, e2]
  · have e1 : σ' (r2 a b 0) 7 = τ 0 7 := hs.2 0 4 _ 7 0 rfl rfl (by omega)
    have e2 : τ 0 7 = σ (r2 a b (41 + 0)) 7 := h0
    rw [r2_lo (by omega)] at e1
    rw [r2_hi (by omega)] at e2
    rw [e1, e2]
theorem x_cpyL2 {a b : Nat} (hR : sm_shR (r2 a b) xP xF) (σ : sm_S) : xC xF j_L_copyFrom [.ref (a + 34), .ref (b + 34)] σ (sm_V (fun σ' => (∀ c, c < a ∨ a + 41 ≤ c → σ' c = σ c) ∧ (∀ k, 35 ≤ k → k ≤ 38 → ∀ i, i < 60 → σ' (a + k) i = σ (b + k) i) ∧ σ' (a + 34) 4 = σ (b + 34) 4 ∧ σ' (a + 34) 5 = σ (b + 34) 5 ∧ (∀ k, arK k → (k < 34 ∨ 38 < k) → σ' (a + k) = σ (a + k)) ∧ σ' (a + 26) 7 = σ (a + 26) 7 ∧ σ' (a + 8) 8 = σ (a + 8) 8 ∧ σ' (a + 0) 7 = σ (a + 0) 7)) := by
  have e : ([.ref 34, .ref 75] : List Value).map (sm_cv (r2 a b)) = [.ref (a + 34), .ref (b + 34)] := by
    show [Value.ref (r2 a b 34), Value.ref (r2 a b (41 + 34))] = _
    rw [r2_lo (by omega), r2_hi (by omega)]
  rw [← e]
  refine (x_up hR (q_L2 (sh (r2 a b) σ))).mono ?_
  rintro r σ' ⟨r1, τ, rfl, ⟨rfl, h1, h4, h5, h2⟩, hs, ho⟩
  refine ⟨rfl, fun c hc => P_out hs ho (fun k hk => h2 k (by omega)) hc, fun k k1 k2 i hi => ?_, ?_, ?_, fun k hk hk2 => ?_, ?_, ?_, ?_⟩
  · obtain ⟨q, hq⟩ := arP (k := k) (by unfold arK; omega)
    have e1 : σ' (r2 a b k) = τ k := hs.1 k q hq
    rw [r2_lo (by omega)] at e1
    have e2 : τ k i = σ (r2 a b (41 + k)) i := h1 k k1 k2 i hi
    rw [r2_hi (by omega)] at e2
    rw [e1, e2]
  · have e1 : σ' (r2 a b 34) 4 = τ 34 4 := hs.2 34 3 _ 4 0 rfl rfl (by omega)
    have e2 : τ 34 4 = σ (r2 a b (41 + 34)) 4 := h4
    rw [r2_lo (by omega)] at e1
    rw [r2_hi (by omega)] at e2
    rw [e1, e2]
  · have e1 : σ' (r2 a b 34) 5 = τ 34 5 := hs.2 34 3 _ 5 0 rfl rfl (by omega)
    have e2 : τ 34 5 = σ (r2 a b (41 + 34)) 5 := h5
    rw [r2_lo (by omega)] at e1
    rw [r2_hi (by omega)] at e2
    rw [e1, e2]
  · obtain ⟨q, hq⟩ := arP hk
    have e1 : σ' (r2 a b k) = τ k := hs.1 k q hq
    have e2 : τ k = σ (r2 a b k) := h2 k hk2
    rw [r2_lo hk.1] at e1 e2
    rw [e1, e2]
  · have e1 : σ' (r2 a b 26) 7 = τ 26 7 := hs.2 26 6 _ 7 0 rfl rfl (by omega)
    have e2 : τ 26 = σ (r2 a b 26) := h2 26 (by omega)
    rw [r2_lo (by omega)] at e1 e2
    rw [e1, e2]
  · have e1 : σ' (r2 a b 8) 8 = τ 8 8 := hs.2 8 0 _ 8 0 rfl rfl (by omega)
    have e2 : τ 8 = σ (r2 a b 8) := h2 8 (by omega)
    rw [r2_lo (by omega)] at e1 e2
    rw [e1, e2]
  · have e1 : σ' (r2 a b 0) 7 = τ 0 7 := hs.2 0 4 _ 7 0 rfl rfl (by omega)
    have e2 : τ 0 = σ (r2 a b 0) := h2 0 (by omega)
    rw [r2_lo (by omega)] at e1 e2
    rw [e1, e2]
/-- the Memory and its Log are copied -/
theorem x_both {a b : Nat} (hR : sm_shR (r2 a b) xP xF) (hab : b + 41 ≤ a ∨ a + 41 ≤ b) (σ : sm_S) {Q : sm_S → Prop} (k : ∀ σ', (∀ c, c < a ∨ a + 41 ≤ c → σ' c = σ c) → eqT (bs b σ) (bs a σ') → Q σ') : xC xF j_Y_copyFrom [.ref a, .ref b] σ (sm_rv False (fun σ1 => xC xF j_L_copyFrom [.ref (a + 34), .ref (b + 34)] σ1 (sm_rv False Q))) := by
  refine (x_cpy2 hR σ).void ?_
  rintro σ1 ⟨o1, f1, f2, f3, f4⟩
  refine (x_cpyL2 hR σ1).void ?_
  rintro σ2 ⟨o2, g1, g2, g3, g4, g5, g6, g7⟩
  refine k σ2 (fun c hc => (o2 c hc).trans (o1 c hc)) ⟨fun j hj i hi => ?_, g7.trans f4, g6.trans f3, g5.trans f2, ?_, ?_⟩
  · show σ2 (a + j) i = σ (b + j) i
    by_cases q : j < 34 ∨ 38 < j
    · rw [g4 j hj q, f1 j hj q i hi]
    · have hj2 := hj
      unfold arK at hj2
      have l60 : ln j = 60 := by
        rcases (show j = 35 ∨ j = 36 ∨ j = 37 ∨ j = 38 by omega) with w | w | w | w <;> subst w <;> rfl
      rw [g1 j (by omega) (by omega) i (by omega), o1 _ (by omega)]
  · show σ2 (a + 34) 4 = σ (b + 34) 4
    rw [g2, o1 _ (by omega)]
  · show σ2 (a + 34) 5 = σ (b + 34) 5
    rw [g3, o1 _ (by omega)]
end
section
/-! ===== the simulation: image on both sides ===== -/
theorem bs_0 (σ : sm_S) : bs 0 σ = σ := by
  funext k
  show σ (0 + k) = σ k
  rw [Nat.zero_add]
theorem a_imageT (a1 : Int32) (σ : sm_S) (h : WW σ) : xC xF j_A_image [.ref 42, .int a1] σ (sm_I (fun _ σ' => (a1 ≠ 0 → eqT σ (bs 127 σ') ∧ ∀ c, c < 127 ∨ 168 ≤ c → c ≠ 42 → σ' c = σ c) ∧ (a1 = 0 → σ 42 4 ≠ 0 → eqT (bs 127 σ) σ' ∧ ∀ c, 41 ≤ c → σ' c = σ c) ∧ (a1 = 0 → σ 42 4 = 0 → σ' = σ))) := by
  have h4 := h.2.2.2.1
  refine f_A_image a1 σ _ ⟨fun z1 => ⟨fun z4 => ⟨h4, _, rfl, fun q => absurd z1 q, fun _ q => absurd z4 q, fun _ _ => rfl⟩, fun n4 => x_both shP5 (by omega) σ (fun σ2 o e => ?_)⟩, fun n1 => x_both shP6 (by omega) σ (fun σ2 o e => ?_)⟩
  · rw [bs_0] at e
    refine ⟨by rw [o 42 (by omega)]; exact h4, _, rfl, fun q => absurd z1 q, fun _ _ => ⟨e, fun c hc => o c (by omega)⟩, fun _ q => absurd q n4⟩
  · rw [bs_0] at e
    refine ⟨Or.inr rfl, fun σ5 e5 => ?_⟩
    have f5 : σ5 42 4 = 1 := by rw [e5, s_at, u_at]
    have g5 : ∀ c, c ≠ 42 → σ5 c = σ2 c := fun c hc => by rw [e5, s_ne hc]
    refine ⟨Or.inr f5, _, rfl, fun _ => ⟨?_, fun c hc hc2 => (g5 c hc2).trans (o c (by omega))⟩, fun q => absurd q n1, fun q => absurd q n1⟩
    have e6 : ∀ k, k < 41 → bs 127 σ5 k = bs 127 σ2 k := fun k hk => g5 (127 + k) (by omega)
    refine ⟨fun k hk i hi => by rw [e6 k hk.1]; exact e.1 k hk i hi, by rw [e6 0 (by omega)]; exact e.2.1, by rw [e6 8 (by omega)]; exact e.2.2.1, by rw [e6 26 (by omega)]; exact e.2.2.2.1, by rw [e6 34 (by omega)]; exact e.2.2.2.2.1, by rw [e6 34 (by omega)]; exact e.2.2.2.2.2⟩
theorem c_imageT (a1 : Int32) (σ : sm_S) : xC xM j_M_image [.ref 0, .int a1] σ (sm_I (fun _ σ' => (a1 ≠ 0 → (∀ i, i < 2662 → σ' 5 i = σ 1 i) ∧ σ' 1 = σ 1) ∧ (a1 = 0 → σ 0 6 ≠ 0 → (∀ i, i < 2662 → σ' 1 i = σ 5 i) ∧ σ' 5 = σ 5) ∧ (a1 = 0 → σ 0 6 = 0 → σ' 1 = σ 1 ∧ σ' 5 = σ 5))) := by
  refine w_M_image a1 σ _ (fun σ1 e1 => ⟨fun n1 => ⟨Or.inr rfl, fun σ2 e2 => ?_⟩, fun n1 => ⟨fun n6 => ⟨Or.inr rfl, fun σ2 e2 => ?_⟩, fun n6 => ⟨Or.inl rfl, _, rfl, ?_⟩⟩⟩)
  · refine (l_imageT n1 2662 0 0 σ2 rfl (Nat.zero_add _)).mono ?_
    rintro r σ' ⟨x, rfl, f, rfl, g1, -⟩
    have e21 : σ2 1 = σ 1 := by rw [e2, s_ne (by decide), e1, s_ne (by decide)]
    refine ⟨x, rfl, fun _ => ⟨fun i hi => by rw [s_at, g1 i (Nat.zero_le i) hi, e21], by rw [s_ne (by decide), e21]⟩, fun q => absurd q n1, fun q => absurd q n1⟩
  · refine (l_imageF n1 2662 0 0 σ2 rfl (Nat.zero_add _)).mono ?_
    rintro r σ' ⟨x, rfl, f, rfl, g1, -⟩
    have e25 : σ2 5 = σ 5 := by rw [e2, s_ne (by decide), e1, s_ne (by decide)]
    rw [e1, s_at, u_ne (by decide)] at n6
    refine ⟨x, rfl, fun q => absurd q n1, fun _ _ => ⟨fun i hi => by rw [s_at, g1 i (Nat.zero_le i) hi, e25], by rw [s_ne (by decide), e25]⟩, fun _ q => absurd q n6⟩
  · rw [e1, s_at, u_ne (by decide)] at n6
    exact ⟨fun q => absurd q n1, fun _ q => absurd q n6, fun _ _ => ⟨by rw [e1, s_ne (by decide)], by rw [e1, s_ne (by decide)]⟩⟩
theorem m_imageT (a1 : Int32) (σ : sm_S) : xC xF j_M_image [.ref 168, .int a1] σ (sm_I (fun _ σ' => (a1 ≠ 0 → (∀ i, i < 2662 → σ' 173 i = σ 169 i) ∧ σ' 169 = σ 169) ∧ (a1 = 0 → σ 168 6 ≠ 0 → (∀ i, i < 2662 → σ' 169 i = σ 173 i) ∧ σ' 173 = σ 173) ∧ (a1 = 0 → σ 168 6 = 0 → σ' 169 = σ 169 ∧ σ' 173 = σ 173))) := by
  have ha : ([.ref 0, .int a1] : List Value).map (sm_cv rM) = [.ref 168, .int a1] := rfl
  rw [← ha]
  refine (x_up shMF (c_imageT a1 (sh rM σ))).mono ?_
  rintro r σ' ⟨r1, τ, rfl, ⟨x, rfl, h1, h2, h3⟩, hs, ho⟩
  have e1 : σ' 169 = τ 1 := hs.1 1 (0, 2662) rfl
  have e5 : σ' 173 = τ 5 := hs.1 5 (0, 2662) rfl
  refine ⟨x, rfl, ?_⟩
  show (a1 ≠ 0 → (∀ i, i < 2662 → σ' 173 i = σ 169 i) ∧ σ' 169 = σ 169) ∧ (a1 = 0 → σ 168 6 ≠ 0 → (∀ i, i < 2662 → σ' 169 i = σ 173 i) ∧ σ' 173 = σ 173) ∧ (a1 = 0 → σ 168 6 = 0 → σ' 169 = σ 169 ∧ σ' 173 = σ 173)
  rw [e1, e5]
  exact ⟨h1, h2, h3⟩
theorem yesE {P : Prop} {x y : Int32} (h1 : isYes P x) (h2 : isYes P y) : x = y := by
  rcases h1 with ⟨e1, h1⟩ | ⟨e1, h1⟩ <;> rcases h2 with ⟨e2, h2⟩ | ⟨e2, h2⟩
  · rw [e1, e2]
  · exact absurd h1 h2
  · exact absurd h2 h1
  · rw [e1, e2]
theorem cl_image {B : Nat} (u : Int32) (σ : sm_S) (h : LR B σ) : two (fun x y => x = y) j_A_image j_M_image [.ref 42, .int u] [.ref 168, .int u] B σ := by
  obtain ⟨hL, ⟨N, hN, ht⟩, him⟩ := h
  refine ((a_image u σ hL.1).and (a_imageT u σ hL.1)).mono ?_
  rintro r0 σ1 ⟨⟨x, e0, hx, hw1, ho1, h42⟩, x2, -, t1, t2, t3⟩
  refine ⟨x, e0, ?_⟩
  have hl1 := lw_off hL.2.1 ho1
  refine ((m_image u σ1 hl1).and (m_imageT u σ1)).mono ?_
  rintro r3 σ2 ⟨⟨y, e3, hy, hl2, ho2, h168⟩, y2, -, s1, s2, s3⟩
  have e168 : σ1 168 6 = σ 168 6 := by rw [ho1 168 (by omega)]
  rw [e168] at h168 hy s2 s3
  have hQ2 : LQ (B + 1488000) σ2 := ⟨WW_off hw1 (fun a ha => ho2 a (Or.inl ha)), hl2, by rw [ho2 42 (by omega), h42, h168, hL.2.2]⟩
  have e169 : σ1 169 = σ 169 := ho1 169 (by omega)
  have e173 : σ1 173 = σ 173 := ho1 173 (by omega)
  rw [e169] at s1 s3
  rw [e173] at s2 s3
  refine ⟨y, e3, yesE hx (by rw [hL.2.2]; exact hy), hQ2, ?_, fun z => ?_⟩
  · by_cases q : u = 0
    · by_cases q4 : σ 42 4 = 0
      · refine ⟨N, by omega, ?_⟩
        rw [(s3 q (Classical.byContradiction (fun w => hL.2.2.mpr w q4))).1]
        refine ht.eq (eqT.of (fun k hk => ?_)) (fun _ _ => rfl)
        rw [ho2 k (by omega), t3 q q4]
      · obtain ⟨N2, hN2, ht2⟩ := him q4
        refine ⟨N2, by omega, ?_⟩
        have w := (s2 q (hL.2.2.mp q4)).1
        refine (ht2.eq (t2 q q4).1 (fun _ _ => rfl)).eq (eqT.of (fun k hk => ho2 k (by omega))) (fun i hi => w i hi)
    · refine ⟨N, by omega, ?_⟩
      rw [(s1 q).2]
      refine ht.eq (eqT.of (fun k hk => ?_)) (fun _ _ => rfl)
      rw [ho2 k (by omega), (t1 q).2 k (by omega) (by omega)]
  · by_cases q : u = 0
    · by_cases q4 : σ 42 4 = 0
      · rw [ho2 42 (by omega), t3 q q4] at z
        exact absurd q4 z
      · obtain ⟨N2, hN2, ht2⟩ := him q4
        refine ⟨N2, by omega, ?_⟩
        rw [(s2 q (hL.2.2.mp q4)).2]
        refine ht2.eq (eqT.of (fun k hk => ?_)) (fun _ _ => rfl)
        show σ2 (127 + k) = σ (127 + k)
        rw [ho2 _ (by omega), (t2 q q4).2 _ (by omega)]
    · refine ⟨N, by omega, ?_⟩
      have w := (s1 q).1
      refine (ht.eq (t1 q).1 (fun _ _ => rfl)).eq (eqT.of (fun k hk => ?_)) (fun i hi => w i hi)
      show σ2 (127 + k) = σ1 (127 + k)
      exact ho2 _ (by omega)
end
section
/-! ===== the simulation: the start ===== -/
def stF (s f : Nat) : Nat → Int32 := fun i => if (i = 2358 ∧ 0 < s) ∨ (i = 2366 ∧ 1 < s) ∨ (18 ≤ i ∧ i < 18 + 3 * f ∧ i % 3 = 0) then 1 else 0
theorem stF_1 {s f i : Nat} (h : (i = 2358 ∧ 0 < s) ∨ (i = 2366 ∧ 1 < s) ∨ (18 ≤ i ∧ i < 18 + 3 * f ∧ i % 3 = 0)) : stF s f i = 1 := if_pos h
theorem stF_0 {s f i : Nat} (h : ¬ ((i = 2358 ∧ 0 < s) ∨ (i = 2366 ∧ 1 < s) ∨ (18 ≤ i ∧ i < 18 + 3 * f ∧ i % 3 = 0))) : stF s f i = 0 := if_neg h
theorem stF_ext {s f s' f' : Nat} {j : Nat} (h1 : (j = 2358 ∧ 0 < s') ∨ (j = 2366 ∧ 1 < s') ∨ (18 ≤ j ∧ j < 18 + 3 * f' ∧ j % 3 = 0)) (h2 : ∀ i, i ≠ j → (((i = 2358 ∧ 0 < s) ∨ (i = 2366 ∧ 1 < s) ∨ (18 ≤ i ∧ i < 18 + 3 * f ∧ i % 3 = 0)) ↔ ((i = 2358 ∧ 0 < s') ∨ (i = 2366 ∧ 1 < s') ∨ (18 ≤ i ∧ i < 18 + 3 * f' ∧ i % 3 = 0)))) : upd (stF s f) j 1 = stF s' f' := by
  funext i
  by_cases q : i = j
  · rw [q, u_at, stF_1 h1]
  · rw [u_ne q]
    by_cases w : (i = 2358 ∧ 0 < s) ∨ (i = 2366 ∧ 1 < s) ∨ (18 ≤ i ∧ i < 18 + 3 * f ∧ i % 3 = 0)
    · rw [stF_1 w, stF_1 ((h2 i q).mp w)]
    · rw [stF_0 w, stF_0 (fun y => w ((h2 i q).mpr y))]
theorem l_beg25 {σ0 : sm_S} {a1 : Int32} {s : Nat} (h1 : a1.toInt = s) (hs : s < 2) {Q : Option Value → sm_S → Prop} (K : ∀ v2 : Value, xE xM m_M_begins 2 [.ref 0, .int (a1 + 1), v2] [] (sm_set σ0 1 (stF (s + 1) (32 * s + 32))) Q) : ∀ (d k : Nat) (a2 : Int32), a2.toInt = k → k + d = 32 * s + 32 → xE xM m_M_begins 25 [.ref 0, .int a1, .int a2] [] (sm_set σ0 1 (stF (s + 1) k)) Q := by
  have hb : (32 * a1 + 32).toInt = ((32 * s + 32 : Nat) : Int) := by
    rw [t_add (t_32s h1 (by omega)) (y := 32) rfl (by omega) (by omega)]
    omega
  intro d
  induction d with
  | zero =>
    intro k a2 h2 hk
    have e : k = 32 * s + 32 := by omega
    rw [e]
    exact w_M_begins_25 a1 a2 _ _ ⟨fun _ => K _, fun h => absurd (by rw [t_le, hb, h2]; omega) h⟩
  | succ d ih =>
    intro k a2 h2 hk
    have h2' : (a2 + 1).toInt = ((k + 1 : Nat) : Int) := by
      rw [t_add h2 (y := 1) rfl (by omega) (by omega)]
      omega
    refine w_M_begins_25 a1 a2 _ _ ⟨fun h => ?_, fun _ => (c_frameAt a2 _).int ?_⟩
    · rw [t_le, hb, h2] at h; omega
    · rintro x2 σ ⟨rfl, rfl⟩
      have hi := t_ix (C := 18) (M := 3) (c := 18) (m := 3) (k := 0) (j := 0) rfl rfl h2 rfl (by omega)
      refine ⟨t_vp hi (by omega), fun σ3 e3 => ?_⟩
      rw [t_nat hi, s_at, s_ss] at e3
      have ee : upd (stF (s + 1) k) (18 + 3 * k + 0) 1 = stF (s + 1) (k + 1) := stF_ext (by omega) (fun i hi => by omega)
      rw [ee] at e3
      rw [e3]
      exact ih (k + 1) (a2 + 1) h2' (by omega)
theorem l_beg2 {σ0 : sm_S} : ∀ (d k : Nat) (a1 : Int32) (v2 : Value), a1.toInt = k → k + d = 2 → xE xM m_M_begins 2 [.ref 0, .int a1, v2] [] (sm_set σ0 1 (stF k (32 * k))) (sm_V (fun σ' => σ' = sm_set σ0 1 (stF 2 64))) := by
  intro d
  induction d with
  | zero =>
    intro k a1 v2 h1 hk
    have e : k = 2 := by omega
    rw [e]
    refine w_M_begins_2 a1 v2 _ _ ⟨fun _ => ⟨rfl, rfl⟩, fun h => absurd ?_ h⟩
    rw [t_le, h1, e]
    decide
  | succ d ih =>
    intro k a1 v2 h1 hk
    have h1' : (a1 + 1).toInt = ((k + 1 : Nat) : Int) := by
      rw [t_add h1 (y := 1) rfl (by omega) (by omega)]
      omega
    refine w_M_begins_2 a1 v2 _ _ ⟨fun h => ?_, fun _ => (c_spanAt a1 _).int ?_⟩
    · rw [t_le, h1] at h
      have h : (2 : Int) ≤ k := h
      omega
    · rintro x2 σ ⟨rfl, rfl⟩
      have hi := t_ix (C := 2358) (M := 8) (c := 2358) (m := 8) (k := 0) (j := 0) rfl rfl h1 rfl (by omega)
      refine ⟨t_vp hi (by omega), fun σ3 e3 => ?_⟩
      rw [t_nat hi, s_at, s_ss] at e3
      have ee : upd (stF k (32 * k)) (2358 + 8 * k + 0) 1 = stF (k + 1) (32 * k) := stF_ext (by omega) (fun i hi => by omega)
      rw [ee] at e3
      rw [e3]
      exact l_beg25 h1 (by omega) (fun v => ih (k + 1) (a1 + 1) v h1' (by omega)) 32 (32 * k) (32 * a1) (t_32s h1 (by omega)) rfl
theorem c_begins2 (σ : sm_S) (h : ∀ i, σ 1 i = 0) : xC xM j_M_begins [.ref 0] σ (sm_V (fun σ' => σ' = sm_set σ 1 (stF 2 64))) := by
  refine w_M_begins σ _ ?_
  have := l_beg2 (σ0 := σ) 2 0 0 .null rfl rfl
  have e : stF 0 (32 * 0) = σ 1 := by
    funext i
    rw [h i]
    exact stF_0 (by omega)
  rw [e, s_id] at this
  exact this
/-- the class at its start -/
def ini (c : sm_S) : Prop := (∀ s, s < 8 → c 2 s = (if s < 2 then -1 else 0) ∧ c 3 s = 0 ∧ c 4 s = 0 ∧ c 5 s = 0) ∧ (∀ f, f < 256 → c 6 f = -1 ∧ c 7 f = 0) ∧ (∀ b, b < 96 → c 9 b = -1) ∧ (∀ s, s < 8 → c 18 s = (if s < 2 then 1 else 0) ∧ c 19 s = (if s < 2 then 0 else -1) ∧ c 20 s = 0 ∧ c 21 s = 0 ∧ c 22 s = 0 ∧ c 23 s = 0 ∧ c 24 s = -1 ∧ c 25 s = -1) ∧ (∀ t, t < 6 → c 27 t = 0 ∧ c 28 t = -1 ∧ c 29 t = 0) ∧ (c 26 7 = 0 ∧ c 34 4 = 0 ∧ c 34 5 = 0 ∧ c 0 7 = 0 ∧ c 8 8 = 0) ∧ (∀ k, k < 60 → c 35 k = 0 ∧ c 36 k = 0 ∧ c 37 k = 0 ∧ c 38 k = 0) ∧ (c 39 0 = 4 ∧ c 39 1 = 3 ∧ c 39 2 = 150 ∧ c 39 3 = 2) ∧ ∀ k, k < 11 → c 40 k = 0
theorem tw_start {c : sm_S} (h : ini c) : tw 0 c (stF 2 64) := by
  obtain ⟨i1, i2, i3, i4, i5, ⟨i6, i7, i8, i9, i10⟩, i11, ⟨i12, i13, i14, i15⟩, i16⟩ := h
  have vb : ∀ b k, b < 96 → k < 16 → stF 2 64 (786 + 16 * b + k) = 0 := fun b k h1 h2 => stF_0 (by omega)
  have vf1 : ∀ f, f < 64 → stF 2 64 (18 + 3 * f) = 1 := fun f hf => stF_1 (by omega)
  have vf0 : ∀ f, f < 256 → ¬ f < 64 → stF 2 64 (18 + 3 * f) = 0 := fun f hf h2 => stF_0 (by omega)
  have vs1 : ∀ s, s < 2 → stF 2 64 (2358 + 8 * s + 0) = 1 := fun s hs => stF_1 (by omega)
  have vs0 : ∀ s, s < 8 → ¬ s < 2 → stF 2 64 (2358 + 8 * s + 0) = 0 := fun s hs h2 => stF_0 (by omega)
  have vsk : ∀ s k, s < 8 → 0 < k → k < 8 → stF 2 64 (2358 + 8 * s + k) = 0 := fun s k h1 h2 h3 => stF_0 (by omega)
  have hbg : bg (stF 2 64) := fun i => by
    by_cases w : (i = 2358 ∧ 0 < 2) ∨ (i = 2366 ∧ 1 < 2) ∨ (18 ≤ i ∧ i < 18 + 3 * 64 ∧ i % 3 = 0)
    · refine Or.inr ⟨stF_1 w, ?_⟩
      rcases w with w | w | w
      · exact Or.inl w.1
      · exact Or.inr (Or.inl w.1)
      · exact Or.inr (Or.inr ⟨(i - 18) / 3, by omega, by omega⟩)
    · exact Or.inl (stF_0 w)
  have hj : jj 0 (stF 2 64) := bg_jj hbg (stF_1 (by omega))
  have fr01 : ∀ f, f < 256 → stF 2 64 (18 + 3 * f) = 0 ∨ stF 2 64 (18 + 3 * f) = 1 := fun f hf => by
    by_cases q : f < 64
    · exact Or.inr (vf1 f q)
    · exact Or.inl (vf0 f hf q)
  have n01 : ∀ f (x : Int32), f < 256 → x ≠ 0 → x ≠ 1 → stF 2 64 (18 + 3 * f) ≠ x := fun f x hf h0 h1 z => by
    rcases fr01 f hf with q | q
    · exact h0 (z.symm.trans q)
    · exact h1 (z.symm.trans q)
  have ow : own (stF 2 64) := by
    refine ⟨fun b fr o hb h0 => ?_, fun b t o hb h0 => ?_, fun f hf h3 => absurd h3 (n01 f 3 hf (by decide) (by decide)), fun f hf h4 => absurd h4 (n01 f 4 hf (by decide) (by decide)), fun f hf _ _ => stF_0 (by omega), fun f hf => ?_⟩
    · rw [vb b 0 hb (by omega)] at h0
      exact absurd h0 (by decide)
    · rw [vb b 0 hb (by omega)] at h0
      exact absurd h0 (by decide)
    · by_cases q : f < 64
      · rw [vf1 f q, vs1 (f / 32) (by omega)]
      · rw [vf0 f hf q, vs0 (f / 32) (by omega) (by omega)]
  have s0 : sim0 c (stF 2 64) := by
    refine ⟨fun f hf => ?_, fun b hb => Or.inl ⟨i3 b hb, vb b 0 hb (by omega)⟩, fun s hs => ?_, fun t ht => ?_, ⟨0, ?_⟩, ?_, ow⟩
    · obtain ⟨a2, a3, a4, a5⟩ := i1 (f / 32) (by omega)
      obtain ⟨a6, a7⟩ := i2 f hf
      unfold sF
      rw [a2, a3, a4, a5, a6, a7]
      refine ⟨(fr01 f hf).elim Or.inl (fun z => Or.inr (Or.inl z)), ?_, ⟨fun z => absurd z bit_0, fun z => absurd z (n01 f 2 hf (by decide) (by decide))⟩, ⟨fun z => absurd z bit_0, fun z => absurd z (n01 f 3 hf (by decide) (by decide))⟩, ⟨fun z => absurd z bit_0, fun z => absurd z (n01 f 4 hf (by decide) (by decide))⟩, ?_, stF_0 (by omega)⟩
      · by_cases q : f < 64
        · rw [if_pos (by omega), vf1 f q]
          exact ⟨fun _ => rfl, fun _ => bit_m1 (by omega)⟩
        · rw [if_neg (by omega), vf0 f hf q]
          exact ⟨fun z => absurd z bit_0, fun z => absurd z (by decide)⟩
      · rw [stF_0 (by omega)]
        decide
    · obtain ⟨a1, a2, a3, a4, a5, a6, a7, a8⟩ := i4 s hs
      unfold sS
      rw [a1, a2, a3, a4, a5, a6, a7, a8, vsk s 1 hs (by omega) (by omega), vsk s 2 hs (by omega) (by omega), vsk s 3 hs (by omega) (by omega), vsk s 4 hs (by omega) (by omega), vsk s 5 hs (by omega) (by omega), vsk s 6 hs (by omega) (by omega), vsk s 7 hs (by omega) (by omega)]
      by_cases q : s < 2
      · rw [if_pos q, if_pos q, vs1 s q]
        decide
      · rw [if_neg q, if_neg q, vs0 s hs q]
        decide
    · obtain ⟨a1, a2, a3⟩ := i5 t ht
      unfold sT
      rw [a1, a2, a3, stF_0 (i := 2322 + 6 * t + 0) (by omega), stF_0 (i := 2322 + 6 * t + 1) (by omega), stF_0 (i := 2322 + 6 * t + 5) (by omega)]
      exact ⟨rfl, by decide, rfl, fun z => absurd rfl z, fun z => absurd rfl z, fun z => absurd rfl z⟩
    · refine ⟨by rw [i6]; rfl, by omega, fun k hk => absurd hk (by omega), List.nodup_nil, fun t ht z => absurd (i5 t ht).2.1 z, fun b hb => ⟨0, by rw [vb b 9 hb (by omega)]; rfl, rfl⟩⟩
    · refine ⟨by rw [i12, stF_0 (by omega)]; rfl, by rw [i13, stF_0 (by omega)]; rfl, by rw [i14, stF_0 (by omega)]; rfl, by rw [i15, stF_0 (by omega)]; rfl, fun k hk => by rw [i16 k hk, stF_0 (by omega)], by rw [i9, stF_0 (by omega)], by rw [i10, stF_0 (by omega)]⟩
  have v5 : stF 2 64 5 = 0 := stF_0 (by omega)
  refine ⟨⟨s0, fun _ => ⟨by rw [i7, v5], ⟨0, by rw [v5]; rfl, by rw [i8]; rfl⟩, fun k hk => ?_⟩, ⟨0, by omega, by rw [i8]; rfl⟩, hj.2.1.1, by rw [v5]; rfl⟩, hj, ?_⟩
  · obtain ⟨a1, a2, a3, a4⟩ := i11 k hk
    rw [a1, a2, a3, a4]
    exact ⟨stF_0 (by omega), stF_0 (by omega), stF_0 (by omega), stF_0 (by omega)⟩
  · refine ⟨fun b hb h0 => ?_, fun b hb h0 => ?_, fun s hs _ => Or.inl (vsk s 1 hs (by omega) (by omega)), ?_, ?_, ?_, ?_⟩
    · rw [vb b 0 hb (by omega)] at h0
      exact absurd h0 (by decide)
    · rw [vb b 0 hb (by omega)] at h0
      exact absurd h0 (by decide)
    · rw [stF_0 (by omega)]
      decide
    · rw [stF_0 (by omega)]
      decide
    · rw [stF_0 (by omega)]
      decide
    · rw [stF_0 (by omega)]
      decide
end
section
/-! ===== the simulation: the class at its start ===== -/
theorem ini.cg {c c' : sm_S} (h : ini c) (e : ∀ k, k < 41 → c' k = c k) : ini c' := by
  unfold ini
  rw [e 2 (by omega), e 3 (by omega), e 4 (by omega), e 5 (by omega), e 6 (by omega), e 7 (by omega), e 9 (by omega), e 18 (by omega), e 19 (by omega), e 20 (by omega), e 21 (by omega), e 22 (by omega), e 23 (by omega), e 24 (by omega), e 25 (by omega), e 27 (by omega), e 28 (by omega), e 29 (by omega), e 26 (by omega), e 34 (by omega), e 0 (by omega), e 8 (by omega), e 35 (by omega), e 36 (by omega), e 37 (by omega), e 38 (by omega), e 39 (by omega), e 40 (by omega)]
  exact h
/-- one span more is on -/
def ofX (x : Int32) (τ : sm_S) : sm_S := sm_set (sm_set (sm_set τ 18 (upd (τ 18) x.toNatClampNeg 1)) 19 (upd ((sm_set τ 18 (upd (τ 18) x.toNatClampNeg 1)) 19) x.toNatClampNeg 0)) 2 (upd ((sm_set (sm_set τ 18 (upd (τ 18) x.toNatClampNeg 1)) 19 (upd ((sm_set τ 18 (upd (τ 18) x.toNatClampNeg 1)) 19) x.toNatClampNeg 0)) 2) x.toNatClampNeg (-1))
theorem ofX_o {x : Int32} {τ : sm_S} {k : Nat} (h1 : k ≠ 2) (h2 : k ≠ 18) (h3 : k ≠ 19) : ofX x τ k = τ k := by
  unfold ofX
  rw [s_ne h1, s_ne h3, s_ne h2]
theorem ofX_18 {x : Int32} {τ : sm_S} : ofX x τ 18 = upd (τ 18) x.toNatClampNeg 1 := by
  unfold ofX
  rw [s_ne (by decide), s_ne (by decide), s_at]
theorem ofX_19 {x : Int32} {τ : sm_S} : ofX x τ 19 = upd (τ 19) x.toNatClampNeg 0 := by
  unfold ofX
  rw [s_ne (by decide), s_at, s_ne (by decide)]
theorem ofX_2 {x : Int32} {τ : sm_S} : ofX x τ 2 = upd (τ 2) x.toNatClampNeg (-1) := by
  unfold ofX
  rw [s_at, s_ne (by decide), s_ne (by decide)]
/-- the rest of what a new Memory has -/
def ini0 (σ : sm_S) : Prop := (∀ s, s < 8 → σ 2 s = 0 ∧ σ 3 s = 0 ∧ σ 4 s = 0 ∧ σ 5 s = 0) ∧ (∀ f, f < 256 → σ 7 f = 0) ∧ (∀ s, s < 8 → σ 19 s = -1 ∧ σ 21 s = 0 ∧ σ 22 s = 0 ∧ σ 25 s = -1) ∧ (∀ t, t < 6 → σ 27 t = 0 ∧ σ 29 t = 0) ∧ (σ 34 4 = 0 ∧ σ 0 7 = 0 ∧ σ 8 8 = 0) ∧ (∀ k, k < 60 → σ 35 k = 0 ∧ σ 36 k = 0 ∧ σ 37 k = 0 ∧ σ 38 k = 0) ∧ ∀ k, k < 11 → σ 40 k = 0
theorem two_up {g : Nat → Int32} {s : Nat} {y z : Int32} (h : g s = z) (hs : s < 8) : upd (upd g (0 : Int32).toNatClampNeg y) (0 + 1 : Int32).toNatClampNeg y s = (if s < 2 then y else z) := by
  have e0 : (0 : Int32).toNatClampNeg = 0 := by decide
  have e1 : (0 + 1 : Int32).toNatClampNeg = 1 := by decide
  rw [e0, e1]
  by_cases q1 : s = 1
  · rw [q1, u_at, if_pos (by omega)]
  · rw [u_ne q1]
    by_cases q0 : s = 0
    · rw [q0, u_at, if_pos (by omega)]
    · rw [u_ne q0, if_neg (by omega), h]
theorem ini_of {σ τ : sm_S} {f : Nat → Int32} (j1 : ∀ i, i < 256 → σ 6 i = -1) (j2 : ∀ b, b < 96 → σ 9 b = -1 ∧ σ 14 b = -1 ∧ σ 15 b = 0) (j3 : ∀ s, s < 8 → σ 18 s = 0 ∧ σ 20 s = 0 ∧ σ 23 s = 0 ∧ σ 24 s = -1) (j4 : σ 26 7 = 0 ∧ ∀ t, t < 6 → σ 28 t = -1) (j5 : σ 34 5 = 0) (j6 : ini0 σ) (hf : f 0 = 4 ∧ f 1 = 3 ∧ f 2 = 150 ∧ f 3 = 2) (hof : τ = ofX (0 + 1) (ofX 0 (sm_set σ 39 f))) : ini τ := by
  obtain ⟨k1, k2, k3, k4, ⟨k5, k6, k7⟩, k8, k9⟩ := j6
  have o : ∀ k, k ≠ 2 → k ≠ 18 → k ≠ 19 → k ≠ 39 → τ k = σ k := fun k a b c d => by rw [hof, ofX_o a b c, ofX_o a b c, s_ne d]
  have o39 : τ 39 = f := by rw [hof, ofX_o (by decide) (by decide) (by decide), ofX_o (by decide) (by decide) (by decide), s_at]
  have o2 : τ 2 = upd (upd (σ 2) (0 : Int32).toNatClampNeg (-1)) (0 + 1 : Int32).toNatClampNeg (-1) := by rw [hof, ofX_2, ofX_2, s_ne (by decide)]
  have o18 : τ 18 = upd (upd (σ 18) (0 : Int32).toNatClampNeg 1) (0 + 1 : Int32).toNatClampNeg 1 := by rw [hof, ofX_18, ofX_18, s_ne (by decide)]
  have o19 : τ 19 = upd (upd (σ 19) (0 : Int32).toNatClampNeg 0) (0 + 1 : Int32).toNatClampNeg 0 := by rw [hof, ofX_19, ofX_19, s_ne (by decide)]
  unfold ini
  rw [o2, o18, o19, o39, o 3 (by decide) (by decide) (by decide) (by decide), o 4 (by decide) (by decide) (by decide) (by decide), o 5 (by decide) (by decide) (by decide) (by decide), o 6 (by decide) (by decide) (by decide) (by decide), o 7 (by decide) (by decide) (by decide) (by decide), o 9 (by decide) (by decide) (by decide) (by decide), o 20 (by decide) (by decide) (by decide) (by decide), o 21 (by decide) (by decide) (by decide) (by decide), o 22 (by decide) (by decide) (by decide) (by decide), o 23 (by decide) (by decide) (by decide) (by decide), o 24 (by decide) (by decide) (by decide) (by decide), o 25 (by decide) (by decide) (by decide) (by decide), o 27 (by decide) (by decide) (by decide) (by decide), o 28 (by decide) (by decide) (by decide) (by decide), o 29 (by decide) (by decide) (by decide) (by decide), o 26 (by decide) (by decide) (by decide) (by decide), o 34 (by decide) (by decide) (by decide) (by decide), o 0 (by decide) (by decide) (by decide) (by decide), o 8 (by decide) (by decide) (by decide) (by decide), o 35 (by decide) (by decide) (by decide) (by decide), o 36 (by decide) (by decide) (by decide) (by decide), o 37 (by decide) (by decide) (by decide) (by decide), o 38 (by decide) (by decide) (by decide) (by decide), o 40 (by decide) (by decide) (by decide) (by decide)]
  exact ⟨fun s hs => ⟨two_up (k1 s hs).1 hs, (k1 s hs).2⟩, fun i hi => ⟨j1 i hi, k2 i hi⟩, fun b hb => (j2 b hb).1, fun s hs => ⟨two_up (j3 s hs).1 hs, two_up (k3 s hs).1 hs, (j3 s hs).2.1, (k3 s hs).2.1, (k3 s hs).2.2.1, (j3 s hs).2.2.1, (j3 s hs).2.2.2, (k3 s hs).2.2.2⟩, fun t ht => ⟨(k4 t ht).1, j4.2 t ht, (k4 t ht).2⟩, ⟨j4.1, k5, j5, k6, k7⟩, k8, hf, k9⟩
theorem stF_jj : jj 0 (stF 2 64) := by
  have hbg : bg (stF 2 64) := fun i => by
    by_cases w : (i = 2358 ∧ 0 < 2) ∨ (i = 2366 ∧ 1 < 2) ∨ (18 ≤ i ∧ i < 18 + 3 * 64 ∧ i % 3 = 0)
    · refine Or.inr ⟨stF_1 w, ?_⟩
      rcases w with w | w | w
      · exact Or.inl w.1
      · exact Or.inr (Or.inl w.1)
      · exact Or.inr (Or.inr ⟨(i - 18) / 3, by omega, by omega⟩)
    · exact Or.inl (stF_0 w)
  exact bg_jj hbg (stF_1 (by omega))
end
