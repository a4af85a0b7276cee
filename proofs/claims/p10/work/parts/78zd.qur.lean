/-! ===== the simulation: what asks, keeps (the reference) ===== -/
def puQ (N D : Nat) (σ : sm_S) (x : Int32) (σ' : sm_S) : Prop := pubX N D σ x σ' ∧ ∀ i, i < 2662 → σ' 1 i = σ 1 i
theorem puQ_keep {N D : Nat} {σ σ1 : sm_S} {x : Int32} (hj : jj N (σ 1)) (e1 : σ1 = sm_set σ 0 (upd (σ 0) 0 0)) : puQ N D σ x σ1 := ⟨pub_X (pub_keep hj e1), fun i _ => by rw [e1, s_ne (by decide)]⟩
theorem puQ_th {N D : Nat} {σ σ1 σ2 : sm_S} {x : Int32} {f g : Nat → Int32} (hj : jj N (σ 1)) (e1 : σ1 = sm_set σ 0 (upd (σ 0) 0 0)) (hf : ∀ i, i < 2662 → f i = σ 1 i) (h2 : σ2 2 = f) (h3 : ∀ k, k ≠ 1 → k ≠ 2 → k ≠ 4 → σ2 k = σ1 k) (hg : ∀ i, i < 2662 → g i = σ2 2 i) : puQ N D σ x (sm_set σ2 1 g) := ⟨pub_th hj e1 hf h2 h3 hg, fun i hi => by rw [s_at, hg i hi, h2, hf i hi]⟩
theorem k_would {N : Nat} (a1 a2 : Int32) (hN : N < 1600000000) (σ : sm_S) (hj : jj N (σ 1)) : xC xM j_M_would [.ref 0, .int a1, .int a2] σ (sm_I (puQ N 0 σ)) := by
  refine w_M_would a1 a2 σ _ (fun σ1 e1 => (c_canGo a1 σ1).int ?_)
  have hj1 : jj N (σ1 1) := by rw [e1, s_ne (by decide)]; exact hj
  rintro x3 σ1 ⟨hx3, rfl⟩
  refine ⟨fun _ => ⟨_, rfl, puQ_keep hj e1⟩, fun n3 => (c_isIn _ _ _ _).int ?_⟩
  obtain ⟨-, s, hs, h1, hon, hel⟩ := hx3.resolve_left n3
  rintro x5 σ1 ⟨-, rfl⟩
  refine ⟨fun _ => (c_thinks _).void ?_, fun _ => ⟨_, rfl, puQ_keep hj e1⟩⟩
  rintro _ ⟨f, rfl, hf⟩
  have v10 : vp_in (10 : Int32) 2662 := t_vp (n := 10) rfl (by omega)
  have v11 : vp_in (11 : Int32) 2662 := t_vp (n := 11) rfl (by omega)
  have v12 : vp_in (12 : Int32) 2662 := t_vp (n := 12) rfl (by omega)
  refine ⟨v10, v11, v12, (c_goesAway (N := N) h1 hs (by omega) _ (by rw [s_ne (by decide)]; exact hj1) (by rw [s_ne (by decide)]; exact hon) (by rw [s_ne (by decide)]; exact hel)).int ?_⟩
  rintro x8 _ ⟨w, N', rfl, hw, -⟩
  have hf' : ∀ i, i < 2662 → f i = σ 1 i := fun i hi => by rw [hf i hi, e1, s_ne (by decide)]
  have fin : ∀ y : Int32, xC xM j_M_forgets [.ref 0] (sm_set (sm_set σ1 2 f) 1 w) (sm_rv False (fun σ9 => sm_I (puQ N 0 σ) (some (.int y)) σ9)) := by
    intro y
    refine (c_forgets _).void ?_
    rintro _ ⟨g, rfl, hg⟩
    exact ⟨y, rfl, puQ_th hj e1 hf' (by rw [s_ne (by decide), s_at]) (fun k k1 k2 _ => by rw [s_ne k1, s_ne k2]) hg⟩
  refine ⟨fun _ => ?_, fun _ => (c_spanState h1 hs _).int ?_⟩
  · repeat' (first | exact fin _ | exact v10 | exact v11 | exact v12 | intro _ | refine ⟨?_, ?_⟩)
  · rintro x18 σ18 ⟨-, e18⟩
    subst e18
    repeat' (first | exact fin _ | exact v10 | exact v11 | exact v12 | intro _ | refine ⟨?_, ?_⟩)
theorem l_movableQ {N : Nat} {σ0 σ1 : sm_S} {f : Nat → Int32} (hj0 : jj N (σ0 1)) (e1 : σ1 = sm_set σ0 0 (upd (σ0 0) 0 0)) (hf : ∀ i, i < 2662 → f i = σ0 1 i) : ∀ (m N1 : Nat) (a1 : Int32) (σ : sm_S), cn (fun s => decide (σ 1 (2358 + 8 * s) = 0)) 8 ≤ m → jj N1 (σ 1) → N1 + m < 2000000000 → σ 2 = f → (∀ k, k ≠ 1 → k ≠ 2 → k ≠ 4 → σ k = σ1 k) → xE xM m_M_movable 11 [.ref 0, .int a1] [] σ (sm_I (puQ N 0 σ0)) := by
  have fin : ∀ (y : Int32) (σ : sm_S), σ 2 = f → (∀ k, k ≠ 1 → k ≠ 2 → k ≠ 4 → σ k = σ1 k) → xC xM j_M_forgets [.ref 0] σ (sm_rv False (fun σ9 => sm_I (puQ N 0 σ0) (some (.int y)) σ9)) := by
    intro y σ h2 h3
    refine (c_forgets _).void ?_
    rintro _ ⟨g, rfl, hg⟩
    exact ⟨y, rfl, puQ_th hj0 e1 hf h2 h3 hg⟩
  intro m
  induction m with
  | zero =>
    intro N1 a1 σ hm hj hN h2 h3
    refine w_M_movable_11 a1 σ _ ((c_turnOf σ).int ?_)
    rintro x2 σ ⟨hx2, rfl⟩
    refine ⟨fun _ => fin _ _ h2 h3, fun n2 => ?_⟩
    obtain ⟨s, k1, k2, k3⟩ := hx2.resolve_left n2
    have := cn_lt (P := fun s => decide (σ 1 (2358 + 8 * s) = 0)) (P' := fun _ => false) (j := s) (decide_eq_true k3) rfl (N := 8) k2 (fun i _ h => by cases h)
    omega
  | succ m ih =>
    intro N1 a1 σ hm hj hN h2 h3
    obtain ⟨x0, hT⟩ := sm_C.det (c_turnOf σ)
    refine w_M_movable_11 a1 σ _ (hT.int ?_)
    rintro x2 σ ⟨e2, -, rfl⟩
    refine ⟨fun _ => fin _ _ h2 h3, fun n2 => (c_zoneByRatio _).int ?_⟩
    rintro x5 σ ⟨-, rfl⟩
    refine ⟨fun _ => fin _ _ h2 h3, fun _ => hT.int ?_⟩
    rintro x8 σ ⟨e8, hx8, rfl⟩
    · obtain ⟨s, k1, k2, k3⟩ := hx8.resolve_left (fun z => n2 (by rw [e2, ← e8]; exact z))
      refine (c_comesOn (N := N1) k1 k2 (by omega) _ hj k3).int ?_
      rintro x10 _ ⟨w, rfl, hw, hws, ew⟩
      refine ih (N1 + 1) _ _ ?_ (by rw [s_at]; exact hw) (by omega) (by rw [s_ne (by decide)]; exact h2) (fun k c1 c2 c4 => by rw [s_ne c1]; exact h3 k c1 c2 c4)
      have := cn_lt (P := fun s => decide (σ 1 (2358 + 8 * s) = 0)) (P' := fun t => decide ((sm_set σ 1 w) 1 (2358 + 8 * t) = 0)) (j := s) (decide_eq_true k3) (by rw [s_at, hws]; rfl) (N := 8) k2 (fun i hi h => by
        rw [s_at] at h
        have h := of_decide_eq_true h
        refine decide_eq_true ?_
        by_cases his : i = s
        · subst his; exact k3
        · rw [← ew _ (by omega) (by omega) (by omega) (by omega)]; exact h)
      omega
theorem k_movable {N : Nat} (hN : N < 1600000000) (σ : sm_S) (hj : jj N (σ 1)) : xC xM j_M_movable [.ref 0] σ (sm_I (puQ N 0 σ)) := by
  refine w_M_movable σ _ (fun σ1 e1 => (c_thinks σ1).void ?_)
  have hj1 : jj N (σ1 1) := by rw [e1, s_ne (by decide)]; exact hj
  rintro _ ⟨f, rfl, hf⟩
  have hf' : ∀ i, i < 2662 → f i = σ 1 i := fun i hi => by rw [hf i hi, e1, s_ne (by decide)]
  exact l_movableQ hj e1 hf' 8 N 0 _ cn_bd (by rw [s_ne (by decide)]; exact hj1) (by omega) s_at (fun k _ k2 _ => s_ne k2)
theorem k_pressed {N : Nat} (a1 : Int32) (σ : sm_S) (hj : jj N (σ 1)) : xC xM j_M_pressed [.ref 0, .int a1] σ (sm_I (puQ N 0 σ)) := by
  refine w_M_pressed a1 σ _ (fun σ1 e1 => (c_isSpan a1 σ1).int ?_)
  have hj1 : jj N (σ1 1) := by rw [e1, s_ne (by decide)]; exact hj
  rintro x3 σ1 ⟨hx3, rfl⟩
  refine ⟨fun _ => ⟨_, rfl, puQ_keep hj e1⟩, fun n3 => ?_⟩
  obtain ⟨-, s, hs, h1⟩ := hx3.resolve_right (fun z => n3 z.1)
  refine (c_spanState h1 hs _).int ?_
  rintro x5 σ1 ⟨-, rfl⟩
  refine ⟨fun _ => (c_thinks _).void ?_, fun _ => ⟨_, rfl, puQ_keep hj e1⟩⟩
  rintro _ ⟨f, rfl, hf⟩
  have hf' : ∀ i, i < 2662 → f i = σ 1 i := fun i hi => by rw [hf i hi, e1, s_ne (by decide)]
  refine (c_presses (N := N) h1 hs _ (by rw [s_ne (by decide)]; exact hj1)).int ?_
  rintro x8 σ7 ⟨-, k7⟩
  refine (c_greatestIn h1 hs _).int ?_
  rintro x10 σ7 rfl
  refine (c_forgets _).void ?_
  rintro _ ⟨g, rfl, hg⟩
  exact ⟨_, rfl, puQ_th hj e1 hf' (by rw [k7 2 (by decide) (by decide), s_at]) (fun k k1 k2 k4 => by rw [k7 k k1 k4, s_ne k2]) hg⟩
theorem k_keeps {N : Nat} (a1 a2 a3 : Int32) (σ : sm_S) (hj : jj N (σ 1)) : xC xM j_M_keeps [.ref 0, .int a1, .int a2, .int a3] σ (sm_I (puQ N 0 σ)) := by
  refine w_M_keeps a1 a2 a3 σ _ (fun σ1 e1 => (c_isSpan a1 σ1).int ?_)
  have hj1 : jj N (σ1 1) := by rw [e1, s_ne (by decide)]; exact hj
  rintro x3 σ1 ⟨hx3, rfl⟩
  have keep : ∀ y : Int32, sm_I (puQ N 0 σ) (some (.int y)) σ1 := fun y => ⟨_, rfl, puQ_keep hj e1⟩
  refine ⟨fun n3 => ?_, fun _ => keep _⟩
  obtain ⟨-, s, hs, h1⟩ := hx3.resolve_right (fun z => n3 z.1)
  refine ⟨fun n2 => ⟨fun _ => (c_keeperAt h1 hs _ hj1).int ?_, fun _ => ⟨fun z => absurd rfl z, fun _ => keep _⟩⟩, fun _ => (c_keeperAt h1 hs _ hj1).int ?_⟩
  · rintro x5 σ1 ⟨-, g2, rfl⟩
    refine ⟨fun n5 => ?_, fun _ => keep _⟩
    obtain ⟨m, m1, m2⟩ := g2 n2
    have hm0 : m ≠ 0 := fun z => n5 (t_inj (by rw [m2, z]; rfl))
    have hx5 : x5.toInt = ((m - 1 : Nat) : Int) := by rw [m2]; omega
    refine ⟨fun _ => ⟨fun _ => ⟨fun _ => ⟨fun _ => keep _, fun _ => (c_of (k := 5) (j := 5) hx5 rfl (by omega) _).int ?_⟩, fun _ => (c_of (k := 4) (j := 4) hx5 rfl (by omega) _).int ?_⟩, fun _ => (c_keepsWhy hx5 (by omega) _ hj1).int ?_⟩, fun _ => keep _⟩
    · rintro y σ1 ⟨-, rfl⟩; exact keep _
    · rintro y σ1 ⟨-, rfl⟩; exact keep _
    · rintro y σ1 rfl; exact keep _
  · rintro x19 σ1 ⟨-, -, rfl⟩
    exact keep _
theorem k_holders {N : Nat} (a1 : Int32) (σ : sm_S) (hj : jj N (σ 1)) : xC xM j_M_holders [.ref 0, .int a1] σ (sm_I (puQ N 0 σ)) := by
  refine w_M_holders a1 σ _ (fun σ1 e1 => (c_isSpan a1 σ1).int ?_)
  have hj1 : jj N (σ1 1) := by rw [e1, s_ne (by decide)]; exact hj
  rintro x3 σ1 ⟨hx3, rfl⟩
  refine ⟨fun n3 => ?_, fun _ => ⟨_, rfl, puQ_keep hj e1⟩⟩
  obtain ⟨-, s, hs, h1⟩ := hx3.resolve_right (fun z => n3 z.1)
  refine (l_holders h1 hs _ hj1 33 0 _ _ _ rfl (by omega) (by omega)).mono ?_
  rintro r σ' ⟨x, rfl, rfl⟩
  exact ⟨x, rfl, puQ_keep hj e1⟩
theorem k_easiest {N : Nat} (a1 : Int32) (hN : N < 1600000000) (σ : sm_S) (hj : jj N (σ 1)) : xC xN j_M_easiest [.ref 0, .int a1] σ (sm_I (puQ N 0 σ)) := by
  refine w_N_easiest a1 σ _ (fun σ1 e1 => (n_isIn a1 0 1 σ1).int ?_)
  have hj1 : jj N (σ1 1) := by rw [e1, s_ne (by decide)]; exact hj
  rintro x3 σ1 ⟨-, rfl⟩
  refine ⟨fun _ => (n_easiestNow (N := N) (by omega) σ1 hj1).int ?_, fun _ => ⟨_, rfl, puQ_keep hj e1⟩⟩
  rintro x5 σ5 ⟨f, hI, -⟩
  have fin : puQ N 0 σ x5 σ5 := by
    refine ⟨⟨N, jj_eq hI.2.1 (by rw [s_ne (by decide)]; exact hj1), Nat.le_refl N, by omega, ?_, ?_, fun k hk => ?_⟩, fun i hi => ?_⟩
    · rw [hI.1 5 (by decide), s_ne (by decide), e1, s_ne (by decide)]
    · rw [hI.2.2 6 (by decide), s_ne (by decide), e1, s_at, u_ne (by decide)]
    · rw [hI.1 k (by omega), s_ne (by omega), e1, s_ne (by omega)]
    · rw [hI.2.1 i hi, s_ne (by decide), e1, s_ne (by decide)]
  exact ⟨fun _ => ⟨fun _ => ⟨_, rfl, fin⟩, fun _ => ⟨_, rfl, fin⟩⟩, fun _ => ⟨_, rfl, fin⟩⟩
theorem l_gbQ {N : Nat} {σ0 σ1 : sm_S} {f : Nat → Int32} (hj0 : jj N (σ0 1)) (e1 : σ1 = sm_set σ0 0 (upd (σ0 0) 0 0)) (hf : ∀ i, i < 2662 → f i = σ0 1 i) : ∀ (m N1 : Nat) (a1 a2 : Int32) (σ σp : sm_S), cn (fun s => !decide (σ 1 (2358 + 8 * s) = 0)) 8 ≤ m → jj N1 (σ 1) → N1 + 12400001 * m < 1720000000 → σ 2 = f → (∀ k, 5 ≤ k → σ k = σ1 k) → σ 0 6 = σ1 0 6 → esI σp σ → esG σp a2 → xE xN m_M_givenBack 16 [.ref 0, .int a1, .int a2] [] σ (sm_I (puQ N 0 σ0)) := by
  have fin : ∀ (y : Int32) (σ : sm_S), σ 2 = f → (∀ k, 5 ≤ k → σ k = σ1 k) → σ 0 6 = σ1 0 6 → xC xN j_M_forgets [.ref 0] σ (sm_rv False (fun σ9 => sm_I (puQ N 0 σ0) (some (.int y)) σ9)) := by
    intro y σ h2 h3 h6
    refine (n_forgets _).void ?_
    rintro _ ⟨g, rfl, hg⟩
    refine ⟨y, rfl, ⟨N, ?_, Nat.le_refl N, by omega, ?_, ?_, fun k hk => ?_⟩, fun i hi => ?_⟩
    · rw [s_at]
      exact jj_eq (fun i hi => by rw [hg i hi, h2, hf i hi]) hj0
    · rw [s_ne (by decide), h3 5 (by decide), e1, s_ne (by decide)]
    · rw [s_ne (by decide), h6, e1, s_at, u_ne (by decide)]
    · rw [s_ne (by omega), h3 k (by omega), e1, s_ne (by omega)]
    · rw [s_at, hg i hi, h2, hf i hi]
  intro m
  induction m with
  | zero =>
    intro N1 a1 a2 σ σp hm hj hN h2 h3 h6 hI hG
    refine w_N_givenBack_16 a1 a2 σ _ ⟨fun _ => fin _ _ h2 h3 h6, fun n2 => ?_⟩
    obtain ⟨s, hs, hs2, hon, -⟩ := hG.resolve_left n2
    rw [← hI.2.1 _ (by omega)] at hon
    have := cn_lt (P := fun s => !decide (σ 1 (2358 + 8 * s) = 0)) (P' := fun _ => false) (j := s) (by rw [hon]; rfl) rfl (N := 8) hs (fun i _ h => by cases h)
    omega
  | succ m ih =>
    intro N1 a1 a2 σ σp hm hj hN h2 h3 h6 hI hG
    refine w_N_givenBack_16 a1 a2 σ _ ⟨fun _ => fin _ _ h2 h3 h6, fun n2 => ?_⟩
    obtain ⟨s, hs, hs2, hon, hel, hga⟩ := hG.resolve_left n2
    rw [← hI.2.1 _ (by omega)] at hon
    refine ((n_goesAway (N := N1) hs2 hs (by omega) σ hj hon (onElse_eq hI.2.1 hel)).and (hga σ hI.ag)).mono ?_
    rintro r _ ⟨⟨x3, rfl, ⟨w, N', rfl, hw, l1, l2, l3⟩, -⟩, y, -, hoff⟩
    rw [s_at] at hoff
    refine (n_easiestNow (N := N') (by omega) _ (by rw [s_at]; exact hw)).int ?_
    rintro x5 σ5 ⟨g, hI5, hG5⟩
    have e51 : ∀ i, i < 2662 → σ5 1 i = w i := fun i hi => by rw [hI5.2.1 i hi, s_ne (by decide), s_at]
    refine ih N' (a1 + 1) x5 σ5 _ ?_ (jj_eq e51 hw) (by omega) ?_ (fun k hk => ?_) ?_ hI5 hG5
    · have := cn_lt (P := fun s => !decide (σ 1 (2358 + 8 * s) = 0)) (P' := fun s => !decide (σ5 1 (2358 + 8 * s) = 0)) (j := s) (by rw [hon]; rfl) (by rw [e51 _ (by omega), hoff]; rfl) (N := 8) hs (fun i hi h => by
        cases hd : decide (σ 1 (2358 + 8 * i) = 0) with
        | false => rfl
        | true =>
          rw [e51 _ (by omega), l3 i hi (of_decide_eq_true hd)] at h
          cases h)
      omega
    · rw [hI5.1 2 (by omega), s_ne (by decide), s_ne (by decide)]; exact h2
    · rw [hI5.1 k (by omega), s_ne (by omega), s_ne (by omega)]; exact h3 k hk
    · rw [hI5.2.2 6 (by decide), s_ne (by decide), s_ne (by decide)]; exact h6
theorem k_givenBack {N : Nat} (hN : N < 1600000000) (σ : sm_S) (hj : jj N (σ 1)) : xC xN j_M_givenBack [.ref 0] σ (sm_I (puQ N 0 σ)) := by
  refine w_N_givenBack σ _ (fun σ1 e1 => (n_thinks σ1).void ?_)
  have hj1 : jj N (σ1 1) := by rw [e1, s_ne (by decide)]; exact hj
  rintro _ ⟨f, rfl, hf⟩
  have hf' : ∀ i, i < 2662 → f i = σ 1 i := fun i hi => by rw [hf i hi, e1, s_ne (by decide)]
  refine (n_easiestNow (N := N) (by omega) _ (by rw [s_ne (by decide)]; exact hj1)).int ?_
  rintro x4 σ4 ⟨g, hI4, hG4⟩
  refine l_gbQ hj e1 hf' 8 N 0 x4 σ4 _ cn_bd (jj_eq hI4.2.1 (by rw [s_ne (by decide), s_ne (by decide)]; exact hj1)) (by omega) ?_ (fun k hk => ?_) ?_ hI4 hG4
  · rw [hI4.1 2 (by omega), s_ne (by decide), s_at]
  · rw [hI4.1 k (by omega), s_ne (by omega), s_ne (by omega)]
  · rw [hI4.2.2 6 (by decide), s_ne (by decide), s_ne (by decide)]
theorem k_frame {N : Nat} (a1 a2 : Int32) (σ : sm_S) (hj : jj N (σ 1)) : xC xM j_M_frame [.ref 0, .int a1, .int a2] σ (sm_I (puQ N 0 σ)) := by
  refine w_M_frame a1 a2 σ _ (fun σ1 e1 => (c_isIn a1 0 255 σ1).int ?_)
  rintro x3 σ1 ⟨hx3, rfl⟩
  have keep : ∀ y : Int32, sm_I (puQ N 0 σ) (some (.int y)) σ1 := fun y => ⟨_, rfl, puQ_keep hj e1⟩
  refine ⟨fun _ => keep _, fun n3 => (c_isIn a2 0 2 _).int ?_⟩
  obtain ⟨-, g1, g2⟩ := hx3.resolve_right (fun z => n3 z.1)
  obtain ⟨n, hn, hn2⟩ := in_n (C := 255) rfl g1 g2
  rintro x5 σ1 ⟨hx5, rfl⟩
  refine ⟨fun n5 => (c_frameAt a1 _).int ?_, fun _ => keep _⟩
  obtain ⟨-, g3, g4⟩ := hx5.resolve_right (fun z => n5 z.1)
  obtain ⟨m, hm, hm2⟩ := in_n (C := 2) rfl g3 g4
  rintro x7 σ1 ⟨rfl, rfl⟩
  exact ⟨t_vp (t_ix (C := 18) (M := 3) rfl rfl hn hm (by omega)) (by omega), fun _ => keep _, fun _ => keep _⟩
theorem k_block {N : Nat} (a1 a2 : Int32) (σ : sm_S) (hj : jj N (σ 1)) : xC xM j_M_block [.ref 0, .int a1, .int a2] σ (sm_I (puQ N 0 σ)) := by
  refine w_M_block a1 a2 σ _ (fun σ1 e1 => (c_isBlock a1 σ1).int ?_)
  rintro x3 σ1 ⟨hx3, rfl⟩
  have keep : ∀ y : Int32, sm_I (puQ N 0 σ) (some (.int y)) σ1 := fun y => ⟨_, rfl, puQ_keep hj e1⟩
  refine ⟨fun _ => keep _, fun n3 => (c_isIn a2 0 8 _).int ?_⟩
  obtain ⟨-, n, hn2, hn, -⟩ := hx3.resolve_right (fun z => n3 z.1)
  rintro x5 σ1 ⟨hx5, rfl⟩
  refine ⟨fun n5 => ?_, fun _ => keep _⟩
  obtain ⟨-, g3, g4⟩ := hx5.resolve_right (fun z => n5 z.1)
  obtain ⟨m, hm, hm2⟩ := in_n (C := 8) rfl g3 g4
  have hm1 : (a2 + 1).toInt = ((m + 1 : Nat) : Int) := by
    rw [t_add hm (y := 1) rfl (by omega) (by omega)]
    omega
  refine (c_of hn hm1 (by omega) _).int ?_
  rintro x7 σ1 ⟨-, rfl⟩
  exact ⟨fun _ => keep _, fun _ => keep _⟩
theorem k_span {N : Nat} (a1 a2 : Int32) (σ : sm_S) (hj : jj N (σ 1)) : xC xM j_M_span [.ref 0, .int a1, .int a2] σ (sm_I (puQ N 0 σ)) := by
  refine w_M_span a1 a2 σ _ (fun σ1 e1 => (c_isSpan a1 σ1).int ?_)
  rintro x3 σ1 ⟨hx3, rfl⟩
  have keep : ∀ y : Int32, sm_I (puQ N 0 σ) (some (.int y)) σ1 := fun y => ⟨_, rfl, puQ_keep hj e1⟩
  refine ⟨fun _ => keep _, fun n3 => (c_isIn a2 0 10 _).int ?_⟩
  obtain ⟨-, n, hn2, hn⟩ := hx3.resolve_right (fun z => n3 z.1)
  have vs : ∀ (c : Int32) (j : Nat), c.toInt = j → j < 8 → vp_in (2358 + 8 * a1 + c) 2662 := fun c j hc hj => t_vp (t_ix (C := 2358) (M := 8) rfl rfl hn hc (by omega)) (by omega)
  rintro x5 σ1 ⟨-, rfl⟩
  refine ⟨fun n5 => (c_spanAt a1 _).int ?_, fun _ => keep _⟩
  rintro x7 σ1 ⟨rfl, rfl⟩
  refine ⟨fun _ => ⟨fun _ => ⟨fun _ => ⟨fun _ => ⟨fun _ => ⟨fun _ => ⟨fun _ => ⟨vs 7 7 rfl (by omega), keep _⟩, fun _ => ⟨vs 6 6 rfl (by omega), keep _⟩⟩, fun _ => ⟨vs 4 4 rfl (by omega), keep _⟩⟩, fun _ => ⟨vs 3 3 rfl (by omega), keep _⟩⟩, fun _ => ⟨vs 2 2 rfl (by omega), keep _⟩⟩, fun _ => (c_manyIn hn hn2 _ _).int ?_⟩, fun _ => (c_zoneOf hn hn2 _).int ?_⟩, fun _ => ⟨vs 0 0 rfl (by omega), keep _⟩⟩
  · rintro x9 σ1 rfl; exact keep _
  · rintro x9 σ1 ⟨-, rfl⟩; exact keep _
theorem k_task {N : Nat} (a1 a2 : Int32) (σ : sm_S) (hj : jj N (σ 1)) : xC xM j_M_task [.ref 0, .int a1, .int a2] σ (sm_I (puQ N 0 σ)) := by
  refine w_M_task a1 a2 σ _ (fun σ1 e1 => (c_isTask a1 σ1).int ?_)
  rintro x3 σ1 ⟨hx3, rfl⟩
  have keep : ∀ y : Int32, sm_I (puQ N 0 σ) (some (.int y)) σ1 := fun y => ⟨_, rfl, puQ_keep hj e1⟩
  refine ⟨fun _ => keep _, fun n3 => (c_isIn a2 0 5 _).int ?_⟩
  obtain ⟨-, n, hn2, hn⟩ := hx3.resolve_right (fun z => n3 z.1)
  have vs : ∀ (c : Int32) (j : Nat), c.toInt = j → j < 6 → vp_in (2322 + 6 * a1 + c) 2662 := fun c j hc hj => t_vp (t_ix (C := 2322) (M := 6) rfl rfl hn hc (by omega)) (by omega)
  rintro x5 σ1 ⟨-, rfl⟩
  refine ⟨fun n5 => (c_taskAt a1 _).int ?_, fun _ => keep _⟩
  rintro x7 σ1 ⟨rfl, rfl⟩
  refine ⟨fun _ => ⟨fun _ => ⟨fun _ => ⟨fun _ => ⟨fun _ => (c_ownsMany _ _ _).int ?_, fun _ => (c_ownsMany _ _ _).int ?_⟩, fun _ => ⟨vs 5 5 rfl (by omega), keep _⟩⟩, fun _ => ⟨vs 1 1 rfl (by omega), keep _⟩⟩, fun _ => ⟨vs 1 1 rfl (by omega), fun _ => keep _, fun _ => keep _⟩⟩, fun _ => ⟨vs 0 0 rfl (by omega), keep _⟩⟩
  · rintro x9 σ1 rfl; exact keep _
  · rintro x9 σ1 rfl; exact keep _
theorem k_zone {N : Nat} (a1 a2 : Int32) (σ : sm_S) (hj : jj N (σ 1)) : xC xM j_M_zone [.ref 0, .int a1, .int a2] σ (sm_I (puQ N 0 σ)) := by
  refine w_M_zone a1 a2 σ _ (fun σ1 e1 => (c_isIn a1 0 1 σ1).int ?_)
  rintro x3 σ1 ⟨-, rfl⟩
  have keep : ∀ y : Int32, sm_I (puQ N 0 σ) (some (.int y)) σ1 := fun y => ⟨_, rfl, puQ_keep hj e1⟩
  refine ⟨fun _ => keep _, fun n3 => (c_isIn a2 0 2 _).int ?_⟩
  rintro x5 σ1 ⟨-, rfl⟩
  refine ⟨fun _ => ⟨fun _ => ⟨fun _ => (l_zone a1 a2 _ 8 0 _ 0 rfl rfl).mono ?_, fun _ => (c_freeIn a1 _).int ?_⟩, fun _ => (c_framesOf a1 _).int ?_⟩, fun _ => keep _⟩
  · rintro r σ1 ⟨x, rfl, rfl⟩; exact keep _
  · rintro r σ1 rfl; exact keep _
  · rintro r σ1 ⟨-, rfl⟩; exact ⟨by decide, keep _⟩
theorem k_loose {N : Nat} (a1 a2 : Int32) (σ : sm_S) (hj : jj N (σ 1)) : xC xM j_M_loose [.ref 0, .int a1, .int a2] σ (sm_I (puQ N 0 σ)) := by
  refine w_M_loose a1 a2 σ _ (fun σ1 e1 => (c_isIn a1 0 1 σ1).int ?_)
  rintro x3 σ1 ⟨-, rfl⟩
  have keep : ∀ y : Int32, sm_I (puQ N 0 σ) (some (.int y)) σ1 := fun y => ⟨_, rfl, puQ_keep hj e1⟩
  refine ⟨fun _ => keep _, fun n3 => (c_isIn a2 0 5 _).int ?_⟩
  rintro x5 σ1 ⟨hx5, rfl⟩
  refine ⟨fun n5 => ?_, fun _ => keep _⟩
  obtain ⟨-, g3, g4⟩ := hx5.resolve_right (fun z => n5 z.1)
  obtain ⟨m, hm, hm2⟩ := in_n (C := 5) rfl g3 g4
  refine (l_loose hm hm2 a1 _ 256 0 _ 0 rfl rfl).mono ?_
  rintro r σ1 ⟨x, rfl, rfl⟩; exact keep _
theorem k_place {N : Nat} (a1 a2 a3 : Int32) (σ : sm_S) (hj : jj N (σ 1)) : xC xM j_M_place [.ref 0, .int a1, .int a2, .int a3] σ (sm_I (puQ N 0 σ)) := by
  refine w_M_place a1 a2 a3 σ _ (fun σ1 e1 => (c_isTask a1 σ1).int ?_)
  rintro x3 σ1 ⟨hx3, rfl⟩
  have keep : ∀ y : Int32, sm_I (puQ N 0 σ) (some (.int y)) σ1 := fun y => ⟨_, rfl, puQ_keep hj e1⟩
  refine ⟨fun _ => keep _, fun n3 => (c_isIn a2 0 2 _).int ?_⟩
  obtain ⟨-, n, hn2, hn⟩ := hx3.resolve_right (fun z => n3 z.1)
  rintro x5 σ1 ⟨-, rfl⟩
  refine ⟨fun _ => keep _, fun n5 => (c_isIn a3 0 4 _).int ?_⟩
  rintro x7 σ1 ⟨hx7, rfl⟩
  refine ⟨fun _ => keep _, fun n7 => ?_⟩
  obtain ⟨-, g3, g4⟩ := hx7.resolve_right (fun z => n7 z.1)
  obtain ⟨m, hm, hm2⟩ := in_n (C := 4) rfl g3 g4
  refine (c_bestPlace hn hn2 hm hm2 _).int ?_
  rintro x9 σ1 ⟨-, rfl⟩; exact keep _
theorem k_hole {N : Nat} (a1 : Int32) (σ : sm_S) (hj : jj N (σ 1)) : xC xM j_M_hole [.ref 0, .int a1] σ (sm_I (puQ N 0 σ)) := by
  refine w_M_hole a1 σ _ (fun σ1 e1 => (c_isIn a1 0 255 σ1).int ?_)
  rintro x3 σ1 ⟨hx3, rfl⟩
  have keep : ∀ y : Int32, sm_I (puQ N 0 σ) (some (.int y)) σ1 := fun y => ⟨_, rfl, puQ_keep hj e1⟩
  refine ⟨fun _ => keep _, fun n3 => ?_⟩
  obtain ⟨-, g3, g4⟩ := hx3.resolve_right (fun z => n3 z.1)
  obtain ⟨m, hm, hm2⟩ := in_n (C := 255) rfl g3 g4
  refine (c_isFree hm (by omega) _).int ?_
  rintro x5 σ1 ⟨-, rfl⟩
  refine ⟨fun _ => keep _, fun n5 => (c_holeOf hm (by omega) _).int ?_⟩
  rintro x9 σ1 ⟨-, rfl⟩; exact keep _
theorem k_at {N : Nat} (a1 a2 : Int32) (σ : sm_S) (hj : jj N (σ 1)) : xC xM j_M_at [.ref 0, .int a1, .int a2] σ (sm_I (puQ N 0 σ)) := by
  refine w_M_at a1 a2 σ _ (fun σ1 e1 => (c_isTask a1 σ1).int ?_)
  have hj1 : jj N (σ1 1) := by rw [e1, s_ne (by decide)]; exact hj
  rintro x3 σ1 ⟨-, rfl⟩
  have keep : ∀ y : Int32, sm_I (puQ N 0 σ) (some (.int y)) σ1 := fun y => ⟨_, rfl, puQ_keep hj e1⟩
  refine ⟨fun _ => keep _, fun n3 => (c_isIn a2 0 1 _).int ?_⟩
  rintro x5 σ1 ⟨-, rfl⟩
  refine ⟨fun n5 => (l_at a1 a2 _ hj1 256 0 _ 0 rfl rfl).mono ?_, fun _ => keep _⟩
  rintro r σ1 ⟨x, rfl, rfl⟩; exact keep _
theorem k_log {N : Nat} (a1 a2 : Int32) (σ : sm_S) (hj : jj N (σ 1)) : xC xM j_M_log [.ref 0, .int a1, .int a2] σ (sm_I (puQ N 0 σ)) := by
  refine w_M_log a1 a2 σ _ (fun σ1 e1 => ?_)
  have hj1 : jj N (σ1 1) := by rw [e1, s_ne (by decide)]; exact hj
  have keep : ∀ y : Int32, sm_I (puQ N 0 σ) (some (.int y)) σ1 := fun y => ⟨_, rfl, puQ_keep hj e1⟩
  have h5 : (σ1 1 ((5 : Int32)).toNatClampNeg).toInt = N := hj1.2.2
  refine ⟨fun _ => keep _, fun n1 => ⟨fun _ => keep _, fun n2 => ⟨t_vp (n := 5) rfl (by omega), fun _ => keep _, fun n5 => (c_isIn a2 0 3 _).int ?_⟩⟩⟩
  rw [t_lt] at n1
  rw [t_le] at n2
  rw [t_le, h5] at n5
  have n1 : ¬ a1.toInt < (0 : Int) := n1
  have n2 : ¬ (60 : Int) ≤ a1.toInt := n2
  obtain ⟨n, hn⟩ := t_of (x := a1) (by omega)
  have bN := t_bd (σ1 1 ((5 : Int32)).toNatClampNeg)
  rintro x3 σ1 ⟨hx3, rfl⟩
  refine ⟨fun n3 => ?_, fun _ => keep _⟩
  obtain ⟨-, g3, g4⟩ := hx3.resolve_right (fun z => n3 z.1)
  obtain ⟨m, hm, hm2⟩ := in_n (C := 3) rfl g3 g4
  have q1 := t_sub h5 (y := 1) (b := 1) rfl (by omega) (by omega)
  have q2 := t_sub q1 hn (by omega) (by omega)
  have q2' : (σ1 1 ((5 : Int32)).toNatClampNeg - 1 - a1).toInt = ((N - 1 - n : Nat) : Int) := by rw [q2]; omega
  have q3 := t_rem (d := 60) (b := 60) q2' rfl (by decide)
  exact ⟨t_vp (n := 5) rfl (by omega), by decide, t_vp (t_ix (C := 2422) (M := 4) rfl rfl q3 hm (by omega)) (by omega), keep _⟩
theorem k_count {N : Nat} (a1 : Int32) (σ : sm_S) (hj : jj N (σ 1)) : xC xM j_M_count [.ref 0, .int a1] σ (sm_I (puQ N 0 σ)) := by
  refine w_M_count a1 σ _ (fun σ1 e1 => (c_isIn a1 0 10 σ1).int ?_)
  rintro x3 σ1 ⟨hx3, rfl⟩
  have keep : ∀ y : Int32, sm_I (puQ N 0 σ) (some (.int y)) σ1 := fun y => ⟨_, rfl, puQ_keep hj e1⟩
  refine ⟨fun _ => keep _, fun n3 => ?_⟩
  obtain ⟨-, g3, g4⟩ := hx3.resolve_right (fun z => n3 z.1)
  obtain ⟨m, hm, hm2⟩ := in_n (C := 10) rfl g3 g4
  have q : (7 + a1).toInt = ((7 + m : Nat) : Int) := by
    rw [t_add (x := 7) rfl hm (by omega) (by omega)]
    omega
  exact ⟨t_vp q (by omega), keep _⟩
theorem k_look {N : Nat} (a1 : Int32) (σ : sm_S) (hj : jj N (σ 1)) : xC xM j_M_look [.ref 0, .int a1] σ (sm_I (puQ N 0 σ)) := by
  refine w_M_look a1 σ _ (fun σ1 e1 => (c_isIn a1 0 3 σ1).int ?_)
  have hj1 : jj N (σ1 1) := by rw [e1, s_ne (by decide)]; exact hj
  rintro x3 σ1 ⟨hx3, rfl⟩
  have keep : ∀ y : Int32, sm_I (puQ N 0 σ) (some (.int y)) σ1 := fun y => ⟨_, rfl, puQ_keep hj e1⟩
  refine ⟨fun _ => ⟨fun _ => ⟨fun _ => ⟨fun _ => (c_isIn a1 7 10 _).int ?_, fun _ => (c_framesOf 0 _).int ?_⟩, fun _ => (c_blocks _).int ?_⟩, fun _ => ⟨t_vp (n := 4) rfl (by omega), keep _⟩⟩, fun n3 => ?_⟩
  · rintro x5 σ1 ⟨-, rfl⟩
    refine ⟨fun _ => ⟨fun _ => ⟨fun _ => ⟨fun _ => ⟨fun _ => keep _, fun _ => (c_framesOf 1 _).int ?_⟩, fun _ => ⟨t_vp (n := 5) rfl (by omega), keep _⟩⟩, fun _ => (c_goers _).int ?_⟩, fun _ => (c_waiters _).int ?_⟩, fun _ => (c_framesIn _ _).int ?_⟩
    · rintro x7 σ1 ⟨-, rfl⟩
      refine (c_framesOf 0 _).int ?_
      rintro x9 σ1 ⟨⟨c, hc, -, hc1⟩, rfl⟩
      obtain ⟨s, hs, z1, z2⟩ := hj1.2.1.2.2.2.2
      have := hc1 s hs (fun z => by rw [show 2358 + 8 * s = 2358 + 8 * s + 0 from rfl, z1] at z; exact absurd z (by decide)) z2
      refine ⟨fun z => ?_, keep _⟩
      rw [z] at hc
      have hc : (0 : Int) = ((32 * c : Nat) : Int) := hc
      omega
    · rintro x7 σ1 rfl; exact keep _
    · rintro x7 σ1 rfl; exact keep _
    · rintro x7 σ1 rfl; exact keep _
  · rintro x7 σ1 ⟨-, rfl⟩
    refine (c_framesOf 1 _).int ?_
    rintro x9 σ1 ⟨-, rfl⟩
    exact ⟨by decide, keep _⟩
  · rintro x7 σ1 rfl; exact keep _
  · obtain ⟨-, g3, g4⟩ := hx3.resolve_right (fun z => n3 z.1)
    obtain ⟨m, hm, hm2⟩ := in_n (C := 3) rfl g3 g4
    refine (c_settingOf hm (by omega) _).int ?_
    rintro x7 σ1 rfl; exact keep _
