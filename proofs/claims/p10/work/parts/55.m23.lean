/-! ===== the model: a tick ===== -/
theorem l_manyIn {a1 a2 : Int32} {s : Nat} (h1 : a1.toInt = s) (hs : s < 8) (σ : sm_S) : ∀ (d k : Nat) (a3 a4 : Int32), a4.toInt = ((32 * s + k : Nat) : Int) → k + d = 32 → xE xM m_M_manyIn 8 [.ref 0, .int a1, .int a2, .int a3, .int a4] [] σ (sm_I (fun _ σ' => σ' = σ)) := by
  have h38 : (32 * a1 + 32).toInt = ((32 * s + 32 : Nat) : Int) := by
    rw [t_add (t_32s h1 hs) (y := 32) rfl (by omega) (by omega)]
    omega
  intro d
  induction d with
  | zero =>
    intro k a3 a4 h4 hk
    exact w_M_manyIn_8 a1 a2 a3 a4 σ _ ⟨fun _ => ⟨_, rfl, rfl⟩, fun h => absurd (by rw [t_le, h38, h4]; omega) h⟩
  | succ d ih =>
    intro k a3 a4 h4 hk
    have h4' : (a4 + 1).toInt = ((32 * s + (k + 1) : Nat) : Int) := by
      rw [t_add h4 (y := 1) rfl (by omega) (by omega)]
      omega
    refine w_M_manyIn_8 a1 a2 a3 a4 σ _ ⟨fun h => ?_, fun _ => (c_stateOf h4 (by omega) σ).int ?_⟩
    · rw [t_le, h38, h4] at h; omega
    · rintro x σ ⟨-, rfl⟩
      exact ⟨fun _ => ih (k + 1) _ _ h4' (by omega), fun _ => ih (k + 1) _ _ h4' (by omega)⟩
theorem c_manyIn {a1 : Int32} {s : Nat} (h1 : a1.toInt = s) (hs : s < 8) (a2 : Int32) (σ : sm_S) : xC xM j_M_manyIn [.ref 0, .int a1, .int a2] σ (sm_I (fun _ σ' => σ' = σ)) :=
  w_M_manyIn a1 a2 σ _ (l_manyIn h1 hs σ 32 0 _ _ (t_32s h1 hs) rfl)
theorem c_whyOf {a1 : Int32} {s N : Nat} (h1 : a1.toInt = s) (hs : s < 8) (σ : sm_S) (hj : jj N (σ 1)) : xC xM j_M_whyOf [.ref 0, .int a1] σ (sm_I (fun _ σ' => σ' = σ)) := by
  refine w_M_whyOf a1 σ _ ((c_firstBlock (fm := 0) h1 hs rfl (by omega) σ hj).int ?_)
  rintro x2 σ ⟨hx2, rfl⟩
  refine ⟨fun hne => ?_, fun _ => ⟨_, rfl, rfl⟩⟩
  obtain ⟨n, fr, k1, k2, -⟩ := hx2.resolve_left hne
  refine (c_of (k := 3) (j := 3) k1 rfl (by omega) _).int ?_
  rintro x4 σ ⟨-, rfl⟩
  refine ⟨fun _ => (c_isPinned k1 k2 _).int ?_, fun _ => ⟨_, rfl, rfl⟩⟩
  rintro x6 σ ⟨-, rfl⟩
  exact ⟨fun _ => ⟨_, rfl, rfl⟩, fun _ => ⟨_, rfl, rfl⟩⟩
theorem l_isOver {a1 a2 : Int32} {s N : Nat} (h1 : a1.toInt = s) (hs : s < 8) : ∀ (d k : Nat) (a3 : Int32) (σ : sm_S), a3.toInt = ((32 * s + k : Nat) : Int) → k + d = 32 → jj N (σ 1) → xE xM m_M_isOver 84 [.ref 0, .int a1, .int a2, .int a3] [] σ (sm_V (fun σ' => ∃ w, σ' = sm_set σ 1 w ∧ jj N w ∧ ∀ i, 2358 ≤ i → i < 2422 → w i = σ 1 i)) := by
  have h38 : (32 * a1 + 32).toInt = ((32 * s + 32 : Nat) : Int) := by
    rw [t_add (t_32s h1 hs) (y := 32) rfl (by omega) (by omega)]
    omega
  intro d
  induction d with
  | zero =>
    intro k a3 σ h3 hk hj
    refine w_M_isOver_84 a1 a2 a3 σ _ ⟨fun _ => (c_counts (k := 6) (j := 6) rfl (by omega) 1 σ).void ?_, fun h => absurd (by rw [t_le, h38, h3]; omega) h⟩
    rintro _ rfl
    exact ⟨rfl, _, rfl, jj_low (by omega) (by omega) hj, fun i _ _ => u_ne (by omega)⟩
  | succ d ih =>
    intro k a3 σ h3 hk hj
    have h3' : (a3 + 1).toInt = ((32 * s + (k + 1) : Nat) : Int) := by
      rw [t_add h3 (y := 1) rfl (by omega) (by omega)]
      omega
    refine w_M_isOver_84 a1 a2 a3 σ _ ⟨fun h => ?_, fun _ => (c_frameAt a3 σ).int ?_⟩
    · rw [t_le, h38, h3] at h; omega
    · rintro _ σ ⟨rfl, rfl⟩
      obtain ⟨p1, q1⟩ := ixF (k := 0) (j := 0) h3 rfl (by omega)
      rw [q1]
      refine ⟨p1, fun σ1 e1 => ?_⟩
      subst e1
      have hj1 : jj N (upd (σ 1) (18 + 3 * (32 * s + k) + 0) 0) := jj_fr (fr_st1 (f := 32 * s + k) rfl (by decide) (by omega) hj.1) (fr_upd (by omega) (by omega)) hj
      refine (ih (k + 1) (a3 + 1) _ h3' (by omega) (by rw [s_at]; exact hj1)).mono ?_
      rintro r σ' ⟨rfl, w, rfl, hw, ew⟩
      rw [s_at] at ew
      exact ⟨rfl, w, s_ss, hw, fun i g1 g2 => by rw [ew i g1 g2, u_ne (by omega)]⟩
theorem c_isOver {a1 : Int32} {s N : Nat} (h1 : a1.toInt = s) (hs : s < 8) (hN : N < 2147460000) (σ : sm_S) (hj : jj N (σ 1)) (hst : σ 1 (2358 + 8 * s + 0) = 3) (hS : σ 1 (2358 + 8 * s + 6) = 0) : xC xM j_M_isOver [.ref 0, .int a1] σ (sm_V (fun σ' => ∃ w N', σ' = sm_set σ 1 w ∧ jj N' w ∧ N ≤ N' ∧ N' ≤ N + 7 ∧ oth s (σ 1) w)) := by
  refine w_M_isOver a1 σ _ ((c_spanAt a1 σ).int ?_)
  rintro _ σ ⟨rfl, rfl⟩
  obtain ⟨p0, q0⟩ := ixS (k := 0) (j := 0) h1 rfl (by omega)
  obtain ⟨p1, q1⟩ := ixS (k := 1) (j := 1) h1 rfl (by omega)
  obtain ⟨p2, q2⟩ := ixS (k := 2) (j := 2) h1 rfl (by omega)
  obtain ⟨p3, q3⟩ := ixS (k := 3) (j := 3) h1 rfl (by omega)
  obtain ⟨p4, q4⟩ := ixS (k := 4) (j := 4) h1 rfl (by omega)
  obtain ⟨p5, q5⟩ := ixS (k := 5) (j := 5) h1 rfl (by omega)
  have h23 : (2358 + 8 * a1 + 3).toInt = ((2358 + 8 * s + 3 : Nat) : Int) := t_ix (c := 2358) (m := 8) (C := 2358) (M := 8) (k := 3) (j := 3) rfl rfl h1 rfl (by omega)
  rw [q0, q1, q2, q3, q4, q5]
  refine (c_counts (k := 9) (j := 9) rfl (by omega) 1 _).void ?_
  rintro _ rfl
  have hj1 : jj N (upd (σ 1) (7 + 9) (σ 1 (7 + 9) + 1)) := jj_low (by omega) (by omega) hj
  have hw0 : ∃ u, u = upd (σ 1) (7 + 9) (σ 1 (7 + 9) + 1) := ⟨_, rfl⟩
  obtain ⟨u, hu⟩ := hw0
  rw [← hu] at hj1 ⊢
  have hue : ∀ i, 18 ≤ i → u i = σ 1 i := fun i g => by rw [hu, u_ne (by omega)]
  have hstu : u (2358 + 8 * s + 0) = 3 := by rw [hue _ (by omega)]; exact hst
  have hSu : u (2358 + 8 * s + 6) = 0 := by rw [hue _ (by omega)]; exact hS
  obtain ⟨st, pt, at', q, g1, g2, g3, g4, g5, g6, g7, g8, g9⟩ := hj1.2.1.2.2.1 s hs
  have hst3 : st = 3 := by
    rw [hstu] at g1
    have g1 : (3 : Int) = st := g1
    omega
  obtain ⟨s2, f1, f2, f3⟩ := hj1.2.1.2.2.2.2
  have hs2 : s2 ≠ s := fun z => by
    subst z
    rw [hstu] at f2
    exact absurd f2 (by decide)
  refine (c_manyIn h1 hs _ _).int ?_
  rintro x5 σ5 e5
  subst e5
  refine (c_manyIn h1 hs _ _).int ?_
  rintro x7 σ5 e5
  subst e5
  refine ⟨fun _ => ⟨p3, (c_settingOf (n := 1) rfl (by omega) _).int ?_⟩, fun _ => ⟨p3, (c_writes' (N := N) _ _ _ _ (by rw [s_at]; exact hj1) (by omega)).void ?_⟩⟩
  · rintro x9 σ5 e5
    subst e5
    refine ⟨fun _ => (c_more (j := 2358 + 8 * s + 3) h23 (by omega) 1 _).void ?_, fun _ => (c_whyOf h1 hs _ (by rw [s_at]; exact hj1)).int ?_⟩
    · rintro _ rfl
      refine (c_settingOf (n := 3) rfl (by omega) _).int ?_
      rintro x12 σ5 e5
      subst e5
      refine ⟨p4, fun σ6 e6 => ⟨p5, fun σ7 e7 => ?_⟩⟩
      subst e7 e6
      simp only [s_at, s_ss]
      refine ⟨rfl, _, N, rfl, jj_at (a := 0) hs rfl (by omega) (jj_cell (by omega) (Or.inr (Or.inr ⟨s, hs, Or.inr (Or.inl rfl)⟩)) (jj_cell (by omega) (Or.inr (Or.inr ⟨s, hs, Or.inl rfl⟩)) hj1)), Nat.le_refl N, by omega, fun i c1 c2 c3 => ?_⟩
      rw [u_ne (by omega), u_ne (by omega), u_ne (by omega), hue _ (by omega)]
    · rintro x16 σ5 e5
      subst e5
      refine (c_fails (N := N) h1 hs hN _ (by rw [s_at]; exact hj1)).void ?_
      rintro _ ⟨w, N', rfl, hw, l1, l2, -, ew⟩
      rw [s_at] at ew
      exact ⟨rfl, w, N', s_ss, hw, l1, l2, fun i c1 c2 c3 => by rw [ew i c1 c2 c3, hue i (by omega)]⟩
  · rintro _ ⟨v, rfl, hv, ev⟩
    rw [s_at] at ev
    refine ⟨p0, fun σ1 e1 => ⟨p1, fun σ2 e2 => ⟨p2, fun σ3 e3 => ⟨p3, fun σ4 e4 => ?_⟩⟩⟩⟩
    subst e4 e3 e2 e1
    simp only [s_at, s_ss]
    have hw0 : ∃ w, w = upd (upd (upd (upd v (2358 + 8 * s + 0) 0) (2358 + 8 * s + 1) 0) (2358 + 8 * s + 2) 0) (2358 + 8 * s + 3) 0 := ⟨_, rfl⟩
    obtain ⟨w, hw⟩ := hw0
    rw [← hw]
    have hwe : ∀ i, (i < 2358 + 8 * s ∨ 2358 + 8 * s + 4 ≤ i) → w i = v i := fun i hi => by rw [hw, u_ne (by omega), u_ne (by omega), u_ne (by omega), u_ne (by omega)]
    have hjw : jj (N + 1) w := by
      refine ⟨fr_cong (fun i _ _ => hwe i (by omega)) (fun b k hb hk => hwe _ (by omega)) hv.1, ?_, by rw [hwe _ (by omega)]; exact hv.2.2⟩
      refine jr_span hs hv.2.1 (fun i _ _ h => hwe i (by omega)) (hwe _ (by omega)) ⟨0, 0, at', 0, ?_, by omega, ?_, by omega, fun z => by omega, ?_, g7, ?_, Or.inl rfl⟩ ⟨s2, f1, ?_, ?_⟩
      · rw [hw, u_ne (by omega), u_ne (by omega), u_ne (by omega), u_at]; rfl
      · rw [hw, u_ne (by omega), u_at]; rfl
      · rw [hwe _ (by omega), ev _ (by omega) (by omega)]; exact g6
      · rw [hwe _ (by omega), ev _ (by omega) (by omega), hSu]; rfl
      · rw [hwe _ (by omega), ev _ (by omega) (by omega)]; exact f2
      · rw [hwe _ (by omega), ev _ (by omega) (by omega)]; exact f3
    refine (l_isOver (N := N + 1) h1 hs 32 0 _ _ (t_32s h1 hs) rfl (by rw [s_at]; exact hjw)).mono ?_
    rintro r σ' ⟨rfl, z, rfl, hz, ez⟩
    rw [s_at] at ez
    exact ⟨rfl, z, N + 1, s_ss, hz, by omega, by omega, fun i c1 c2 c3 => by rw [ez i c1 c2, hwe i (by omega), ev i (by omega) (by omega), hue i (by omega)]⟩
theorem t_pos0 {x : Int32} {q : Nat} (h : x.toInt = q) (h2 : x ≤ 0) : x = 0 := by
  apply t_inj
  rw [t_le, h] at h2
  have h2 : (q : Int) ≤ 0 := h2
  rw [h]
  show (q : Int) = 0
  omega
theorem sb_0 {v : Nat → Int32} {s N : Nat} (hs : s < 8) (hj : jj N v) (h : v (2358 + 8 * s + 6) ≤ 0) : v (2358 + 8 * s + 6) = 0 := by
  obtain ⟨st, pt, at', q, g1, g2, g3, g4, g5, g6, g7, g8, g9⟩ := hj.2.1.2.2.1 s hs
  exact t_pos0 g8 h
/-- the loop of moves, nothing on its way -/
theorem l_moves {a1 a2 : Int32} {s : Nat} (h1 : a1.toInt = s) (hs : s < 8) (h2 : a2.toInt = ((2358 + 8 * s : Nat) : Int)) : ∀ (d N at0 : Nat) (a3 : Int32) (σ : sm_S), 32 ≤ at0 + d → N + mu (σ 1) + 71 * d < 1900000000 → jj N (σ 1) → σ 1 (2358 + 8 * s + 0) = 3 → σ 1 (2358 + 8 * s + 6) = 0 → (σ 1 (2358 + 8 * s + 5)).toInt = at0 →
    xE xM m_M_moves 32 [.ref 0, .int a1, .int a2, .int a3] [] σ (sm_V (fun σ' => ∃ w N', σ' = sm_set σ 1 w ∧ jj N' w ∧ N ≤ N' ∧ N' ≤ N + mu (σ 1) + 71 * d + 7 ∧ oth s (σ 1) w)) := by
  have i6 : (a2 + 6).toInt = ((2358 + 8 * s + 6 : Nat) : Int) := by
    rw [t_add h2 (y := 6) rfl (by omega) (by omega)]
    omega
  intro d
  induction d with
  | zero =>
    intro N at0 a3 σ hd hN hj hst hS hat
    refine w_M_moves_32 a1 a2 a3 σ _ ?_
    rw [t_nat i6, hS]
    refine ⟨t_vp i6 (by omega), fun h => absurd h (by decide), fun _ => (c_looks h1 hs σ (by omega) hj hst hS hat).int ?_⟩
    rintro x4 _ ⟨w, N', rfl, q1, q2, q3, q4, q5⟩
    have hst' : w (2358 + 8 * s + 0) = 3 := by rw [q4 _ (by omega) (by omega) (by omega) (by omega)]; exact hst
    refine ⟨fun hx => ?_, fun hx => ?_⟩
    · have hS' := (q5.resolve_right (fun z => by rw [z.1] at hx; exact absurd hx (by decide))).2
      refine (c_isOver (N := N') h1 hs (by omega) _ (by rw [s_at]; exact q1) (by rw [s_at]; exact hst') (by rw [s_at]; exact hS')).void ?_
      rintro _ ⟨w2, N2, rfl, r1, r2, r3, r4⟩
      rw [s_at] at r4
      exact ⟨rfl, w2, N2, s_ss, r1, by omega, by omega, fun i c1 c2 c3 => by rw [r4 i c1 c2 c3, q4 i c1 c2 (by omega) (by omega)]⟩
    · obtain ⟨-, -, at1, e1, e2⟩ := q5.resolve_left (fun z => hx z.1)
      obtain ⟨st, pt, at', q, g1, g2, g3, g4, g5, g6, g7, g8, g9⟩ := q1.2.1.2.2.1 s hs
      rw [e1] at g6
      omega
  | succ d ih =>
    intro N at0 a3 σ hd hN hj hst hS hat
    refine w_M_moves_32 a1 a2 a3 σ _ ?_
    rw [t_nat i6, hS]
    refine ⟨t_vp i6 (by omega), fun h => absurd h (by decide), fun _ => (c_looks h1 hs σ (by omega) hj hst hS hat).int ?_⟩
    rintro x4 _ ⟨w, N', rfl, q1, q2, q3, q4, q5⟩
    have hst' : w (2358 + 8 * s + 0) = 3 := by rw [q4 _ (by omega) (by omega) (by omega) (by omega)]; exact hst
    refine ⟨fun hx => ?_, fun hx => ?_⟩
    · have hS' := (q5.resolve_right (fun z => by rw [z.1] at hx; exact absurd hx (by decide))).2
      refine (c_isOver (N := N') h1 hs (by omega) _ (by rw [s_at]; exact q1) (by rw [s_at]; exact hst') (by rw [s_at]; exact hS')).void ?_
      rintro _ ⟨w2, N2, rfl, r1, r2, r3, r4⟩
      rw [s_at] at r4
      exact ⟨rfl, w2, N2, s_ss, r1, by omega, by omega, fun i c1 c2 c3 => by rw [r4 i c1 c2 c3, q4 i c1 c2 (by omega) (by omega)]⟩
    · obtain ⟨-, hne, at1, e1, e2⟩ := q5.resolve_left (fun z => hx z.1)
      refine (c_copies (N := N') h1 hs (by omega) _ (by rw [s_at]; exact q1) (by rw [s_at]; exact hne)).int ?_
      rintro x7 _ ⟨w2, N2, rfl, r1, r2, r3, r4, r5⟩
      rw [s_at] at r4 r5
      rw [s_ss, s_at]
      have hoth : ∀ i, 2358 ≤ i → i < 2422 → (i < 2358 + 8 * s ∨ 2358 + 8 * s + 8 ≤ i) → w2 i = σ 1 i := fun i c1 c2 c3 => by rw [r5 i c1 c2 (by omega), q4 i c1 c2 (by omega) (by omega)]
      refine ⟨t_vp i6 (by omega), fun hle => ?_, fun _ => ⟨rfl, w2, N2, rfl, r1, by omega, by omega, hoth⟩⟩
      refine (ih N2 at1 x7 _ (by omega) (by rw [s_at]; omega) (by rw [s_at]; exact r1) (by rw [s_at, r5 _ (by omega) (by omega) (by omega)]; exact hst') (by rw [s_at]; exact sb_0 hs r1 hle) (by rw [s_at, r5 _ (by omega) (by omega) (by omega)]; exact e1)).mono ?_
      rintro r σ' ⟨rfl, w3, N3, rfl, t1, t2, t3, t4⟩
      rw [s_at] at t3 t4
      exact ⟨rfl, w3, N3, s_ss, t1, by omega, by omega, fun i c1 c2 c3 => by rw [t4 i c1 c2 c3, hoth i c1 c2 c3]⟩
theorem c_moves {a1 : Int32} {s N : Nat} (h1 : a1.toInt = s) (hs : s < 8) (hN : N < 1800000000) (σ : sm_S) (hj : jj N (σ 1)) (hst : σ 1 (2358 + 8 * s + 0) = 3) : xC xM j_M_moves [.ref 0, .int a1] σ (sm_V (fun σ' => ∃ w N', σ' = sm_set σ 1 w ∧ jj N' w ∧ N ≤ N' ∧ N' ≤ N + 3100 ∧ oth s (σ 1) w)) := by
  have hmu := mu_le (v := σ 1)
  refine w_M_moves a1 σ _ ((c_spanAt a1 σ).int ?_)
  rintro _ σ ⟨rfl, rfl⟩
  obtain ⟨p4, q4⟩ := ixS (k := 4) (j := 4) h1 rfl (by omega)
  have i4 : (2358 + 8 * a1 + 4).toInt = ((2358 + 8 * s + 4 : Nat) : Int) := t_ix (c := 2358) (m := 8) (C := 2358) (M := 8) (k := 4) (j := 4) rfl rfl h1 rfl (by omega)
  have h2 : (2358 + 8 * a1).toInt = ((2358 + 8 * s : Nat) : Int) := by
    rw [t_add (a := 2358) (x := 2358) rfl (t_mul (x := 8) rfl h1 (by omega) (by omega)) (by omega) (by omega)]
    omega
  have i6 : (2358 + 8 * a1 + 6).toInt = ((2358 + 8 * s + 6 : Nat) : Int) := t_ix (c := 2358) (m := 8) (C := 2358) (M := 8) (k := 6) (j := 6) rfl rfl h1 rfl (by omega)
  rw [q4]
  refine ⟨p4, fun _ => (c_settingOf (n := 0) rfl (by omega) _).int ?_, fun _ => (c_more i4 (by omega) (-1) _).void ?_⟩
  · rintro x4 σ rfl
    obtain ⟨st, pt, at', q, g1, g2, g3, g4, g5, g6, g7, g8, g9⟩ := hj.2.1.2.2.1 s hs
    by_cases hS : σ 1 (2358 + 8 * s + 6) = 0
    · refine (l_moves h1 hs h2 32 N at' x4 σ (by omega) (by omega) hj hst hS g6).mono ?_
      rintro r σ' ⟨rfl, w, N', rfl, r1, r2, r3, r4⟩
      exact ⟨rfl, w, N', rfl, r1, r2, by omega, r4⟩
    · refine w_M_moves_32 a1 _ x4 σ _ ?_
      rw [t_nat i6]
      have hpos : 0 < σ 1 (2358 + 8 * s + 6) := by
        rw [t_lt, g8]
        show (0 : Int) < q
        rcases Nat.eq_zero_or_pos q with z | z
        · exact absurd (t_inj (by rw [g8, z]; rfl)) hS
        · omega
      refine ⟨t_vp i6 (by omega), fun _ => (c_copies (N := N) h1 hs (by omega) _ hj hS).int ?_, fun h => absurd hpos h⟩
      rintro x7 _ ⟨w2, N2, rfl, r1, r2, r3, r4, r5⟩
      rw [s_at]
      have hmu2 := mu_le (v := w2)
      refine ⟨t_vp i6 (by omega), fun hle => ?_, fun _ => ⟨rfl, w2, N2, rfl, r1, by omega, by omega, fun i c1 c2 c3 => r5 i c1 c2 (by omega)⟩⟩
      refine (l_moves h1 hs h2 32 N2 at' x7 _ (by omega) (by rw [s_at]; omega) (by rw [s_at]; exact r1) (by rw [s_at, r5 _ (by omega) (by omega) (by omega)]; exact hst) (by rw [s_at]; exact sb_0 hs r1 hle) (by rw [s_at, r5 _ (by omega) (by omega) (by omega)]; exact g6)).mono ?_
      rintro r σ' ⟨rfl, w3, N3, rfl, t1, t2, t3, t4⟩
      rw [s_at] at t3 t4
      exact ⟨rfl, w3, N3, s_ss, t1, by omega, by omega, fun i c1 c2 c3 => by rw [t4 i c1 c2 c3, r5 i c1 c2 (by omega)]⟩
  · rintro _ rfl
    exact ⟨rfl, _, N, rfl, jj_cell (by omega) (Or.inr (Or.inr ⟨s, hs, Or.inr (Or.inl rfl)⟩)) hj, Nat.le_refl N, by omega, fun i c1 c2 c3 => u_ne (by omega)⟩
