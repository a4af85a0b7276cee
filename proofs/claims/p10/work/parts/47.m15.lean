/-! ===== the model: gather; spans come and begin to go ===== -/
theorem l_gather {a1 : Int32} {m N : Nat} (h1 : a1.toInt = m) (hm : m < 6) : ∀ (d k : Nat) (a2 a3 : Int32) (v4 : Value) (σ : sm_S), a3.toInt = k → k + d = 96 → jj N (σ 1) → xE xM m_M_gather 19 [.ref 0, .int a1, .int a2, .int a3, v4] [] σ (sm_I (fun _ σ' => jj N (σ' 1) ∧ k14 σ σ')) := by
  intro d
  induction d with
  | zero =>
    intro k a2 a3 v4 σ h3 hk hj
    refine w_M_gather_19 a1 a2 a3 v4 σ _ ⟨fun _ => ⟨_, rfl, hj, k14.rf⟩, fun h => absurd ?_ h⟩
    rw [t_le, h3]
    show (96 : Int) ≤ _
    omega
  | succ d ih =>
    intro k a2 a3 v4 σ h3 hk hj
    have h3' : (a3 + 1).toInt = ((k + 1 : Nat) : Int) := by
      rw [t_add h3 (y := 1) rfl (by omega) (by omega)]
      omega
    have go : ∀ (b2 : Int32) (w4 : Value), xE xM m_M_gather 19 [.ref 0, .int a1, .int b2, .int (a3 + 1), w4] [] σ (sm_I (fun _ σ' => jj N (σ' 1) ∧ k14 σ σ')) := fun b2 w4 => ih (k + 1) b2 (a3 + 1) w4 σ h3' (by omega) hj
    obtain ⟨o, fr, b1, b2, b3, b4, b5, -⟩ := hj.2.1.1 k (by omega)
    have hkn : k < 96 := by omega
    refine w_M_gather_19 a1 a2 a3 v4 σ _ ⟨fun h => ?_, fun _ => (c_isBlock a3 σ).int ?_⟩
    · rw [t_le, h3] at h
      have h : (96 : Int) ≤ k := h
      omega
    · rintro x1 σ ⟨hx1, rfl⟩
      refine ⟨fun _ => go _ _, fun nI => (c_of (k := 4) (j := 4) h3 rfl (by omega) _).int ?_⟩
      rintro x2 σ ⟨-, rfl⟩
      refine ⟨fun _ => go _ _, fun _ => (c_isLoose h3 hkn _).int ?_⟩
      rintro x3 σ ⟨hx3, rfl⟩
      refine ⟨fun _ => go _ _, fun n3 => ?_⟩
      obtain ⟨-, -, h6⟩ := hx3.resolve_left n3
      have hI : σ 1 (786 + 16 * k + 0) = 1 := by
        obtain ⟨-, k2, -, hk2, hI⟩ := hx1.resolve_right (fun z => nI z.1)
        have : k2 = k := by omega
        subst this
        exact hI
      refine (c_frameOf h3 hkn _).int ?_
      rintro x4 σ ⟨hx4, rfl⟩
      have hf4 : x4.toInt = fr := by rw [hx4]; exact b3
      refine (c_spanOf hf4 _).int ?_
      rintro x5 σ ⟨hx5, rfl⟩
      have hsp : fr / 32 < 8 := by omega
      refine (c_spanState hx5 hsp _).int ?_
      rintro x6 σ ⟨-, rfl⟩
      refine ⟨fun _ => (c_of (k := 2) (j := 2) h3 rfl (by omega) _).int ?_, fun _ => go _ _⟩
      rintro x7 σ ⟨hx7, rfl⟩
      have ho7 : x7.toInt = o := by rw [hx7]; exact b1
      refine (c_bestPlace h1 hm ho7 b2 _).int ?_
      rintro x8 σ ⟨hx8, rfl⟩
      refine ⟨fun _ => go _ _, fun n8 => ?_⟩
      obtain ⟨p, hp1, hp2, hp3⟩ := hx8.resolve_left n8
      refine (c_spanOf hp1 _).int ?_
      rintro x9 σ ⟨hx9, rfl⟩
      have hsp2 : p / 32 < 8 := by omega
      refine (c_rankOf hx9 hsp2 h1 hm _).int ?_
      rintro x10 σ ⟨-, -, rfl⟩
      refine (c_frameOf h3 hkn _).int ?_
      rintro x11 σ ⟨hx11, rfl⟩
      have hf11 : x11.toInt = fr := by rw [hx11]; exact b3
      refine (c_spanOf hf11 _).int ?_
      rintro x12 σ ⟨hx12, rfl⟩
      refine (c_rankOf hx12 hsp h1 hm _).int ?_
      rintro x13 σ ⟨-, -, rfl⟩
      refine ⟨fun _ => (c_movesTo h3 hkn hp1 hp2 _ b1 hp3 (t_to0 (hj.2.1.1 k hkn) h6) hI hj).void ?_, fun _ => go _ _⟩
      rintro _ ⟨w, rfl, hw, -⟩
      refine (ih (k + 1) _ (a3 + 1) _ _ h3' (by omega) (by rw [s_at]; exact hw)).mono ?_
      rintro r σ' ⟨z, rfl, g1, g2⟩
      exact ⟨z, rfl, g1, k14.s1.tr g2⟩
theorem c_gather {N : Nat} (a1 : Int32) (σ : sm_S) (hj : jj N (σ 1)) : xC xM j_M_gather [.ref 0, .int a1] σ (sm_I (pubX N 0 σ)) := by
  refine w_M_gather a1 σ _ (fun σ1 e1 => (c_isTask a1 σ1).int ?_)
  have hj1 : jj N (σ1 1) := by rw [e1, s_ne (by decide)]; exact hj
  rintro x1 σ1 ⟨hx1, rfl⟩
  refine ⟨fun n1 => ?_, fun _ => ⟨_, rfl, pub_X (pub_keep hj e1)⟩⟩
  obtain ⟨-, m, hm, h1⟩ := hx1.resolve_right (fun z => n1 z.1)
  refine (l_gather h1 hm 96 0 0 0 _ _ rfl rfl hj1).mono ?_
  rintro r σ' ⟨z, rfl, g1, g2⟩
  exact ⟨z, rfl, X_k14 e1 g1 g2⟩
/-- a span changes, but for which block is on its way -/
theorem jr_span {v v' : Nat → Int32} {s : Nat} (hs : s < 8) (hj : jr v) (e : ∀ i, 786 ≤ i → i < 2422 → (i < 2358 + 8 * s ∨ 2358 + 8 * s + 8 ≤ i) → v' i = v i) (e6 : v' (2358 + 8 * s + 6) = v (2358 + 8 * s + 6)) (hsp : sp_ok v' s) (hz : z0_ok v') : jr v' := by
  obtain ⟨j1, j2, j3, j4, -⟩ := hj
  refine ⟨fun b hb => bk_cong (fun k hk _ _ _ => e _ (by omega) (by omega) (by omega)) (j1 b hb), fun b hb => ln_cong (fun k hk _ _ _ => e _ (by omega) (by omega) (by omega)) (fun t k ht hk => e _ (by omega) (by omega) (by omega)) (j2 b hb), fun s2 hs2 => ?_, fun b hb => ?_, hz⟩
  · by_cases hss : s2 = s
    · subst hss; exact hsp
    · obtain ⟨st, pt, at', q, h1, h2, h3, h4, h5, h6', h7, h8, h9⟩ := j3 s2 hs2
      refine ⟨st, pt, at', q, ?_, h2, ?_, h4, h5, ?_, h7, ?_, ?_⟩
      · rw [e _ (by omega) (by omega) (by omega)]; exact h1
      · rw [e _ (by omega) (by omega) (by omega)]; exact h3
      · rw [e _ (by omega) (by omega) (by omega)]; exact h6'
      · rw [e _ (by omega) (by omega) (by omega)]; exact h8
      · rcases h9 with h9 | ⟨b, g1, g2, g3, g4, fr, g5, g6⟩
        · exact Or.inl h9
        · refine Or.inr ⟨b, g1, g2, g3, ?_, fr, ?_, g6⟩ <;> rw [e _ (by omega) (by omega) (by omega)] <;> assumption
  · intro hb6
    rw [e _ (by omega) (by omega) (by omega)] at hb6
    obtain ⟨h1, fr, h2, h3, h4⟩ := j4 b hb hb6
    refine ⟨?_, fr, ?_, h3, ?_⟩
    · rw [e _ (by omega) (by omega) (by omega)]; exact h1
    · rw [e _ (by omega) (by omega) (by omega)]; exact h2
    · by_cases hss : fr / 32 = s
      · rw [hss, e6, ← hss]; exact h4
      · rw [e _ (by omega) (by omega) (by omega)]; exact h4
theorem l_framesOf {a1 : Int32} (σ : sm_S) : ∀ (d k c : Nat) (a2 a3 : Int32), a3.toInt = k → k + d = 8 → a2.toInt = ((32 * c : Nat) : Int) → c ≤ k → (∀ s, s < k → σ 1 (2358 + 8 * s) ≠ 0 → σ 1 (2358 + 8 * s + 1) = a1 → 1 ≤ c) → xE xM m_M_framesOf 4 [.ref 0, .int a1, .int a2, .int a3] [] σ (sm_I (fun x σ' => (∃ c : Nat, x.toInt = ((32 * c : Nat) : Int) ∧ c ≤ 8 ∧ ∀ s, s < 8 → σ 1 (2358 + 8 * s) ≠ 0 → σ 1 (2358 + 8 * s + 1) = a1 → 1 ≤ c) ∧ σ' = σ)) := by
  intro d
  induction d with
  | zero =>
    intro k c a2 a3 h3 hk h2 hc hall
    refine w_M_framesOf_4 a1 a2 a3 σ _ ⟨fun _ => ⟨_, rfl, ⟨c, h2, by omega, fun s hs => hall s (by omega)⟩, rfl⟩, fun h => absurd ?_ h⟩
    rw [t_le, h3]
    show (8 : Int) ≤ _
    omega
  | succ d ih =>
    intro k c a2 a3 h3 hk h2 hc hall
    have h3' : (a3 + 1).toInt = ((k + 1 : Nat) : Int) := by
      rw [t_add h3 (y := 1) rfl (by omega) (by omega)]
      omega
    refine w_M_framesOf_4 a1 a2 a3 σ _ ⟨fun h => ?_, fun _ => (c_zoneOf h3 (by omega) σ).int ?_⟩
    · rw [t_le, h3] at h
      have h : (8 : Int) ≤ k := h
      omega
    · rintro x σ ⟨hx, rfl⟩
      refine ⟨fun hne => ih (k + 1) c a2 _ h3' (by omega) h2 (by omega) (fun s hs g1 g2 => ?_), fun _ => ih (k + 1) (c + 1) _ _ h3' (by omega) ?_ (by omega) (fun _ _ _ _ => by omega)⟩
      · by_cases hsk : s = k
        · subst hsk
          rcases hx with ⟨g3, -⟩ | ⟨-, g3⟩
          · exact absurd g3 g1
          · exact absurd (g3.trans g2) hne
        · exact hall s (by omega) g1 g2
      · rw [t_add h2 (y := 32) rfl (by omega) (by omega)]
        omega
theorem c_framesOf (a1 : Int32) (σ : sm_S) : xC xM j_M_framesOf [.ref 0, .int a1] σ (sm_I (fun x σ' => (∃ c : Nat, x.toInt = ((32 * c : Nat) : Int) ∧ c ≤ 8 ∧ ∀ s, s < 8 → σ 1 (2358 + 8 * s) ≠ 0 → σ 1 (2358 + 8 * s + 1) = a1 → 1 ≤ c) ∧ σ' = σ)) :=
  w_M_framesOf a1 σ _ (l_framesOf σ 8 0 0 0 0 rfl rfl rfl (Nat.le_refl 0) (fun s hs => absurd hs (Nat.not_lt_zero s)))
theorem c_settingOf {a : Int32} {n : Nat} (h : a.toInt = n) (hn : n < 2662) (σ : sm_S) : xC xM j_M_settingOf [.ref 0, .int a] σ (sm_I (fun _ σ' => σ' = σ)) := by
  refine w_M_settingOf a σ _ ⟨t_vp h hn, (c_firstOf a σ).int ?_⟩
  rintro x σ rfl
  exact ⟨_, rfl, rfl⟩
theorem c_zoneByRatio (σ : sm_S) : xC xM j_M_zoneByRatio [.ref 0] σ (sm_I (fun x σ' => (x = 0 ∨ x = 1) ∧ σ' = σ)) := by
  refine w_M_zoneByRatio σ _ ((c_framesOf 1 σ).int ?_)
  rintro x1 σ ⟨-, rfl⟩
  refine (c_settingOf (n := 2) rfl (by omega) _).int ?_
  rintro x2 σ rfl
  refine (c_framesOf 0 _).int ?_
  rintro x3 σ ⟨-, rfl⟩
  exact ⟨fun _ => ⟨_, rfl, Or.inl rfl, rfl⟩, fun _ => ⟨_, rfl, Or.inr rfl, rfl⟩⟩
theorem l_comesOn {a1 a2 : Int32} {s N : Nat} (h1 : a1.toInt = s) (hs : s < 8) (hN : N < 2147483000) : ∀ (d k : Nat) (a3 : Int32) (σ : sm_S), a3.toInt = ((32 * s + k : Nat) : Int) → k + d = 32 → jj N (σ 1) → xE xM m_M_comesOn 31 [.ref 0, .int a1, .int a2, .int a3] [] σ (sm_I (fun x σ' => x = a2 ∧ ∃ w, σ' = sm_set σ 1 w ∧ jj (N + 1) w ∧ ∀ i, 786 ≤ i → i < 2422 → w i = σ 1 i)) := by
  have hb : ((32 * a1) + 32).toInt = ((32 * s + 32 : Nat) : Int) := by
    rw [t_add (t_32s h1 hs) (y := 32) rfl (by omega) (by omega)]
    omega
  intro d
  induction d with
  | zero =>
    intro k a3 σ h3 hk hj
    refine w_M_comesOn_31 a1 a2 a3 σ _ ⟨fun _ => (c_writes' _ _ _ _ hj hN).void ?_, fun h => absurd ?_ h⟩
    · rintro _ ⟨w, rfl, hw, ew⟩
      exact ⟨_, rfl, rfl, w, rfl, hw, fun i h1 h2 => ew i h2 (by omega)⟩
    · rw [t_le, hb, h3]
      omega
  | succ d ih =>
    intro k a3 σ h3 hk hj
    have h3' : (a3 + 1).toInt = ((32 * s + (k + 1) : Nat) : Int) := by
      rw [t_add h3 (y := 1) rfl (by omega) (by omega)]
      omega
    refine w_M_comesOn_31 a1 a2 a3 σ _ ⟨fun h => ?_, fun _ => (c_frameAt a3 σ).int ?_⟩
    · rw [t_le, hb, h3] at h
      omega
    · rintro _ σ ⟨rfl, rfl⟩
      obtain ⟨p1, q1⟩ := ixF (k := 0) (j := 0) h3 rfl (by omega)
      rw [q1]
      refine ⟨p1, fun σ1 e1 => ?_⟩
      subst e1
      have hj1 : jj N (upd (σ 1) (18 + 3 * (32 * s + k) + 0) 1) := jj_fr (fr_st1 (f := 32 * s + k) rfl (by decide) (by omega) hj.1) (fr_upd (by omega) (by omega)) hj
      refine (ih (k + 1) (a3 + 1) _ h3' (by omega) (by rw [s_at]; exact hj1)).mono ?_
      rintro r σ' ⟨z, rfl, g0, w, rfl, hw, ew⟩
      rw [s_at] at ew
      exact ⟨z, rfl, g0, w, s_ss, hw, fun i g1 g2 => by rw [ew i g1 g2, u_ne (by omega)]⟩
/-- a span that was off comes -/
theorem c_comesOn {a1 a2 : Int32} {s N : Nat} (h1 : a1.toInt = s) (hs : s < 8) (hN : N < 2147483000) (σ : sm_S) (hj : jj N (σ 1)) (h0 : σ 1 (2358 + 8 * s) = 0) : xC xM j_M_comesOn [.ref 0, .int a1, .int a2] σ (sm_I (fun x σ' => ∃ w, σ' = sm_set σ 1 w ∧ jj (N + 1) w ∧ w (2358 + 8 * s) = 1 ∧ ∀ i, 786 ≤ i → i < 2422 → i ≠ 2358 + 8 * s → i ≠ 2358 + 8 * s + 1 → w i = σ 1 i)) := by
  refine w_M_comesOn a1 a2 σ _ ((c_spanAt a1 σ).int ?_)
  rintro _ σ ⟨rfl, rfl⟩
  obtain ⟨p0, q0⟩ := ixS (k := 0) (j := 0) h1 rfl (by omega)
  obtain ⟨p1, q1⟩ := ixS (k := 1) (j := 1) h1 rfl (by omega)
  rw [q0]
  refine ⟨p0, fun σ1 e1 => (c_spanAt a1 σ1).int ?_⟩
  rintro _ σ1 ⟨rfl, rfl⟩
  rw [q1]
  refine ⟨p1, fun σ2 e2 => ?_⟩
  subst e2 e1
  simp only [s_at, s_ss]
  have hv : ∀ i, i ≠ 2358 + 8 * s + 0 → i ≠ 2358 + 8 * s + 1 → upd (upd (σ 1) (2358 + 8 * s + 0) 1) (2358 + 8 * s + 1) a2 i = σ 1 i := fun i g1 g2 => by rw [u_ne g2, u_ne g1]
  have hjn : jj N (upd (upd (σ 1) (2358 + 8 * s + 0) 1) (2358 + 8 * s + 1) a2) := by
    refine ⟨fr_cong (fun i h1 h2 => hv _ (by omega) (by omega)) (fun b k hb hk => hv _ (by omega) (by omega)) hj.1, ?_, by rw [hv _ (by omega) (by omega)]; exact hj.2.2⟩
    obtain ⟨st, pt, at', q, g1, g2, g3, g4, g5, g6, g7, g8, g9⟩ := hj.2.1.2.2.1 s hs
    have hst : st = 0 := by
      rw [show σ 1 (2358 + 8 * s + 0) = 0 from h0] at g1
      have g1 : (0 : Int) = st := g1
      omega
    obtain ⟨s2, hs2, z1, z2⟩ := hj.2.1.2.2.2.2
    have hs22 : s2 ≠ s := fun z => by
      subst z
      rw [show σ 1 (2358 + 8 * s2 + 0) = 0 from h0] at z1
      exact absurd z1 (by decide)
    refine jr_span hs hj.2.1 (fun i _ _ h => hv i (by omega) (by omega)) (hv _ (by omega) (by omega)) ⟨1, pt, at', q, ?_, by omega, ?_, g4, fun h => by omega, ?_, g7, ?_, Or.inl ?_⟩ ⟨s2, hs2, ?_, ?_⟩
    · rw [u_ne (by omega), u_at]; rfl
    · rw [hv _ (by omega) (by omega)]; exact g3
    · rw [hv _ (by omega) (by omega)]; exact g6
    · rw [hv _ (by omega) (by omega)]; exact g8
    · rcases g9 with g9 | ⟨b, -, -, f3, -⟩
      · exact g9
      · omega
    · rw [hv _ (by omega) (by omega)]; exact z1
    · rw [hv _ (by omega) (by omega)]; exact z2
  refine (l_comesOn h1 hs hN 32 0 _ _ (by rw [t_32s h1 hs]; rfl) rfl (by rw [s_at]; exact hjn)).mono ?_
  rintro r σ' ⟨x, rfl, -, w, rfl, hw, ew⟩
  rw [s_at] at ew
  refine ⟨x, rfl, w, s_ss, hw, ?_, fun i g1 g2 g3 g4 => by rw [ew i g1 g2, hv i g3 g4]⟩
  rw [ew _ (by omega) (by omega), u_ne (by omega)]
  exact u_at
theorem c_come {N : Nat} (a1 a2 : Int32) (σ : sm_S) (hj : jj N (σ 1)) (hN : N < 2147483000) : xC xM j_M_come [.ref 0, .int a1, .int a2] σ (sm_I (pub N 1 σ)) := by
  refine w_M_come a1 a2 σ _ (fun σ1 e1 => (c_isSpan a1 σ1).int ?_)
  have hj1 : jj N (σ1 1) := by rw [e1, s_ne (by decide)]; exact hj
  rintro x1 σ1 ⟨hx1, rfl⟩
  refine ⟨fun _ => ⟨_, rfl, pub_keep hj e1⟩, fun n1 => ?_⟩
  obtain ⟨-, s, hs, h1⟩ := hx1.resolve_right (fun z => n1 z.1)
  refine (c_spanState h1 hs _).int ?_
  rintro x2 σ1 ⟨hx2, rfl⟩
  refine ⟨fun _ => ⟨_, rfl, pub_keep hj e1⟩, fun n2 => (c_isIn a2 0 2 _).int ?_⟩
  have h0 : σ1 1 (2358 + 8 * s) = 0 := by rw [← hx2]; exact Classical.not_not.mp n2
  rintro x3 σ1 ⟨-, rfl⟩
  have hon : ∀ z : Int32, xC xM j_M_comesOn [.ref 0, .int a1, .int z] σ1 (sm_ri False (fun x9 σ8 => sm_I (pub N 1 σ) (some (.int x9)) σ8)) := by
    intro z
    refine (c_comesOn h1 hs hN _ hj1 h0).int ?_
    rintro y _ ⟨w, rfl, hw, -⟩
    exact ⟨_, rfl, pub_set e1 hw (by omega) (Nat.le_refl _)⟩
  refine ⟨fun _ => ⟨fun _ => hon _, fun _ => (c_zoneByRatio _).int ?_⟩, fun _ => ⟨_, rfl, pub_keep hj e1⟩⟩
  rintro y σ1 ⟨-, rfl⟩
  exact hon y
