/-! ===== the model: whose turn it is; a span begins to go ===== -/
theorem l_manyOfNode {a1 a2 : Int32} (σ : sm_S) : ∀ (d k : Nat) (a3 a4 : Int32), a4.toInt = k → k < 100 → 8 ≤ k + 2 * d → xE xM m_M_manyOfNode 5 [.ref 0, .int a1, .int a2, .int a3, .int a4] [] σ (sm_I (fun _ σ' => σ' = σ)) := by
  intro d
  induction d with
  | zero =>
    intro k a3 a4 h4 hk hd
    refine w_M_manyOfNode_5 a1 a2 a3 a4 σ _ ⟨fun _ => ⟨_, rfl, rfl⟩, fun h => absurd ?_ h⟩
    rw [t_le, h4]
    show (8 : Int) ≤ _
    omega
  | succ d ih =>
    intro k a3 a4 h4 hk hd
    have h4' : (a4 + 2).toInt = ((k + 2 : Nat) : Int) := by
      rw [t_add h4 (y := 2) rfl (by omega) (by omega)]
      omega
    refine w_M_manyOfNode_5 a1 a2 a3 a4 σ _ ⟨fun _ => ⟨_, rfl, rfl⟩, fun h => ?_⟩
    rw [t_le, h4] at h
    have h : ¬ (8 : Int) ≤ k := h
    refine (c_spanState h4 (by omega) σ).int ?_
    rintro x σ ⟨-, rfl⟩
    exact ⟨fun _ => ⟨fun _ => ih (k + 2) _ _ h4' (by omega) (by omega), fun _ => ih (k + 2) _ _ h4' (by omega) (by omega)⟩, fun _ => ⟨fun _ => ih (k + 2) _ _ h4' (by omega) (by omega), fun _ => ih (k + 2) _ _ h4' (by omega) (by omega)⟩⟩
theorem c_manyOfNode {a1 a2 : Int32} {n : Nat} (h1 : a1.toInt = n) (hn : n < 2) (σ : sm_S) : xC xM j_M_manyOfNode [.ref 0, .int a1, .int a2] σ (sm_I (fun _ σ' => σ' = σ)) :=
  w_M_manyOfNode a1 a2 σ _ (l_manyOfNode σ 4 n 0 a1 h1 (by omega) (by omega))
theorem l_turnOf {a1 : Int32} (σ : sm_S) : ∀ (d k : Nat) (a2 : Int32), a2.toInt = k → k < 100 → 8 ≤ k + 2 * d → xE xM m_M_turnOf 41 [.ref 0, .int a1, .int a2] [] σ (sm_I (fun x σ' => (x = -1 ∨ ∃ s : Nat, x.toInt = s ∧ s < 8 ∧ σ 1 (2358 + 8 * s) = 0) ∧ σ' = σ)) := by
  intro d
  induction d with
  | zero =>
    intro k a2 h2 hk hd
    refine w_M_turnOf_41 a1 a2 σ _ ⟨fun _ => ⟨_, rfl, Or.inl rfl, rfl⟩, fun h => absurd ?_ h⟩
    rw [t_le, h2]
    show (8 : Int) ≤ _
    omega
  | succ d ih =>
    intro k a2 h2 hk hd
    have h2' : (a2 + 2).toInt = ((k + 2 : Nat) : Int) := by
      rw [t_add h2 (y := 2) rfl (by omega) (by omega)]
      omega
    refine w_M_turnOf_41 a1 a2 σ _ ⟨fun _ => ⟨_, rfl, Or.inl rfl, rfl⟩, fun h => ?_⟩
    rw [t_le, h2] at h
    have h : ¬ (8 : Int) ≤ k := h
    refine (c_spanState h2 (by omega) σ).int ?_
    rintro x σ ⟨hx, rfl⟩
    exact ⟨fun _ => ih (k + 2) _ h2' (by omega) (by omega), fun n0 => ⟨_, rfl, Or.inr ⟨k, h2, by omega, by rw [← hx]; exact Classical.not_not.mp n0⟩, rfl⟩⟩
theorem c_turnOf (σ : sm_S) : xC xM j_M_turnOf [.ref 0] σ (sm_I (fun x σ' => (x = -1 ∨ ∃ s : Nat, x.toInt = s ∧ s < 8 ∧ σ 1 (2358 + 8 * s) = 0) ∧ σ' = σ)) := by
  have l0 := l_turnOf (a1 := 0) σ 4 0 0 rfl (by omega) (by omega)
  have l1 := l_turnOf (a1 := 1) σ 4 1 1 rfl (by omega) (by omega)
  refine w_M_turnOf σ _ ((c_manyOfNode (n := 0) rfl (by omega) σ).int ?_)
  rintro x1 σ rfl
  refine ⟨fun _ => l1, fun _ => (c_manyOfNode (n := 1) rfl (by omega) _).int ?_⟩
  rintro x2 σ rfl
  refine ⟨fun _ => l0, fun _ => (c_manyOfNode (n := 0) rfl (by omega) _).int ?_⟩
  rintro x3 σ rfl
  refine (c_manyOfNode (n := 1) rfl (by omega) _).int ?_
  rintro x4 σ rfl
  exact ⟨fun _ => l1, fun _ => l0⟩
theorem l_byTurns {a1 : Int32} {n : Nat} (h1 : a1.toInt = n) (hn : n ≤ 8) : ∀ (d k N : Nat) (a2 : Int32) (σ : sm_S), a2.toInt = k → k + d = n → jj N (σ 1) → N + d < 2147480000 → xE xM m_M_byTurns 20 [.ref 0, .int a1, .int a2] [] σ (sm_I (fun _ σ' => ∃ w N', σ' = sm_set σ 1 w ∧ jj N' w ∧ N ≤ N' ∧ N' ≤ N + d)) := by
  intro d
  induction d with
  | zero =>
    intro k N a2 σ h2 hk hj hN
    refine w_M_byTurns_20 a1 a2 σ _ ⟨fun _ => ⟨_, rfl, σ 1, N, s_id.symm, hj, Nat.le_refl N, Nat.le_refl N⟩, fun h => absurd ?_ h⟩
    rw [t_le, h1, h2]
    omega
  | succ d ih =>
    intro k N a2 σ h2 hk hj hN
    have h2' : (a2 + 1).toInt = ((k + 1 : Nat) : Int) := by
      rw [t_add h2 (y := 1) rfl (by omega) (by omega)]
      omega
    obtain ⟨x0, hT⟩ := sm_C.det (c_turnOf σ)
    have keep : ∀ y : Int32, sm_I (fun _ σ' => ∃ w N', σ' = sm_set σ 1 w ∧ jj N' w ∧ N ≤ N' ∧ N' ≤ N + (d + 1)) (some (.int y)) σ := fun y => ⟨y, rfl, σ 1, N, s_id.symm, hj, Nat.le_refl N, by omega⟩
    refine w_M_byTurns_20 a1 a2 σ _ ⟨fun _ => keep _, fun _ => hT.int ?_⟩
    rintro x1 σ1 ⟨e1, hx1, rfl⟩
    refine ⟨fun _ => keep _, fun n1 => hT.int ?_⟩
    rintro x2 σ2 ⟨e2, hx2, rfl⟩
    obtain ⟨s, hs1, hs2, hs3⟩ := hx2.resolve_left (fun z => n1 (by rw [e1, ← e2]; exact z))
    refine (c_zoneByRatio _).int ?_
    rintro x3 σ3 ⟨-, rfl⟩
    refine (c_comesOn hs1 hs2 (by omega) _ hj hs3).int ?_
    rintro y _ ⟨w, rfl, hw, -⟩
    refine (ih (k + 1) (N + 1) (a2 + 1) _ h2' (by omega) (by rw [s_at]; exact hw) (by omega)).mono ?_
    rintro r σ' ⟨z, rfl, w2, N', rfl, hw2, l1, l2⟩
    exact ⟨z, rfl, w2, N', s_ss, hw2, by omega, by omega⟩
theorem c_byTurns {N : Nat} (a1 : Int32) (σ : sm_S) (hj : jj N (σ 1)) (hN : N < 2147470000) : xC xM j_M_byTurns [.ref 0, .int a1] σ (sm_I (pub N 8 σ)) := by
  refine w_M_byTurns a1 σ _ (fun σ1 e1 => (c_isIn a1 1 8 σ1).int ?_)
  have hj1 : jj N (σ1 1) := by rw [e1, s_ne (by decide)]; exact hj
  rintro x1 σ1 ⟨hx1, rfl⟩
  refine ⟨fun n1 => ?_, fun _ => ⟨_, rfl, pub_keep hj e1⟩⟩
  obtain ⟨-, g1, g2⟩ := hx1.resolve_right (fun z => n1 z.1)
  have g1 : 1 ≤ a1.toInt := g1
  have g2 : a1.toInt ≤ 8 := g2
  obtain ⟨n, hn⟩ := t_of (x := a1) (by omega)
  refine (l_byTurns hn (by omega) n 0 N 0 _ rfl (by omega) hj1 (by omega)).mono ?_
  rintro r σ' ⟨z, rfl, w, N', rfl, hw, l1, l2⟩
  exact ⟨z, rfl, pub_set e1 hw l1 (by omega)⟩
/-- another span that is on, of this zone -/
def onElse (v : Nat → Int32) (zone but : Int32) : Prop := ∃ s : Nat, s < 8 ∧ but.toInt ≠ s ∧ v (2358 + 8 * s) = 1 ∧ v (2358 + 8 * s + 1) = zone
theorem l_onMany {a1 a2 : Int32} (σ : sm_S) : ∀ (d k c : Nat) (a3 a4 : Int32), a4.toInt = k → k + d = 8 → a3.toInt = c → c ≤ k → (0 < c → onElse (σ 1) a1 a2) → xE xM m_M_onMany 5 [.ref 0, .int a1, .int a2, .int a3, .int a4] [] σ (sm_I (fun x σ' => (x ≤ 0 ∨ onElse (σ 1) a1 a2) ∧ σ' = σ)) := by
  intro d
  induction d with
  | zero =>
    intro k c a3 a4 h4 hk h3 hc hon
    refine w_M_onMany_5 a1 a2 a3 a4 σ _ ⟨fun _ => ⟨_, rfl, ?_, rfl⟩, fun h => absurd ?_ h⟩
    · rcases Nat.eq_zero_or_pos c with h | h
      · refine Or.inl ?_
        rw [t_le, h3, h]
        exact Int.le_refl _
      · exact Or.inr (hon h)
    · rw [t_le, h4]
      show (8 : Int) ≤ _
      omega
  | succ d ih =>
    intro k c a3 a4 h4 hk h3 hc hon
    have h4' : (a4 + 1).toInt = ((k + 1 : Nat) : Int) := by
      rw [t_add h4 (y := 1) rfl (by omega) (by omega)]
      omega
    have h3' : (a3 + 1).toInt = ((c + 1 : Nat) : Int) := by
      rw [t_add h3 (y := 1) rfl (by omega) (by omega)]
      omega
    have go := ih (k + 1) c a3 (a4 + 1) h4' (by omega) h3 (by omega) hon
    refine w_M_onMany_5 a1 a2 a3 a4 σ _ ⟨fun h => ?_, fun _ => ⟨fun _ => go, fun hne => (c_spanState h4 (by omega) σ).int ?_⟩⟩
    · rw [t_le, h4] at h
      have h : (8 : Int) ≤ k := h
      omega
    · rintro x σ ⟨hx, rfl⟩
      refine ⟨fun _ => go, fun h1 => (c_zoneOf h4 (by omega) _).int ?_⟩
      have h1 : σ 1 (2358 + 8 * k) = 1 := by rw [← hx]; exact Classical.not_not.mp h1
      rintro y σ ⟨hy, rfl⟩
      refine ⟨fun _ => go, fun hz => ih (k + 1) (c + 1) _ _ h4' (by omega) h3' (by omega) (fun _ => ⟨k, by omega, fun z => hne (t_inj (by rw [h4, z])), h1, ?_⟩)⟩
      rcases hy with ⟨g, -⟩ | ⟨-, g⟩
      · rw [h1] at g; exact absurd g (by decide)
      · rw [← g]; exact Classical.not_not.mp hz
theorem c_onMany (a1 a2 : Int32) (σ : sm_S) : xC xM j_M_onMany [.ref 0, .int a1, .int a2] σ (sm_I (fun x σ' => (x ≤ 0 ∨ onElse (σ 1) a1 a2) ∧ σ' = σ)) :=
  w_M_onMany a1 a2 σ _ (l_onMany σ 8 0 0 0 0 rfl rfl rfl (Nat.le_refl 0) (fun h => absurd h (Nat.lt_irrefl 0)))
theorem c_canGo (a1 : Int32) (σ : sm_S) : xC xM j_M_canGo [.ref 0, .int a1] σ (sm_I (fun x σ' => (x = 0 ∨ (x = 1 ∧ ∃ s : Nat, s < 8 ∧ a1.toInt = s ∧ σ 1 (2358 + 8 * s) = 1 ∧ onElse (σ 1) 0 a1)) ∧ σ' = σ)) := by
  refine w_M_canGo a1 σ _ ((c_isSpan a1 σ).int ?_)
  rintro x1 σ ⟨hx1, rfl⟩
  refine ⟨fun _ => ⟨Or.inl rfl, _, rfl, Or.inl rfl, rfl⟩, fun n1 => ?_⟩
  obtain ⟨-, s, hs, h1⟩ := hx1.resolve_right (fun z => n1 z.1)
  refine (c_spanState h1 hs _).int ?_
  rintro x2 σ ⟨hx2, rfl⟩
  refine ⟨fun _ => ⟨Or.inl rfl, _, rfl, Or.inl rfl, rfl⟩, fun n2 => (c_onMany 0 a1 _).int ?_⟩
  rintro x3 σ ⟨hx3, rfl⟩
  exact ⟨fun _ => ⟨Or.inl rfl, _, rfl, Or.inl rfl, rfl⟩, fun n3 => ⟨Or.inr rfl, _, rfl, Or.inr ⟨rfl, s, hs, h1, by rw [← hx2]; exact Classical.not_not.mp n2, hx3.resolve_left n3⟩, rfl⟩⟩
theorem c_isGoing {a1 : Int32} {s : Nat} (h1 : a1.toInt = s) (hs : s < 8) (σ : sm_S) : xC xM j_M_isGoing [.ref 0, .int a1] σ (sm_I (fun x σ' => ((x = 0 ∧ σ 1 (2358 + 8 * s) < 2) ∨ (x = 1 ∧ ¬ σ 1 (2358 + 8 * s) < 2)) ∧ σ' = σ)) := by
  refine w_M_isGoing a1 σ _ ((c_spanState h1 hs σ).int ?_)
  rintro _ σ ⟨rfl, rfl⟩
  exact ⟨fun h => ⟨Or.inl rfl, _, rfl, Or.inl ⟨rfl, h⟩, rfl⟩, fun h => ⟨Or.inr rfl, _, rfl, Or.inr ⟨rfl, h⟩, rfl⟩⟩
theorem c_beginsToGo {a1 : Int32} {s N : Nat} (h1 : a1.toInt = s) (hs : s < 8) (hN : N < 2147483000) (σ : sm_S) (hj : jj N (σ 1)) (hon : σ 1 (2358 + 8 * s) = 1) (hel : onElse (σ 1) 0 a1) : xC xM j_M_beginsToGo [.ref 0, .int a1] σ (sm_V (fun σ' => ∃ w, σ' = sm_set σ 1 w ∧ jj (N + 1) w ∧ w (2358 + 8 * s) = 2 ∧ ∀ i, 786 ≤ i → i < 2422 → (i < 2358 + 8 * s ∨ 2358 + 8 * s + 8 ≤ i) → w i = σ 1 i)) := by
  refine w_M_beginsToGo a1 σ _ ((c_spanAt a1 σ).int ?_)
  rintro _ σ ⟨rfl, rfl⟩
  obtain ⟨p0, q0⟩ := ixS (k := 0) (j := 0) h1 rfl (by omega)
  obtain ⟨p2, q2⟩ := ixS (k := 2) (j := 2) h1 rfl (by omega)
  obtain ⟨p3, q3⟩ := ixS (k := 3) (j := 3) h1 rfl (by omega)
  obtain ⟨p4, q4⟩ := ixS (k := 4) (j := 4) h1 rfl (by omega)
  obtain ⟨p5, q5⟩ := ixS (k := 5) (j := 5) h1 rfl (by omega)
  obtain ⟨p6, q6⟩ := ixS (k := 6) (j := 6) h1 rfl (by omega)
  rw [q0, q2, q3, q4, q5, q6]
  refine ⟨p0, fun σ1 e1 => ⟨p2, fun σ2 e2 => ⟨p3, fun σ3 e3 => ⟨p4, fun σ4 e4 => ⟨p5, fun σ5 e5 => ⟨p6, fun σ6 e6 => ⟨by decide, ?_⟩⟩⟩⟩⟩⟩⟩
  subst e6 e5 e4 e3 e2 e1
  simp only [s_at, s_ss]
  have hw0 : ∃ v, v = upd (upd (upd (upd (upd (upd (σ 1) (2358 + 8 * s + 0) 2) (2358 + 8 * s + 2) 0) (2358 + 8 * s + 3) 0) (2358 + 8 * s + 4) 0) (2358 + 8 * s + 5) 0) (2358 + 8 * s + 6) 0 := ⟨_, rfl⟩
  obtain ⟨v, hv⟩ := hw0
  rw [← hv]
  have hve : ∀ i, (i < 2358 + 8 * s ∨ 2358 + 8 * s + 8 ≤ i) → v i = σ 1 i := fun i hi => by rw [hv, u_ne (by omega), u_ne (by omega), u_ne (by omega), u_ne (by omega), u_ne (by omega), u_ne (by omega)]
  have hv0 : v (2358 + 8 * s + 0) = 2 := by rw [hv, u_ne (by omega), u_ne (by omega), u_ne (by omega), u_ne (by omega), u_ne (by omega), u_at]
  have hv2 : v (2358 + 8 * s + 2) = 0 := by rw [hv, u_ne (by omega), u_ne (by omega), u_ne (by omega), u_ne (by omega), u_at]
  have hv5 : v (2358 + 8 * s + 5) = 0 := by rw [hv, u_ne (by omega), u_at]
  have hv6 : v (2358 + 8 * s + 6) = 0 := by rw [hv, u_at]
  have hjn : jj N v := by
    refine ⟨fr_cong (fun i h1 h2 => hve _ (by omega)) (fun b k hb hk => hve _ (by omega)) hj.1, ?_, by rw [hve _ (by omega)]; exact hj.2.2⟩
    obtain ⟨st, pt, at', q, g1, g2, g3, g4, g5, g6, g7, g8, g9⟩ := hj.2.1.2.2.1 s hs
    have hst : st = 1 := by
      rw [show σ 1 (2358 + 8 * s + 0) = 1 from hon] at g1
      have g1 : (1 : Int) = st := g1
      omega
    have hq0 : q = 0 := by
      rcases g9 with g9 | ⟨b, -, -, f3, -⟩
      · exact g9
      · omega
    obtain ⟨s2, f1, f2, f3, f4⟩ := hel
    refine jr_span hs hj.2.1 (fun i _ _ h => hve i h) ?_ ⟨2, 0, 0, 0, by rw [hv0]; rfl, by omega, by rw [hv2]; rfl, by omega, fun _ => by omega, by rw [hv5]; rfl, by omega, by rw [hv6]; rfl, Or.inl rfl⟩ ⟨s2, f1, ?_, ?_⟩
    · apply t_inj
      rw [hv6, g8, hq0]
      rfl
    · rw [hve _ (by omega)]; exact f3
    · rw [hve _ (by omega)]; exact f4
  refine (c_writes' _ _ _ _ (by rw [s_at]; exact hjn) hN).void ?_
  rintro _ ⟨w, rfl, hw, ew⟩
  rw [s_at] at ew
  exact ⟨rfl, w, s_ss, hw, by rw [ew _ (by omega) (by omega)]; exact hv0, fun i g1 g2 g3 => by rw [ew i g2 (by omega), hve i g3]⟩
theorem c_go {N : Nat} (a1 : Int32) (σ : sm_S) (hj : jj N (σ 1)) (hN : N < 2147483000) : xC xM j_M_go [.ref 0, .int a1] σ (sm_I (pub N 1 σ)) := by
  refine w_M_go a1 σ _ (fun σ1 e1 => (c_canGo a1 σ1).int ?_)
  have hj1 : jj N (σ1 1) := by rw [e1, s_ne (by decide)]; exact hj
  rintro x1 σ1 ⟨hx1, rfl⟩
  refine ⟨fun n1 => ?_, fun _ => ⟨Or.inl rfl, _, rfl, pub_keep hj e1⟩⟩
  obtain ⟨-, s, hs, h1, h2, h3⟩ := hx1.resolve_left n1
  refine (c_beginsToGo h1 hs hN _ hj1 h2 h3).void ?_
  rintro _ ⟨w, rfl, hw, -⟩
  exact ⟨Or.inr rfl, _, rfl, pub_set e1 hw (by omega) (Nat.le_refl _)⟩
