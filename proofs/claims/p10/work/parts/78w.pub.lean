/-! ===== the simulation: byTurns, tick ===== -/
def re (M : sm_M) (pc : Nat) (ls : List Value) (v : Nat → Int32) (x : Int32) (v' : Nat → Int32) : Prop := ∀ σ : sm_S, σ 1 = v → xE xM M pc ls [] σ (sm_I (fun y σ' => y = x ∧ σ' = sm_set σ 1 v'))
theorem re.det {M : sm_M} {pc : Nat} {ls : List Value} {v v' v2 : Nat → Int32} {x x2 : Int32} (h : re M pc ls v x v') (h2 : re M pc ls v x2 v2) : x2 = x ∧ v2 = v' := by
  obtain ⟨n, r, σ', -, ⟨y, h3, h4, h5⟩, z, h6, h7, h8⟩ := (h (rz v) s_at).and (h2 (rz v) s_at)
  rw [h3] at h6
  cases h6
  exact ⟨h7.symm.trans h4, rz_eq (h5.symm.trans h8)⟩
theorem l_turns {a1 : Int32} {n : Nat} (h1 : a1.toInt = n) (hn : n ≤ 8) : ∀ (d k N : Nat) (a2 : Int32) (v4 : Value) (σ : sm_S) (v : Nat → Int32), tie True N σ v → jj N v → jx v → a2.toInt = k → k + d = n → N + d < 1999000000 → ∃ y v' N', re m_M_byTurns 20 [.ref 0, .int a1, .int a2] v y v' ∧ jj N' v' ∧ jx v' ∧ N' ≤ N + d ∧ xE xF m_A_byTurns 17 [.ref 42, .int a1, .int a2, .int a2, v4] [] σ (sm_I (fun x σ' => x = y ∧ tie True N' σ' v' ∧ ∀ a, 42 ≤ a → σ' a = σ a)) := by
  intro d
  induction d with
  | zero =>
    intro k N a2 v4 σ v h hj hx h2 hk hN
    have le : a1 ≤ a2 := by
      rw [t_le, h1, h2]
      omega
    refine ⟨a2, v, N, fun σ2 e => w_M_byTurns_20 a1 a2 σ2 _ ⟨fun _ => ⟨_, rfl, rfl, by rw [← e, s_id]⟩, fun z => absurd le z⟩, hj, hx, by omega, f_A_byTurns_17 a1 a2 a2 v4 σ _ ⟨fun _ => ⟨_, rfl, rfl, h, fun _ _ => rfl⟩, fun z => absurd le z⟩⟩
  | succ d ih =>
    intro k N a2 v4 σ v h hj hx h2 hk hN
    have nle : ¬ a1 ≤ a2 := by
      rw [t_le, h1, h2]
      omega
    have h2' : (a2 + 1).toInt = ((k + 1 : Nat) : Int) := by
      rw [t_add h2 (y := 1) rfl (by omega) (by omega)]
      omega
    obtain ⟨x, rx, cx, hxx⟩ := p_turn h.s
    rcases hxx with x1 | ⟨s, hs, hxs, h0⟩
    · refine ⟨a2, v, N, fun σ2 e => w_M_byTurns_20 a1 a2 σ2 _ ⟨fun z => absurd z nle, fun _ => (rx.s e).int ?_⟩, hj, hx, by omega, f_A_byTurns_17 a1 a2 a2 v4 σ _ ⟨fun z => absurd z nle, fun _ => (nw0 cx).int ?_⟩⟩
      · rintro y1 σ1 ⟨ey1, es1⟩
        rw [ey1, es1]
        exact ⟨fun _ => ⟨_, rfl, rfl, by rw [← e, s_id]⟩, fun z => absurd x1 z⟩
      · rintro y1 σ1 ⟨ey1, es1⟩
        rw [ey1, es1]
        exact ⟨fun z => absurd x1 z, fun _ => ⟨_, rfl, rfl, h, fun _ _ => rfl⟩⟩
    · obtain ⟨z, rz, cz, hz, -⟩ := p_zbr h.s hx
      obtain ⟨v1, c1, ro, co, t1, j1, x1⟩ := p_on z h hj hx (by omega) hxs hs h0 hz
      have xn : x ≠ -1 := ne_m1 hxs
      obtain ⟨y, v', N', R1, j', x', n', -⟩ := ih (k + 1) (N + 1) (a2 + 1) v4 c1 v1 t1 j1 x1 h2' (by omega) (by omega)
      refine ⟨y, v', N', fun σ2 e => w_M_byTurns_20 a1 a2 σ2 _ ⟨fun z => absurd z nle, fun _ => (rx.s e).int ?_⟩, j', x', by omega, f_A_byTurns_17 a1 a2 a2 v4 σ _ ⟨fun z => absurd z nle, fun _ => (nw0 cx).int ?_⟩⟩
      · rintro y1 σ1 ⟨ey1, es1⟩
        rw [ey1, es1]
        refine ⟨fun z => absurd z xn, fun _ => (rx.s e).int ?_⟩
        rintro y2 σ3 ⟨ey2, es3⟩
        rw [ey2, es3]
        refine (rz.s e).int ?_
        rintro y3 σ4 ⟨ey3, es4⟩
        rw [ey3, es4]
        refine (ro σ2 e).int ?_
        rintro y4 σ5 ⟨ey4, es5⟩
        rw [es5]
        refine (R1 (sm_set σ2 1 v1) s_at).mono ?_
        rintro r0 σ6 ⟨y5, q0, q1, q2⟩
        exact ⟨y5, q0, q1, by rw [q2, s_ss]⟩
      · rintro y1 σ1 ⟨ey1, es1⟩
        rw [ey1, es1]
        refine ⟨fun _ => (nw0 cz).int ?_, fun z => absurd xn z⟩
        rintro y3 σ4 ⟨ey3, es4⟩
        rw [ey3, es4]
        refine (nwTV co t1).void ?_
        rintro σ5 ⟨t5, o5⟩
        obtain ⟨y5, v5, N5, R5, j5, x5, n5, C5⟩ := ih (k + 1) (N + 1) (a2 + 1) (.int x) σ5 v1 t5 j1 x1 h2' (by omega) (by omega)
        obtain ⟨q1, q2⟩ := R1.det R5
        rw [q1, q2] at C5
        rw [q2] at j5
        have q3 : N5 = N' := by
          have w1 := j5.2.2
          have w2 := j'.2.2
          omega
        rw [q3] at C5
        refine C5.mono ?_
        rintro r0 σ6 ⟨y6, g0, g1, g2, g3⟩
        exact ⟨y6, g0, g1, g2, fun a ha => (g3 a ha).trans (o5 a ha)⟩
theorem pr_byTurns {N : Nat} {σ : sm_S} (a1 : Int32) (h : tie True N σ (σ 169)) (hj : jj N (σ 169)) (hx : jx (σ 169)) (hN : N < 1998000000) : prC j_A_byTurns j_M_byTurns [.ref 42, .int a1] [.ref 0, .int a1] N σ := by
  have b1 : a1 < 1 ↔ a1.toInt < 1 := by rw [t_lt]; exact Iff.rfl
  have b8 : a1 ≤ 8 ↔ a1.toInt ≤ 8 := by rw [t_le]; exact Iff.rfl
  by_cases k1 : 1 ≤ a1.toInt ∧ a1.toInt ≤ 8
  · obtain ⟨n, hm⟩ := t_of (x := a1) (by omega)
    obtain ⟨y, v', N', R1, j', x', n', C⟩ := l_turns hm (by omega) n 0 N 0 (.int 0) σ (σ 169) h hj hx rfl (by omega) (by omega)
    obtain ⟨y5, v5, N5, R5, j5, x5, n5, C5⟩ := l_turns hm (by omega) n 0 N 0 .null σ (σ 169) h hj hx rfl (by omega) (by omega)
    refine ⟨y5, v5, N5, by omega, j5, x5, ?_, fun σ2 e2 _ => ?_⟩
    · exact f_A_byTurns a1 σ _ ⟨fun z => by rw [b1] at z; omega, fun _ => ⟨fun _ => C5, fun z => absurd (b8.mpr k1.2) z⟩⟩
    · refine w_M_byTurns a1 σ2 _ (fun σ1 e1 => (c_isInX (L := 1) (H := 8) rfl rfl a1 σ1).int ?_)
      obtain ⟨f1, f5⟩ := told1 e2 e1
      rintro x2 σ3 ⟨hx2, es⟩
      rw [es]
      refine ⟨fun _ => (R5 σ1 f1).mono ?_, fun z => absurd (hx2.b.2.mpr k1) z⟩
      rintro r0 σ7 ⟨z2, rfl, hz2, hs7⟩
      rw [hz2]
      exact pubR f5 hs7
  · refine ⟨-1, σ 169, N, by omega, hj, hx, ?_, fun σ2 e2 _ => ?_⟩
    · exact f_A_byTurns a1 σ _ ⟨fun _ => sameC h, fun z => ⟨fun w => absurd ⟨by rw [b1] at z; omega, b8.mp w⟩ k1, fun _ => sameC h⟩⟩
    · refine w_M_byTurns a1 σ2 _ (fun σ1 e1 => (c_isInX (L := 1) (H := 8) rfl rfl a1 σ1).int ?_)
      rintro x2 σ3 ⟨hx2, es⟩
      rw [es]
      exact ⟨fun z => absurd (hx2.b.2.mp z) k1, fun _ => sameR e2 e1⟩
theorem l_tks {a1 : Int32} {n : Nat} (h1 : a1.toInt = n) (hn : n ≤ 60) : ∀ (d k N : Nat) (a2 : Int32) (σ : sm_S) (v : Nat → Int32), tie True N σ v → jj N v → jx v → a2.toInt = k → k + d = n → N + 9600 * d + 20000 < 1999990000 → ∃ y v' N', re m_M_tick 34 [.ref 0, .int a1, .int a2] v y v' ∧ jj N' v' ∧ jx v' ∧ N' ≤ N + 9600 * d ∧ xE xF m_A_tick 30 [.ref 42, .int a1, .int a2] [] σ (sm_I (fun x σ' => x = y ∧ tie True N' σ' v' ∧ ∀ a, 42 ≤ a → σ' a = σ a)) := by
  intro d
  induction d with
  | zero =>
    intro k N a2 σ v h hj hx h2 hk hN
    have le : a1 ≤ a2 := by
      rw [t_le, h1, h2]
      omega
    refine ⟨v 4, v, N, fun σ2 e => w_M_tick_34 a1 a2 σ2 _ ⟨fun _ => ⟨t_vp (n := 4) rfl (by decide), _, rfl, by rw [e]; rfl, by rw [← e, s_id]⟩, fun z => absurd le z⟩, hj, hx, by omega, f_A_tick_30 a1 a2 σ _ ⟨fun _ => ⟨_, rfl, h.s.N.tic, h, fun _ _ => rfl⟩, fun z => absurd le z⟩⟩
  | succ d ih =>
    intro k N a2 σ v h hj hx h2 hk hN
    have nle : ¬ a1 ≤ a2 := by
      rw [t_le, h1, h2]
      omega
    have h2' : (a2 + 1).toInt = ((k + 1 : Nat) : Int) := by
      rw [t_add h2 (y := 1) rfl (by omega) (by omega)]
      omega
    obtain ⟨v1, c1, N1, ro, co, t1, j1, x1, n1⟩ := p_ticks h hj hx (by omega)
    obtain ⟨y, v', N', R1, j', x', n', -⟩ := ih (k + 1) N1 (a2 + 1) c1 v1 t1 j1 x1 h2' (by omega) (by omega)
    refine ⟨y, v', N', fun σ2 e => w_M_tick_34 a1 a2 σ2 _ ⟨fun z => absurd z nle, fun _ => (ro σ2 e).void ?_⟩, j', x', by omega, f_A_tick_30 a1 a2 σ _ ⟨fun z => absurd z nle, fun _ => (nwTV co t1).void ?_⟩⟩
    · rintro σ5 es5
      rw [es5]
      refine (R1 (sm_set σ2 1 v1) s_at).mono ?_
      rintro r0 σ6 ⟨y5, q0, q1, q2⟩
      exact ⟨y5, q0, q1, by rw [q2, s_ss]⟩
    · rintro σ5 ⟨t5, o5⟩
      obtain ⟨y5, v5, N5, R5, j5, x5, n5, C5⟩ := ih (k + 1) N1 (a2 + 1) σ5 v1 t5 j1 x1 h2' (by omega) (by omega)
      obtain ⟨q1, q2⟩ := R1.det R5
      rw [q1, q2] at C5
      rw [q2] at j5
      have q3 : N5 = N' := by
        have w1 := j5.2.2
        have w2 := j'.2.2
        omega
      rw [q3] at C5
      refine C5.mono ?_
      rintro r0 σ6 ⟨y6, g0, g1, g2, g3⟩
      exact ⟨y6, g0, g1, g2, fun a ha => (g3 a ha).trans (o5 a ha)⟩
theorem pr_tick {N : Nat} {σ : sm_S} (a1 : Int32) (h : tie True N σ (σ 169)) (hj : jj N (σ 169)) (hx : jx (σ 169)) (hN : N < 1998000000) : prC j_A_tick j_M_tick [.ref 42, .int a1] [.ref 0, .int a1] N σ := by
  have b1 : a1 < 1 ↔ a1.toInt < 1 := by rw [t_lt]; exact Iff.rfl
  have b8 : 60 < a1 ↔ 60 < a1.toInt := by rw [t_lt]; exact Iff.rfl
  have e4 : σ 0 7 = σ 169 4 := h.s.N.tic
  by_cases k1 : 1 ≤ a1.toInt ∧ a1.toInt ≤ 60
  · by_cases k2 : σ 169 4 + a1 ≤ 9999
    · obtain ⟨n, hm⟩ := t_of (x := a1) (by omega)
      obtain ⟨y5, v5, N5, R5, j5, x5, n5, C5⟩ := l_tks hm (by omega) n 0 N 0 σ (σ 169) h hj hx rfl (by omega) (by omega)
      refine ⟨y5, v5, N5, by omega, j5, x5, ?_, fun σ2 e2 _ => ?_⟩
      · refine f_A_tick a1 σ _ ⟨fun z => by rw [b1] at z; omega, fun _ => ⟨fun z => by rw [b8] at z; omega, fun _ => ⟨fun _ => C5, fun z => absurd ?_ z⟩⟩⟩
        rw [e4]
        exact k2
      · refine w_M_tick a1 σ2 _ (fun σ1 e1 => (c_isInX (L := 1) (H := 60) rfl rfl a1 σ1).int ?_)
        obtain ⟨f1, f5⟩ := told1 e2 e1
        rintro x2 σ3 ⟨hx2, es⟩
        rw [es]
        refine ⟨fun z => absurd k1 (hx2.b.1.mp z), fun _ => ⟨t_vp (n := 4) rfl (by decide), fun _ => (R5 σ1 f1).mono ?_, fun z => absurd ?_ z⟩⟩
        · rintro r0 σ7 ⟨z2, rfl, hz2, hs7⟩
          rw [hz2]
          exact pubR f5 hs7
        · rw [f1]
          exact k2
    · refine ⟨-1, σ 169, N, by omega, hj, hx, ?_, fun σ2 e2 _ => ?_⟩
      · refine f_A_tick a1 σ _ ⟨fun _ => sameC h, fun _ => ⟨fun _ => sameC h, fun _ => ⟨fun z => absurd ?_ k2, fun _ => sameC h⟩⟩⟩
        rw [e4] at z
        exact z
      · refine w_M_tick a1 σ2 _ (fun σ1 e1 => (c_isInX (L := 1) (H := 60) rfl rfl a1 σ1).int ?_)
        obtain ⟨f1, f5⟩ := told1 e2 e1
        rintro x2 σ3 ⟨hx2, es⟩
        rw [es]
        refine ⟨fun _ => sameR e2 e1, fun _ => ⟨t_vp (n := 4) rfl (by decide), fun z => absurd ?_ k2, fun _ => sameR e2 e1⟩⟩
        rw [f1] at z
        exact z
  · refine ⟨-1, σ 169, N, by omega, hj, hx, ?_, fun σ2 e2 _ => ?_⟩
    · refine f_A_tick a1 σ _ ⟨fun _ => sameC h, fun z => ⟨fun _ => sameC h, fun w => absurd ⟨?_, ?_⟩ k1⟩⟩
      · rw [b1] at z
        omega
      · rw [b8] at w
        omega
    · refine w_M_tick a1 σ2 _ (fun σ1 e1 => (c_isInX (L := 1) (H := 60) rfl rfl a1 σ1).int ?_)
      rintro x2 σ3 ⟨hx2, es⟩
      rw [es]
      exact ⟨fun _ => sameR e2 e1, fun z => absurd (hx2.b.2.mp z) k1⟩
