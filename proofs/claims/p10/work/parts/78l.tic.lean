/-! ===== the simulation: shutNextPart | shuts, oneTick | ticks ===== -/
theorem p_shuts {g : Prop} {N s : Nat} {c : sm_S} {v : Nat → Int32} {a1 : Int32} (h : tie g N c v) (hj : jj N v) (hx : jx v) (hN : N + 7 < 2000000000) (h1 : a1.toInt = s) (hs : s < 8) (hst : v (2358 + 8 * s + 0) = 2) : ∃ v' c' N', rd j_M_shuts [.ref 0, .int a1] v v' ∧ xC xD j_G_shutNextPart [.ref 41, .int a1] c (sm_V (fun σ' => σ' = c')) ∧ tie g N' c' v' ∧ jj N' v' ∧ jx v' ∧ N' ≤ N + 7 := by
  have gs := h.s.S s hs
  have c18 : c 18 s = 2 := by rw [← gs.sta]; exact hst
  obtain ⟨st, pt, at', q, g1, g2, g3, g4, g5, g6, g7, g8, g9⟩ := hj.2.1.2.2.1 s hs
  have st2 : st = 2 := by
    rw [hst] at g1
    have g1 : (2 : Int) = st := g1
    omega
  have hp := g5 st2
  have h6 : v (2358 + 8 * s + 6) = 0 := by
    rcases g9 with z | ⟨_, _, _, z, _⟩
    · subst z
      exact t_inj g8
    · omega
  have c20 : (c 20 s).toInt = pt := by rw [← gs.par]; exact g3
  have h2 : (2358 + 8 * a1).toInt = ((2358 + 8 * s : Nat) : Int) := by
    have e := t_ix (c := 2358) (m := 8) (C := 2358) (M := 8) (k := 0) (j := 0) rfl rfl h1 rfl (by omega)
    rw [Int32.add_zero] at e
    exact e
  have h32 : (32 * a1).toInt = ((32 * s : Nat) : Int) := by
    have e := t_ix (c := 0) (m := 32) (C := 0) (M := 32) (k := 0) (j := 0) rfl rfl h1 rfl (by omega)
    rw [Int32.zero_add, Int32.add_zero] at e
    rw [e]
    omega
  have i3 : (32 * a1 + 8 * v (2358 + 8 * s + 2)).toInt = ((32 * s + 8 * pt : Nat) : Int) := by
    rw [t_add h32 (t_mul (a := 8) (x := 8) rfl g3 (by omega) (by omega)) (by omega) (by omega)]
    omega
  have i3c : (a1 * 32 + c 20 s * 8).toInt = ((32 * s + 8 * pt : Nat) : Int) := by
    rw [t_add (t_mul h1 (y := 32) rfl (by omega) (by omega)) (t_mul c20 (y := 8) rfl (by omega) (by omega)) (by omega) (by omega)]
    omega
  have va := t_vp h1 hs
  obtain ⟨p2, q2⟩ := ixS (k := 2) (j := 2) h1 rfl (by omega)
  have run : ∀ v', ((∃ j, j < 8 ∧ unm v (32 * s + 8 * pt + j)) → rd j_M_fails [.ref 0, .int a1, .int 0] v v') → ((∀ j, j < 8 → ¬ unm v (32 * s + 8 * pt + j)) → v' = if pt + 1 < 4 then shF v s pt else shM (shF v s pt) s) → rd j_M_shuts [.ref 0, .int a1] v v' := fun v' y1 y2 σ e => by
    refine w_M_shuts a1 σ _ ((c_spanAt a1 σ).int ?_)
    rintro _ σ ⟨rfl, rfl⟩
    refine ⟨p2, ?_⟩
    rw [q2, e]
    exact l_shuts1 (a2 := 2358 + 8 * a1) i3 (by omega) h.s.O y1 (fun z σ e => l_shuts2 h1 hs h2 hp i3 g3 (y2 z) 8 0 _ σ (by rw [mpF_0]; exact e) i3 rfl) 8 0 _ σ e i3 rfl (fun j hj => by omega)
  obtain ⟨u, hu, ru⟩ := pick (d_G_hasUnmovable (a1 * 32 + c 20 s * 8) c _ (l_hasUn2 i3c (by omega) c h.s 8 0 _ .null i3c rfl (fun j hj => by omega)))
  rcases hu with ⟨hu, hno⟩ | ⟨hu, hyes⟩
  · have runS := run (if pt + 1 < 4 then shF v s pt else shM (shF v s pt) s) (fun ⟨j, j1, j2⟩ => absurd j2 (hno j j1)) (fun _ => rfl)
    obtain ⟨w, N', ew, jw, k1, k2, -⟩ := runS.det (c_shuts (N := N) h1 hs (by omega) (rz v) (by rw [rz_at]; exact hj) (by rw [rz_at]; exact hst))
    rw [rz_eq ew] at jw
    have s1 := sim_shut (pt := pt) h.s h.b hs (by omega) c18
    have bk1 : ∀ b, b < 96 → bk_ok (shF v s pt) b := fun b hb => bk_cong (fun k _ _ _ _ => shF_o (by omega) (by omega)) (h.b b hb)
    have t1 : tie g N (shC c s pt) (shF v s pt) := h.to s1 (fun k k1 k2 => by
      unfold shC
      rw [s_ne (by omega), s_ne (by omega), s_ne (by omega)]) (shF_o (by omega) (by omega)) (fun i hi => shF_o (by omega) (by omega)) bk1
    have x1 : jx (shF v s pt) := hx.cg (fun b k _ _ => shF_o (by omega) (by omega)) (fun s' hs' z => ⟨fun y => z ((shF_o (by omega) (by omega)).trans y), shF_o (by omega) (by omega)⟩) (shF_o (by omega) (by omega)) (fun i i1 i2 => shF_o (by omega) (by omega))
    have ec : nI pt = c 20 s := (t_nI c20).symm
    have upC : ∀ {Q : Option Value → sm_S → Prop}, ((((c 20 s + 1)) < 4 → Q none (shC c s pt)) ∧ (¬ ((c 20 s + 1) < 4) → Q none (shN (shC c s pt) s))) → xC xD j_G_shutNextPart [.ref 41, .int a1] c Q := fun {Q} hQ => by
      refine d_G_shutNextPart a1 c Q ?_
      rw [t_nat h1]
      refine ⟨va, ru.int ?_⟩
      rintro y σ1 ⟨ey, es⟩
      rw [ey, es]
      refine ⟨fun _ => ⟨va, va, va, fun σ3 e3 => ⟨va, va, fun σ4 e4 => ⟨va, va, fun σ5 e5 => ?_⟩⟩⟩, fun z => absurd hu z⟩
      have e5' : σ5 = shC c s pt := by
        rw [e5, e4, e3]
        unfold shC
        rw [ec]
        rfl
      have k20 : σ5 20 s = c 20 s + 1 := by
        rw [e5']
        exact u_at
      rw [k20, e5']
      refine ⟨va, hQ.1, fun z => ⟨va, fun σ6 e6 => ⟨va, fun σ7 e7 => ⟨va, fun σ8 e8 => ?_⟩⟩⟩⟩
      have e8' : σ8 = shN (shC c s pt) s := by
        rw [e8, e7, e6]
        rfl
      rw [e8']
      exact hQ.2 z
    have c201 : (c 20 s + 1).toInt = ((pt + 1 : Nat) : Int) := by
      rw [t_add c20 (y := 1) rfl (by omega) (by omega)]
      omega
    have nN : N' = N := by
      have a := jw.2.2
      have b := h.n
      by_cases q : pt + 1 < 4
      · rw [if_pos q, shF_o (by omega) (by omega)] at a
        omega
      · rw [if_neg q] at a
        unfold shM at a
        rw [u_ne (by omega), u_ne (by omega), u_ne (by omega), shF_o (by omega) (by omega)] at a
        omega
    by_cases q : pt + 1 < 4
    · rw [if_pos q] at runS jw
      refine ⟨_, _, N', runS, upC ⟨fun _ => ⟨rfl, rfl⟩, fun z => absurd (by rw [t_lt, c201]; show ((pt + 1 : Nat) : Int) < 4; omega) z⟩, by rw [nN]; exact t1, jw, x1, k2⟩
    · rw [if_neg q] at runS jw
      have vo : ∀ i, i ≠ 2358 + 8 * s + 0 → i ≠ 2358 + 8 * s + 3 → i ≠ 2358 + 8 * s + 5 → shM (shF v s pt) s i = shF v s pt i := fun i a b d => by
        unfold shM
        rw [u_ne d, u_ne b, u_ne a]
      refine ⟨_, _, N', runS, upC ⟨fun z => ?_, fun _ => ⟨rfl, rfl⟩⟩, ?_, jw, ?_, k2⟩
      · rw [t_lt, c201] at z
        have z : ((pt + 1 : Nat) : Int) < 4 := z
        omega
      · rw [nN]
        refine t1.to (sim_shM s1 bk1 hs (by unfold shC; rw [s_ne (by decide), s_ne (by decide), s_ne (by decide)]; exact c18)) (fun k k1 k2 => by
          unfold shN
          rw [s_ne (by omega), s_ne (by omega), s_ne (by omega)]) (vo 5 (by omega) (by omega) (by omega)) (fun i hi => vo i (by omega) (by omega) (by omega)) jw.2.1.1
      · refine x1.cg (fun b k _ _ => vo _ (by omega) (by omega) (by omega)) (fun s' hs' z => ⟨?_, vo _ (by omega) (by omega) (by omega)⟩) (vo _ (by omega) (by omega) (by omega)) (fun i i1 i2 => vo _ (by omega) (by omega) (by omega))
        by_cases e : s' = s
        · rw [e, shF_o (by omega) (by omega), hst]
          decide
        · exact fun y => z ((vo _ (by omega) (by omega) (by omega)).trans y)
  · obtain ⟨c', rc', t', j', -, -⟩ := p_fail (a1 := a1) 0 h hj (by omega) h1 hs h6 (by rw [c18]; decide)
    have rf := r_fails (w := 0) h1 hs (r_stays0 h1 hs h6) h.n
    obtain ⟨j0, j1, j2⟩ := hyes
    refine ⟨_, c', N + 1, run _ (fun _ => rf) (fun z => absurd j2 (z j0 j1)), ?_, t', j', jx_fl hx hs (by rw [hst]; decide), by omega⟩
    refine d_G_shutNextPart a1 c _ ?_
    rw [t_nat h1]
    refine ⟨va, ru.int ?_⟩
    rintro y σ1 ⟨ey, es⟩
    rw [ey, es]
    refine ⟨fun z => ?_, fun _ => rc'.void ?_⟩
    · rw [hu] at z
      exact absurd z (by decide)
    · rintro _ rfl
      exact ⟨rfl, rfl⟩
theorem sim_tick {c : sm_S} {v : Nat → Int32} (h : sim0 c v) (hk : ∀ b, b < 96 → bk_ok v b) : sim0 (sm_set c 0 (upd (c 0) 7 (c 0 7 + 1))) (upd v 4 (v 4 + 1)) := by
  have g := h.N
  refine h.n0 hk (fun k h1 h2 h3 => s_ne (by omega)) (fun i h1 h2 => u_ne (by omega)) ⟨?_, ?_, ?_, ?_, fun k hk => ?_, ?_, ?_⟩
  · rw [s_ne (by decide), u_ne (by decide)]; exact g.rat
  · rw [s_ne (by decide), u_ne (by decide)]; exact g.tri
  · rw [s_ne (by decide), u_ne (by decide)]; exact g.rto
  · rw [s_ne (by decide), u_ne (by decide)]; exact g.pau
  · rw [s_ne (by decide), u_ne (by omega)]; exact g.cnt k hk
  · rw [s_at, u_at, u_at, g.tic]
  · rw [s_ne (by decide), u_ne (by decide)]; exact g.use
theorem l_ticks2 {g : Prop} : ∀ (d k N : Nat) (a1 : Int32) (c : sm_S) (v : Nat → Int32), tie g N c v → jj N v → jx v → N + 1200 * d + 2000 < 1999990000 → a1.toInt = k → k + d = 8 → ∃ v' c' N', (∀ σ : sm_S, σ 1 = v → xE xM m_M_ticks 8 [.ref 0, .int a1] [] σ (sm_V (fun σ' => σ' = sm_set σ 1 v'))) ∧ xE xD m_G_oneTick 15 [.ref 41, .int a1] [] c (sm_V (fun σ' => σ' = c')) ∧ tie g N' c' v' ∧ jj N' v' ∧ jx v' ∧ N' ≤ N + 1200 * d := by
  intro d
  induction d with
  | zero =>
    intro k N a1 c v h hj hx hN h1 hk
    have q8 : (8 : Int32) ≤ a1 := by
      rw [t_le, h1]
      show (8 : Int) ≤ _
      omega
    exact ⟨v, c, N, fun σ e => w_M_ticks_8 a1 σ _ ⟨fun _ => ⟨rfl, by rw [← e, s_id]⟩, fun z => absurd q8 z⟩, d_G_oneTick_15 a1 c _ ⟨fun _ => ⟨rfl, rfl⟩, fun z => absurd q8 z⟩, h, hj, hx, by omega⟩
  | succ d ih =>
    intro k N a1 c v h hj hx hN h1 hk
    have n8 : ¬ (8 : Int32) ≤ a1 := by
      rw [t_le, h1]
      show ¬ (8 : Int) ≤ _
      omega
    have h1' : (a1 + 1).toInt = ((k + 1 : Nat) : Int) := by
      rw [t_add h1 (y := 1) rfl (by omega) (by omega)]
      omega
    have hs : k < 8 := by omega
    have va := t_vp h1 hs
    have gs := h.s.S k hs
    have st : v (2358 + 8 * k) = c 18 k := gs.sta
    have runS : ∀ σ : sm_S, σ 1 = v → xC xM j_M_spanState [.ref 0, .int a1] σ (sm_I (fun y σ' => y = c 18 k ∧ σ' = σ)) := fun σ e => by
      have := c_spanState h1 hs σ
      rw [e, st] at this
      exact this
    by_cases e2 : c 18 k = 2
    · obtain ⟨v1, c1, N1, rr, rc, t1, j1, x1, n1⟩ := p_shuts h hj hx (by omega) h1 hs (by rw [gs.sta]; exact e2)
      obtain ⟨v', c', N', qr, qc, t', j', x', n'⟩ := ih (k + 1) N1 (a1 + 1) c1 v1 t1 j1 x1 (by omega) h1' (by omega)
      refine ⟨v', c', N', fun σ e => ?_, ?_, t', j', x', by omega⟩
      · refine w_M_ticks_8 a1 σ _ ⟨fun z => absurd z n8, fun _ => (runS σ e).int ?_⟩
        rintro y σ1 ⟨ey, es⟩
        rw [ey, es]
        refine ⟨fun z => absurd e2 z, fun _ => (rr σ e).void ?_⟩
        rintro _ rfl
        have := qr _ (s_at (σ := σ) (k := 1) (f := v1))
        rw [s_ss] at this
        exact this
      · refine d_G_oneTick_15 a1 c _ ⟨fun z => absurd z n8, fun _ => ?_⟩
        rw [t_nat h1]
        refine ⟨va, fun z => absurd e2 z, fun _ => rc.void ?_⟩
        rintro _ rfl
        exact qc
    · by_cases e3 : c 18 k = 3
      · obtain ⟨v1, c1, N1, rr, rc, t1, j1, x1, n1⟩ := p_moves h hj hx (by omega) h1 hs (by rw [gs.sta]; exact e3)
        obtain ⟨v', c', N', qr, qc, t', j', x', n'⟩ := ih (k + 1) N1 (a1 + 1) c1 v1 t1 j1 x1 (by omega) h1' (by omega)
        refine ⟨v', c', N', fun σ e => ?_, ?_, t', j', x', by omega⟩
        · refine w_M_ticks_8 a1 σ _ ⟨fun z => absurd z n8, fun _ => (runS σ e).int ?_⟩
          rintro y σ1 ⟨ey, es⟩
          rw [ey, es]
          refine ⟨fun _ => (runS σ e).int ?_, fun z => absurd e2 z⟩
          rintro y2 σ2 ⟨ey2, es2⟩
          rw [ey2, es2]
          refine ⟨fun z => absurd e3 z, fun _ => (rr σ e).void ?_⟩
          rintro _ rfl
          have := qr _ (s_at (σ := σ) (k := 1) (f := v1))
          rw [s_ss] at this
          exact this
        · refine d_G_oneTick_15 a1 c _ ⟨fun z => absurd z n8, fun _ => ?_⟩
          rw [t_nat h1]
          refine ⟨va, fun _ => ⟨va, fun z => absurd e3 z, fun _ => rc.void ?_⟩, fun z => absurd e2 z⟩
          rintro _ rfl
          exact qc
      · obtain ⟨v', c', N', qr, qc, t', j', x', n'⟩ := ih (k + 1) N (a1 + 1) c v h hj hx (by omega) h1' (by omega)
        refine ⟨v', c', N', fun σ e => ?_, ?_, t', j', x', by omega⟩
        · refine w_M_ticks_8 a1 σ _ ⟨fun z => absurd z n8, fun _ => (runS σ e).int ?_⟩
          rintro y σ1 ⟨ey, es⟩
          rw [ey, es]
          refine ⟨fun _ => (runS σ e).int ?_, fun z => absurd e2 z⟩
          rintro y2 σ2 ⟨ey2, es2⟩
          rw [ey2, es2]
          exact ⟨fun _ => qr σ e, fun z => absurd e3 z⟩
        · refine d_G_oneTick_15 a1 c _ ⟨fun z => absurd z n8, fun _ => ?_⟩
          rw [t_nat h1]
          exact ⟨va, fun _ => ⟨va, fun _ => qc, fun z => absurd e3 z⟩, fun z => absurd e2 z⟩
/-- oneTick | ticks -/
theorem p_ticks {g : Prop} {N : Nat} {c : sm_S} {v : Nat → Int32} (h : tie g N c v) (hj : jj N v) (hx : jx v) (hN : N + 20000 < 1999990000) : ∃ v' c' N', rd j_M_ticks [.ref 0] v v' ∧ xC xD j_G_oneTick [.ref 41] c (sm_V (fun σ' => σ' = c')) ∧ tie g N' c' v' ∧ jj N' v' ∧ jx v' ∧ N' ≤ N + 9600 := by
  have e4 : ∀ i, i ≠ 4 → upd v 4 (v 4 + 1) i = v i := fun i hi => u_ne hi
  have j1 : jj N (upd v 4 (v 4 + 1)) := jj_low (by decide) (by decide) hj
  have t1 : tie g N (sm_set c 0 (upd (c 0) 7 (c 0 7 + 1))) (upd v 4 (v 4 + 1)) := h.to (sim_tick h.s h.b) (fun k k1 k2 => s_ne (by omega)) (e4 5 (by decide)) (fun i hi => e4 i (by omega)) j1.2.1.1
  have x1 : jx (upd v 4 (v 4 + 1)) := hx.cg (fun b k _ _ => e4 _ (by omega)) (fun s' hs' z => ⟨fun y => z ((e4 _ (by omega)).trans y), e4 _ (by omega)⟩) (e4 0 (by decide)) (fun i i1 i2 => e4 i (by omega))
  obtain ⟨v', c', N', qr, qc, t', j', x', n'⟩ := l_ticks2 8 0 N 0 _ _ t1 j1 x1 (by omega) rfl rfl
  refine ⟨v', c', N', fun σ e => ?_, ?_, t', j', x', by omega⟩
  · refine w_M_ticks σ _ ((c_more (j := 4) rfl (by decide) 1 σ).void ?_)
    rintro σ1 e1
    rw [e] at e1
    have := qr σ1 (by rw [e1, s_at])
    rw [e1, s_ss] at this
    rw [e1]
    exact this
  · refine d_G_oneTick c _ (fun σ1 e1 => ?_)
    rw [e1]
    exact qc
