/-! ===== the simulation: moveOn | moves ===== -/
/-- both from the head of the loop: the reference from moves_32, the class from moveOn_38, to the same end -/
def mvT (g : Prop) (N k : Nat) (B : Nat) (a1 a2 l : Int32) (c : sm_S) (v : Nat → Int32) : Prop := ∃ (v' : Nat → Int32) (c' : sm_S) (N' : Nat), (∀ σ : sm_S, σ 1 = v → xE xM m_M_moves 32 [.ref 0, .int a1, .int a2, .int l] [] σ (sm_V (fun σ' => σ' = sm_set σ 1 v'))) ∧ (∀ (a3 : Int32) (v4 v5 : Value), a3.toInt = k → xE xD m_G_moveOn 38 [.ref 41, .int a1, .int l, .int a3, v4, v5] [] c (sm_V (fun σ' => σ' = c'))) ∧ tie g N' c' v' ∧ jj N' v' ∧ jx v' ∧ N' ≤ N + B
/-- the same where a block is on its way: the reference from copies -/
def mvK (g : Prop) (N k : Nat) (B : Nat) (a1 a2 l : Int32) (c : sm_S) (v : Nat → Int32) : Prop := ∃ (v' : Nat → Int32) (c' : sm_S) (N' : Nat), (∀ (σ : sm_S) (Q : Option Value → sm_S → Prop), σ 1 = v → Q none (sm_set σ 1 v') → xC xM j_M_copies [.ref 0, .int a1, .int l] σ (sm_ri False (fun x7 σ6 => (vp_in (a2 + 6) 2662 ∧ (((σ6 1 ((a2 + 6)).toNatClampNeg) ≤ 0 → xE xM m_M_moves 32 [.ref 0, .int a1, .int a2, .int x7] [] σ6 Q) ∧ (¬ ((σ6 1 ((a2 + 6)).toNatClampNeg) ≤ 0) → Q none σ6)))))) ∧ (∀ (a3 : Int32) (v4 v5 : Value), a3.toInt = k → xE xD m_G_moveOn 38 [.ref 41, .int a1, .int l, .int a3, v4, v5] [] c (sm_V (fun σ' => σ' = c'))) ∧ tie g N' c' v' ∧ jj N' v' ∧ jx v' ∧ N' ≤ N + B
theorem le0 {x : Int32} : x ≤ 0 ↔ x.toInt ≤ 0 := t_le
theorem mv_K {g : Prop} {s : Nat} {a1 a2 : Int32} (h1 : a1.toInt = s) (hs : s < 8) (h2 : a2.toInt = ((2358 + 8 * s : Nat) : Int)) {N k B r l0 : Nat} {c : sm_S} {v : Nat → Int32} {l : Int32} (h : tie g N c v) (hj : jj N v) (hx : jx v) (hst : v (2358 + 8 * s + 0) = 3) (h4 : v (2358 + 8 * s + 4) = 0) (h6 : v (2358 + 8 * s + 6) ≠ 0) (hr : (v (2358 + 8 * s + 5)).toInt = r) (hl : l.toInt = l0) (hN : N + 7 < 2000000000) (hk : k < 999) (ih : ∀ (N1 l1 : Nat) (c1 : sm_S) (v1 : Nat → Int32) (x : Int32), tie g N1 c1 v1 → jj N1 v1 → jx v1 → v1 (2358 + 8 * s + 0) = 3 → v1 (2358 + 8 * s + 4) = 0 → v1 (2358 + 8 * s + 6) = 0 → (v1 (2358 + 8 * s + 5)).toInt = r → phi v1 s r ≤ phi v s r → x.toInt = l1 → N1 ≤ N + 7 → mvT g N1 (k + 1) B a1 a2 x c1 v1) : mvK g N k (B + 7) a1 a2 l c v := by
  obtain ⟨p6, q6⟩ := ix5 h2 hs (k := 6) (j := 6) rfl (by decide)
  obtain ⟨n, o, fr, to, hn, e6, -⟩ := way_of hj hs h6
  have gs := h.s.S s hs
  have c24 : (c 24 s).toInt = n := m1_add (by rw [← gs.lea]; exact e6) (by omega)
  obtain ⟨K, v1, c1, hK, rcp, t1, j1, x1, vs, we, o1, c10, ho1, fin⟩ := p_copy (a1 := a1) (a2 := l) (a3 := c 24 s) h hj hx h1 hs c24 e6 hl
  have s6 : v1 (2358 + 8 * s + 6) = v (2358 + 8 * s + 6) := vs _ (by omega)
  have lng : ((1 : Int32) <<< (c1 10 n &&& 31)).toInt = ((2 ^ o1 : Nat) : Int) := t_pow c10 (by omega)
  rcases fin with ⟨f1, f2⟩ | ⟨f1, f2⟩
  · refine ⟨v1, c1, N, fun σ Q e hQ => (f2 σ e).int ?_, fun a3 v4 v5 q => ?_, t1, j1, x1, by omega⟩
    · rintro x7 σ6 ⟨-, es⟩
      refine ⟨p6, fun z => ?_, fun _ => by rw [es]; exact hQ⟩
      rw [q6, es, s_at, s6, le0, e6] at z
      omega
    · refine d_G_moveOn_38 a1 l a3 v4 v5 c _ ⟨fun z => ?_, fun _ => ⟨t_vp h1 hs, fun _ => ?_, fun z => ?_⟩⟩
      · rw [t_le, q] at z
        have z : (1000 : Int) ≤ k := z
        omega
      · rw [t_nat h1]
        refine rcp.int ?_
        rintro y σ1 ⟨ey, es⟩
        rw [es]
        refine ⟨t_vp c24 hn, (c_size c24 hn c1).int ?_⟩
        rintro y2 σ2 ⟨ey2, es2⟩
        rw [ey2, es2, t_nat c24]
        refine ⟨fun z => ?_, fun _ => ⟨rfl, rfl⟩⟩
        rw [t_le, lng] at z
        omega
      · rw [t_nat h1] at z
        exact absurd (ne_m1 c24) z
  · obtain ⟨v2, c2, N2, ra, rca, t2, j2, x2, n2, vs2, z6, we2⟩ := p_arrive (a1 := a1) (a2 := c 24 s) t1 j1 x1 hN h1 hs c24 (by rw [s6]; exact e6)
    have iK : (nI K).toInt = K := nI_toInt (by have := t_bd l; omega)
    have hl1 : (l - nI K).toInt = ((l0 - K : Nat) : Int) := by
      have := t_bd l
      rw [t_sub hl iK (by omega) (by omega)]
      omega
    have v2s : ∀ i, 2358 ≤ i → i < 2422 → i ≠ 2358 + 8 * s + 6 → v2 i = v i := fun i i1 i2 i3 => (vs2 i i1 i2 i3).trans (vs i (by omega))
    obtain ⟨v', c', N', qr, qc, t', j', x', n'⟩ := ih N2 (l0 - K) c2 v2 (l - nI K) t2 j2 x2 (by rw [v2s _ (by omega) (by omega) (by omega)]; exact hst) (by rw [v2s _ (by omega) (by omega) (by omega)]; exact h4) z6 (by rw [v2s _ (by omega) (by omega) (by omega)]; exact hr) (phi_mono (fun f hf hfs => by rw [← we f hf]; exact we2 f hf hfs) hs (Nat.le_refl r)) hl1 n2
    refine ⟨v', c', N', fun σ Q e hQ => (f2 v2 ra σ e).int ?_, fun a3 v4 v5 q => ?_, t', j', x', by omega⟩
    · rintro x7 σ6 ⟨ex, es⟩
      refine ⟨p6, fun _ => ?_, fun z => ?_⟩
      · rw [ex, es]
        refine (qr _ s_at).mono ?_
        rintro r0 σ0 ⟨hr0, hs0⟩
        rw [hr0, hs0, s_ss]
        exact hQ
      · rw [q6, es, s_at, z6] at z
        exact absurd (by decide) z
    · have q' : (a3 + 1).toInt = ((k + 1 : Nat) : Int) := by
        rw [t_add q (y := 1) rfl (by omega) (by omega)]
        omega
      refine d_G_moveOn_38 a1 l a3 v4 v5 c _ ⟨fun z => ?_, fun _ => ⟨t_vp h1 hs, fun _ => ?_, fun z => ?_⟩⟩
      · rw [t_le, q] at z
        have z : (1000 : Int) ≤ k := z
        omega
      · rw [t_nat h1]
        refine rcp.int ?_
        rintro y σ1 ⟨ey, es⟩
        rw [es, ey]
        refine ⟨t_vp c24 hn, (c_size c24 hn c1).int ?_⟩
        rintro y2 σ2 ⟨ey2, es2⟩
        rw [ey2, es2, t_nat c24]
        refine ⟨fun _ => rca.void ?_, fun z => absurd ?_ z⟩
        · rintro _ rfl
          exact qc (a3 + 1) _ _ q'
        · rw [t_le, lng, f1]
          omega
      · rw [t_nat h1] at z
        exact absurd (ne_m1 c24) z
theorem mv_all {g : Prop} {s : Nat} {a1 a2 : Int32} (h1 : a1.toInt = s) (hs : s < 8) (h2 : a2.toInt = ((2358 + 8 * s : Nat) : Int)) : ∀ (m N k r l0 : Nat) (c : sm_S) (v : Nat → Int32) (l : Int32), tie g N c v → jj N v → jx v → v (2358 + 8 * s + 0) = 3 → v (2358 + 8 * s + 4) = 0 → (v (2358 + 8 * s + 5)).toInt = r → l.toInt = l0 → N + 8 * m + 100 < 1999999000 → k + m < 998 →
    (v (2358 + 8 * s + 6) = 0 → 2 * phi v s r ≤ m → mvT g N k (8 * m + 8) a1 a2 l c v) ∧ (v (2358 + 8 * s + 6) ≠ 0 → 2 * phi v s r + 1 ≤ m → mvK g N k (8 * m + 8) a1 a2 l c v) := by
  obtain ⟨p6, q6⟩ := ix5 h2 hs (k := 6) (j := 6) rfl (by decide)
  intro m
  induction m using Nat.strongRecOn with
  | ind m ih =>
    intro N k r l0 c v l h hj hx hst h4 hr hl hN hk
    refine ⟨fun h6 hm => ?_, fun h6 hm => ?_⟩
    · have gs := h.s.S s hs
      have c23 : c 23 s = v (2358 + 8 * s + 5) := (gs.rea (by rw [← gs.sta]; exact hst)).symm
      obtain ⟨_, _, r2, _, _, _, _, _, _, z5, z6, -⟩ := hj.2.1.2.2.1 s hs
      obtain ⟨x, rx, rcx, hf⟩ := p_first (a1 := a1) (a2 := v (2358 + 8 * s + 5)) h.s h1 hs hr (by omega)
      obtain ⟨v1, c1, N1, d, r1, y, qr, qc, t1, j1, x1, n1, sp, e5, pl, fin⟩ := p_looks (g := g) h1 hs h2 (phi v s r) N r c v x h hj hx hst h6 hr (Nat.le_refl _) (by omega) hf (by rw [c23]; exact rcx)
      have st1 : v1 (2358 + 8 * s + 0) = 3 := by rw [sp _ (by omega) (by omega) (by omega) (by omega)]; exact hst
      have h41 : v1 (2358 + 8 * s + 4) = 0 := by rw [sp _ (by omega) (by omega) (by omega) (by omega)]; exact h4
      have runL : ∀ (σ : sm_S) (Q : Option Value → sm_S → Prop), σ 1 = v → Q (some (.int y)) (sm_set σ 1 v1) → xC xM j_M_looks [.ref 0, .int a1] σ Q := fun σ Q e hQ => by
        obtain ⟨p5, q5⟩ := ixS (k := 5) (j := 5) h1 rfl (by omega)
        have ea : a2 = 2358 + 8 * a1 := t_inj (by
          have e := t_ix (c := 2358) (m := 8) (C := 2358) (M := 8) (k := 0) (j := 0) rfl rfl h1 rfl (by omega)
          rw [Int32.add_zero] at e
          rw [e, h2]
          omega)
        refine w_M_looks a1 σ Q ((c_spanAt a1 σ).int ?_)
        rintro _ σ ⟨rfl, rfl⟩
        refine ⟨p5, ?_⟩
        rw [q5, e]
        refine (rx σ e).int ?_
        rintro y1 σ1 ⟨ey1, es1⟩
        have es1' : σ1 = σ := by rw [es1, ← e, s_id]
        rw [ey1, es1', ← ea]
        exact qr σ .null .null Q e hQ
      have n0 : ¬ (0 : Int32) < v (2358 + 8 * s + 6) := by rw [h6]; decide
      rcases fin with ⟨f1, f2, f3⟩ | ⟨f1, f2, f3⟩
      · obtain ⟨v', c', N', kr, kc, t', j', x', n'⟩ := (ih (m - 2 * d + 1) (by omega) N1 (k + d) r1 l0 c1 v1 l t1 j1 x1 st1 h41 e5 hl (by omega) (by omega)).2 f3 (by omega)
        refine ⟨v', c', N', fun σ e => ?_, fun a3 v4 v5 q => ?_, t', j', x', by omega⟩
        · refine w_M_moves_32 a1 a2 l σ _ ⟨p6, ?_⟩
          rw [q6, e]
          refine ⟨fun z => absurd z n0, fun _ => runL σ _ e ?_⟩
          refine ⟨fun z => ?_, fun _ => ?_⟩
          · rw [f1] at z
            exact absurd z (by decide)
          · have := kr (sm_set σ 1 v1) (sm_V (fun σ' => σ' = sm_set σ 1 v')) s_at ⟨rfl, by rw [s_ss]⟩
            rw [q6] at this
            exact this
        · exact qc k a3 l v4 v5 _ q (by omega) (fun b3 u4 u5 q3 => kc b3 u4 u5 q3)
      · obtain ⟨v', c', N', ro, rco, t', j', x', n', n''⟩ := p_over (a1 := a1) t1 j1 x1 (by omega) h1 hs st1 f2 h41
        have gs1 := t1.s.S s hs
        have c231 : c1 23 s = v1 (2358 + 8 * s + 5) := (gs1.rea (by rw [← gs1.sta]; exact st1)).symm
        obtain ⟨_, _, r3, _, _, _, _, _, _, w5, w6, -⟩ := j1.2.1.2.2.1 s hs
        obtain ⟨x2, -, rcx2, hf2⟩ := p_first (a1 := a1) (a2 := v1 (2358 + 8 * s + 5)) t1.s h1 hs e5 (by omega)
        have ex2 : x2 = -1 := fst_un hf2 f3
        refine ⟨v', c', N', fun σ e => ?_, fun a3 v4 v5 q => ?_, t', j', x', by omega⟩
        · refine w_M_moves_32 a1 a2 l σ _ ⟨p6, ?_⟩
          rw [q6, e]
          refine ⟨fun z => absurd z n0, fun _ => runL σ _ e ?_⟩
          refine ⟨fun _ => (ro _ s_at).void ?_, fun z => absurd f1 z⟩
          rintro _ rfl
          exact ⟨rfl, by rw [s_ss]⟩
        · refine qc k a3 l v4 v5 _ q (by omega) (fun b3 u4 u5 q3 => ?_)
          refine d_G_moveOn_38 a1 l b3 u4 u5 c1 _ ⟨fun z => ?_, fun _ => ⟨t_vp h1 hs, fun z => ?_, fun _ => ⟨t_vp h1 hs, ?_⟩⟩⟩
          · rw [t_le, q3] at z
            have z : (1000 : Int) ≤ ((k + d : Nat) : Int) := z
            omega
          · rw [t_nat h1] at z
            exact absurd (c24_m1 t1.s hs f2) z
          · rw [t_nat h1, c231]
            refine rcx2.int ?_
            rintro y1 σ1 ⟨ey1, es1⟩
            rw [ey1, es1]
            refine ⟨fun z => absurd ex2 z, fun _ => rco.void ?_⟩
            rintro _ rfl
            exact ⟨rfl, rfl⟩
    · have := mv_K (g := g) (B := 8 * m) h1 hs h2 (k := k) h hj hx hst h4 h6 hr hl (by omega) (by omega) (fun N1 l1 c1 v1 x t1 j1 x1 st1 h41 h61 hr1 pl hx1 n1 => by
        obtain ⟨v', c', N', a, b, t', j', x', n'⟩ := (ih (m - 1) (by omega) N1 (k + 1) r l1 c1 v1 x t1 j1 x1 st1 h41 hr1 hx1 (by omega) (by omega)).1 h61 (by omega)
        exact ⟨v', c', N', a, b, t', j', x', by omega⟩)
      obtain ⟨v', c', N', a, b, t', j', x', n'⟩ := this
      exact ⟨v', c', N', a, b, t', j', x', by omega⟩
theorem sim_pau {c : sm_S} {v : Nat → Int32} {s : Nat} (x : Int32) (h : sim0 c v) (hk : ∀ b, b < 96 → bk_ok v b) (hs : s < 8) (h3 : c 18 s = 3) (hx : 0 ≤ x.toInt) : sim0 (sm_set c 22 (upd (c 22) s x)) (upd v (2358 + 8 * s + 4) x) := by
  refine h.sv hk (fun t ht => ?_) (fun t ht => by rw [u_ne (by omega)]) (fun k hk => s_ne (by omega)) (fun i hi => u_ne (by omega))
  have g := h.S t ht
  have ev : ∀ k, k < 8 → k ≠ 4 → upd v (2358 + 8 * s + 4) x (2358 + 8 * t + k) = v (2358 + 8 * t + k) := fun k h1 h2 => u_ne (by omega)
  refine ⟨by rw [ev 0 (by decide) (by decide), s_ne (by decide)]; exact g.sta, by rw [s_ne (show 18 ≠ 22 by decide), s_ne (show 19 ≠ 22 by decide)]; exact g.zof, by rw [s_ne (show 18 ≠ 22 by decide), s_ne (show 19 ≠ 22 by decide), ev 1 (by decide) (by decide)]; exact g.zon, by rw [ev 2 (by decide) (by decide), s_ne (by decide)]; exact g.par, by rw [ev 3 (by decide) (by decide), s_ne (by decide)]; exact g.pas, ?_, ?_, by rw [s_ne (show 18 ≠ 22 by decide), s_ne (show 23 ≠ 22 by decide), ev 5 (by decide) (by decide)]; exact g.rea, by rw [ev 6 (by decide) (by decide), s_ne (by decide)]; exact g.lea, by rw [ev 7 (by decide) (by decide), s_ne (by decide)]; exact g.why, ?_⟩
  · rw [s_at]
    by_cases q : t = s
    · subst q
      rw [u_at, u_at]
    · rw [u_ne q, u_ne (by omega)]
      exact g.pau
  · rw [s_at]
    by_cases q : t = s
    · subst q
      rw [u_at]
      exact hx
    · rw [u_ne q]
      exact g.pag
  · rw [s_ne (show 18 ≠ 22 by decide), s_ne (show 20 ≠ 22 by decide), s_ne (show 21 ≠ 22 by decide), s_at, s_ne (show 24 ≠ 22 by decide)]
    by_cases q : t = s
    · subst q
      rw [h3]
      exact fun z => absurd z (by decide)
    · rw [u_ne q]
      exact g.off
/-- moveOn | moves -/
theorem p_moves {g : Prop} {N s : Nat} {c : sm_S} {v : Nat → Int32} {a1 : Int32} (h : tie g N c v) (hj : jj N v) (hx : jx v) (hN : N + 2000 < 1999990000) (h1 : a1.toInt = s) (hs : s < 8) (hst : v (2358 + 8 * s + 0) = 3) : ∃ v' c' N', rd j_M_moves [.ref 0, .int a1] v v' ∧ xC xD j_G_moveOn [.ref 41, .int a1] c (sm_V (fun σ' => σ' = c')) ∧ tie g N' c' v' ∧ jj N' v' ∧ jx v' ∧ N' ≤ N + 1100 := by
  have gs := h.s.S s hs
  have c18 : c 18 s = 3 := by rw [← gs.sta]; exact hst
  obtain ⟨p4, q4⟩ := ixS (k := 4) (j := 4) h1 rfl (by omega)
  have h2 : (2358 + 8 * a1).toInt = ((2358 + 8 * s : Nat) : Int) := by
    have e := t_ix (c := 2358) (m := 8) (C := 2358) (M := 8) (k := 0) (j := 0) rfl rfl h1 rfl (by omega)
    rw [Int32.add_zero] at e
    exact e
  by_cases pz : v (2358 + 8 * s + 4) ≤ 0
  · have h4 : v (2358 + 8 * s + 4) = 0 := by
      have a := gs.pag
      rw [← gs.pau] at a
      rw [le0] at pz
      exact t_inj (by show _ = (0 : Int); omega)
    obtain ⟨_, _, r, _, _, _, _, _, _, z5, z6, -⟩ := hj.2.1.2.2.1 s hs
    have rate : c 39 0 = v 0 + 4 := h.s.N.rat
    obtain ⟨l0, hl0⟩ := t_of (x := v 0 + 4) hx.2.2.2.1
    obtain ⟨hT, hK⟩ := mv_all (g := g) h1 hs h2 129 N 0 r l0 c v (v 0 + 4) h hj hx hst h4 z5 hl0 (by omega) (by omega)
    have pl := phi_le v s r
    have body : mvT g N 0 1100 a1 (2358 + 8 * a1) (v 0 + 4) c v := by
      by_cases h6 : v (2358 + 8 * s + 6) = 0
      · obtain ⟨v', c', N', a, b, t', j', x', n'⟩ := hT h6 (by omega)
        exact ⟨v', c', N', a, b, t', j', x', by omega⟩
      · obtain ⟨v', c', N', a, b, t', j', x', n'⟩ := hK h6 (by omega)
        refine ⟨v', c', N', fun σ e => ?_, b, t', j', x', by omega⟩
        obtain ⟨p6, q6⟩ := ix5 h2 hs (k := 6) (j := 6) rfl (by decide)
        obtain ⟨n, _, _, _, _, e6, -⟩ := way_of hj hs h6
        refine w_M_moves_32 a1 _ _ σ _ ⟨p6, ?_⟩
        rw [q6, e]
        refine ⟨fun _ => ?_, fun z => absurd ?_ z⟩
        · have := a σ (sm_V (fun σ' => σ' = sm_set σ 1 v')) e ⟨rfl, rfl⟩
          rw [q6] at this
          exact this
        · rw [t_lt, e6]
          show (0 : Int) < _
          omega
    obtain ⟨v', c', N', a, b, t', j', x', n'⟩ := body
    refine ⟨v', c', N', fun σ e => ?_, ?_, t', j', x', n'⟩
    · refine w_M_moves a1 σ _ ((c_spanAt a1 σ).int ?_)
      rintro _ σ ⟨rfl, rfl⟩
      refine ⟨p4, ?_⟩
      rw [q4, e]
      refine ⟨fun _ => (r_set0 v σ e).int ?_, fun z => absurd pz z⟩
      rintro y σ1 ⟨ey, es⟩
      rw [ey, es]
      exact a σ e
    · refine d_G_moveOn a1 c _ ⟨t_vp h1 hs, fun _ => ⟨t_vp (n := 0) rfl (by omega), ?_⟩, fun z => absurd ?_ z⟩
      · show xE xD m_G_moveOn 38 [.ref 41, .int a1, .int (c 39 0), .int 0, .null, .null] [] c _
        rw [rate]
        exact b 0 .null .null rfl
      · rw [t_nat h1, ← gs.pau]
        exact pz
  · have ev : v (2358 + 8 * s + 4) + (-1) = c 22 s - 1 := by
      rw [gs.pau, Int32.sub_eq_add_neg]
    have nn : 0 ≤ (c 22 s - 1).toInt := by
      have a := t_bd (c 22 s)
      rw [gs.pau, le0] at pz
      rw [t_sub (x := (c 22 s).toInt) rfl (y := 1) rfl (by omega) (by omega)]
      omega
    have jw : jj N (upd v (2358 + 8 * s + 4) (c 22 s - 1)) := ⟨fr_cong (fun i h1 h2 => u_ne (by omega)) (fun n k h1 h2 => u_ne (by omega)) hj.1, jr_cong (ceq_upd (Or.inr (Or.inr (Or.inr (Or.inr ⟨s, hs, by omega⟩))))) hj.2.1, by rw [u_ne (by omega)]; exact hj.2.2⟩
    refine ⟨_, _, N, fun σ e => ?_, ?_, h.to (sim_pau (c 22 s - 1) h.s h.b hs c18 nn) (fun k k1 k2 => s_ne (by omega)) (u_ne (by omega)) (fun i hi => u_ne (by omega)) jw.2.1.1, jw, hx.cg (fun b k _ _ => u_ne (by omega)) (fun s' hs' z => ⟨fun y => z (by rw [u_ne (by omega)]; exact y), u_ne (by omega)⟩) (u_ne (by omega)) (fun i i1 i2 => u_ne (by omega)), by omega⟩
    · refine w_M_moves a1 σ _ ((c_spanAt a1 σ).int ?_)
      rintro _ σ ⟨rfl, rfl⟩
      refine ⟨p4, ?_⟩
      rw [q4, e]
      have ik : (2358 + 8 * a1 + 4).toInt = ((2358 + 8 * s + 4 : Nat) : Int) := t_ix (c := 2358) (m := 8) (C := 2358) (M := 8) (k := 4) (j := 4) rfl rfl h1 rfl (by omega)
      refine ⟨fun z => absurd z pz, fun _ => (c_more ik (by omega) (-1) σ).void ?_⟩
      rintro _ rfl
      exact ⟨rfl, by rw [e, ev]⟩
    · refine d_G_moveOn a1 c _ ⟨t_vp h1 hs, fun z => ?_, fun _ => ⟨t_vp h1 hs, t_vp h1 hs, fun σ1 e1 => ⟨rfl, ?_⟩⟩⟩
      · rw [t_nat h1, ← gs.pau] at z
        exact absurd z pz
      · rw [t_nat h1] at e1
        exact e1
