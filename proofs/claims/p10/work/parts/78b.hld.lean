/-! ===== the simulation: a block is on its way; how far a pass is ===== -/
theorem sim_rea {c : sm_S} {v : Nat → Int32} {s : Nat} (x : Int32) (h : sim0 c v) (hk : ∀ b, b < 96 → bk_ok v b) (hs : s < 8) : sim0 (sm_set c 23 (upd (c 23) s x)) (upd v (2358 + 8 * s + 5) x) := by
  refine h.sv hk (fun t ht => ?_) (fun t ht => by rw [u_ne (by omega)]) (fun k hk => s_ne (by omega)) (fun i hi => u_ne (by omega))
  have g := h.S t ht
  have ev : ∀ k, k < 8 → k ≠ 5 → upd v (2358 + 8 * s + 5) x (2358 + 8 * t + k) = v (2358 + 8 * t + k) := fun k h1 h2 => u_ne (by omega)
  refine ⟨by rw [ev 0 (by decide) (by decide), s_ne (by decide)]; exact g.sta, by rw [s_ne (show 18 ≠ 23 by decide), s_ne (show 19 ≠ 23 by decide)]; exact g.zof, by rw [s_ne (show 18 ≠ 23 by decide), s_ne (show 19 ≠ 23 by decide), ev 1 (by decide) (by decide)]; exact g.zon, by rw [ev 2 (by decide) (by decide), s_ne (by decide)]; exact g.par, by rw [ev 3 (by decide) (by decide), s_ne (by decide)]; exact g.pas, by rw [ev 4 (by decide) (by decide), s_ne (by decide)]; exact g.pau, by rw [s_ne (by decide)]; exact g.pag, ?_, by rw [ev 6 (by decide) (by decide), s_ne (by decide)]; exact g.lea, by rw [ev 7 (by decide) (by decide), s_ne (by decide)]; exact g.why, by rw [s_ne (show 18 ≠ 23 by decide), s_ne (show 20 ≠ 23 by decide), s_ne (show 21 ≠ 23 by decide), s_ne (show 22 ≠ 23 by decide), s_ne (show 24 ≠ 23 by decide)]; exact g.off⟩
  rw [s_ne (show 18 ≠ 23 by decide), s_at]
  by_cases q : t = s
  · subst q
    rw [u_at, u_at]
    exact fun _ => rfl
  · rw [u_ne q, u_ne (by omega)]
    exact g.rea
theorem sim_lea {c : sm_S} {v : Nat → Int32} {s : Nat} (x : Int32) (h : sim0 c v) (hk : ∀ b, b < 96 → bk_ok v b) (hs : s < 8) (h3 : c 18 s = 3) : sim0 (sm_set c 24 (upd (c 24) s x)) (upd v (2358 + 8 * s + 6) (x + 1)) := by
  refine h.sv hk (fun t ht => ?_) (fun t ht => by rw [u_ne (by omega)]) (fun k hk => s_ne (by omega)) (fun i hi => u_ne (by omega))
  have g := h.S t ht
  have ev : ∀ k, k < 8 → k ≠ 6 → upd v (2358 + 8 * s + 6) (x + 1) (2358 + 8 * t + k) = v (2358 + 8 * t + k) := fun k h1 h2 => u_ne (by omega)
  refine ⟨by rw [ev 0 (by decide) (by decide), s_ne (by decide)]; exact g.sta, by rw [s_ne (show 18 ≠ 24 by decide), s_ne (show 19 ≠ 24 by decide)]; exact g.zof, by rw [s_ne (show 18 ≠ 24 by decide), s_ne (show 19 ≠ 24 by decide), ev 1 (by decide) (by decide)]; exact g.zon, by rw [ev 2 (by decide) (by decide), s_ne (by decide)]; exact g.par, by rw [ev 3 (by decide) (by decide), s_ne (by decide)]; exact g.pas, by rw [ev 4 (by decide) (by decide), s_ne (by decide)]; exact g.pau, by rw [s_ne (by decide)]; exact g.pag, by rw [s_ne (show 18 ≠ 24 by decide), s_ne (show 23 ≠ 24 by decide), ev 5 (by decide) (by decide)]; exact g.rea, ?_, by rw [ev 7 (by decide) (by decide), s_ne (by decide)]; exact g.why, ?_⟩
  · rw [s_at]
    by_cases q : t = s
    · subst q
      rw [u_at, u_at]
    · rw [u_ne q, u_ne (by omega)]
      exact g.lea
  · rw [s_ne (show 18 ≠ 24 by decide), s_ne (show 20 ≠ 24 by decide), s_ne (show 21 ≠ 24 by decide), s_ne (show 22 ≠ 24 by decide), s_at]
    by_cases q : t = s
    · subst q
      rw [h3]
      exact fun z => absurd z (by decide)
    · rw [u_ne q]
      exact g.off
def hdF (v : Nat → Int32) (n to o : Nat) (x y : Int32) : Nat → Int32 := hsF (upd (upd v (786 + 16 * n + 6) y) (786 + 16 * n + 7) 0) to (2 ^ o) 4 x
theorem hdF_o {v : Nat → Int32} {n to o i : Nat} {x y : Int32} (h1 : i < 18 + 3 * to ∨ 18 + 3 * (to + 2 ^ o) ≤ i) (h2 : i ≠ 786 + 16 * n + 6) (h3 : i ≠ 786 + 16 * n + 7) : hdF v n to o x y i = v i := by
  unfold hdF
  rw [hsF_out h1, u_ne h3, u_ne h2]
theorem sim_hold {c : sm_S} {v : Nat → Int32} {n fr to o : Nat} {bI y : Int32} (h : sim0 c v) (hk : ∀ b, b < 96 → bk_ok v b) (hn : n < 96) (h0 : v (786 + 16 * n + 0) = 1) (h1 : (v (786 + 16 * n + 1)).toInt = fr) (h2 : (v (786 + 16 * n + 2)).toInt = o) (h3 : v (786 + 16 * n + 3) = 0) (h6 : v (786 + 16 * n + 6) = 0) (h7 : v (786 + 16 * n + 7) = 0) (ho : o ≤ 4) (hto : to < 256) (halt : to % 2 ^ o = 0) (hfree : ∀ f, to ≤ f → f < to + 2 ^ o → v (18 + 3 * f) = 1) (hbI : bI.toInt = n) (hy : y.toInt = to) : sim0 (gvC (sm_set c 14 (upd (c 14) n y)) 5 bI to o) (hdF v n to o (bI + 1) (y + 1)) := by
  have hlt := al_le ho hto halt
  have hb1 : (bI + 1).toInt = ((n + 1 : Nat) : Int) := by
    rw [t_add hbI (y := 1) rfl (by omega) (by omega)]
    omega
  have hy1 : (y + 1).toInt = ((to + 1 : Nat) : Int) := by
    rw [t_add hy (y := 1) rfl (by omega) (by omega)]
    omega
  have own3 := h.O.hs n fr o hn h0 h1 h2
  have co : ∀ k, k ≠ 2 → k ≠ 5 → k ≠ 6 → k ≠ 14 → gvC (sm_set c 14 (upd (c 14) n y)) 5 bI to o k = c k := fun k a1 a2 a3 a4 => by rw [gvC_o ⟨a1, a3, a2⟩, s_ne a4]
  have c14 : gvC (sm_set c 14 (upd (c 14) n y)) 5 bI to o 14 = upd (c 14) n y := rfl
  have r6 : hdF v n to o (bI + 1) (y + 1) (786 + 16 * n + 6) = y + 1 := by
    unfold hdF
    rw [hsF_out (by omega), u_ne (by omega), u_at]
  have r7 : hdF v n to o (bI + 1) (y + 1) (786 + 16 * n + 7) = 0 := by
    unfold hdF
    rw [hsF_out (by omega), u_at]
  refine h.fb (fun f hf => ?_) (fun b hb => ?_) (fun t ht => ?_) ?_ (fun k hk => co k (by omega) (by omega) (by omega) (by omega)) (fun i hi => hdF_o (by omega) (by omega) (by omega)) (fun b k h1 h2 h3 => hdF_o (by omega) (by omega) (by omega))
  · have g : sF (sm_set c 14 (upd (c 14) n y)) (upd (upd v (786 + 16 * n + 6) (y + 1)) (786 + 16 * n + 7) 0) f := (h.F f hf).cg (by rw [s_ne (by decide)]) (by rw [s_ne (by decide)]) (by rw [s_ne (by decide)]) (by rw [s_ne (by decide)]) (by rw [s_ne (by decide)]) (by rw [s_ne (by decide)]) (by rw [u_ne (by omega), u_ne (by omega)]) (by rw [u_ne (by omega), u_ne (by omega)]) (by rw [u_ne (by omega), u_ne (by omega)])
    exact sF_gv5 g ho halt (fun a1 a2 => by rw [u_ne (by omega), u_ne (by omega)]; exact hfree f a1 a2)
  · have cc : ∀ k, 9 ≤ k → k ≤ 16 → k ≠ 14 → gvC (sm_set c 14 (upd (c 14) n y)) 5 bI to o k = c k := fun k a1 a2 a3 => co k (by omega) (by omega) (by omega) a3
    by_cases e : b = n
    · subst e
      have rk : ∀ k, k < 9 → k ≠ 6 → k ≠ 7 → hdF v b to o (bI + 1) (y + 1) (786 + 16 * b + k) = v (786 + 16 * b + k) := fun k a1 a2 a3 => hdF_o (by omega) (by omega) (by omega)
      obtain ⟨q, q1⟩ := (h.B b hb).al h0
      exact Or.inr ⟨by rw [cc 9 (by decide) (by decide) (by decide)]; exact q1, by rw [rk 0 (by decide) (by decide) (by decide)]; exact h0, by rw [rk 1 (by decide) (by decide) (by decide), cc 9 (by decide) (by decide) (by decide)]; exact q.fir, by rw [rk 2 (by decide) (by decide) (by decide), cc 10 (by decide) (by decide) (by decide)]; exact q.ord, by rw [rk 3 (by decide) (by decide) (by decide), cc 11 (by decide) (by decide) (by decide)]; exact q.kin, by rw [rk 4 (by decide) (by decide) (by decide), cc 12 (by decide) (by decide) (by decide)]; exact q.own, by rw [rk 5 (by decide) (by decide) (by decide), cc 13 (by decide) (by decide) (by decide)]; exact q.pin, by rw [r6, c14, u_at], by rw [r7, cc 15 (by decide) (by decide) (by decide), ← h7]; exact q.cop, by rw [rk 8 (by decide) (by decide) (by decide), cc 16 (by decide) (by decide) (by decide)]; exact q.use⟩
    · exact (h.B b hb).cg (by rw [cc 9 (by decide) (by decide) (by decide)]) (by rw [cc 10 (by decide) (by decide) (by decide)]) (by rw [cc 11 (by decide) (by decide) (by decide)]) (by rw [cc 12 (by decide) (by decide) (by decide)]) (by rw [cc 13 (by decide) (by decide) (by decide)]) (by rw [c14, u_ne e]) (by rw [cc 15 (by decide) (by decide) (by decide)]) (by rw [cc 16 (by decide) (by decide) (by decide)]) (fun k hk => hdF_o (by omega) (by omega) (by omega))
  · exact (h.S t ht).cg (fun k a1 a2 => by rw [co k (by omega) (by omega) (by omega) (by omega)]) (fun k hk => hdF_o (by omega) (by omega) (by omega))
  · have out0 : ∀ f, f < 256 → ¬ (to ≤ f ∧ f < to + 2 ^ o) → hdF v n to o (bI + 1) (y + 1) (18 + 3 * f) = v (18 + 3 * f) ∧ hdF v n to o (bI + 1) (y + 1) (18 + 3 * f + 1) = v (18 + 3 * f + 1) := fun f a1 a2 => ⟨hdF_o (by omega) (by omega) (by omega), hdF_o (by omega) (by omega) (by omega)⟩
    have inn : ∀ f, to ≤ f ∧ f < to + 2 ^ o → hdF v n to o (bI + 1) (y + 1) (18 + 3 * f) = 4 ∧ hdF v n to o (bI + 1) (y + 1) (18 + 3 * f + 1) = bI + 1 := fun f a2 => by
      obtain ⟨q0, q1, -⟩ := hsF_in (v := upd (upd v (786 + 16 * n + 6) (y + 1)) (786 + 16 * n + 7) 0) (s := 4) (x := bI + 1) a2.1 a2.2
      exact ⟨q0, q1⟩
    have rb : ∀ k, k < 4 → hdF v n to o (bI + 1) (y + 1) (786 + 16 * n + k) = v (786 + 16 * n + k) := fun k a1 => hdF_o (by omega) (by omega) (by omega)
    refine h.O.re (fun b => b = n) (fun f => to ≤ f ∧ f < to + 2 ^ o) hk (fun b k a1 a2 a3 => hdF_o (by omega) (by omega) (by omega)) out0 (fun f hf z => Or.inl (by rw [hfree f z.1 z.2]; decide)) (fun b fr' o' hb z g0 g1 g2 j hj => ?_) (fun b t o' hb z g0 g6 g2 => ?_) (fun f b hf hb z g3 g1 => ?_) (fun f b hf hb z g4 g1 => ?_) (fun f hf z => Or.inl ⟨n, hn, rfl, by rw [(inn f z).2]; exact hb1, Or.inr (inn f z).1⟩) (fun f hf => ?_)
    · subst z
      rw [rb 1 (by decide)] at g1
      rw [rb 2 (by decide)] at g2
      have hx := h.O.hs b fr' o' hb h0 g1 g2 j hj
      obtain ⟨o2, fr2, p1, p2, p3, p4, p5, -⟩ := hk b hb
      have e1 : o2 = o' := by omega
      have e2 : fr2 = fr' := by omega
      subst e1 e2
      have hl := al_le p2 p4 p5
      have nd : ¬ (to ≤ fr2 + j ∧ fr2 + j < to + 2 ^ o) := fun z => by
        have := hfree _ z.1 z.2
        rw [hx.1] at this
        exact absurd this (by decide)
      rw [(out0 _ (by omega) nd).1, (out0 _ (by omega) nd).2]
      exact hx
    · subst z
      rw [r6] at g6
      rw [rb 2 (by decide)] at g2
      have e1 : t = to := by omega
      have e2 : o' = o := by omega
      subst e1 e2
      refine ⟨by rw [rb 3 (by decide)]; exact h3, fun j hj => ?_⟩
      obtain ⟨q0, q1⟩ := inn (t + j) (by omega)
      rw [q0, q1]
      exact ⟨rfl, hb1⟩
    · subst z
      have nd : ¬ (to ≤ f ∧ f < to + 2 ^ o) := fun z => by
        rw [(inn f z).1] at g3
        exact absurd g3 (by decide)
      rw [(out0 f hf nd).1] at g3
      rw [(out0 f hf nd).2] at g1
      obtain ⟨b', fr', o', p1, p2, p3, p4, p5, p6⟩ := h.O.tk f hf g3
      have e : b' = b := by omega
      subst e
      exact ⟨by rw [rb 0 (by decide)]; exact p3, fr', o', by rw [rb 1 (by decide)]; exact p4, by rw [rb 2 (by decide)]; exact p5, p6⟩
    · subst z
      refine ⟨by rw [rb 0 (by decide)]; exact h0, to, o, by rw [r6]; exact hy1, by rw [rb 2 (by decide)]; exact h2, ?_⟩
      by_cases z : to ≤ f ∧ f < to + 2 ^ o
      · exact z
      · rw [(out0 f hf z).1] at g4
        rw [(out0 f hf z).2] at g1
        obtain ⟨b', t, o', p1, p2, p3, p4, p5, p6⟩ := h.O.hl f hf g4
        have e : b' = b := by omega
        subst e
        rw [h6] at p4
        have p4 : (0 : Int) = _ := p4
        omega
    · rw [hdF_o (i := 2358 + 8 * (f / 32) + 0) (by omega) (by omega) (by omega)]
      by_cases z : to ≤ f ∧ f < to + 2 ^ o
      · rw [(inn f z).1, ← h.O.of f hf, hfree f z.1 z.2]
        decide
      · rw [(out0 f hf z).1]
        exact h.O.of f hf
