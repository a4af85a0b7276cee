/-! ===== the simulation: gather ===== -/
theorem v6_iff {N n : Nat} {v : Nat → Int32} (hj : jj N v) (hn : n < 96) : v (786 + 16 * n + 6) ≤ 0 ↔ v (786 + 16 * n + 6) = 0 := by
  obtain ⟨_, _, _, _, _, _, _, _, ⟨q, b7, -⟩, -⟩ := hj.2.1.1 n hn
  rw [le0, b7]
  refine ⟨fun z => t_inj (by rw [b7]; show (q : Int) = 0; omega), fun z => ?_⟩
  rw [z] at b7
  have b7 : (0 : Int) = q := b7
  omega
theorem c14_iff {c : sm_S} {v : Nat → Int32} {n : Nat} (g : sBl c v n) : c 14 n = -1 ↔ v (786 + 16 * n + 6) = 0 := by
  have e := g.tgt
  refine ⟨fun z => by rw [e, z]; rfl, fun z => ?_⟩
  rw [z] at e
  have z2 : c 14 n = (c 14 n + 1) - 1 := by rw [Int32.add_sub_cancel]
  rw [z2, ← e]
  rfl
theorem r_loose {N n : Nat} {v : Nat → Int32} {b : Int32} (hj : jj N v) (hb : b.toInt = n) (hn : n < 96) (σ : sm_S) (e : σ 1 = v) : xC xM j_M_isLoose [.ref 0, .int b] σ (sm_I (fun x σ' => ((x = 1 ∧ v (786 + 16 * n + 3) = 0 ∧ v (786 + 16 * n + 5) = 0 ∧ v (786 + 16 * n + 6) = 0) ∨ (x = 0 ∧ ¬ (v (786 + 16 * n + 3) = 0 ∧ v (786 + 16 * n + 5) = 0 ∧ v (786 + 16 * n + 6) = 0))) ∧ σ' = σ)) := by
  refine w_M_isLoose b σ _ ((c_of (k := 3) (j := 3) hb rfl (by omega) σ).int ?_)
  rintro y σ1 ⟨ey, es⟩
  rw [ey, es, e]
  refine ⟨fun q => ⟨Or.inl rfl, _, rfl, Or.inr ⟨rfl, fun z => q z.1⟩, rfl⟩, fun q => (c_isPinned hb hn σ).int ?_⟩
  rintro y2 σ2 ⟨ey2, es2⟩
  rw [e] at ey2
  rw [es2]
  refine ⟨fun q2 => ⟨Or.inl rfl, _, rfl, Or.inr ⟨rfl, fun z => ?_⟩, rfl⟩, fun q2 => (c_isOnWay hb hn σ).int ?_⟩
  · rcases ey2 with ⟨w, -⟩ | ⟨-, w⟩
    · exact q2 w
    · exact w z.2.1
  · rintro y3 σ3 ⟨ey3, es3⟩
    rw [e] at ey3
    rw [es3]
    have p5 : v (786 + 16 * n + 5) = 0 := by
      rcases ey2 with ⟨-, w⟩ | ⟨w, -⟩
      · exact w
      · rw [w] at q2; exact absurd (by decide) q2
    refine ⟨fun q3 => ⟨Or.inl rfl, _, rfl, Or.inr ⟨rfl, fun z => ?_⟩, rfl⟩, fun q3 => ⟨Or.inr rfl, _, rfl, Or.inl ⟨rfl, Classical.not_not.mp q, p5, ?_⟩, rfl⟩⟩
    · rcases ey3 with ⟨w, -⟩ | ⟨-, w⟩
      · exact q3 w
      · exact w ((v6_iff hj hn).mpr z.2.2)
    · rcases ey3 with ⟨-, w⟩ | ⟨w, -⟩
      · exact (v6_iff hj hn).mp w
      · rw [w] at q3; exact absurd (by decide) q3
theorem e_isLoose2 {b : Int32} {n : Nat} (hb : b.toInt = n) (hn : n < 96) (σ : sm_S) : xC xD j_B_isLoose [.ref 8, .int b] σ (sm_I (fun x σ' => ((x = 1 ∧ σ 13 n = 0 ∧ σ 14 n = -1) ∨ (x = 0 ∧ ¬ (σ 13 n = 0 ∧ σ 14 n = -1))) ∧ σ' = σ)) := by
  refine d_B_isLoose b σ _ ?_
  rw [t_nat hb]
  refine ⟨t_vp hb hn, fun q => ⟨Or.inl rfl, _, rfl, Or.inr ⟨rfl, fun z => q z.1⟩, rfl⟩, fun q => ⟨t_vp hb hn, fun q2 => ⟨Or.inl rfl, _, rfl, Or.inr ⟨rfl, fun z => q2 z.2⟩, rfl⟩, fun q2 => ⟨Or.inr rfl, _, rfl, Or.inl ⟨rfl, Classical.not_not.mp q, Classical.not_not.mp q2⟩, rfl⟩⟩⟩
theorem e_has2 (b : Int32) (σ : sm_S) : xC xD j_B_has [.ref 8, .int b] σ (sm_I (fun x σ' => ((x = 1 ∧ ∃ n : Nat, n < 96 ∧ b.toInt = n ∧ σ 9 n ≠ -1) ∨ (x = 0 ∧ ((b.toInt < 0 ∨ 96 ≤ b.toInt) ∨ ∃ n : Nat, n < 96 ∧ b.toInt = n ∧ σ 9 n = -1))) ∧ σ' = σ)) := by
  refine d_B_has b σ _ ⟨fun q => ⟨Or.inl rfl, _, rfl, Or.inr ⟨rfl, Or.inl (Or.inl ?_)⟩, rfl⟩, fun q => ⟨fun q2 => ⟨Or.inl rfl, _, rfl, Or.inr ⟨rfl, Or.inl (Or.inr ?_)⟩, rfl⟩, fun q2 => ?_⟩⟩
  · rw [t_lt] at q; exact q
  · rw [t_le] at q2; exact q2
  · rw [t_lt] at q
    rw [t_le] at q2
    have q : ¬ b.toInt < (0 : Int) := q
    have q2 : ¬ (96 : Int) ≤ b.toInt := q2
    obtain ⟨n, hn⟩ := t_of (x := b) (by omega)
    have h96 : n < 96 := by omega
    rw [t_nat hn]
    exact ⟨t_vp hn h96, fun z => ⟨Or.inl rfl, _, rfl, Or.inr ⟨rfl, Or.inr ⟨n, h96, hn, z⟩⟩, rfl⟩, fun z => ⟨Or.inr rfl, _, rfl, Or.inl ⟨rfl, n, h96, hn, z⟩, rfl⟩⟩
/-- has | isBlock -/
theorem p_has {c : sm_S} {v : Nat → Int32} (b : Int32) (h : sim0 c v) : ∃ x : Int32, rdI j_M_isBlock [.ref 0, .int b] v x v ∧ xC xD j_B_has [.ref 8, .int b] c (sm_I (fun y σ' => y = x ∧ σ' = c)) ∧ ((x = 1 ∧ ∃ n : Nat, n < 96 ∧ b.toInt = n ∧ v (786 + 16 * n + 0) = 1) ∨ (x = 0 ∧ ∀ n : Nat, n < 96 → b.toInt = n → v (786 + 16 * n + 0) = 0)) := by
  obtain ⟨x, hx, rx⟩ := pick (e_has2 b c)
  refine ⟨x, fun σ e => (c_isBlock b σ).mono ?_, rx, ?_⟩
  · rintro r σ' ⟨y, rfl, hy, rfl⟩
    rw [e] at hy
    refine ⟨y, rfl, ?_, by rw [← e, s_id]⟩
    rcases hx with ⟨x1, n, n1, n2, n3⟩ | ⟨x0, hx⟩
    · rcases hy with ⟨y1, -⟩ | ⟨y0, hy⟩
      · rw [x1, y1]
      · rcases hy with hy | ⟨m, m1, m2, m3⟩
        · omega
        · have : m = n := by omega
          subst this
          exact absurd ((h.B m m1).one (fun z => n3 ((h.B m m1).iff.mpr z))) m3
    · rcases hy with ⟨y1, m, m1, m2, m3⟩ | ⟨y0, -⟩
      · rcases hx with hx | ⟨n, n1, n2, n3⟩
        · omega
        · have : m = n := by omega
          subst this
          have := (h.B m m1).iff.mp n3
          rw [show 786 + 16 * m + 0 = 786 + 16 * m from rfl, m3] at this
          exact absurd this (by decide)
      · rw [x0, y0]
  · rcases hx with ⟨x1, n, n1, n2, n3⟩ | ⟨x0, hx⟩
    · exact Or.inl ⟨x1, n, n1, n2, (h.B n n1).one (fun z => n3 ((h.B n n1).iff.mpr z))⟩
    · refine Or.inr ⟨x0, fun m m1 m2 => ?_⟩
      rcases hx with hx | ⟨n, n1, n2, n3⟩
      · omega
      · have : m = n := by omega
        subst this
        exact (h.B m m1).iff.mp n3
theorem c_spanOf2 {f : Int32} {n : Nat} (hf : f.toInt = n) (σ : sm_S) : xC xM j_M_spanOf [.ref 0, .int f] σ (sm_I (fun x σ' => x.toInt = ((n / 32 : Nat) : Int) ∧ σ' = σ)) := by
  refine w_M_spanOf f σ _ ⟨by decide, _, rfl, t_div hf (b := 32) rfl (by decide), rfl⟩
/-- nearerPlace, and what the reference asks in its place: block n of task w -/
theorem p_near {g : Prop} {N n fr o w : Nat} {c : sm_S} {v : Nat → Int32} {a1 a3 : Int32} (h : tie g N c v) (hj : jj N v) (hx : jx v) (h3 : a3.toInt = n) (hn : n < 96) (h0 : v (786 + 16 * n + 0) = 1) (e1 : (v (786 + 16 * n + 1)).toInt = fr) (e2 : (v (786 + 16 * n + 2)).toInt = o) (e4 : v (786 + 16 * n + 4) = a1) (h1 : a1.toInt = w) (hw : w < 6) : ∃ x : Int32, xC xD j_Y_nearerPlace [.ref 0, .int a3] c (sm_I (fun y σ' => y = x ∧ σ' = c)) ∧ (∀ (σ : sm_S) (a2 : Int32) (v4 : Value) (Q : Option Value → sm_S → Prop), σ 1 = v → (x = -1 → ∀ u, xE xM m_M_gather 19 [.ref 0, .int a1, .int a2, .int (a3 + 1), u] [] σ Q) → (x ≠ -1 → xC xM j_M_movesTo [.ref 0, .int a3, .int x] σ (sm_rv False (fun σ27 => xE xM m_M_gather 19 [.ref 0, .int a1, .int (a2 + 1), .int (a3 + 1), .int x] [] σ27 Q))) → xE xM m_M_gather 19 [.ref 0, .int a1, .int a2, .int a3, v4] [] σ Q) ∧ (x ≠ -1 → ∃ p : Nat, x.toInt = p ∧ p < 256 ∧ p % 2 ^ o = 0 ∧ (∀ f, p ≤ f → f < p + 2 ^ o → v (18 + 3 * f) = 1) ∧ v (786 + 16 * n + 6) = 0 ∧ v (2358 + 8 * (fr / 32) + 0) = 1) := by
  obtain ⟨o', fr', b1, ho, b3, hfr, hal, -⟩ := hj.2.1.1 n hn
  have eo : o' = o := by omega
  have ef : fr' = fr := by omega
  subst eo ef
  obtain ⟨gb, gb9⟩ := (h.s.B n hn).al h0
  have c9 : (c 9 n).toInt = fr' := by rw [← gb.fir]; exact e1
  have c10 : (c 10 n).toInt = o' := by rw [← gb.ord]; exact e2
  have c12 : c 12 n = a1 := by rw [← gb.own]; exact e4
  have gs := h.s.S (fr' / 32) (by omega)
  have vx := t_vp h3 hn
  have i32 : (c 9 n / (32 : Int32)).toInt = ((fr' / 32 : Nat) : Int) := t_div c9 (b := 32) rfl (by decide)
  -- the reference up to the looseness
  have rb : rdI j_M_isBlock [.ref 0, .int a3] v 1 v := fun σ e => (c_isBlock a3 σ).mono (by
    rintro r σ' ⟨y, rfl, hy, rfl⟩
    rw [e] at hy
    refine ⟨y, rfl, ?_, by rw [← e, s_id]⟩
    rcases hy with ⟨y1, -⟩ | ⟨y0, hy | ⟨m, m1, m2, m3⟩⟩
    · exact y1
    · omega
    · have : m = n := by omega
      subst this
      exact absurd h0 m3)
  have up1 : ∀ (σ : sm_S) (a2 : Int32) (v4 : Value) (Q : Option Value → sm_S → Prop), σ 1 = v → (¬ (v (786 + 16 * n + 3) = 0 ∧ v (786 + 16 * n + 5) = 0 ∧ v (786 + 16 * n + 6) = 0) → xE xM m_M_gather 19 [.ref 0, .int a1, .int a2, .int (a3 + 1), v4] [] σ Q) → ((v (786 + 16 * n + 3) = 0 ∧ v (786 + 16 * n + 5) = 0 ∧ v (786 + 16 * n + 6) = 0) → ((v (2358 + 8 * (fr' / 32)) = 1 → xC xM j_M_of [.ref 0, .int a3, .int 2] σ (sm_ri False (fun x14 σ13 => xC xM j_M_bestPlace [.ref 0, .int a1, .int 0, .int x14, .int 1] σ13 (sm_ri False (fun x16 σ15 => ((x16 = (-1) → xE xM m_M_gather 19 [.ref 0, .int a1, .int a2, .int (a3 + 1), .int x16] [] σ15 Q) ∧ (¬ (x16 = (-1)) → xC xM j_M_spanOf [.ref 0, .int x16] σ15 (sm_ri False (fun x18 σ17 => xC xM j_M_rankOf [.ref 0, .int x18, .int 0, .int a1] σ17 (sm_ri False (fun x20 σ19 => xC xM j_M_frameOf [.ref 0, .int a3] σ19 (sm_ri False (fun x22 σ21 => xC xM j_M_spanOf [.ref 0, .int x22] σ21 (sm_ri False (fun x24 σ23 => xC xM j_M_rankOf [.ref 0, .int x24, .int 0, .int a1] σ23 (sm_ri False (fun x26 σ25 => ((x20 < x26 → xC xM j_M_movesTo [.ref 0, .int a3, .int x16] σ25 (sm_rv False (fun σ27 => xE xM m_M_gather 19 [.ref 0, .int a1, .int (a2 + 1), .int (a3 + 1), .int x16] [] σ27 Q))) ∧ (¬ (x20 < x26) → xE xM m_M_gather 19 [.ref 0, .int a1, .int a2, .int (a3 + 1), .int x16] [] σ25 Q))))))))))))))))))) ∧ (¬ v (2358 + 8 * (fr' / 32)) = 1 → xE xM m_M_gather 19 [.ref 0, .int a1, .int a2, .int (a3 + 1), v4] [] σ Q))) → xE xM m_M_gather 19 [.ref 0, .int a1, .int a2, .int a3, v4] [] σ Q := fun σ a2 v4 Q e k1 k2 => by
    refine w_M_gather_19 a1 a2 a3 v4 σ Q ⟨fun z => ?_, fun _ => (rb σ e).int ?_⟩
    · rw [t_le, h3] at z
      have z : (96 : Int) ≤ n := z
      omega
    · rintro y σ1 ⟨ey, es⟩
      have es' : σ1 = σ := by rw [es, ← e, s_id]
      rw [ey, es']
      refine ⟨fun z => absurd z (by decide), fun _ => (c_of (k := 4) (j := 4) h3 rfl (by omega) σ).int ?_⟩
      rintro y2 σ2 ⟨ey2, es2⟩
      rw [ey2, es2, e, e4]
      refine ⟨fun z => absurd rfl z, fun _ => (r_loose hj h3 hn σ e).int ?_⟩
      rintro y3 σ3 ⟨ey3, es3⟩
      rw [es3]
      refine ⟨fun z => ?_, fun z => ?_⟩
      · rcases ey3 with ⟨w1, -⟩ | ⟨-, w1⟩
        · rw [w1] at z; exact absurd z (by decide)
        · exact k1 w1
      · have w1 : v (786 + 16 * n + 3) = 0 ∧ v (786 + 16 * n + 5) = 0 ∧ v (786 + 16 * n + 6) = 0 := by
          rcases ey3 with ⟨-, w1⟩ | ⟨w0, -⟩
          · exact w1
          · exact absurd w0 z
        refine (c_frameOf h3 hn σ).int ?_
        rintro y4 σ4 ⟨ey4, es4⟩
        rw [ey4, es4, e]
        refine (c_spanOf2 e1 σ).int ?_
        rintro y5 σ5 ⟨ey5, es5⟩
        rw [es5]
        refine (c_spanState ey5 (by omega) σ).int ?_
        rintro y6 σ6 ⟨ey6, es6⟩
        rw [ey6, es6, e]
        exact k2 w1
  by_cases lo : v (786 + 16 * n + 3) = 0 ∧ v (786 + 16 * n + 5) = 0 ∧ v (786 + 16 * n + 6) = 0
  · have upC : ∀ {Q : Option Value → sm_S → Prop}, (((c 18 (fr' / 32)) = 1 → (vp_in a3 96 ∧ (vp_in a3 96 ∧ xC xD j_Y_bestPlace [.ref 0, .int (c 12 n), .int 0, .int (c 10 n), .int 1] c (sm_ri False (fun x4 σ3 => ((x4 ≠ (-1) → (vp_in (c 12 n) 6 ∧ (¬ (32 : Int32) = 0 ∧ xC xD j_Y_rank [.ref 0, .int (x4 / (32 : Int32)), .int 0, .int (σ3 27 (c 12 n).toNatClampNeg)] σ3 (sm_ri False (fun x6 σ5 => xC xD j_Y_rank [.ref 0, .int ((c 9 n) / (32 : Int32)), .int 0, .int (σ3 27 (c 12 n).toNatClampNeg)] σ5 (sm_ri False (fun x8 σ7 => ((x8 ≤ x6 → (((0 : Int32) = 0 → Q (some (.int (-1))) σ7) ∧ (¬ ((0 : Int32) = 0) → Q (some (.int x4)) σ7))) ∧ (¬ (x8 ≤ x6) → (((1 : Int32) = 0 → Q (some (.int (-1))) σ7) ∧ (¬ ((1 : Int32) = 0) → Q (some (.int x4)) σ7))))))))))) ∧ (¬ (x4 ≠ (-1)) → Q (some (.int (-1))) σ3))))))) ∧ (¬ ((c 18 (fr' / 32)) = 1) → Q (some (.int (-1))) c)) → xC xD j_Y_nearerPlace [.ref 0, .int a3] c Q := fun {Q} hQ => by
      refine d_Y_nearerPlace a3 c Q ?_
      rw [t_nat h3]
      refine ⟨vx, by decide, vx, fun z => absurd (gb.kin.symm.trans lo.1) z, fun _ => (e_isLoose2 h3 hn c).int ?_⟩
      rintro y σ1 ⟨ey, es⟩
      rw [es]
      refine ⟨fun z => ?_, fun _ => ?_⟩
      · rcases ey with ⟨w1, -⟩ | ⟨-, w1⟩
        · rw [w1] at z; exact absurd z (by decide)
        · exact absurd ⟨gb.pin.symm.trans lo.2.1, (c14_iff gb).mpr lo.2.2⟩ w1
      · rw [t_nat i32]
        exact ⟨t_vp i32 (by omega), hQ⟩
    have st : v (2358 + 8 * (fr' / 32)) = c 18 (fr' / 32) := gs.sta
    by_cases on : c 18 (fr' / 32) = 1
    · obtain ⟨y, ry, rcy, hBP⟩ := p_best (a1 := a1) (a2 := 0) (a3 := c 10 n) (a4 := 1) h.s hx h1 hw c10 ho
      have hom : c 27 w = v (2322 + 6 * w) := (h.s.T w hw).hom.symm
      by_cases ym : y = -1
      · refine ⟨-1, upC ⟨fun _ => ⟨vx, vx, ?_⟩, fun z => absurd on z⟩, fun σ a2 v4 Q e k1 k2 => ?_, fun z => absurd rfl z⟩
        · rw [c12]
          refine rcy.int ?_
          rintro y1 σ1 ⟨ey1, es1⟩
          rw [ey1, es1]
          exact ⟨fun z => absurd ym z, fun _ => ⟨_, rfl, rfl, rfl⟩⟩
        · refine up1 σ a2 v4 Q e (fun z => absurd lo z) (fun _ => ⟨fun _ => (c_of (k := 2) (j := 2) h3 rfl (by omega) σ).int ?_, fun z => absurd (st.trans on) z⟩)
          rintro y1 σ1 ⟨ey1, es1⟩
          rw [ey1, es1, e, gb.ord]
          refine (ry σ e).int ?_
          rintro y2 σ2 ⟨ey2, es2⟩
          have es2' : σ2 = σ := by rw [es2, ← e, s_id]
          rw [ey2, es2']
          exact ⟨fun _ => k1 rfl _, fun z => absurd ym z⟩
      · rcases hBP with ⟨z, -⟩ | ⟨p, hp, ⟨hp2, hpa, -, hon, hfree⟩, -⟩
        · exact absurd z ym
        · have ip : (y / (32 : Int32)).toInt = ((p / 32 : Nat) : Int) := t_div hp (b := 32) rfl (by decide)
          have onp : v (2358 + 8 * (p / 32) + 0) = 1 := by
            rcases hon with z | z
            · exact absurd z (by decide)
            · exact z
          have rk1 : rkc (c 27 w) 0 (c 19 (p / 32)) (p / 32) = rkf (v (2322 + 6 * w)) 0 (zV v (p / 32)) (p / 32) := sim_rk (m := w) 0 h.s hx (by omega) hw (by rw [onp]; decide)
          have rk2 : rkc (c 27 w) 0 (c 19 (fr' / 32)) (fr' / 32) = rkf (v (2322 + 6 * w)) 0 (zV v (fr' / 32)) (fr' / 32) := sim_rk (m := w) 0 h.s hx (by omega) hw (by rw [gs.sta, on]; decide)
          have iw : (c 12 n).toInt = w := by rw [c12]; exact h1
          refine ⟨if rkf (v (2322 + 6 * w)) 0 (zV v (fr' / 32)) (fr' / 32) ≤ rkf (v (2322 + 6 * w)) 0 (zV v (p / 32)) (p / 32) then -1 else y, upC ⟨fun _ => ⟨vx, vx, ?_⟩, fun z => absurd on z⟩, fun σ a2 v4 Q e k1 k2 => ?_, fun z => ?_⟩
          · rw [c12]
            refine rcy.int ?_
            rintro y1 σ1 ⟨ey1, es1⟩
            rw [ey1, es1]
            refine ⟨fun _ => ⟨t_vp h1 hw, by decide, (e_rank2 ip (by omega) _ _ c).int ?_⟩, fun z => absurd ym z⟩
            rintro y2 σ2 ⟨ey2, es2⟩
            rw [es2]
            refine (e_rank2 i32 (by omega) _ _ c).int ?_
            rintro y3 σ3 ⟨ey3, es3⟩
            rw [es3, ey2, ey3, t_nat h1, rk1, rk2]
            refine ⟨fun z => ⟨fun _ => ⟨_, rfl, by rw [if_pos z], rfl⟩, fun w1 => absurd rfl w1⟩, fun z => ⟨fun w1 => absurd w1 (by decide), fun _ => ⟨_, rfl, by rw [if_neg z], rfl⟩⟩⟩
          · refine up1 σ a2 v4 Q e (fun z => absurd lo z) (fun _ => ⟨fun _ => (c_of (k := 2) (j := 2) h3 rfl (by omega) σ).int ?_, fun z => absurd (st.trans on) z⟩)
            rintro y1 σ1 ⟨ey1, es1⟩
            rw [ey1, es1, e, gb.ord]
            refine (ry σ e).int ?_
            rintro y2 σ2 ⟨ey2, es2⟩
            have es2' : σ2 = σ := by rw [es2, ← e, s_id]
            rw [ey2, es2']
            refine ⟨fun z => absurd z ym, fun _ => (c_spanOf2 hp σ).int ?_⟩
            rintro y3 σ3 ⟨ey3, es3⟩
            rw [es3]
            refine (c_rankOf2 ey3 (by omega) h1 hw σ).int ?_
            rintro y4 σ4 ⟨ey4, es4⟩
            rw [es4]
            refine (c_frameOf h3 hn σ).int ?_
            rintro y5 σ5 ⟨ey5, es5⟩
            rw [es5, ey5, e]
            refine (c_spanOf2 e1 σ).int ?_
            rintro y6 σ6 ⟨ey6, es6⟩
            rw [es6]
            refine (c_rankOf2 ey6 (by omega) h1 hw σ).int ?_
            rintro y7 σ7 ⟨ey7, es7⟩
            rw [es7, ey4, ey7, e]
            by_cases z : rkf (v (2322 + 6 * w)) 0 (zV v (fr' / 32)) (fr' / 32) ≤ rkf (v (2322 + 6 * w)) 0 (zV v (p / 32)) (p / 32)
            · rw [if_pos z] at k1 k2
              refine ⟨fun q => ?_, fun _ => k1 rfl _⟩
              rw [t_le] at z
              rw [t_lt] at q
              omega
            · rw [if_neg z] at k1 k2
              refine ⟨fun _ => k2 ym, fun q => absurd ?_ q⟩
              rw [t_le] at z
              rw [t_lt]
              omega
          · by_cases q : rkf (v (2322 + 6 * w)) 0 (zV v (fr' / 32)) (fr' / 32) ≤ rkf (v (2322 + 6 * w)) 0 (zV v (p / 32)) (p / 32)
            · rw [if_pos q] at z
              exact absurd rfl z
            · rw [if_neg q]
              refine ⟨p, hp, hp2, hpa, fun f f1 f2 => ?_, lo.2.2, st.trans on⟩
              have := hfree (f - p) (by omega)
              rw [al_pow hpa, show p + (f - p) = f by omega] at this
              exact this
    · refine ⟨-1, upC ⟨fun z => absurd z on, fun _ => ⟨_, rfl, rfl, rfl⟩⟩, fun σ a2 v4 Q e k1 k2 => ?_, fun z => absurd rfl z⟩
      exact up1 σ a2 v4 Q e (fun z => absurd lo z) (fun _ => ⟨fun z => absurd (st.symm.trans z) on, fun _ => k1 rfl _⟩)
  · refine ⟨-1, ?_, fun σ a2 v4 Q e k1 k2 => up1 σ a2 v4 Q e (fun _ => k1 rfl _) (fun z => absurd z lo), fun z => absurd rfl z⟩
    refine d_Y_nearerPlace a3 c _ ?_
    rw [t_nat h3]
    refine ⟨vx, by decide, vx, fun _ => ⟨_, rfl, rfl, rfl⟩, fun z => (e_isLoose2 h3 hn c).int ?_⟩
    rintro y σ1 ⟨ey, es⟩
    rw [es]
    refine ⟨fun _ => ⟨_, rfl, rfl, rfl⟩, fun q => ?_⟩
    rcases ey with ⟨-, w1, w2⟩ | ⟨w0, -⟩
    · exact absurd ⟨gb.kin.trans (Classical.not_not.mp z), gb.pin.trans w1, (c14_iff gb).mp w2⟩ lo
    · exact absurd w0 q
theorem l_gather2 {g : Prop} {w : Nat} {a1 : Int32} (h1 : a1.toInt = w) (hw : w < 6) : ∀ (d k N : Nat) (a2 a3 : Int32) (c : sm_S) (v : Nat → Int32), tie g N c v → jj N v → jx v → a3.toInt = k → k + d = 96 → ∃ v' c' y, (∀ (σ : sm_S) (v4 : Value), σ 1 = v → xE xM m_M_gather 19 [.ref 0, .int a1, .int a2, .int a3, v4] [] σ (sm_I (fun x σ' => x = y ∧ σ' = sm_set σ 1 v'))) ∧ (∀ v4 : Value, xE xD m_Y_bringNearer 4 [.ref 0, .int a1, .int a2, .int a3, v4] [] c (sm_I (fun x σ' => x = y ∧ σ' = c'))) ∧ tie g N c' v' ∧ jj N v' ∧ jx v' := by
  intro d
  induction d with
  | zero =>
    intro k N a2 a3 c v h hj hx h3 hk
    have q96 : (96 : Int32) ≤ a3 := by
      rw [t_le, h3]
      show (96 : Int) ≤ _
      omega
    exact ⟨v, c, a2, fun σ v4 e => w_M_gather_19 a1 a2 a3 v4 σ _ ⟨fun _ => ⟨_, rfl, rfl, by rw [← e, s_id]⟩, fun z => absurd q96 z⟩, fun v4 => d_Y_bringNearer_4 a1 a2 a3 v4 c _ ⟨fun _ => ⟨_, rfl, rfl, rfl⟩, fun z => absurd q96 z⟩, h, hj, hx⟩
  | succ d ih =>
    intro k N a2 a3 c v h hj hx h3 hk
    have n96 : ¬ (96 : Int32) ≤ a3 := by
      rw [t_le, h3]
      show ¬ (96 : Int) ≤ _
      omega
    have hn : k < 96 := by omega
    have h3' : (a3 + 1).toInt = ((k + 1 : Nat) : Int) := by
      rw [t_add h3 (y := 1) rfl (by omega) (by omega)]
      omega
    obtain ⟨x, rx, rcx, hxx⟩ := p_has a3 h.s
    rcases hxx with ⟨x1, n, n1, n2, h0⟩ | ⟨x0, hno⟩
    · have en : n = k := by omega
      subst en
      obtain ⟨o, fr, b1, ho, b3, hfr, hal, -⟩ := hj.2.1.1 n hn
      obtain ⟨gb, -⟩ := (h.s.B n hn).al h0
      by_cases ow : v (786 + 16 * n + 4) = a1
      · obtain ⟨y, rcy, ref, hy⟩ := p_near h hj hx h3 hn h0 b3 b1 ow h1 hw
        have upC : ∀ {Q : Option Value → sm_S → Prop} (v4 : Value), ((y = (-1) → xE xD m_Y_bringNearer 4 [.ref 0, .int a1, .int a2, .int (a3 + 1), .int y] [] c Q) ∧ (¬ (y = (-1)) → xC xD j_Y_moveAtOnce [.ref 0, .int a3, .int y] c (sm_rv False (fun σ7 => xE xD m_Y_bringNearer 4 [.ref 0, .int a1, .int (a2 + 1), .int (a3 + 1), .int y] [] σ7 Q)))) → xE xD m_Y_bringNearer 4 [.ref 0, .int a1, .int a2, .int a3, v4] [] c Q := fun {Q} v4 hQ => by
          refine d_Y_bringNearer_4 a1 a2 a3 v4 c Q ⟨fun z => absurd z n96, fun _ => rcx.int ?_⟩
          rintro y1 σ1 ⟨ey1, es1⟩
          rw [ey1, es1]
          refine ⟨fun z => ?_, fun _ => ⟨t_vp h3 hn, fun z => ?_, fun _ => rcy.int ?_⟩⟩
          · rw [x1] at z; exact absurd z (by decide)
          · rw [t_nat h3, ← gb.own] at z
            exact absurd ow z
          · rintro y2 σ2 ⟨ey2, es2⟩
            rw [ey2, es2]
            exact hQ
        by_cases ym : y = -1
        · obtain ⟨v', c', y', qr, qc, t', j', x'⟩ := ih (n + 1) N a2 (a3 + 1) c v h hj hx h3' (by omega)
          exact ⟨v', c', y', fun σ v4 e => ref σ a2 v4 _ e (fun _ u => qr σ u e) (fun z => absurd ym z), fun v4 => upC v4 ⟨fun _ => qc _, fun z => absurd ym z⟩, t', j', x'⟩
        · obtain ⟨p, hp, hp2, hpa, hfree, h6, hst⟩ := hy ym
          obtain ⟨c1, rr, rc, t1, j1, x1', -⟩ := p_move h hj hx h3 hn h0 b3 h6 b1 hst hp hp2 hpa hfree
          obtain ⟨v', c', y', qr, qc, t', j', x'⟩ := ih (n + 1) N (a2 + 1) (a3 + 1) c1 _ t1 j1 x1' h3' (by omega)
          refine ⟨v', c', y', fun σ v4 e => ref σ a2 v4 _ e (fun z => absurd z ym) (fun _ => (rr σ e).void ?_), fun v4 => upC v4 ⟨fun z => absurd z ym, fun _ => rc.void ?_⟩, t', j', x'⟩
          · rintro _ rfl
            have := qr _ (.int y) (s_at (σ := σ) (k := 1) (f := cnF (mwF v n fr p o (a3 + 1) y) 10 1))
            rw [s_ss] at this
            exact this
          · rintro _ rfl
            exact qc _
      · obtain ⟨v', c', y', qr, qc, t', j', x'⟩ := ih (n + 1) N a2 (a3 + 1) c v h hj hx h3' (by omega)
        refine ⟨v', c', y', fun σ v4 e => ?_, fun v4 => ?_, t', j', x'⟩
        · refine w_M_gather_19 a1 a2 a3 v4 σ _ ⟨fun z => absurd z n96, fun _ => (rx σ e).int ?_⟩
          rintro y1 σ1 ⟨ey1, es1⟩
          have es1' : σ1 = σ := by rw [es1, ← e, s_id]
          rw [ey1, es1']
          refine ⟨fun _ => qr σ v4 e, fun _ => (c_of (k := 4) (j := 4) h3 rfl (by omega) σ).int ?_⟩
          rintro y2 σ2 ⟨ey2, es2⟩
          rw [ey2, es2, e]
          exact ⟨fun _ => qr σ v4 e, fun z => absurd ow z⟩
        · refine d_Y_bringNearer_4 a1 a2 a3 v4 c _ ⟨fun z => absurd z n96, fun _ => rcx.int ?_⟩
          rintro y1 σ1 ⟨ey1, es1⟩
          rw [ey1, es1]
          refine ⟨fun _ => ⟨fun _ => qc _, fun z => absurd rfl z⟩, fun _ => ⟨t_vp h3 hn, fun _ => ⟨fun _ => qc _, fun z => absurd rfl z⟩, fun z => ?_⟩⟩
          rw [t_nat h3, ← gb.own] at z
          exact absurd ow z
    · obtain ⟨v', c', y', qr, qc, t', j', x'⟩ := ih (k + 1) N a2 (a3 + 1) c v h hj hx h3' (by omega)
      refine ⟨v', c', y', fun σ v4 e => ?_, fun v4 => ?_, t', j', x'⟩
      · refine w_M_gather_19 a1 a2 a3 v4 σ _ ⟨fun z => absurd z n96, fun _ => (rx σ e).int ?_⟩
        rintro y1 σ1 ⟨ey1, es1⟩
        have es1' : σ1 = σ := by rw [es1, ← e, s_id]
        rw [ey1, es1']
        exact ⟨fun _ => qr σ v4 e, fun z => absurd x0 z⟩
      · refine d_Y_bringNearer_4 a1 a2 a3 v4 c _ ⟨fun z => absurd z n96, fun _ => rcx.int ?_⟩
        rintro y1 σ1 ⟨ey1, es1⟩
        rw [ey1, es1]
        exact ⟨fun _ => ⟨fun _ => qc _, fun z => absurd rfl z⟩, fun z => absurd x0 z⟩
