/-! ===== the simulation: go, giveUp ===== -/
theorem p_off {g : Prop} {N s : Nat} {c : sm_S} {v : Nat → Int32} {a1 : Int32} (h : tie g N c v) (hj : jj N v) (hx : jx v) (hN : N + 7 < 2000000000) (h1 : a1.toInt = s) (hs : s < 8) (hg : c 18 s ≠ 0) : ∃ v' c' N', rd j_M_fails [.ref 0, .int a1, .int 3] v v' ∧ xC xD j_G_callOff [.ref 41, .int a1] c (sm_V (fun σ' => σ' = c')) ∧ tie g N' c' v' ∧ jj N' v' ∧ jx v' ∧ N' ≤ N + 7 := by
  have gs := h.s.S s hs
  have st0 : v (2358 + 8 * s + 0) ≠ 0 := by rw [gs.sta]; exact hg
  by_cases h6 : v (2358 + 8 * s + 6) = 0
  · obtain ⟨c', e1, t1, j1, -⟩ := p_fail 3 h hj (by omega) h1 hs h6 hg
    have c24 : c 24 s = -1 := by
      have z := gs.lea
      rw [h6] at z
      have z2 : c 24 s = (c 24 s + 1) - 1 := by rw [Int32.add_sub_cancel]
      rw [z2, ← z]
      rfl
    refine ⟨_, c', N + 1, r_fails h1 hs (r_stays0 h1 hs h6) h.n, ?_, t1, j1, jx_fl hx hs st0, by omega⟩
    refine d_G_callOff a1 c _ ⟨t_vp h1 hs, fun _ => e1.void ?_, fun q => absurd (by rw [t_nat h1]; exact c24) q⟩
    rintro _ rfl
    exact ⟨rfl, rfl⟩
  · obtain ⟨n, o, fr, to, hn, e6, h0, e2, ho, e1, hfr, hal, hfs, et, hto, halt, h3⟩ := way_of hj hs h6
    obtain ⟨L, h9⟩ := hj.L hn
    have hle := al_le ho hfr hal
    have hlt := al_le ho hto halt
    obtain ⟨hL6, hline⟩ := line_of hj hn e2 hle h9
    obtain ⟨p, hp, hp4⟩ := hj.pt (s := to / 32) (by omega)
    obtain ⟨gb, -⟩ := (h.s.B n hn).al h0
    have c24 : (c 24 s).toInt = n := m1_add (by rw [← gs.lea]; exact e6) (by omega)
    have c14 : (c 14 n).toInt = to := m1_add (by rw [← gb.tgt]; exact et) (by omega)
    have c10 : (c 10 n).toInt = o := by rw [← gb.ord]; exact e2
    have hpc : (c 20 (to / 32)).toInt = p := by rw [← (h.s.S (to / 32) (by omega)).par]; exact hp
    obtain ⟨x, hsb, sbr⟩ := pick (e_shutBits2 (a1 := c 14 n / (32 : Int32)) (n := to / 32) (t_div c14 (b := 32) rfl (by decide)) (by omega) c hpc hp4)
    have t1 : tie g N (ewC (lgC c to o x) n s) (rlF v n s to o) := by
      refine h.to (sim_rel h.s h.b hn hs h0 et e2 ho hto halt hp hsb) (fun k k1 k2 => ?_) (rlF_o (by omega) (by omega) (by omega) (by omega)) (fun i hi => rlF_o (by omega) (by omega) (by omega) (by omega)) (fun b hb => ?_)
      · unfold ewC
        rw [s_ne (by omega), s_ne (by omega), s_ne (by omega), lgC_o (by omega)]
      · obtain ⟨o1, f1, z1, z2, z3, z4, z5, ⟨w, z6, z6'⟩, ⟨q, z7, z7'⟩, z8⟩ := h.b b hb
        have rk : ∀ k, k < 16 → k ≠ 6 → k ≠ 7 → rlF v n s to o (786 + 16 * b + k) = v (786 + 16 * b + k) := fun k h1 h2 h3 => rlF_o (by omega) (by omega) (by omega) (by omega)
        by_cases e : b = n
        · subst e
          have r6 : rlF v b s to o (786 + 16 * b + 6) = 0 := by
            unfold rlF
            rw [u_ne (by omega), u_ne (by omega), u_at]
          have r7 : rlF v b s to o (786 + 16 * b + 7) = 0 := by
            unfold rlF
            rw [u_ne (by omega), u_at]
          exact ⟨o1, f1, by rw [rk 2 (by decide) (by decide) (by decide)]; exact z1, z2, by rw [rk 1 (by decide) (by decide) (by decide)]; exact z3, z4, z5, ⟨w, by rw [rk 4 (by decide) (by decide) (by decide)]; exact z6, z6'⟩, ⟨0, by rw [r6]; rfl, Or.inl rfl⟩, by rw [r7]; decide⟩
        · refine bk_cong (fun k k1 _ _ _ => rlF_o (by omega) (by omega) (by omega) (by omega)) (h.b b hb)
    have r9 : rlF v n s to o (786 + 16 * n + 9) = v (786 + 16 * n + 9) := rlF_o (by omega) (by omega) (by omega) (by omega)
    have lnE : lnV (rlF v n s to o) n L = lnV v n L := lnV_cg (fun k hk => rlF_o (by omega) (by omega) (by omega) (by omega))
    have hb24 := c24
    obtain ⟨v2, c2, rw2, rc2, t2, -, fx1, fx2⟩ := p_serve (b := c 24 s) (L := L) (fr := fr) t1 (by omega) hn c24 (by rw [r9]; exact h9) (by rw [rlF_o (by omega) (by omega) (by omega) (by omega)]; exact h0) (by rw [rlF_o (by omega) (by omega) (by omega) (by omega)]; exact e1) (fun t ht => by
      rw [lnE] at ht
      obtain ⟨m, a, r1, r2, r3, r4⟩ := hline t ht
      exact ⟨m, a, r1, r2, by rw [rlF_o (by omega) (by omega) (by omega) (by omega)]; exact r3, r4⟩)
    have rst : rd j_M_staysBack [.ref 0, .int a1] v v2 := fun σ e => by
      obtain ⟨p6, q6⟩ := ixS (k := 6) (j := 6) h1 rfl (by omega)
      refine w_M_staysBack a1 σ _ ((c_spanAt a1 σ).int ?_)
      rintro _ σ ⟨rfl, rfl⟩
      refine ⟨p6, ?_⟩
      rw [q6, e]
      have en : (v (2358 + 8 * s + 6) - 1).toInt = n := t_m1 e6 (by omega)
      have ecn : v (2358 + 8 * s + 6) - 1 = c 24 s := by
        rw [gs.lea, Int32.add_sub_cancel]
      refine ⟨fun _ => (c_of (k := 6) (j := 6) en rfl (by omega) σ).int ?_, fun q => absurd (ne_m1 en) q⟩
      rintro _ σ ⟨rfl, rfl⟩
      rw [e]
      have := l_stays2 h1 hs (a2 := v (2358 + 8 * s + 6) - 1) en hn (a3 := v (786 + 16 * n + 6) - 1) (t_m1 et (by omega)) ho hlt e2 (by rw [ecn]; exact rw2) (2 ^ o) 0 0 σ (by rw [lvF_0]; exact e) rfl (by omega)
      exact this
    obtain ⟨w, N', ew, jw, k1, k2, k3, k4⟩ := rst.det (c_staysBack (N := N) h1 hs (by omega) (rz v) (by rw [rz_at]; exact hj))
    rw [rz_eq ew] at jw k3
    have eN : N' = N + L := by have := t2.n; have := jw.2.2; omega
    subst eN
    have st2 : v2 (2358 + 8 * s + 0) = 3 := by
      rw [fx1 (2358 + 8 * s + 0) (Or.inr (Or.inr (Or.inr (Or.inr ⟨by omega, by omega⟩)))) (by omega), rlF_o (by omega) (by omega) (by omega) (by omega)]
      exact h3
    have lo : ∀ i, i < 4 → v2 i = v i := fun i i1 => by
      rw [fx1 i (Or.inl (Or.inl (by omega))) (by omega), rlF_o (by omega) (by omega) (by omega) (by omega)]
    have x2 : jx v2 := by
      refine hx.re (n := n) (fun b k q1 q2 q3 => ?_) (fun _ => ⟨fun _ => ?_, fun to2 fr2 o2 y1 _ _ => ?_⟩) (fun _ => ?_) (fun s' hs' z => ?_) (lo 0 (by omega)) (fun i i1 i2 => lo i i2)
      · rw [fx2 b k q1 (by omega) (by omega) (by omega), rlF_o (by omega) (by omega) (by omega) (by omega)]
      · rw [fx2 n 7 hn (by omega) (by omega) (by omega)]
        unfold rlF
        rw [u_ne (by omega), u_at]
      · rw [fx2 n 6 hn (by omega) (by omega) (by omega)] at y1
        have z : rlF v n s to o (786 + 16 * n + 6) = 0 := by
          unfold rlF
          rw [u_ne (by omega), u_ne (by omega), u_at]
        rw [z] at y1
        have y1 : (0 : Int) = _ := y1
        omega
      · rw [fx2 n 3 hn (by omega) (by omega) (by omega), rlF_o (by omega) (by omega) (by omega) (by omega)]
        exact hx.2.1 n hn h0
      · have w0 : v2 (2358 + 8 * s' + 0) = v (2358 + 8 * s' + 0) := by
          rw [fx1 (2358 + 8 * s' + 0) (Or.inr (Or.inr (Or.inr (Or.inr ⟨by omega, by omega⟩)))) (by omega), rlF_o (by omega) (by omega) (by omega) (by omega)]
        refine ⟨fun y => z (w0.trans y), ?_⟩
        rw [fx1 (2358 + 8 * s' + 1) (Or.inr (Or.inr (Or.inr (Or.inr ⟨by omega, by omega⟩)))) (by omega), rlF_o (by omega) (by omega) (by omega) (by omega)]
    obtain ⟨c', ec', t3, j3, -⟩ := p_fail (a1 := a1) 3 t2 jw (by omega) h1 hs k3 (by rw [← (t2.s.S s hs).sta, st2]; decide)
    refine ⟨_, c', N + L + 1, r_fails h1 hs rst t2.n, ?_, t3, j3, jx_fl x2 hs (by rw [st2]; decide), by omega⟩
    refine d_G_callOff a1 c _ ⟨t_vp h1 hs, fun q => ?_, fun _ => ?_⟩
    · rw [t_nat h1] at q
      exact absurd q (ne_m1 c24)
    · rw [t_nat h1, t_nat c24]
      refine ⟨t_vp c24 hn, (c_size c24 hn c).int ?_⟩
      rintro y1 σ1 ⟨ey1, es1⟩
      rw [ey1, es1]
      refine ⟨by decide, ?_⟩
      refine sbr.int ?_
      rintro y2 σ2 ⟨ey2, es2⟩
      rw [ey2, es2]
      refine (e_letGo2 c14 (t_pow c10 (by omega)) ho hlt x c).void ?_
      rintro _ rfl
      refine (e_endWay2 h1 hs c24 hn _).void ?_
      rintro _ rfl
      refine rc2.void ?_
      rintro _ rfl
      refine ec'.void ?_
      rintro _ rfl
      exact ⟨rfl, rfl⟩
theorem rp.jj {j N D : Nat} {as : List Value} {v u v' : Nat → Int32} {r : Int32} (h : rp j as v u r v') (h2 : ∀ σ : sm_S, σ 1 = v → xC xM j as σ (sm_I (pub N D σ))) : ∃ N', jj N' v' ∧ N ≤ N' ∧ N' ≤ N + D := by
  have e : sm_set (rz v) 4 u 1 = v := by rw [s_ne (by decide)]; exact rz_at v
  obtain ⟨M, -, n, r1, σ', -, ⟨y, h3, h4, h5, h6⟩, z, h7, w, N', h8, h9, h10, h11⟩ := (h (sm_set (rz v) 4 u) e s_at).and (h2 (sm_set (rz v) 4 u) e)
  have ew : v' = w := by rw [← h5, h8, s_at]
  rw [ew]
  exact ⟨N', h9, h10, h11⟩
theorem nwTP {g : Prop} {N j : Nat} {as : List Value} {σ : sm_S} {P : sm_S → Prop} {v' : Nat → Int32} (h : xC xD j as σ (sm_V P)) (t : ∀ c', P c' → tie g N c' v') : xC xF j as σ (sm_V (fun σ' => tie g N σ' v' ∧ ∀ a, 42 ≤ a → σ' a = σ a)) := by
  refine sm_C.mono (sm_cv_ids as ▸ x_up shDF h) ?_
  rintro r1 σ' ⟨r2, τ, rfl, ⟨rfl, hP⟩, hs, ho⟩
  exact ⟨rfl, (t τ hP).eq (eqT.st hs) (fun _ _ => rfl), fun a ha => off_out (n := 42) rfl ho (fun k hk z => by have z : k = a := z; omega)⟩
theorem e_isGoing2 {a1 : Int32} {n : Nat} (h1 : a1.toInt = n) (hn : n < 8) (σ : sm_S) : xC xD j_S_isGoing [.ref 17, .int a1] σ (sm_I (fun x σ' => isYes (σ 18 n = 2 ∨ σ 18 n = 3) x ∧ σ' = σ)) := by
  refine d_S_isGoing a1 σ _ ?_
  rw [t_nat h1]
  exact ⟨t_vp h1 hn, fun q => ⟨Or.inr rfl, _, rfl, Or.inl ⟨rfl, Or.inl q⟩, rfl⟩, fun q => ⟨t_vp h1 hn, fun q2 => ⟨Or.inl rfl, _, rfl, Or.inr ⟨rfl, fun z => z.elim q q2⟩, rfl⟩, fun q2 => ⟨Or.inr rfl, _, rfl, Or.inl ⟨rfl, Or.inr (Classical.not_not.mp q2)⟩, rfl⟩⟩⟩
theorem pr_giveUp {N : Nat} {σ : sm_S} (a1 : Int32) (h : tie True N σ (σ 169)) (hj : jj N (σ 169)) (hx : jx (σ 169)) (hN : N < 1998000000) : prC j_A_giveUp j_M_giveUp [.ref 42, .int a1] [.ref 0, .int a1] N σ := by
  by_cases k1 : 0 ≤ a1.toInt ∧ a1.toInt < 8
  · obtain ⟨s, hm⟩ := t_of k1.1
    have hs : s < 8 := by omega
    have gS := (h.s.S s hs).sta
    obtain ⟨st, pt, at', q, s1, s2, -⟩ := hj.2.1.2.2.1 s hs
    have lt2 : σ 169 (2358 + 8 * s + 0) < 2 ↔ st < 2 := by
      rw [t_lt, s1]
      show (st : Int) < (2 : Int) ↔ _
      omega
    have g23 : (σ 18 s = 2 ∨ σ 18 s = 3) ↔ 2 ≤ st := by
      rw [← gS]
      refine ⟨fun z => ?_, fun z => ?_⟩
      · rcases z with z | z
        · rw [z] at s1
          have s1 : (2 : Int) = _ := s1
          omega
        · rw [z] at s1
          have s1 : (3 : Int) = _ := s1
          omega
      · rcases (show st = 2 ∨ st = 3 by omega) with y | y
        · exact Or.inl (t_inj (by rw [s1, y]; rfl))
        · exact Or.inr (t_inj (by rw [s1, y]; rfl))
    by_cases go : 2 ≤ st
    · have ne0 : σ 18 s ≠ 0 := fun z => by
        rw [← gS] at z
        rw [z] at s1
        have s1 : (0 : Int) = _ := s1
        omega
      obtain ⟨v', c', N', ro, co, t', j', x', n'⟩ := p_off h hj hx (by omega) hm hs ne0
      refine ⟨1, v', N', by omega, j', x', ?_, fun σ2 e2 _ => ?_⟩
      · refine f_A_giveUp a1 σ _ ((nw0 (e_isSpanX a1 σ)).int ?_)
        rintro x2 σ1 ⟨hx2, es⟩
        rw [es]
        refine ⟨fun z => absurd k1 (hx2.b.1.mp z), fun _ => (nw0 (e_isGoing2 hm hs σ)).int ?_⟩
        rintro x3 σ3 ⟨hx3, es3⟩
        rw [es3]
        refine ⟨fun _ => (nwTV co t').void ?_, fun z => absurd (hx3.b.2.mpr (g23.mpr go)) z⟩
        rintro σ7 ⟨t7, o7⟩
        exact ⟨Or.inr rfl, _, rfl, rfl, t7, o7⟩
      · refine w_M_giveUp a1 σ2 _ (fun σ1 e1 => (c_isSpanX a1 σ1).int ?_)
        obtain ⟨f1, f5⟩ := told1 e2 e1
        rintro x2 σ3 ⟨hx2, es⟩
        rw [es]
        refine ⟨fun z => absurd k1 (hx2.b.1.mp z), fun _ => (c_isGoing hm hs σ1).int ?_⟩
        rintro x4 σ4 ⟨hx4, es4⟩
        rw [es4]
        rw [f1] at hx4
        have x41 : x4 = 1 := by
          rcases hx4 with ⟨-, w⟩ | ⟨w, -⟩
          · have := lt2.mp w
            omega
          · exact w
        refine ⟨fun _ => (ro σ1 f1).void ?_, fun z => absurd (by rw [x41]; decide) z⟩
        rintro σ7 es7
        exact ⟨Or.inr rfl, pubR f5 es7⟩
    · refine ⟨0, σ 169, N, by omega, hj, hx, ?_, fun σ2 e2 _ => ?_⟩
      · refine f_A_giveUp a1 σ _ ((nw0 (e_isSpanX a1 σ)).int ?_)
        rintro x2 σ1 ⟨hx2, es⟩
        rw [es]
        refine ⟨fun z => absurd k1 (hx2.b.1.mp z), fun _ => (nw0 (e_isGoing2 hm hs σ)).int ?_⟩
        rintro x3 σ3 ⟨hx3, es3⟩
        rw [es3]
        exact ⟨fun z => absurd (g23.mp (hx3.b.2.mp z)) go, fun _ => ⟨Or.inl rfl, sameC h⟩⟩
      · refine w_M_giveUp a1 σ2 _ (fun σ1 e1 => (c_isSpanX a1 σ1).int ?_)
        obtain ⟨f1, f5⟩ := told1 e2 e1
        rintro x2 σ3 ⟨hx2, es⟩
        rw [es]
        refine ⟨fun z => absurd k1 (hx2.b.1.mp z), fun _ => (c_isGoing hm hs σ1).int ?_⟩
        rintro x4 σ4 ⟨hx4, es4⟩
        rw [es4]
        rw [f1] at hx4
        have x40 : x4 = 0 := by
          rcases hx4 with ⟨w, -⟩ | ⟨-, w⟩
          · exact w
          · exact absurd (lt2.mpr (by omega)) w
        exact ⟨fun z => absurd x40 z, fun _ => ⟨Or.inl rfl, sameR e2 e1⟩⟩
  · refine ⟨0, σ 169, N, by omega, hj, hx, ?_, fun σ2 e2 _ => ?_⟩
    · refine f_A_giveUp a1 σ _ ((nw0 (e_isSpanX a1 σ)).int ?_)
      rintro x2 σ1 ⟨hx2, es⟩
      rw [es]
      exact ⟨fun _ => ⟨Or.inl rfl, sameC h⟩, fun z => absurd (hx2.b.2.mp z) k1⟩
    · refine w_M_giveUp a1 σ2 _ (fun σ1 e1 => (c_isSpanX a1 σ1).int ?_)
      rintro x2 σ3 ⟨hx2, es⟩
      rw [es]
      exact ⟨fun _ => ⟨Or.inl rfl, sameR e2 e1⟩, fun z => absurd (hx2.b.2.mp z) k1⟩
theorem pr_go {N : Nat} {σ : sm_S} (a1 : Int32) (h : tie True N σ (σ 169)) (hj : jj N (σ 169)) (hx : jx (σ 169)) (hN : N < 1998000000) : prC j_A_go j_M_go [.ref 42, .int a1] [.ref 0, .int a1] N σ := by
  by_cases k1 : 0 ≤ a1.toInt ∧ a1.toInt < 8
  · obtain ⟨s, hm⟩ := t_of k1.1
    have hs : s < 8 := by omega
    have gS := (h.s.S s hs).sta
    obtain ⟨x, rx, cx, hxx⟩ := p_canGo h.s hm hs
    rcases hxx with ⟨x1, on⟩ | x0
    · obtain ⟨nl, hnl, h5l, t1⟩ := (h.to (sim_beg h.s h.b hs on) (fun k k1 k2 => s_ne (by omega)) (by unfold bgF; rw [u_ne (by omega), u_ne (by omega), u_ne (by omega), u_ne (by omega), u_ne (by omega), u_ne (by omega)]) (fun i hi => by unfold bgF; rw [u_ne (by omega), u_ne (by omega), u_ne (by omega), u_ne (by omega), u_ne (by omega), u_ne (by omega)]) (fun b hb => bk_cong (fun k _ _ _ _ => by unfold bgF; rw [u_ne (by omega), u_ne (by omega), u_ne (by omega), u_ne (by omega), u_ne (by omega), u_ne (by omega)]) (h.b b hb))).log (by omega) 0 a1 (a1 - a1 / (2 : Int32) * (2 : Int32))
      have h5' : (σ 34 5).toInt = nl := h5l
      have co := e_Gbegin2 hm hs σ h5' hnl
      have R : rp j_M_go [.ref 0, .int a1] (σ 169) (σ 172) 1 (wrF (bgF (σ 169) s) N 0 a1 (a1 - a1 / (2 : Int32) * (2 : Int32))) := fun σ2 e2 _ => by
        refine w_M_go a1 σ2 _ (fun σ1 e1 => ?_)
        obtain ⟨f1, f5⟩ := told1 e2 e1
        refine (rx.s f1).int ?_
        rintro y1 σ3 ⟨ey1, es3⟩
        rw [ey1, es3, x1]
        refine ⟨fun _ => (c_beginsToGo2 hm hs σ1 (by rw [f1]; exact h.n)).void ?_, fun z => absurd (by decide) z⟩
        rintro σ7 es7
        rw [f1] at es7
        exact ⟨Or.inr rfl, pubR f5 es7⟩
      obtain ⟨N', j', -, n2⟩ := R.jj (N := N) (D := 1) (fun σ2 e2 => c_go a1 σ2 (by rw [e2]; exact hj) (by omega))
      have eN : N' = N + 1 := by
        have w1 := j'.2.2
        have w2 := t1.n
        omega
      rw [eN] at j'
      refine ⟨1, _, N + 1, by omega, j', ?_, ?_, R⟩
      · have old : ∀ i, i < 2422 → i ≠ 5 → (i < 2358 + 8 * s ∨ i = 2358 + 8 * s + 1 ∨ 2358 + 8 * s + 7 ≤ i) → wrF (bgF (σ 169) s) N 0 a1 (a1 - a1 / (2 : Int32) * (2 : Int32)) i = σ 169 i := fun i i1 i2 i3 => by
          rw [wrF_lo i1 i2]
          unfold bgF
          rw [u_ne (by omega), u_ne (by omega), u_ne (by omega), u_ne (by omega), u_ne (by omega), u_ne (by omega)]
        refine hx.cg (fun b k hb hk => old _ (by omega) (by omega) (by omega)) (fun s' hs' z => ⟨?_, ?_⟩) (old 0 (by omega) (by omega) (by omega)) (fun i i1 i2 => old i (by omega) (by omega) (by omega))
        · by_cases q : s' = s
          · rw [q, gS, on]
            decide
          · rw [old _ (by omega) (by omega) (by omega)] at z
            exact z
        · by_cases q : s' = s
          · exact old _ (by omega) (by omega) (by omega)
          · exact old _ (by omega) (by omega) (by omega)
      · refine f_A_go a1 σ _ ((nw0 (e_isSpanX a1 σ)).int ?_)
        rintro x2 σ1 ⟨hx2, es⟩
        rw [es]
        refine ⟨fun z => absurd k1 (hx2.b.1.mp z), fun _ => (nw0 cx).int ?_⟩
        rintro y1 σ3 ⟨ey1, es3⟩
        rw [ey1, es3, x1]
        refine ⟨fun _ => (nwTV co t1).void ?_, fun z => absurd (by decide) z⟩
        rintro σ7 ⟨t7, o7⟩
        exact ⟨Or.inr rfl, _, rfl, rfl, t7, o7⟩
    · refine ⟨0, σ 169, N, by omega, hj, hx, ?_, fun σ2 e2 _ => ?_⟩
      · refine f_A_go a1 σ _ ((nw0 (e_isSpanX a1 σ)).int ?_)
        rintro x2 σ1 ⟨hx2, es⟩
        rw [es]
        refine ⟨fun z => absurd k1 (hx2.b.1.mp z), fun _ => (nw0 cx).int ?_⟩
        rintro y1 σ3 ⟨ey1, es3⟩
        rw [ey1, es3]
        exact ⟨fun z => absurd x0 z, fun _ => ⟨Or.inl rfl, sameC h⟩⟩
      · refine w_M_go a1 σ2 _ (fun σ1 e1 => ?_)
        obtain ⟨f1, f5⟩ := told1 e2 e1
        refine (rx.s f1).int ?_
        rintro y1 σ3 ⟨ey1, es3⟩
        rw [ey1, es3]
        exact ⟨fun z => absurd x0 z, fun _ => ⟨Or.inl rfl, sameR e2 e1⟩⟩
  · refine ⟨0, σ 169, N, by omega, hj, hx, ?_, fun σ2 e2 _ => ?_⟩
    · refine f_A_go a1 σ _ ((nw0 (e_isSpanX a1 σ)).int ?_)
      rintro x2 σ1 ⟨hx2, es⟩
      rw [es]
      exact ⟨fun _ => ⟨Or.inl rfl, sameC h⟩, fun z => absurd (hx2.b.2.mp z) k1⟩
    · refine w_M_go a1 σ2 _ (fun σ1 e1 => ?_)
      refine (w_M_canGo a1 σ1 _ ((c_isSpanX a1 σ1).int (R := fun x2 σ3 => _) ?_) : xC xM j_M_canGo [.ref 0, .int a1] σ1 (sm_I (fun y σ' => y = 0 ∧ σ' = σ1))).int ?_
      · rintro x2 σ3 ⟨hx2, es⟩
        rw [es]
        exact ⟨fun _ => ⟨Or.inl rfl, _, rfl, rfl, rfl⟩, fun z => absurd (hx2.b.2.mp z) k1⟩
      · rintro y1 σ3 ⟨ey1, es3⟩
        rw [ey1, es3]
        exact ⟨fun z => absurd rfl z, fun _ => ⟨Or.inl rfl, sameR e2 e1⟩⟩
