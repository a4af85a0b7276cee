/-! ===== the simulation: a span is given up ===== -/
theorem l_stays2 {a1 a2 a3 : Int32} {s n o to : Nat} {w v' : Nat → Int32} (h1 : a1.toInt = s) (hs : s < 8) (h2 : a2.toInt = n) (hn : n < 96) (h3 : a3.toInt = to) (ho : o ≤ 4) (hal : to + 2 ^ o ≤ 256) (ho2 : (w (786 + 16 * n + 2)).toInt = o) (hw : rd j_M_wakes [.ref 0, .int a2] (rlF w n s to o) v') : ∀ (d k : Nat) (a4 : Int32) (σ : sm_S), σ 1 = lvF w to k → a4.toInt = k → k + d = 2 ^ o → xE xM m_M_staysBack 35 [.ref 0, .int a1, .int a2, .int a3, .int a4] [] σ (sm_V (fun σ' => σ' = sm_set σ 1 v')) := by
  have hp := t_pw (k := o) (by omega)
  obtain ⟨p6, q6⟩ := ixS (k := 6) (j := 6) h1 rfl (by omega)
  intro d
  induction d with
  | zero =>
    intro k a4 σ hσ h4 hk
    refine w_M_staysBack_35 a1 a2 a3 a4 _ _ ((c_longOf h2 hn _).int ?_)
    rintro _ σ ⟨rfl, rfl⟩
    rw [hσ, lvF_out (by omega)]
    refine ⟨fun _ => (c_lay (k := 6) (j := 6) h2 rfl (by omega) 0 _).void ?_, fun h => absurd ?_ h⟩
    · rintro _ rfl
      refine (c_lay (k := 7) (j := 7) h2 rfl (by omega) 0 _).void ?_
      rintro _ rfl
      refine (c_spanAt a1 _).int ?_
      rintro _ _ ⟨rfl, rfl⟩
      refine ⟨p6, fun σ7 e7 => ?_⟩
      rw [q6, s_at, s_ss, s_at, s_ss, hσ, show k = 2 ^ o by omega] at e7
      have e8 : σ7 = sm_set σ 1 (rlF w n s to o) := e7
      refine (hw σ7 (by rw [e8, s_at])).void ?_
      rintro _ rfl
      exact ⟨rfl, by rw [e8, s_ss]⟩
    · rw [t_le, t_pow ho2 (by omega), h4]
      omega
  | succ d ih =>
    intro k a4 σ hσ h4 hk
    refine w_M_staysBack_35 a1 a2 a3 a4 _ _ ((c_longOf h2 hn _).int ?_)
    rintro _ σ ⟨rfl, rfl⟩
    rw [hσ, lvF_out (by omega)]
    have hf3 := t_add h3 h4 (by omega) (by omega)
    rw [← Int.natCast_add] at hf3
    refine ⟨fun h => ?_, fun _ => (c_leaves2 hf3 (by omega) _).void ?_⟩
    · rw [t_le, t_pow ho2 (by omega), h4] at h
      omega
    · rintro _ rfl
      have h4' : (a4 + 1).toInt = ((k + 1 : Nat) : Int) := by
        rw [t_add h4 (y := 1) rfl (by omega) (by omega)]
        omega
      rw [hσ, lvF_sh (by omega), ← lvF_s]
      have := ih (k + 1) (a4 + 1) (sm_set σ 1 (lvF w to (k + 1))) s_at h4' (by omega)
      rw [s_ss] at this
      exact this
/-- what the invariant says of a block on its way out of span s -/
theorem way_of {N s : Nat} {v : Nat → Int32} (hj : jj N v) (hs : s < 8) (h6 : v (2358 + 8 * s + 6) ≠ 0) : ∃ n o fr to : Nat, n < 96 ∧ (v (2358 + 8 * s + 6)).toInt = ((n + 1 : Nat) : Int) ∧ v (786 + 16 * n + 0) = 1 ∧ (v (786 + 16 * n + 2)).toInt = o ∧ o ≤ 4 ∧ (v (786 + 16 * n + 1)).toInt = fr ∧ fr < 256 ∧ fr % 2 ^ o = 0 ∧ fr / 32 = s ∧ (v (786 + 16 * n + 6)).toInt = ((to + 1 : Nat) : Int) ∧ to < 256 ∧ to % 2 ^ o = 0 ∧ v (2358 + 8 * s + 0) = 3 := by
  obtain ⟨st, pt, at', q, g1, g2, g3, g4, g5, g6, g7, g8, g9⟩ := hj.2.1.2.2.1 s hs
  rcases g9 with g9 | ⟨n, k1, k2, k3, k4, fr, k5, k6⟩
  · subst g9
    exact absurd (t_inj g8) h6
  · obtain ⟨o, fr', b1, b2, b3, b4, b5, -, ⟨q', b7, b8⟩, -⟩ := hj.2.1.1 n k1
    have e : fr' = fr := by omega
    subst e
    obtain ⟨w1, -⟩ := hj.2.1.2.2.2.1 n k1 k4
    rcases b8 with b8 | ⟨b8, b9, b10⟩
    · subst b8
      exact absurd (t_inj b7) k4
    · refine ⟨n, o, fr', q' - 1, k1, by rw [g8, k2], w1, b1, b2, b3, b4, b5, k6, ?_, by omega, b10, t_inj (by rw [g1, k3]; rfl)⟩
      rw [b7]
      omega
/-- who waits for it wants something in it -/
theorem line_of {N n o fr L : Nat} {v : Nat → Int32} (hj : jj N v) (hn : n < 96) (ho : (v (786 + 16 * n + 2)).toInt = o) (hle : fr + 2 ^ o ≤ 256) (h9 : (v (786 + 16 * n + 9)).toInt = L) : L ≤ 6 ∧ ∀ t, t ∈ lnV v n L → ∃ m a : Nat, m < 6 ∧ t.toInt = m ∧ (v (2322 + 6 * m + 3)).toInt = a ∧ fr + a < 256 := by
  obtain ⟨L', o', l1, l2, l3, -, l5, -⟩ := hj.2.1.2.1 n hn
  have e : L' = L := by omega
  have e2 : o' = o := by omega
  subst e e2
  refine ⟨l2, fun t ht => ?_⟩
  unfold lnV at ht
  obtain ⟨k, k1, rfl⟩ := List.mem_map.mp ht
  obtain ⟨m, a, r1, r2, r3, r4, r5⟩ := l5 k (List.mem_range.mp k1)
  exact ⟨m, a, r1, r2, r4, by omega⟩
theorem jj.L {N n : Nat} {v : Nat → Int32} (hj : jj N v) (hn : n < 96) : ∃ L : Nat, (v (786 + 16 * n + 9)).toInt = L := by
  obtain ⟨L, o, l1, -⟩ := hj.2.1.2.1 n hn
  exact ⟨L, l1⟩
theorem jj.pt {N s : Nat} {v : Nat → Int32} (hj : jj N v) (hs : s < 8) : ∃ p : Nat, (v (2358 + 8 * s + 2)).toInt = p ∧ p ≤ 4 := by
  obtain ⟨st, pt, at', q, g1, g2, g3, g4, -⟩ := hj.2.1.2.2.1 s hs
  exact ⟨pt, g3, g4⟩
theorem sB.al {c : sm_S} {v : Nat → Int32} {b : Nat} (h : sB c v b) (h0 : v (786 + 16 * b + 0) = 1) : sBl c v b ∧ c 9 b ≠ -1 := by
  rcases h with ⟨-, q⟩ | ⟨q1, -, q⟩
  · rw [q] at h0; exact absurd h0 (by decide)
  · exact ⟨q, q1⟩
theorem m1_add {x : Int32} {n : Nat} (h : (x + 1).toInt = ((n + 1 : Nat) : Int)) (hn : n < 2000000000) : x.toInt = n := by
  have e : x = (x + 1) - 1 := by rw [Int32.add_sub_cancel]
  rw [e, t_sub h (y := 1) rfl (by omega) (by omega)]
  omega
theorem t_m1 {x : Int32} {n : Nat} (h : x.toInt = ((n + 1 : Nat) : Int)) (hn : n < 2000000000) : (x - 1).toInt = n := by
  rw [t_sub h (y := 1) rfl (by omega) (by omega)]
  omega
theorem pick {SH : List sm_Sh} {j : Nat} {as : List Value} {σ : sm_S} {P : Int32 → Prop} (h : xC SH j as σ (sm_I (fun x σ' => P x ∧ σ' = σ))) : ∃ x, P x ∧ xC SH j as σ (sm_I (fun y σ' => y = x ∧ σ' = σ)) := by
  obtain ⟨M, hM, nf, r, σ', run, x, hr, hp, e⟩ := h
  exact ⟨x, hp, M, hM, nf, r, σ', run, x, hr, rfl, e⟩
theorem c_size {b : Int32} {n : Nat} (hb : b.toInt = n) (hn : n < 96) (σ : sm_S) : xC xD j_B_size [.ref 8, .int b] σ (sm_I (fun x σ' => x = (1 : Int32) <<< (σ 10 n &&& 31) ∧ σ' = σ)) := by
  refine d_B_size b σ _ ⟨t_vp hb hn, ?_⟩
  rw [t_nat hb]
  exact ⟨_, rfl, rfl, rfl⟩
/-- callOff | fails -/
theorem p_callOff {g : Prop} {N s : Nat} {c : sm_S} {v : Nat → Int32} {a1 : Int32} (h : tie g N c v) (hj : jj N v) (hN : N + 7 < 2000000000) (h1 : a1.toInt = s) (hs : s < 8) (hg : c 18 s ≠ 0) : ∃ v' c' N', rd j_M_fails [.ref 0, .int a1, .int 3] v v' ∧ xC xD j_G_callOff [.ref 41, .int a1] c (sm_V (fun σ' => σ' = c')) ∧ tie g N' c' v' ∧ jj N' v' ∧ N' ≤ N + 7 := by
  have gs := h.s.S s hs
  by_cases h6 : v (2358 + 8 * s + 6) = 0
  · obtain ⟨c', e1, t1, j1, -⟩ := p_fail 3 h hj (by omega) h1 hs h6 hg
    have c24 : c 24 s = -1 := by
      have z := gs.lea
      rw [h6] at z
      have z2 : c 24 s = (c 24 s + 1) - 1 := by rw [Int32.add_sub_cancel]
      rw [z2, ← z]
      rfl
    refine ⟨_, c', N + 1, r_fails h1 hs (r_stays0 h1 hs h6) h.n, ?_, t1, j1, by omega⟩
    refine d_G_callOff a1 c _ ⟨t_vp h1 hs, fun _ => e1.void ?_, fun q => absurd (by rw [t_nat h1]; exact c24) q⟩
    rintro _ rfl
    exact ⟨rfl, rfl⟩
  · obtain ⟨n, o, fr, to, hn, e6, h0, e2, ho, e1, hfr, hal, hfs, et, hto, halt, h3⟩ := way_of hj hs h6
    obtain ⟨L, h9⟩ := hj.L hn
    have hle := al_le ho hfr hal
    have hlt := al_le ho hto halt
    obtain ⟨hL6, hline⟩ := line_of hj hn e2 hle h9
    obtain ⟨p, hp, hp4⟩ := hj.pt (s := to / 32) (by omega)
    obtain ⟨gb, -⟩ := (h.s.B n hn).al h0
    have c24 : (c 24 s).toInt = n := m1_add (by rw [← gs.lea]; exact e6) (by omega)
    have c14 : (c 14 n).toInt = to := m1_add (by rw [← gb.tgt]; exact et) (by omega)
    have c10 : (c 10 n).toInt = o := by rw [← gb.ord]; exact e2
    have hpc : (c 20 (to / 32)).toInt = p := by rw [← (h.s.S (to / 32) (by omega)).par]; exact hp
    obtain ⟨x, hsb, sbr⟩ := pick (e_shutBits2 (a1 := c 14 n / (32 : Int32)) (n := to / 32) (t_div c14 (b := 32) rfl (by decide)) (by omega) c hpc hp4)
    have t1 : tie g N (ewC (lgC c to o x) n s) (rlF v n s to o) := by
      refine h.to (sim_rel h.s h.b hn hs h0 et e2 ho hto halt hp hsb) (fun k k1 k2 => ?_) (rlF_o (by omega) (by omega) (by omega) (by omega)) (fun i hi => rlF_o (by omega) (by omega) (by omega) (by omega)) (fun b hb => ?_)
      · unfold ewC
        rw [s_ne (by omega), s_ne (by omega), s_ne (by omega), lgC_o (by omega)]
      · obtain ⟨o1, f1, z1, z2, z3, z4, z5, ⟨w, z6, z6'⟩, ⟨q, z7, z7'⟩, z8⟩ := h.b b hb
        have rk : ∀ k, k < 16 → k ≠ 6 → k ≠ 7 → rlF v n s to o (786 + 16 * b + k) = v (786 + 16 * b + k) := fun k h1 h2 h3 => rlF_o (by omega) (by omega) (by omega) (by omega)
        by_cases e : b = n
        · subst e
          have r6 : rlF v b s to o (786 + 16 * b + 6) = 0 := by
            unfold rlF
            rw [u_ne (by omega), u_ne (by omega), u_at]
          have r7 : rlF v b s to o (786 + 16 * b + 7) = 0 := by
            unfold rlF
            rw [u_ne (by omega), u_at]
          exact ⟨o1, f1, by rw [rk 2 (by decide) (by decide) (by decide)]; exact z1, z2, by rw [rk 1 (by decide) (by decide) (by decide)]; exact z3, z4, z5, ⟨w, by rw [rk 4 (by decide) (by decide) (by decide)]; exact z6, z6'⟩, ⟨0, by rw [r6]; rfl, Or.inl rfl⟩, by rw [r7]; decide⟩
        · refine bk_cong (fun k k1 _ _ _ => rlF_o (by omega) (by omega) (by omega) (by omega)) (h.b b hb)
    have r9 : rlF v n s to o (786 + 16 * n + 9) = v (786 + 16 * n + 9) := rlF_o (by omega) (by omega) (by omega) (by omega)
    have lnE : lnV (rlF v n s to o) n L = lnV v n L := lnV_cg (fun k hk => rlF_o (by omega) (by omega) (by omega) (by omega))
    have hb24 := c24
    obtain ⟨v2, c2, rw2, rc2, t2, -, fx1, -⟩ := p_serve (b := c 24 s) (L := L) (fr := fr) t1 (by omega) hn c24 (by rw [r9]; exact h9) (by rw [rlF_o (by omega) (by omega) (by omega) (by omega)]; exact h0) (by rw [rlF_o (by omega) (by omega) (by omega) (by omega)]; exact e1) (fun t ht => by
      rw [lnE] at ht
      obtain ⟨m, a, r1, r2, r3, r4⟩ := hline t ht
      exact ⟨m, a, r1, r2, by rw [rlF_o (by omega) (by omega) (by omega) (by omega)]; exact r3, r4⟩)
    have rst : rd j_M_staysBack [.ref 0, .int a1] v v2 := fun σ e => by
      obtain ⟨p6, q6⟩ := ixS (k := 6) (j := 6) h1 rfl (by omega)
      refine w_M_staysBack a1 σ _ ((c_spanAt a1 σ).int ?_)
      rintro _ σ ⟨rfl, rfl⟩
      refine ⟨p6, ?_⟩
      rw [q6, e]
      have en : (v (2358 + 8 * s + 6) - 1).toInt = n := t_m1 e6 (by omega)
      have ecn : v (2358 + 8 * s + 6) - 1 = c 24 s := by
        rw [gs.lea, Int32.add_sub_cancel]
      refine ⟨fun _ => (c_of (k := 6) (j := 6) en rfl (by omega) σ).int ?_, fun q => absurd (ne_m1 en) q⟩
      rintro _ σ ⟨rfl, rfl⟩
      rw [e]
      have := l_stays2 h1 hs (a2 := v (2358 + 8 * s + 6) - 1) en hn (a3 := v (786 + 16 * n + 6) - 1) (t_m1 et (by omega)) ho hlt e2 (by rw [ecn]; exact rw2) (2 ^ o) 0 0 σ (by rw [lvF_0]; exact e) rfl (by omega)
      exact this
    obtain ⟨w, N', ew, jw, k1, k2, k3, k4⟩ := rst.det (c_staysBack (N := N) h1 hs (by omega) (rz v) (by rw [rz_at]; exact hj))
    rw [rz_eq ew] at jw k3
    have eN : N' = N + L := by have := t2.n; have := jw.2.2; omega
    subst eN
    have st2 : v2 (2358 + 8 * s + 0) = 3 := by
      rw [fx1 (2358 + 8 * s + 0) (Or.inr (Or.inr (Or.inr (Or.inr ⟨by omega, by omega⟩)))) (by omega), rlF_o (by omega) (by omega) (by omega) (by omega)]
      exact h3
    obtain ⟨c', ec', t3, j3, -⟩ := p_fail (a1 := a1) 3 t2 jw (by omega) h1 hs k3 (by rw [← (t2.s.S s hs).sta, st2]; decide)
    refine ⟨_, c', N + L + 1, r_fails h1 hs rst t2.n, ?_, t3, j3, by omega⟩
    refine d_G_callOff a1 c _ ⟨t_vp h1 hs, fun q => ?_, fun _ => ?_⟩
    · rw [t_nat h1] at q
      exact absurd q (ne_m1 c24)
    · rw [t_nat h1, t_nat c24]
      refine ⟨t_vp c24 hn, (c_size c24 hn c).int ?_⟩
      rintro y1 σ1 ⟨ey1, es1⟩
      rw [ey1, es1]
      refine ⟨by decide, ?_⟩
      refine sbr.int ?_
      rintro y2 σ2 ⟨ey2, es2⟩
      rw [ey2, es2]
      refine (e_letGo2 c14 (t_pow c10 (by omega)) ho hlt x c).void ?_
      rintro _ rfl
      refine (e_endWay2 h1 hs c24 hn _).void ?_
      rintro _ rfl
      refine rc2.void ?_
      rintro _ rfl
      refine ec'.void ?_
      rintro _ rfl
      exact ⟨rfl, rfl⟩
