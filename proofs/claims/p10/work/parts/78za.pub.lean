/-! ===== the simulation: read, write, pin, unpin ===== -/
theorem nwE {j : Nat} {as : List Value} {σ c' : sm_S} (h : xC xD j as σ (sm_V (fun σ' => σ' = c'))) : xC xF j as σ (sm_V (fun σ' => eqT c' σ' ∧ ∀ a, 42 ≤ a → σ' a = σ a)) := by
  refine sm_C.mono (sm_cv_ids as ▸ x_up shDF h) ?_
  rintro r1 σ' ⟨r2, τ, rfl, ⟨rfl, rfl⟩, hs, ho⟩
  exact ⟨rfl, eqT.st hs, fun a ha => off_out (n := 42) rfl ho (fun k hk z => by have z : k = a := z; omega)⟩
/-- a task that does not wait, and a block -/
def tOk (v : Nat → Int32) (a1 a2 : Int32) : Prop := ∃ m n : Nat, m < 6 ∧ a1.toInt = m ∧ n < 96 ∧ a2.toInt = n ∧ v (786 + 16 * n + 0) = 1 ∧ v (2322 + 6 * m + 1) = 0
theorem c_canDoX (t b : Int32) (σ : sm_S) : xC xM j_M_canDo [.ref 0, .int t, .int b] σ (sm_I (fun x σ' => isYes (tOk (σ 1) t b) x ∧ σ' = σ)) := by
  refine w_M_canDo t b σ _ ((c_isTask t σ).int ?_)
  rintro x1 σ1 ⟨hx1, es1⟩
  rw [es1]
  refine ⟨fun n1 => ⟨Or.inl rfl, _, rfl, Or.inr ⟨rfl, ?_⟩, rfl⟩, fun n1 => (c_taskAt t _).int ?_⟩
  · rintro ⟨m, n, y1, y2, -⟩
    rcases hx1 with ⟨w, -⟩ | ⟨-, w⟩
    · rw [n1] at w
      exact absurd w (by decide)
    · omega
  · obtain ⟨-, m, hm, ht⟩ := hx1.resolve_right (fun z => n1 z.1)
    rintro y2 σ2 ⟨ey2, es2⟩
    obtain ⟨p1, q1⟩ := ixT (k := 1) (j := 1) ht rfl (by omega)
    rw [ey2, es2, q1]
    refine ⟨p1, fun w => ⟨Or.inl rfl, _, rfl, Or.inr ⟨rfl, ?_⟩, rfl⟩, fun hw => (c_isBlock b _).int ?_⟩
    · rintro ⟨m', n, y1, y2, -, -, -, y3⟩
      have e : m' = m := by omega
      rw [e] at y3
      exact w y3
    · rintro x2 σ3 ⟨hx2, es3⟩
      rw [es3]
      refine ⟨fun n2 => ⟨Or.inl rfl, _, rfl, Or.inr ⟨rfl, ?_⟩, rfl⟩, fun n2 => ?_⟩
      · rintro ⟨m', n, -, -, y1, y2, y3, -⟩
        rcases hx2 with ⟨w, -⟩ | ⟨-, w | ⟨n', w1, w2, w3⟩⟩
        · rw [n2] at w
          exact absurd w (by decide)
        · omega
        · have e : n' = n := by omega
          rw [e] at w3
          exact w3 y3
      · obtain ⟨-, n, hn, hb, h0⟩ := hx2.resolve_right (fun z => n2 z.1)
        exact ⟨Or.inr rfl, _, rfl, Or.inl ⟨rfl, m, n, hm, ht, hn, hb, h0, Classical.not_not.mp hw⟩, rfl⟩
theorem p_touch {N : Nat} {σ : sm_S} (a1 a2 a3 a4 a5 : Int32) (h : tie True N σ (σ 169)) (hj : jj N (σ 169)) (hx : jx (σ 169)) (hN : N < 1998000000) : ∃ r v' N', N' ≤ N + 1 ∧ jj N' v' ∧ jx v' ∧ xC xF j_A_touch [.ref 42, .int a1, .int a2, .int a3, .int a4, .int a5] σ (sm_I (fun x σ' => x = r ∧ tie True N' σ' v' ∧ ∀ a, 42 ≤ a → σ' a = σ a)) ∧ ((tOk (σ 169) a1 a2 ∧ 0 ≤ a4.toInt ∧ (∀ n o : Nat, a2.toInt = n → (σ 169 (786 + 16 * n + 2)).toInt = o → a4.toInt < ((2 ^ o : Nat) : Int)) ∧ rdI j_M_wants [.ref 0, .int a1, .int a2, .int a3, .int a4, .int a5] (σ 169) r v') ∨ (¬ (tOk (σ 169) a1 a2 ∧ 0 ≤ a4.toInt ∧ ∀ n o : Nat, a2.toInt = n → (σ 169 (786 + 16 * n + 2)).toInt = o → a4.toInt < ((2 ^ o : Nat) : Int)) ∧ r = -1 ∧ v' = σ 169)) := by
  have lt0 : a4 < 0 ↔ a4.toInt < 0 := by rw [t_lt]; exact Iff.rfl
  obtain ⟨xh, rxh, cxh, hxh⟩ := p_has a2 h.s
  by_cases ok : tOk (σ 169) a1 a2 ∧ 0 ≤ a4.toInt ∧ ∀ n o : Nat, a2.toInt = n → (σ 169 (786 + 16 * n + 2)).toInt = o → a4.toInt < ((2 ^ o : Nat) : Int)
  · obtain ⟨tk, k4, kl4⟩ := ok
    have tk2 := tk
    obtain ⟨m, n, hm, hm1, hn, hn1, h0, hw⟩ := tk2
    obtain ⟨o, fr, b1, b2, -⟩ := hj.2.1.1 n hn
    obtain ⟨a, hi⟩ := t_of k4
    have ha : a < 2 ^ o := by have := kl4 n o hn1 b1; omega
    obtain ⟨gb, gb9⟩ := (h.s.B n hn).al h0
    have gT := (h.s.T m hm).wai
    have hw28 : σ 28 m = -1 := by
      rw [hw] at gT
      have e2 : σ 28 m = (σ 28 m + 1) - 1 := by rw [Int32.add_sub_cancel]
      rw [e2, ← gT]
      rfl
    have xh1 : xh = 1 := by
      rcases hxh with ⟨w, -⟩ | ⟨-, w⟩
      · exact w
      · have := w n hn hn1
        rw [h0] at this
        exact absurd this (by decide)
    have t1 : tie True N (wsC σ m a3 a4 a5) (σ 169) := h.to (sim_wish a3 a4 a5 h.s h.b hm hw28) (fun k k1 k2 => by unfold wsC; rw [s_ne (by omega), s_ne (by omega), s_ne (by omega)]) rfl (fun _ _ => rfl) h.b
    have w28 : wsC σ m a3 a4 a5 28 m = -1 := hw28
    have w30 : wsC σ m a3 a4 a5 30 m = a3 := u_at
    have w31 : wsC σ m a3 a4 a5 31 m = a4 := u_at
    have w32 : wsC σ m a3 a4 a5 32 m = a5 := u_at
    obtain ⟨r, v', c', N', R, -, -, j', x', n'⟩ := p_dow t1 hj hx (by omega) hm1 hm hn1 hn h0 w28 hi b1 ha w30 w31 w32
    refine ⟨r, v', N', n', j', x', ?_, Or.inl ⟨tk, k4, kl4, R⟩⟩
    refine f_A_touch a1 a2 a3 a4 a5 σ _ ((nw0 (e_isTaskX a1 σ)).int ?_)
    rintro x2 σ1 ⟨hx2, es⟩
    rw [es]
    refine ⟨fun z => absurd ⟨by omega, by omega⟩ (hx2.b.1.mp z), fun _ => (nw0 cxh).int ?_⟩
    rintro y1 σ3 ⟨ey1, es3⟩
    rw [ey1, es3, xh1]
    refine ⟨fun z => absurd z (by decide), fun _ => ⟨t_vp hm1 hm, fun _ => ⟨fun z => absurd (lt0.mp z) (by omega), fun _ => (nw0 (e_size hn1 hn σ)).int ?_⟩, fun z => absurd (by rw [t_nat hm1]; exact hw28) z⟩⟩
    rintro y2 σ4 ⟨ey2, es4⟩
    have sz : ((1 : Int32) <<< (σ 10 n &&& 31)).toInt = ((2 ^ o : Nat) : Int) := t_pow (by rw [← gb.ord]; exact b1) (by omega)
    rw [ey2, es4]
    refine ⟨fun _ => (nwE (e_wants2 hm1 hm a3 a4 a5 σ)).void ?_, fun z => absurd ?_ z⟩
    · rintro σ7 ⟨e7, o7⟩
      have t7 : tie True N σ7 (σ 169) := t1.eq e7 (fun _ _ => rfl)
      obtain ⟨r7, v7, c7, N7, R7, C7, T7, j7, x7, n7⟩ := p_dow t7 hj hx (by omega) hm1 hm hn1 hn h0 ((e7.at 6).trans w28) hi b1 ha ((e7.at 6).trans w30) ((e7.at 6).trans w31) ((e7.at 6).trans w32)
      obtain ⟨q1, q2⟩ := R.det (R7 (rz (σ 169)) s_at)
      have q2 : v7 = v' := rz_eq q2
      rw [q2] at T7 j7
      have q3 : N7 = N' := by
        have w1 := j7.2.2
        have w2 := j'.2.2
        omega
      rw [q3] at T7
      refine (nwT C7 T7).int ?_
      rintro y3 σ8 ⟨ey3, t8, o8⟩
      exact ⟨_, rfl, ey3.trans q1.symm, t8, fun a ha => (o8 a ha).trans (o7 a ha)⟩
    · rw [t_lt, sz, hi]
      omega
  · refine ⟨-1, σ 169, N, by omega, hj, hx, ?_, Or.inr ⟨ok, rfl, rfl⟩⟩
    refine f_A_touch a1 a2 a3 a4 a5 σ _ ((nw0 (e_isTaskX a1 σ)).int ?_)
    rintro x2 σ1 ⟨hx2, es⟩
    rw [es]
    refine ⟨fun _ => sameC h, fun z2 => (nw0 cxh).int ?_⟩
    rintro y1 σ3 ⟨ey1, es3⟩
    rw [ey1, es3]
    refine ⟨fun _ => sameC h, fun z3 => ?_⟩
    obtain ⟨k1, k2⟩ := hx2.b.2.mp z2
    obtain ⟨m, hm1⟩ := t_of k1
    have hm : m < 6 := by omega
    rcases hxh with ⟨-, n, hn, hn1, h0⟩ | ⟨w, -⟩
    · refine ⟨t_vp hm1 hm, fun w28 => ⟨fun _ => sameC h, fun z4 => (nw0 (e_size hn1 hn σ)).int ?_⟩, fun _ => sameC h⟩
      rintro y2 σ4 ⟨ey2, es4⟩
      obtain ⟨o, fr, b1, b2, -⟩ := hj.2.1.1 n hn
      obtain ⟨gb, gb9⟩ := (h.s.B n hn).al h0
      have sz : ((1 : Int32) <<< (σ 10 n &&& 31)).toInt = ((2 ^ o : Nat) : Int) := t_pow (by rw [← gb.ord]; exact b1) (by omega)
      rw [ey2, es4]
      refine ⟨fun z5 => absurd ⟨⟨m, n, hm, hm1, hn, hn1, h0, ?_⟩, ?_, fun n' o' y1 y2 => ?_⟩ ok, fun _ => sameC h⟩
      · rw [t_nat hm1] at w28
        rw [(h.s.T m hm).wai, w28]
        decide
      · rw [lt0] at z4
        omega
      · have e : n' = n := by omega
        rw [e] at y2
        have e2 : o' = o := by omega
        rw [t_lt, sz] at z5
        rw [e2]
        exact z5
    · exact absurd w z3
theorem pr_read {N : Nat} {σ : sm_S} (a1 a2 a3 : Int32) (h : tie True N σ (σ 169)) (hj : jj N (σ 169)) (hx : jx (σ 169)) (hN : N < 1998000000) : prC j_A_read j_M_read [.ref 42, .int a1, .int a2, .int a3] [.ref 0, .int a1, .int a2, .int a3] N σ := by
  obtain ⟨r, v', N', n', j', x', C, R⟩ := p_touch a1 a2 0 a3 0 h hj hx hN
  refine ⟨r, v', N', by omega, j', x', ?_, fun σ2 e2 _ => ?_⟩
  · refine f_A_read a1 a2 a3 σ _ (C.int ?_)
    rintro y σ1 hy
    exact ⟨y, rfl, hy⟩
  · refine w_M_read a1 a2 a3 σ2 _ (fun σ1 e1 => (c_canDoX a1 a2 σ1).int ?_)
    obtain ⟨f1, f5⟩ := told1 e2 e1
    rintro x2 σ3 ⟨hx2, es⟩
    rw [es]
    rw [f1] at hx2
    refine ⟨fun z => ?_, fun z => ?_⟩
    · rcases R with ⟨tk, -⟩ | ⟨-, q1, q2⟩
      · exact absurd tk (hx2.b.1.mp z)
      · rw [q1, q2]
        exact sameR e2 e1
    · have tk := hx2.b.2.mp z
      have tk2 := tk
      obtain ⟨m, n, hm, hm1, hn, hn1, h0, hw⟩ := tk2
      obtain ⟨o, fr, b1, b2, -⟩ := hj.2.1.1 n hn
      have hp := t_pw (k := o) (by omega)
      refine (c_longOf hn1 hn σ1).int ?_
      rintro y2 σ4 ⟨ey2, es4⟩
      rw [f1] at ey2
      have sz : (y2 - 1).toInt = ((2 ^ o : Nat) : Int) - 1 := by
        rw [ey2]
        exact t_sub (t_pow b1 (by omega)) rfl (by omega) (by omega)
      rw [es4]
      refine (c_isInX (L := 0) (H := ((2 ^ o : Nat) : Int) - 1) rfl sz a3 σ1).int ?_
      rintro y3 σ5 ⟨hy3, es5⟩
      rw [es5]
      refine ⟨fun z3 => ?_, fun z3 => ?_⟩
      · rcases R with ⟨-, w1, w2, -⟩ | ⟨-, q1, q2⟩
        · exact absurd ⟨w1, by have := w2 n o hn1 b1; omega⟩ (hy3.b.1.mp z3)
        · rw [q1, q2]
          exact sameR e2 e1
      · rcases R with ⟨-, -, -, R⟩ | ⟨q, -⟩
        · refine (R σ1 f1).int ?_
          rintro y4 σ6 ⟨ey4, es6⟩
          rw [ey4]
          exact pubR f5 es6
        · obtain ⟨w1, w2⟩ := hy3.b.2.mp z3
          refine absurd ⟨tk, w1, fun n2 o2 y1 y2 => ?_⟩ q
          have e : n2 = n := by omega
          rw [e] at y2
          have e2 : o2 = o := by omega
          rw [e2]
          omega
theorem pr_write {N : Nat} {σ : sm_S} (a1 a2 a3 a4 : Int32) (h : tie True N σ (σ 169)) (hj : jj N (σ 169)) (hx : jx (σ 169)) (hN : N < 1998000000) : prC j_A_write j_M_write [.ref 42, .int a1, .int a2, .int a3, .int a4] [.ref 0, .int a1, .int a2, .int a3, .int a4] N σ := by
  obtain ⟨r, v', N', n', j', x', C, R⟩ := p_touch a1 a2 1 a3 a4 h hj hx hN
  refine ⟨r, v', N', by omega, j', x', ?_, fun σ2 e2 _ => ?_⟩
  · refine f_A_write a1 a2 a3 a4 σ _ (C.int ?_)
    rintro y σ1 hy
    exact ⟨y, rfl, hy⟩
  · refine w_M_write a1 a2 a3 a4 σ2 _ (fun σ1 e1 => (c_canDoX a1 a2 σ1).int ?_)
    obtain ⟨f1, f5⟩ := told1 e2 e1
    rintro x2 σ3 ⟨hx2, es⟩
    rw [es]
    rw [f1] at hx2
    refine ⟨fun z => ?_, fun z => ?_⟩
    · rcases R with ⟨tk, -⟩ | ⟨-, q1, q2⟩
      · exact absurd tk (hx2.b.1.mp z)
      · rw [q1, q2]
        exact sameR e2 e1
    · have tk := hx2.b.2.mp z
      have tk2 := tk
      obtain ⟨m, n, hm, hm1, hn, hn1, h0, hw⟩ := tk2
      obtain ⟨o, fr, b1, b2, -⟩ := hj.2.1.1 n hn
      have hp := t_pw (k := o) (by omega)
      refine (c_longOf hn1 hn σ1).int ?_
      rintro y2 σ4 ⟨ey2, es4⟩
      rw [f1] at ey2
      have sz : (y2 - 1).toInt = ((2 ^ o : Nat) : Int) - 1 := by
        rw [ey2]
        exact t_sub (t_pow b1 (by omega)) rfl (by omega) (by omega)
      rw [es4]
      refine (c_isInX (L := 0) (H := ((2 ^ o : Nat) : Int) - 1) rfl sz a3 σ1).int ?_
      rintro y3 σ5 ⟨hy3, es5⟩
      rw [es5]
      refine ⟨fun z3 => ?_, fun z3 => ?_⟩
      · rcases R with ⟨-, w1, w2, -⟩ | ⟨-, q1, q2⟩
        · exact absurd ⟨w1, by have := w2 n o hn1 b1; omega⟩ (hy3.b.1.mp z3)
        · rw [q1, q2]
          exact sameR e2 e1
      · rcases R with ⟨-, -, -, R⟩ | ⟨q, -⟩
        · refine (R σ1 f1).int ?_
          rintro y4 σ6 ⟨ey4, es6⟩
          rw [ey4]
          exact pubR f5 es6
        · obtain ⟨w1, w2⟩ := hy3.b.2.mp z3
          refine absurd ⟨tk, w1, fun n2 o2 y1 y2 => ?_⟩ q
          have e : n2 = n := by omega
          rw [e] at y2
          have e2 : o2 = o := by omega
          rw [e2]
          omega
