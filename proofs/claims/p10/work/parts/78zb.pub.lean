/-! ===== the simulation: pin, unpin, set ===== -/
def hPin (v : Nat → Int32) (a1 : Int32) (n : Nat) : Prop := ((v (786 + 16 * n + 5) >>> (a1 &&& 31)) &&& 1) ≠ 0
theorem c_hasPinX {t b : Int32} {n : Nat} (hb : b.toInt = n) (hn : n < 96) (σ : sm_S) : xC xM j_M_hasPin [.ref 0, .int t, .int b] σ (sm_I (fun x σ' => isYes (hPin (σ 1) t n) x ∧ σ' = σ)) := by
  refine w_M_hasPin t b σ _ ((c_of (k := 5) (j := 5) hb rfl (by omega) σ).int ?_)
  rintro y σ1 ⟨ey, es⟩
  rw [ey, es]
  refine ⟨fun z => ⟨Or.inl rfl, _, rfl, Or.inr ⟨rfl, fun w => ?_⟩, rfl⟩, fun z => ⟨Or.inr rfl, _, rfl, Or.inl ⟨rfl, ?_⟩, rfl⟩⟩
  · exact (and01 _).elim w z
  · unfold hPin
    rw [Classical.not_not.mp z]
    decide
theorem f_hasPinX {a1 a2 : Int32} {σ : sm_S} {v : Nat → Int32} (h : sim0 σ v) : xC xF j_A_hasPin [.ref 42, .int a1, .int a2] σ (sm_I (fun x σ' => isYes ((0 ≤ a1.toInt ∧ a1.toInt < 6) ∧ ∃ n : Nat, n < 96 ∧ a2.toInt = n ∧ v (786 + 16 * n + 0) = 1 ∧ hPin v a1 n) x ∧ σ' = σ)) := by
  obtain ⟨xh, rxh, cxh, hxh⟩ := p_has a2 h
  refine f_A_hasPin a1 a2 σ _ ((nw0 (e_isTaskX a1 σ)).int ?_)
  rintro x2 σ1 ⟨hx2, es⟩
  rw [es]
  refine ⟨fun z => ⟨Or.inl rfl, _, rfl, Or.inr ⟨rfl, fun w => hx2.b.1.mp z w.1⟩, rfl⟩, fun z => (nw0 cxh).int ?_⟩
  rintro y1 σ3 ⟨ey1, es3⟩
  rw [ey1, es3]
  have k1 := hx2.b.2.mp z
  rcases hxh with ⟨xh1, n, hn, hn1, h0⟩ | ⟨xh0, hno⟩
  · refine ⟨fun z => absurd xh1 (by rw [z]; decide), fun _ => ?_⟩
    obtain ⟨gb, gb9⟩ := (h.B n hn).al h0
    rw [t_nat hn1, ← gb.pin]
    refine ⟨t_vp hn1 hn, fun w => ⟨Or.inl rfl, _, rfl, Or.inr ⟨rfl, ?_⟩, rfl⟩, fun w => ⟨Or.inr rfl, _, rfl, Or.inl ⟨rfl, k1, n, hn, hn1, h0, w⟩, rfl⟩⟩
    rintro ⟨-, n', y1, y2, -, y3⟩
    have e : n' = n := by omega
    rw [e] at y3
    exact y3 w
  · refine ⟨fun _ => ⟨Or.inl rfl, _, rfl, Or.inr ⟨rfl, ?_⟩, rfl⟩, fun z => absurd xh0 z⟩
    rintro ⟨-, n', y1, y2, y3, -⟩
    have := hno n' y1 y2
    rw [y3] at this
    exact absurd this (by decide)
theorem pr_pin {N : Nat} {σ : sm_S} (a1 a2 : Int32) (h : tie True N σ (σ 169)) (hj : jj N (σ 169)) (hx : jx (σ 169)) (hN : N < 1998000000) : prC j_A_pin j_M_pin [.ref 42, .int a1, .int a2] [.ref 0, .int a1, .int a2] N σ := by
  by_cases hp : (0 ≤ a1.toInt ∧ a1.toInt < 6) ∧ ∃ n : Nat, n < 96 ∧ a2.toInt = n ∧ σ 169 (786 + 16 * n + 0) = 1 ∧ hPin (σ 169) a1 n
  · refine ⟨-1, σ 169, N, by omega, hj, hx, ?_, fun σ2 e2 _ => ?_⟩
    · refine f_A_pin a1 a2 σ _ ((f_hasPinX h.s).int ?_)
      rintro x2 σ1 ⟨hx2, es⟩
      rw [es]
      exact ⟨fun z => absurd hp (hx2.b.1.mp z), fun _ => sameC h⟩
    · refine w_M_pin a1 a2 σ2 _ (fun σ1 e1 => (c_canDoX a1 a2 σ1).int ?_)
      obtain ⟨f1, f5⟩ := told1 e2 e1
      rintro x2 σ3 ⟨hx2, es⟩
      rw [es]
      obtain ⟨-, n, hn, hn1, h0, hpn⟩ := hp
      refine ⟨fun _ => sameR e2 e1, fun _ => (c_hasPinX hn1 hn σ1).int ?_⟩
      rintro x4 σ4 ⟨hx4, es4⟩
      rw [f1] at hx4
      rw [es4]
      exact ⟨fun _ => sameR e2 e1, fun z => absurd (hx4.b.2.mpr hpn) z⟩
  · obtain ⟨r, v', N', n', j', x', C, R⟩ := p_touch a1 a2 2 0 0 h hj hx hN
    refine ⟨r, v', N', by omega, j', x', ?_, fun σ2 e2 _ => ?_⟩
    · refine f_A_pin a1 a2 σ _ ((f_hasPinX h.s).int ?_)
      rintro x2 σ1 ⟨hx2, es⟩
      rw [es]
      refine ⟨fun _ => C.int ?_, fun z => absurd (hx2.b.2.mp z) hp⟩
      rintro y σ1 hy
      exact ⟨y, rfl, hy⟩
    · refine w_M_pin a1 a2 σ2 _ (fun σ1 e1 => (c_canDoX a1 a2 σ1).int ?_)
      obtain ⟨f1, f5⟩ := told1 e2 e1
      rintro x2 σ3 ⟨hx2, es⟩
      rw [es]
      rw [f1] at hx2
      refine ⟨fun z => ?_, fun z => ?_⟩
      · rcases R with ⟨tk, -⟩ | ⟨-, q1, q2⟩
        · exact absurd tk (hx2.b.1.mp z)
        · rw [q1, q2]
          exact sameR e2 e1
      · have tk := hx2.b.2.mp z
        have tk2 := tk
        obtain ⟨m, n, hm, hm1, hn, hn1, h0, hw⟩ := tk2
        refine (c_hasPinX hn1 hn σ1).int ?_
        rintro x4 σ4 ⟨hx4, es4⟩
        rw [f1] at hx4
        rw [es4]
        refine ⟨fun z4 => absurd ⟨⟨by omega, by omega⟩, n, hn, hn1, h0, hx4.b.2.mp z4⟩ hp, fun _ => ?_⟩
        rcases R with ⟨-, -, -, R⟩ | ⟨q, -⟩
        · refine (R σ1 f1).int ?_
          rintro y4 σ6 ⟨ey4, es6⟩
          rw [ey4]
          exact pubR f5 es6
        · refine absurd ⟨tk, Int.le_refl _, fun n2 o2 y1 y2 => ?_⟩ q
          have := Nat.two_pow_pos o2
          show (0 : Int) < _
          omega
theorem pr_unpin {N : Nat} {σ : sm_S} (a1 a2 : Int32) (h : tie True N σ (σ 169)) (hj : jj N (σ 169)) (hx : jx (σ 169)) : prC j_A_unpin j_M_unpin [.ref 42, .int a1, .int a2] [.ref 0, .int a1, .int a2] N σ := by
  by_cases hp : (0 ≤ a1.toInt ∧ a1.toInt < 6) ∧ ∃ n : Nat, n < 96 ∧ a2.toInt = n ∧ σ 169 (786 + 16 * n + 0) = 1 ∧ hPin (σ 169) a1 n
  · have hp2 := hp
    obtain ⟨k1, n, hn, hn1, h0, hpn⟩ := hp2
    obtain ⟨gb, gb9⟩ := (h.s.B n hn).al h0
    have R : rp j_M_unpin [.ref 0, .int a1, .int a2] (σ 169) (σ 172) 1 (upd (σ 169) (786 + 16 * n + 5) (σ 13 n &&& (((1 : Int32) <<< (a1 &&& 31)) ^^^ (-1)))) := fun σ2 e2 _ => by
      refine w_M_unpin a1 a2 σ2 _ (fun σ1 e1 => (c_isTaskX a1 σ1).int ?_)
      obtain ⟨f1, f5⟩ := told1 e2 e1
      rintro x2 σ3 ⟨hx2, es⟩
      rw [es]
      refine ⟨fun z => absurd k1 (hx2.b.1.mp z), fun _ => (c_isBlock a2 σ1).int ?_⟩
      rintro x3 σ4 ⟨hx3, es4⟩
      rw [es4]
      refine ⟨fun z => ?_, fun _ => (c_hasPinX hn1 hn σ1).int ?_⟩
      · rcases hx3 with ⟨w, -⟩ | ⟨-, w | ⟨n', w1, w2, w3⟩⟩
        · rw [z] at w
          exact absurd w (by decide)
        · omega
        · have e : n' = n := by omega
          rw [e, f1] at w3
          exact absurd h0 w3
      · rintro x4 σ5 ⟨hx4, es5⟩
        rw [f1] at hx4
        rw [es5]
        refine ⟨fun _ => (c_of (k := 5) (j := 5) hn1 rfl (by omega) σ1).int ?_, fun z => absurd (hx4.b.2.mpr hpn) z⟩
        rintro y5 σ6 ⟨ey5, es6⟩
        rw [ey5, es6, f1, gb.pin]
        refine (c_lay (k := 5) (j := 5) hn1 rfl (by omega) _ σ1).void ?_
        rintro σ7 es7
        rw [f1] at es7
        exact ⟨Or.inr rfl, pubR f5 es7⟩
    obtain ⟨N', j', n1, n2⟩ := R.jj (N := N) (D := 0) (fun σ2 e2 => c_unpin a1 a2 σ2 (by rw [e2]; exact hj))
    have eN : N' = N := by omega
    rw [eN] at j'
    have t' : tie True N (sm_set σ 13 (upd (σ 13) n (σ 13 n &&& (((1 : Int32) <<< (a1 &&& 31)) ^^^ (-1))))) (upd (σ 169) (786 + 16 * n + 5) (σ 13 n &&& (((1 : Int32) <<< (a1 &&& 31)) ^^^ (-1)))) := h.to (sim_pin _ h.s h.b hn) (fun k k1 k2 => s_ne (by omega)) (u_ne (by omega)) (fun i hi => u_ne (by omega)) j'.2.1.1
    refine ⟨1, _, N, by omega, j', ?_, ?_, R⟩
    · refine hx.cg (fun b k hb hk => u_ne (by omega)) (fun s' hs' z => ⟨?_, u_ne (by omega)⟩) (u_ne (by omega)) (fun i i1 i2 => u_ne (by omega))
      rw [u_ne (by omega)] at z
      exact z
    · refine f_A_unpin a1 a2 σ _ ((f_hasPinX h.s).int ?_)
      rintro x2 σ1 ⟨hx2, es⟩
      rw [es, t_nat hn1]
      refine ⟨fun _ => ⟨t_vp hn1 hn, t_vp hn1 hn, fun σ5 es5 => ⟨Or.inr rfl, _, rfl, rfl, by rw [es5]; exact t', fun a ha => by rw [es5, s_ne (by omega)]⟩⟩, fun z => absurd (hx2.b.2.mpr hp) z⟩
  · refine ⟨0, σ 169, N, by omega, hj, hx, ?_, fun σ2 e2 _ => ?_⟩
    · refine f_A_unpin a1 a2 σ _ ((f_hasPinX h.s).int ?_)
      rintro x2 σ1 ⟨hx2, es⟩
      rw [es]
      exact ⟨fun z => absurd (hx2.b.2.mp z) hp, fun _ => ⟨Or.inl rfl, sameC h⟩⟩
    · refine w_M_unpin a1 a2 σ2 _ (fun σ1 e1 => (c_isTaskX a1 σ1).int ?_)
      obtain ⟨f1, f5⟩ := told1 e2 e1
      rintro x2 σ3 ⟨hx2, es⟩
      rw [es]
      refine ⟨fun _ => ⟨Or.inl rfl, sameR e2 e1⟩, fun z2 => (c_isBlock a2 σ1).int ?_⟩
      rintro x3 σ4 ⟨hx3, es4⟩
      rw [es4]
      refine ⟨fun _ => ⟨Or.inl rfl, sameR e2 e1⟩, fun z3 => ?_⟩
      obtain ⟨-, n, hn, hn1, h0⟩ := hx3.resolve_right (fun z => z3 z.1)
      refine (c_hasPinX hn1 hn σ1).int ?_
      rintro x4 σ5 ⟨hx4, es5⟩
      rw [f1] at hx4 h0
      rw [es5]
      exact ⟨fun z => absurd ⟨hx2.b.2.mp z2, n, hn, hn1, h0, hx4.b.2.mp z⟩ hp, fun _ => ⟨Or.inl rfl, sameR e2 e1⟩⟩
