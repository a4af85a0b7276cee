/-! ===== the simulation: pack | presses, side by side ===== -/
theorem al_gap {q p o : Nat} (h1 : q % 2 ^ o = 0) (h2 : p % 2 ^ o = 0) (h : q < p) : q + 2 ^ o ≤ p := by
  have a1 := Nat.div_add_mod q (2 ^ o)
  have a2 := Nat.div_add_mod p (2 ^ o)
  rw [h1] at a1
  rw [h2] at a2
  have a3 : 2 ^ o * (q / 2 ^ o) < 2 ^ o * (p / 2 ^ o) := by omega
  have a4 := Nat.lt_of_mul_lt_mul_left a3
  have a5 : 2 ^ o * (q / 2 ^ o + 1) ≤ 2 ^ o * (p / 2 ^ o) := Nat.mul_le_mul_left _ a4
  rw [Nat.mul_succ] at a5
  omega
theorem e_blockAt2 {a1 : Int32} {f : Nat} {v : Nat → Int32} (h1 : a1.toInt = f) (hf : f < 256) (σ : sm_S) (h : sim0 σ v) : xC xD j_Y_blockAt [.ref 0, .int a1] σ (sm_I (fun x σ' => ((x = -1 ∧ wt v f ≠ 1) ∨ ∃ n : Nat, n < 96 ∧ x.toInt = n ∧ v (786 + 16 * n + 0) = 1 ∧ (v (786 + 16 * n + 1)).toInt = f ∧ v (18 + 3 * f) = 3 ∧ (v (18 + 3 * f + 1)).toInt = ((n + 1 : Nat) : Int)) ∧ σ' = σ)) := by
  have gF := h.F f hf
  refine d_Y_blockAt a1 σ _ ?_
  rw [t_nat h1]
  refine ⟨t_vp h1 hf, fun z => ⟨_, rfl, Or.inl ⟨rfl, ?_⟩, rfl⟩, fun z => ?_⟩
  · have e := gF.blk
    rw [z] at e
    have e : v (18 + 3 * f + 1) = 0 := e
    by_cases q : v (18 + 3 * f) = 3
    · obtain ⟨b, _, _, p1, p2, -⟩ := h.O.tk _ hf q
      rw [e] at p2
      have p2 : (0 : Int) = _ := p2
      omega
    · rw [wt_0 q]; decide
  · have s34 : v (18 + 3 * f) = 3 ∨ v (18 + 3 * f) = 4 := by
      refine Classical.byContradiction (fun q => z ?_)
      have e := h.O.no f hf (fun y => q (Or.inl y)) (fun y => q (Or.inr y))
      rw [gF.blk] at e
      have e2 : σ 6 f = (σ 6 f + 1) - 1 := by rw [Int32.add_sub_cancel]
      rw [e2, e]
      rfl
    have bb : ∃ b : Nat, b < 96 ∧ (v (18 + 3 * f + 1)).toInt = ((b + 1 : Nat) : Int) ∧ v (786 + 16 * b + 0) = 1 ∧ (v (18 + 3 * f) ≠ 3 → (v (786 + 16 * b + 1)).toInt ≠ f) := by
      rcases s34 with q | q
      · obtain ⟨b, _, _, p1, p2, p3, -⟩ := h.O.tk _ hf q
        exact ⟨b, p1, p2, p3, fun y => absurd q y⟩
      · obtain ⟨b, t, o, p1, p2, p3, p4, p5, p6⟩ := h.O.hl _ hf q
        refine ⟨b, p1, p2, p3, fun _ y => ?_⟩
        have := (h.O.hs b f o p1 p3 y p5 0 (Nat.two_pow_pos o)).1
        rw [Nat.add_zero, q] at this
        exact absurd this (by decide)
    obtain ⟨b, p1, p2, p3, p4⟩ := bb
    have c6 : (σ 6 f).toInt = b := m1_add (by rw [← gF.blk]; exact p2) (by omega)
    obtain ⟨gb, -⟩ := (h.B b p1).al p3
    rw [t_nat c6, ← gb.fir]
    refine ⟨t_vp c6 p1, fun w => ⟨_, rfl, Or.inl ⟨rfl, ?_⟩, rfl⟩, fun w => ?_⟩
    · by_cases q : v (18 + 3 * f) = 3
      · rw [wt_1 q p2 p1, if_neg (fun y => w (t_inj (by rw [y, h1])))]
        decide
      · rw [wt_0 q]; decide
    · have w := congrArg Int32.toInt (Classical.not_not.mp w)
      rw [h1] at w
      have q : v (18 + 3 * f) = 3 := Classical.byContradiction (fun q => p4 q w)
      exact ⟨_, rfl, Or.inr ⟨b, p1, c6, p3, w, q, p2⟩, rfl⟩
/-- what is done of a press -/
def prs (v w : Nat → Int32) (s k : Nat) : Prop := (∀ b fr, cand v w s b fr → fr % 32 < k) ∧ ∀ b fr o : Nat, b < 96 → v (786 + 16 * b + 0) = 1 → w b ≠ 0 → (v (786 + 16 * b + 1)).toInt = fr → fr / 32 = s → fr % 32 < k → (v (786 + 16 * b + 2)).toInt = o → v (786 + 16 * b + 3) = 0 → v (786 + 16 * b + 5) = 0 → v (786 + 16 * b + 6) = 0 → ∀ q, 32 * s ≤ q → q < fr → q % 2 ^ o = 0 → ¬ frp v q o
theorem cand_at {v w : Nat → Int32} {s b fr : Nat} (ow : own v) (hk : ∀ b, b < 96 → bk_ok v b) (h : cand v w s b fr) : v (18 + 3 * fr) = 3 ∧ (v (18 + 3 * fr + 1)).toInt = ((b + 1 : Nat) : Int) ∧ wt v fr = 1 := by
  obtain ⟨o, fr', b1, ho, b3, -⟩ := hk b h.1
  have e := h.2.2.2.1
  have := ow.hs b fr o h.1 h.2.1 e b1 0 (Nat.two_pow_pos o)
  rw [Nat.add_zero] at this
  exact ⟨this.1, this.2, by rw [wt_1 this.1 this.2 h.1, if_pos e]⟩
theorem l_pack2 {g : Prop} {s : Nat} {a1 : Int32} (h1 : a1.toInt = s) (hs : s < 8) : ∀ (k N : Nat) (a2 a3 : Int32) (c : sm_S) (v w : Nat → Int32), tie g N c v → jj N v → jx v → v (2358 + 8 * s + 0) = 1 → a3.toInt = (k : Int) - 1 → k ≤ 32 → prs v w s k →
    ∃ v' c' y, (∀ (σ : sm_S) (v4 : Value), σ 1 = v → σ 4 = w → xC xM j_M_nextToPress [.ref 0, .int a1] σ (sm_ri False (fun x σ1 => xE xM m_M_presses 29 [.ref 0, .int a1, .int a2, .int x, v4] [] σ1 (sm_I (fun z σ' => z = y ∧ ∃ w', σ' = sm_set (sm_set σ 4 w') 1 v'))))) ∧ (∀ v4 v5 v6 : Value, xE xD m_Y_pack 5 [.ref 0, .int a1, .int a2, .int a3, v4, v5, v6] [] c (sm_I (fun z σ' => z = y ∧ σ' = c'))) ∧ tie g N c' v' ∧ jj N v' ∧ jx v' ∧ v' (2358 + 8 * s + 0) = 1 := by
  intro k
  induction k with
  | zero =>
    intro N a2 a3 c v w h hj hx hst h3 hk hp
    have a3n : a3 < 0 := by
      rw [t_lt, h3]
      show _ < (0 : Int)
      omega
    refine ⟨v, c, a2, fun σ v4 e e4 => (w_M_nextToPress a1 σ _ (l_ntp2 h1 hj σ e e4 96 0 (-1) 0 rfl rfl (Or.inl ⟨rfl, fun b fr hb => by omega⟩))).int ?_, fun v4 v5 v6 => d_Y_pack_5 a1 a2 a3 v4 v5 v6 c _ ⟨fun _ => ⟨_, rfl, rfl, rfl⟩, fun z => absurd a3n z⟩, h, hj, hx, hst⟩
    rintro x σ1 ⟨hx1, es⟩
    rw [es]
    have xm : x = -1 := by
      rcases hx1 with ⟨z, -⟩ | ⟨n, fr, -, z, -⟩
      · exact z
      · have := hp.1 n fr z
        omega
    refine w_M_presses_29 a1 a2 x v4 σ _ ⟨fun _ => ⟨_, rfl, rfl, w, ?_⟩, fun z => absurd xm z⟩
    rw [← e4, s_id, ← e, s_id]
  | succ k ih =>
    intro N a2 a3 c v w h hj hx hst h3 hk hp
    have h3k : a3.toInt = k := by rw [h3]; omega
    have h3' : (a3 + (-1)).toInt = (k : Int) - 1 := by
      rw [t_add h3k (y := -1) rfl (by omega) (by omega)]
      omega
    have a3n : ¬ a3 < 0 := by
      rw [t_lt, h3k]
      show ¬ _ < (0 : Int)
      omega
    have hfI : (a1 * 32 + a3).toInt = ((32 * s + k : Nat) : Int) := by
      rw [t_add (t_mul h1 (y := 32) rfl (by omega) (by omega)) h3k (by omega) (by omega)]
      omega
    obtain ⟨x, hxx, rx⟩ := pick (e_blockAt2 hfI (by omega) c h.s)
    -- down: the same, one offset on
    have down : (∀ b fr, cand v w s b fr → fr ≠ 32 * s + k) → prs v w s k := fun z => ⟨fun b fr q => by
      have := hp.1 b fr q
      have := z b fr q
      have := q.2.2.2.2.1
      omega, fun b fr o q1 q2 q3 q4 q5 q6 q7 q8 q9 q10 => hp.2 b fr o q1 q2 q3 q4 q5 (by omega) q7 q8 q9 q10⟩
    rcases hxx with ⟨xm, wn⟩ | ⟨n, hn, hxn, h0, b3, f3, fb⟩
    · obtain ⟨v', c', y, qr, qc, t', j', x', s'⟩ := ih N a2 (a3 + (-1)) c v w h hj hx hst h3' (by omega) (down (fun b fr q e => by
        have := (cand_at h.s.O h.b q).2.2
        rw [e] at this
        exact wn this))
      refine ⟨v', c', y, qr, fun v4 v5 v6 => d_Y_pack_5 a1 a2 a3 v4 v5 v6 c _ ⟨fun z => absurd z a3n, fun _ => rx.int ?_⟩, t', j', x', s'⟩
      rintro z1 σ1 ⟨ez1, es1⟩
      rw [ez1, es1]
      exact ⟨fun _ => qc _ _ _, fun z => absurd xm z⟩
    · have xm : x ≠ -1 := ne_m1 hxn
      obtain ⟨gb, gb9⟩ := (h.s.B n hn).al h0
      obtain ⟨o, fr', b1, ho, b3', hfr, hal, -⟩ := hj.2.1.1 n hn
      have ef : fr' = 32 * s + k := by omega
      subst ef
      have only : ∀ b fr, cand v w s b fr → fr = 32 * s + k → b = n := fun b fr q e => by
        have := (cand_at h.s.O h.b q).2.1
        rw [e] at this
        omega
      have vx := t_vp hxn hn
      by_cases lo : v (786 + 16 * n + 3) = 0 ∧ v (786 + 16 * n + 5) = 0 ∧ v (786 + 16 * n + 6) = 0
      · have c10 : (c 10 n).toInt = o := by rw [← gb.ord]; exact b1
        have hpw := t_pw (k := o) (by omega)
        -- the class up to the place
        obtain ⟨y8, hy8, ry8⟩ := pick (c_ntz2 (st (c 2 s) o) c)
        have upC : ∀ {Q : Option Value → sm_S → Prop} (v4 v5 v6 : Value), ((a3 ≤ y8 → xE xD m_Y_pack 5 [.ref 0, .int a1, .int a2, .int (a3 + (-1)), .int x, .int (st (c 2 s) o), .int y8] [] c Q) ∧ (¬ (a3 ≤ y8) → xC xD j_Y_moveAtOnce [.ref 0, .int x, .int ((a1 * 32) + y8)] c (sm_rv False (fun σ9 => xE xD m_Y_pack 5 [.ref 0, .int a1, .int (a2 + 1), .int (a3 + (-1)), .int x, .int (st (c 2 s) o), .int y8] [] σ9 Q)))) → xE xD m_Y_pack 5 [.ref 0, .int a1, .int a2, .int a3, v4, v5, v6] [] c Q := fun {Q} v4 v5 v6 hQ => by
          refine d_Y_pack_5 a1 a2 a3 v4 v5 v6 c Q ⟨fun z => absurd z a3n, fun _ => rx.int ?_⟩
          rintro z1 σ1 ⟨ez1, es1⟩
          rw [ez1, es1, t_nat hxn, t_nat h1]
          refine ⟨fun z => absurd z xm, fun _ => ⟨vx, fun z => absurd (gb.kin.symm.trans lo.1) z, fun _ => (e_isLoose2 hxn hn c).int ?_⟩⟩
          rintro z2 σ2 ⟨ez2, es2⟩
          rw [es2]
          refine ⟨fun _ => ⟨t_vp h1 hs, vx, (c_starts c10 (by omega) (c 2 s) c).int ?_⟩, fun z => ?_⟩
          · rintro z3 σ3 ⟨ez3, es3⟩
            rw [ez3, es3]
            refine ry8.int ?_
            rintro z4 σ4 ⟨ez4, es4⟩
            rw [ez4, es4]
            exact hQ
          · rcases ez2 with ⟨w1, -⟩ | ⟨-, w1⟩
            · rw [w1] at z; exact absurd (by decide) z
            · exact absurd ⟨gb.pin.symm.trans lo.2.1, (c14_iff gb).mpr lo.2.2⟩ w1
        -- is there a place ahead
        have place : (a3 ≤ y8 ∧ ∀ q, 32 * s ≤ q → q < 32 * s + k → q % 2 ^ o = 0 → ¬ frp v q o) ∨ ∃ i : Nat, i < k ∧ y8.toInt = i ∧ ¬ a3 ≤ y8 ∧ (32 * s + i) % 2 ^ o = 0 ∧ frp v (32 * s + i) o ∧ ∀ q, 32 * s ≤ q → q < 32 * s + i → q % 2 ^ o = 0 → ¬ frp v q o := by
          have dv32 : 2 ^ o ∣ 32 := by
            have : o = 0 ∨ o = 1 ∨ o = 2 ∨ o = 3 ∨ o = 4 := by omega
            rcases this with z | z | z | z | z <;> subst z <;> decide
          have md : ∀ i, (32 * s + i) % 2 ^ o = i % 2 ^ o := fun i => by
            obtain ⟨t, ht⟩ := dv32
            rw [ht, Nat.mul_assoc, Nat.add_comm, Nat.add_mul_mod_self_left]
          rcases hy8 with ⟨z1, z2⟩ | ⟨p, p1, p2, p3, p4⟩
          · refine Or.inl ⟨by rw [t_le, h3k, z2]; show _ ≤ (32 : Int); omega, fun q q1 q2 q3 q4 => ?_⟩
            have := (frp_iff (i := q - 32 * s) h.s hs (by omega) ho).mpr ⟨by rw [← md, show 32 * s + (q - 32 * s) = q by omega]; exact q3, by rw [show 32 * s + (q - 32 * s) = q by omega]; exact q4⟩
            rw [z1] at this
            exact bit_0 this
          · obtain ⟨z3, z4⟩ := (frp_iff h.s hs p1 ho).mp p3
            have less : ∀ q, 32 * s ≤ q → q < 32 * s + p → q % 2 ^ o = 0 → ¬ frp v q o := fun q q1 q2 q3 q4 => by
              have := (frp_iff (i := q - 32 * s) h.s hs (by omega) ho).mpr ⟨by rw [← md, show 32 * s + (q - 32 * s) = q by omega]; exact q3, by rw [show 32 * s + (q - 32 * s) = q by omega]; exact q4⟩
              exact p4 (q - 32 * s) (by omega) this
            by_cases le : k ≤ p
            · exact Or.inl ⟨by rw [t_le, h3k, p2]; omega, fun q q1 q2 => less q q1 (by omega)⟩
            · exact Or.inr ⟨p, by omega, p2, by rw [t_le, h3k, p2]; omega, by rw [md]; exact z3, z4, less⟩
        by_cases wz : w n = 0
        · -- it is its turn on both sides
          have cn0 : cand v w s n (32 * s + k) := ⟨hn, h0, wz, b3, by omega, lo.1, lo.2.1, lo.2.2⟩
          have w1n : upd w n 1 n = 1 := u_at
          have w1o : ∀ b, b ≠ n → upd w n 1 b = w b := fun b hb => u_ne hb
          have cw : ∀ b fr, cand v (upd w n 1) s b fr → b ≠ n ∧ cand v w s b fr := fun b fr q => by
            have bn : b ≠ n := fun e => by
              have := q.2.2.1
              rw [e, w1n] at this
              exact absurd this (by decide)
            exact ⟨bn, q.1, q.2.1, by rw [← w1o b bn]; exact q.2.2.1, q.2.2.2⟩
          -- the reference up to the search
          have upR : ∀ (σ : sm_S) (v4 : Value) (Q : Option Value → sm_S → Prop), σ 1 = v → σ 4 = w → xE xM m_M_presses 47 [.ref 0, .int a1, .int a2, .int x, .int (32 * a1)] [] (sm_set σ 4 (upd w n 1)) Q → xC xM j_M_nextToPress [.ref 0, .int a1] σ (sm_ri False (fun x σ1 => xE xM m_M_presses 29 [.ref 0, .int a1, .int a2, .int x, v4] [] σ1 Q)) := fun σ v4 Q e e4 hQ => by
            refine (w_M_nextToPress a1 σ _ (l_ntp2 h1 hj σ e e4 96 0 (-1) 0 rfl rfl (Or.inl ⟨rfl, fun b fr hb => by omega⟩))).int ?_
            rintro z1 σ1 ⟨hz1, es1⟩
            have ez1 : z1 = x := by
              rcases hz1 with ⟨-, z⟩ | ⟨m, fr, z1', z2, z3⟩
              · exact absurd cn0 (z n _)
              · have a := z3 n _ cn0
                have b := hp.1 m fr z2
                have d := z2.2.2.2.2.1
                have : fr = 32 * s + k := by omega
                have := only m fr z2 this
                subst this
                exact t_inj (by rw [z1', hxn])
            rw [ez1, es1]
            refine w_M_presses_29 a1 a2 x v4 σ Q ⟨fun z => absurd z xm, fun _ => ⟨vx, Or.inr rfl, fun σ2 e2 => ?_⟩⟩
            rw [t_nat hxn, e4] at e2
            rw [e2]
            exact hQ
          have i32 : (32 * a1).toInt = ((32 * s + 0 * 2 ^ o : Nat) : Int) := by
            have e := t_ix (c := 0) (m := 32) (C := 0) (M := 32) (k := 0) (j := 0) rfl rfl h1 rfl (by omega)
            rw [Int32.zero_add, Int32.add_zero] at e
            rw [e, Nat.zero_mul]
            omega
          have kd : 32 * s + (0 + k / 2 ^ o) * 2 ^ o = 32 * s + k := by
            have dv32 : 2 ^ o ∣ 32 := by
              have : o = 0 ∨ o = 1 ∨ o = 2 ∨ o = 3 ∨ o = 4 := by omega
              rcases this with z | z | z | z | z <;> subst z <;> decide
            have : k % 2 ^ o = 0 := by
              obtain ⟨t, ht⟩ := dv32
              rw [ht, Nat.mul_assoc, Nat.add_comm, Nat.add_mul_mod_self_left] at hal
              exact hal
            rw [Nat.zero_add, al_pow this]
          rcases place with ⟨le, none⟩ | ⟨i, ik, iy, nle, ial, ifr, imin⟩
          · have pr1 : prs v (upd w n 1) s k := ⟨fun b fr q => by
              obtain ⟨q1, q2⟩ := cw b fr q
              have a := hp.1 b fr q2
              have d := q2.2.2.2.2.1
              have : fr ≠ 32 * s + k := fun e => q1 (only b fr q2 e)
              omega, fun b fr o' q1 q2 q3 q4 q5 q6 q7 q8 q9 q10 => by
              have bn : b ≠ n := fun e => by
                subst e
                omega
              exact hp.2 b fr o' q1 q2 (by rw [w1o b bn] at q3; exact q3) q4 q5 (by omega) q7 q8 q9 q10⟩
            obtain ⟨v', c', y, qr, qc, t', j', x', s'⟩ := ih N a2 (a3 + (-1)) c v (upd w n 1) h hj hx hst h3' (by omega) pr1
            refine ⟨v', c', y, fun σ v4 e e4 => upR σ v4 _ e e4 ?_, fun v4 v5 v6 => upC v4 v5 v6 ⟨fun _ => qc _ _ _, fun z => absurd le z⟩, t', j', x', s'⟩
            refine l_p472 (s := s) hxn hn b3 b1 ho hfr hal (by omega) (sm_set σ 4 (upd w n 1)) (by rw [s_ne (by decide)]; exact e) (fun p a4 p1 p2 p3 p4 p5 _ => absurd p5 (none p p2 p3 p4)) (fun a4 _ => ?_) (k / 2 ^ o) 0 (32 * a1) i32 kd (fun q q1 q2 => by rw [Nat.zero_mul] at q2; omega)
            have := qr (sm_set σ 4 (upd w n 1)) (.int a4) (by rw [s_ne (by decide)]; exact e) s_at
            refine this.mono ?_
            intro r τ hτ
            cases r with
            | none => exact hτ
            | some rv =>
              cases rv with
              | int z =>
                refine sm_E.mono hτ ?_
                rintro r2 σ2 ⟨z2, rfl, hz2, w2, hs2⟩
                exact ⟨z2, rfl, hz2, w2, by rw [hs2, s_ss]⟩
              | _ => exact hτ
          · have hP : (a1 * 32 + y8).toInt = ((32 * s + i : Nat) : Int) := by
              rw [t_add (t_mul h1 (y := 32) rfl (by omega) (by omega)) iy (by omega) (by omega)]
              omega
            have gap := al_gap ial hal (show 32 * s + i < 32 * s + k by omega)
            obtain ⟨c1, rr, rc, t1, j1, x1, vo, vf, vp, v1⟩ := p_move h hj hx hxn hn h0 b3 lo.2.2 b1 (by rw [show (32 * s + k) / 32 = s by omega]; exact hst) hP (by omega) ial ifr
            have hle := al_le ho hfr hal
            have bo : ∀ b k', b < 96 → k' < 16 → (b ≠ n ∨ k' ≠ 1) → cnF (mwF v n (32 * s + k) (32 * s + i) o (x + 1) (a1 * 32 + y8)) 10 1 (786 + 16 * b + k') = v (786 + 16 * b + k') := fun b k' q1 q2 q3 => vo _ (by omega) (by omega) (by omega) (by omega)
            have fre : ∀ f, f < 32 * s + k → cnF (mwF v n (32 * s + k) (32 * s + i) o (x + 1) (a1 * 32 + y8)) 10 1 (18 + 3 * f) = 1 → v (18 + 3 * f) = 1 := fun f f1 f2 => by
              by_cases q : 32 * s + i ≤ f ∧ f < 32 * s + i + 2 ^ o
              · exact ifr f q.1 q.2
              · rw [vo _ (by omega) (by omega) (by omega) (by omega)] at f2
                exact f2
            have pr1 : prs (cnF (mwF v n (32 * s + k) (32 * s + i) o (x + 1) (a1 * 32 + y8)) 10 1) (upd w n 1) s k := by
              refine ⟨fun b fr q => ?_, fun b fr o' q1 q2 q3 q4 q5 q6 q7 q8 q9 q10 q11 q12 q13 q14 q15 => ?_⟩
              · have bn : b ≠ n := fun e => by
                  have := q.2.2.1
                  rw [e, w1n] at this
                  exact absurd this (by decide)
                have hb := q.1
                have q2 : cand v w s b fr := ⟨hb, by rw [← bo b 0 hb (by omega) (Or.inl bn)]; exact q.2.1, by rw [← w1o b bn]; exact q.2.2.1, by rw [← bo b 1 hb (by omega) (Or.inl bn)]; exact q.2.2.2.1, q.2.2.2.2.1, by rw [← bo b 3 hb (by omega) (Or.inl bn)]; exact q.2.2.2.2.2.1, by rw [← bo b 5 hb (by omega) (Or.inl bn)]; exact q.2.2.2.2.2.2.1, by rw [← bo b 6 hb (by omega) (Or.inl bn)]; exact q.2.2.2.2.2.2.2⟩
                have a := hp.1 b fr q2
                have d := q2.2.2.2.2.1
                have : fr ≠ 32 * s + k := fun e => bn (only b fr q2 e)
                omega
              · by_cases bn : b = n
                · subst bn
                  rw [v1] at q4
                  rw [bo b 2 hn (by omega) (Or.inr (by omega))] at q7
                  have e1 : fr = 32 * s + i := by omega
                  have e2 : o' = o := by omega
                  subst e1 e2
                  refine imin q11 q12 q13 q14 (fun f f1 f2 => ?_)
                  have := al_gap q14 ial q13
                  exact fre f (by omega) (q15 f f1 f2)
                · rw [bo b 0 q1 (by omega) (Or.inl bn)] at q2
                  rw [w1o b bn] at q3
                  rw [bo b 1 q1 (by omega) (Or.inl bn)] at q4
                  rw [bo b 2 q1 (by omega) (Or.inl bn)] at q7
                  rw [bo b 3 q1 (by omega) (Or.inl bn)] at q8
                  rw [bo b 5 q1 (by omega) (Or.inl bn)] at q9
                  rw [bo b 6 q1 (by omega) (Or.inl bn)] at q10
                  obtain ⟨o2, fr2, z1, z2, z3, z4, z5, -⟩ := hj.2.1.1 b q1
                  have e1 : o2 = o' := by omega
                  have e2 : fr2 = fr := by omega
                  subst e1 e2
                  refine hp.2 b fr2 o2 q1 q2 q3 q4 q5 (by omega) q7 q8 q9 q10 q11 q12 q13 q14 (fun f f1 f2 => ?_)
                  have := al_gap q14 z5 q13
                  exact fre f (by omega) (q15 f f1 f2)
            obtain ⟨v', c', y, qr, qc, t', j', x', s'⟩ := ih N (a2 + 1) (a3 + (-1)) c1 _ (upd w n 1) t1 j1 x1 (by rw [vo _ (by omega) (by omega) (by omega) (by omega)]; exact hst) h3' (by omega) pr1
            refine ⟨v', c', y, fun σ v4 e e4 => upR σ v4 _ e e4 ?_, fun v4 v5 v6 => upC v4 v5 v6 ⟨fun z => absurd z nle, fun _ => rc.void ?_⟩, t', j', x', s'⟩
            · refine l_p472 (s := s) hxn hn b3 b1 ho hfr hal (by omega) (sm_set σ 4 (upd w n 1)) (by rw [s_ne (by decide)]; exact e) (fun p a4 p1 p2 p3 p4 p5 p6 => ?_) (fun a4 q => absurd ifr (q _ (by omega) (by omega) ial)) (k / 2 ^ o) 0 (32 * a1) i32 kd (fun q q1 q2 => by rw [Nat.zero_mul] at q2; omega)
              have ep : p = 32 * s + i := by
                have d1 : ¬ p < 32 * s + i := fun z => imin p p2 z p4 p5
                have d2 : ¬ 32 * s + i < p := fun z => p6 _ (by omega) z ial ifr
                omega
              have ea4 : a4 = a1 * 32 + y8 := t_inj (by rw [p1, hP, ep])
              rw [ea4]
              refine (rr _ (by rw [s_ne (by decide)]; exact e)).void ?_
              rintro σ5 e5
              have := qr σ5 (.int (a1 * 32 + y8)) (by rw [e5, s_at]) (by rw [e5, s_ne (by decide), s_at])
              refine this.mono ?_
              intro r τ hτ
              cases r with
              | none => exact hτ
              | some rv =>
                cases rv with
                | int z =>
                  refine sm_E.mono hτ ?_
                  rintro r2 σ2 ⟨z2, rfl, hz2, w2, hs2⟩
                  refine ⟨z2, rfl, hz2, w2, ?_⟩
                  rw [hs2, e5, s_com (show 1 ≠ 4 by decide), s_ss, s_ss]
                | _ => exact hτ
            · rintro _ rfl
              exact qc _ _ _
        · -- it was done: no place ahead
          have none := hp.2 n (32 * s + k) o hn h0 wz b3 (by omega) (by omega) b1 lo.1 lo.2.1 lo.2.2
          obtain ⟨v', c', y, qr, qc, t', j', x', s'⟩ := ih N a2 (a3 + (-1)) c v w h hj hx hst h3' (by omega) (down (fun b fr q e => by
            have := only b fr q e
            subst this
            exact wz q.2.2.1))
          refine ⟨v', c', y, qr, fun v4 v5 v6 => upC v4 v5 v6 ⟨fun _ => qc _ _ _, fun z => ?_⟩, t', j', x', s'⟩
          rcases place with ⟨le, -⟩ | ⟨i, ik, -, -, ial, ifr, -⟩
          · exact absurd le z
          · exact absurd ifr (none _ (by omega) (by omega) ial)
      · obtain ⟨v', c', y, qr, qc, t', j', x', s'⟩ := ih N a2 (a3 + (-1)) c v w h hj hx hst h3' (by omega) (down (fun b fr q e => by
          have := only b fr q e
          subst this
          exact lo ⟨q.2.2.2.2.2.1, q.2.2.2.2.2.2.1, q.2.2.2.2.2.2.2⟩))
        refine ⟨v', c', y, qr, fun v4 v5 v6 => d_Y_pack_5 a1 a2 a3 v4 v5 v6 c _ ⟨fun z => absurd z a3n, fun _ => rx.int ?_⟩, t', j', x', s'⟩
        rintro z1 σ1 ⟨ez1, es1⟩
        rw [ez1, es1, t_nat hxn]
        refine ⟨fun _ => qc _ _ _, fun _ => ⟨vx, fun _ => qc _ _ _, fun z => (e_isLoose2 hxn hn c).int ?_⟩⟩
        rintro z2 σ2 ⟨ez2, es2⟩
        rw [es2]
        refine ⟨fun z3 => ?_, fun _ => qc _ _ _⟩
        rcases ez2 with ⟨-, w1, w2⟩ | ⟨w0, -⟩
        · exact absurd ⟨gb.kin.trans (Classical.not_not.mp z), gb.pin.trans w1, (c14_iff gb).mp w2⟩ lo
        · exact absurd w0 z3
