/-! ===== the simulation: pack | presses ===== -/
def frp (v : Nat → Int32) (p o : Nat) : Prop := ∀ f, p ≤ f → f < p + 2 ^ o → v (18 + 3 * f) = 1
/-- a block of span s that is to be pressed and not done -/
def cand (v w : Nat → Int32) (s b fr : Nat) : Prop := b < 96 ∧ v (786 + 16 * b + 0) = 1 ∧ w b = 0 ∧ (v (786 + 16 * b + 1)).toInt = fr ∧ fr / 32 = s ∧ v (786 + 16 * b + 3) = 0 ∧ v (786 + 16 * b + 5) = 0 ∧ v (786 + 16 * b + 6) = 0
theorem l_ntp2 {N s : Nat} {a1 : Int32} {v w : Nat → Int32} (h1 : a1.toInt = s) (hj : jj N v) (σ : sm_S) (e : σ 1 = v) (e4 : σ 4 = w) : ∀ (d k : Nat) (a2 a3 : Int32), a3.toInt = k → k + d = 96 → ((a2 = -1 ∧ ∀ b fr, b < k → ¬ cand v w s b fr) ∨ ∃ n fr : Nat, a2.toInt = n ∧ cand v w s n fr ∧ ∀ b fr', b < k → cand v w s b fr' → fr' ≤ fr) → xE xM m_M_nextToPress 4 [.ref 0, .int a1, .int a2, .int a3] [] σ (sm_I (fun x σ' => ((x = -1 ∧ ∀ b fr, ¬ cand v w s b fr) ∨ ∃ n fr : Nat, x.toInt = n ∧ cand v w s n fr ∧ ∀ b fr', cand v w s b fr' → fr' ≤ fr) ∧ σ' = σ)) := by
  intro d
  induction d with
  | zero =>
    intro k a2 a3 h3 hk hb
    have q96 : (96 : Int32) ≤ a3 := by
      rw [t_le, h3]
      show (96 : Int) ≤ _
      omega
    refine w_M_nextToPress_4 a1 a2 a3 σ _ ⟨fun _ => ⟨_, rfl, ?_, rfl⟩, fun z => absurd q96 z⟩
    rcases hb with ⟨z1, z2⟩ | ⟨n, fr, z1, z2, z3⟩
    · exact Or.inl ⟨z1, fun b fr q => z2 b fr (by have := q.1; omega) q⟩
    · exact Or.inr ⟨n, fr, z1, z2, fun b fr' q => z3 b fr' (by have := q.1; omega) q⟩
  | succ d ih =>
    intro k a2 a3 h3 hk hb
    have n96 : ¬ (96 : Int32) ≤ a3 := by
      rw [t_le, h3]
      show ¬ (96 : Int) ≤ _
      omega
    have hn : k < 96 := by omega
    have h3' : (a3 + 1).toInt = ((k + 1 : Nat) : Int) := by
      rw [t_add h3 (y := 1) rfl (by omega) (by omega)]
      omega
    have no : (∀ fr, ¬ cand v w s k fr) → xE xM m_M_nextToPress 4 [.ref 0, .int a1, .int a2, .int (a3 + 1)] [] σ (sm_I (fun x σ' => ((x = -1 ∧ ∀ b fr, ¬ cand v w s b fr) ∨ ∃ n fr : Nat, x.toInt = n ∧ cand v w s n fr ∧ ∀ b fr', cand v w s b fr' → fr' ≤ fr) ∧ σ' = σ)) := fun z => by
      refine ih (k + 1) a2 (a3 + 1) h3' (by omega) ?_
      rcases hb with ⟨z1, z2⟩ | ⟨n, fr, z1, z2, z3⟩
      · refine Or.inl ⟨z1, fun b fr hb2 => ?_⟩
        by_cases q : b = k
        · rw [q]; exact z fr
        · exact z2 b fr (by omega)
      · refine Or.inr ⟨n, fr, z1, z2, fun b fr' hb2 q => ?_⟩
        by_cases q2 : b = k
        · rw [q2] at q; exact absurd q (z fr')
        · exact z3 b fr' (by omega) q
    obtain ⟨o, fr, b1, ho, b3, hfr, hal, -⟩ := hj.2.1.1 k hn
    refine w_M_nextToPress_4 a1 a2 a3 σ _ ⟨fun z => absurd z n96, fun _ => (c_isBlock a3 σ).int ?_⟩
    rintro y σ1 ⟨ey, es⟩
    rw [e] at ey
    rw [es]
    refine ⟨fun z => no (fun fr2 q => ?_), fun z => ?_⟩
    · rcases ey with ⟨y1, -⟩ | ⟨-, y0 | ⟨m, m1, m2, m3⟩⟩
      · rw [y1] at z; exact absurd z (by decide)
      · omega
      · have : m = k := by omega
        subst this
        exact m3 q.2.1
    · have al : v (786 + 16 * k + 0) = 1 := by
        rcases ey with ⟨-, m, m1, m2, m3⟩ | ⟨y0, -⟩
        · have : m = k := by omega
          subst this
          exact m3
        · exact absurd y0 z
      rw [t_nat h3, e4]
      refine ⟨t_vp h3 hn, fun q => no (fun fr2 z => q z.2.2.1), fun q => (c_frameOf h3 hn σ).int ?_⟩
      have q := Classical.not_not.mp q
      rintro y2 σ2 ⟨ey2, es2⟩
      rw [ey2, es2, e]
      refine (c_spanOf2 b3 σ).int ?_
      rintro y3 σ3 ⟨ey3, es3⟩
      rw [es3]
      refine ⟨fun q2 => no (fun fr2 z => q2 (t_inj ?_)), fun q2 => (r_loose hj h3 hn σ e).int ?_⟩
      · have e1 := z.2.2.2.1
        have e2 := z.2.2.2.2.1
        have : fr2 = fr := by omega
        subst this
        rw [ey3, h1, e2]
      · have q2 := congrArg Int32.toInt (Classical.not_not.mp q2)
        rw [ey3, h1] at q2
        have frs : fr / 32 = s := by omega
        rintro y4 σ4 ⟨ey4, es4⟩
        rw [es4]
        refine ⟨fun z2 => no (fun fr2 z => ?_), fun z2 => ?_⟩
        · rcases ey4 with ⟨w1, -⟩ | ⟨-, w1⟩
          · rw [w1] at z2; exact absurd z2 (by decide)
          · exact w1 ⟨z.2.2.2.2.2.1, z.2.2.2.2.2.2.1, z.2.2.2.2.2.2.2⟩
        · have lo : v (786 + 16 * k + 3) = 0 ∧ v (786 + 16 * k + 5) = 0 ∧ v (786 + 16 * k + 6) = 0 := by
            rcases ey4 with ⟨-, w1⟩ | ⟨w0, -⟩
            · exact w1
            · exact absurd w0 z2
          have ck : cand v w s k fr := ⟨hn, al, q, b3, frs, lo.1, lo.2.1, lo.2.2⟩
          have une : ∀ fr2, cand v w s k fr2 → fr2 = fr := fun fr2 z => by have := z.2.2.2.1; omega
          refine ⟨fun am => ih (k + 1) a3 (a3 + 1) h3' (by omega) (Or.inr ⟨k, fr, h3, ck, fun b fr' hb2 z => ?_⟩), fun am => (c_frameOf h3 hn σ).int ?_⟩
          · rcases hb with ⟨-, w2⟩ | ⟨n, _, w1, -⟩
            · by_cases e0 : b = k
              · rw [e0] at z
                exact Nat.le_of_eq (une fr' z)
              · exact absurd z (w2 b fr' (by omega))
            · exact absurd am (ne_m1 w1)
          · rcases hb with ⟨w1, -⟩ | ⟨n, frn, w1, w2, w3⟩
            · exact absurd w1 am
            · rintro y5 σ5 ⟨ey5, es5⟩
              rw [ey5, es5, e]
              refine (c_frameOf w1 w2.1 σ).int ?_
              rintro y6 σ6 ⟨ey6, es6⟩
              rw [ey6, es6, e]
              have efn := w2.2.2.2.1
              refine ⟨fun le => ih (k + 1) a2 (a3 + 1) h3' (by omega) (Or.inr ⟨n, frn, w1, w2, fun b fr' hb2 z => ?_⟩), fun le => ih (k + 1) a3 (a3 + 1) h3' (by omega) (Or.inr ⟨k, fr, h3, ck, fun b fr' hb2 z => ?_⟩)⟩
              · rw [t_le, b3, efn] at le
                by_cases e0 : b = k
                · rw [e0] at z
                  rw [une fr' z]
                  omega
                · exact w3 b fr' (by omega) z
              · rw [t_le, b3, efn] at le
                by_cases e0 : b = k
                · rw [e0] at z
                  exact Nat.le_of_eq (une fr' z)
                · have := w3 b fr' (by omega) z
                  omega
/-- the search for a place ahead of frame fr: its end is where the next is looked for -/
theorem l_p472 {s n o fr : Nat} {a1 a2 a3 : Int32} {v : Nat → Int32} {Q : Option Value → sm_S → Prop} (h3 : a3.toInt = n) (hn : n < 96) (b3 : (v (786 + 16 * n + 1)).toInt = fr) (b1 : (v (786 + 16 * n + 2)).toInt = o) (ho : o ≤ 4) (hfr : fr < 256) (hal : fr % 2 ^ o = 0) (hfs : fr / 32 = s) (σ : sm_S) (e : σ 1 = v)
    (kY : ∀ (p : Nat) (a4 : Int32), a4.toInt = p → 32 * s ≤ p → p < fr → p % 2 ^ o = 0 → frp v p o → (∀ q, 32 * s ≤ q → q < p → q % 2 ^ o = 0 → ¬ frp v q o) → xC xM j_M_movesTo [.ref 0, .int a3, .int a4] σ (sm_rv False (fun σ5 => xC xM j_M_nextToPress [.ref 0, .int a1] σ5 (sm_ri False (fun x7 σ6 => xE xM m_M_presses 29 [.ref 0, .int a1, .int (a2 + 1), .int x7, .int a4] [] σ6 Q)))))
    (kN : ∀ a4 : Int32, (∀ q, 32 * s ≤ q → q < fr → q % 2 ^ o = 0 → ¬ frp v q o) → xC xM j_M_nextToPress [.ref 0, .int a1] σ (sm_ri False (fun x9 σ8 => xE xM m_M_presses 29 [.ref 0, .int a1, .int a2, .int x9, .int a4] [] σ8 Q))) : ∀ (d i : Nat) (a4 : Int32), a4.toInt = ((32 * s + i * 2 ^ o : Nat) : Int) → 32 * s + (i + d) * 2 ^ o = fr → (∀ q, 32 * s ≤ q → q < 32 * s + i * 2 ^ o → q % 2 ^ o = 0 → ¬ frp v q o) → xE xM m_M_presses 47 [.ref 0, .int a1, .int a2, .int a3, .int a4] [] σ Q := by
  have hp := t_pw (k := o) (by omega)
  have rf : xC xM j_M_frameOf [.ref 0, .int a3] σ (sm_I (fun y σ' => y = v (786 + 16 * n + 1) ∧ σ' = σ)) := by
    have := c_frameOf h3 hn σ
    rw [e] at this
    exact this
  have dv32 : 2 ^ o ∣ 32 := by
    have : o = 0 ∨ o = 1 ∨ o = 2 ∨ o = 3 ∨ o = 4 := by omega
    rcases this with z | z | z | z | z <;> subst z <;> decide
  have al : ∀ i, (32 * s + i * 2 ^ o) % 2 ^ o = 0 := fun i => Nat.mod_eq_zero_of_dvd (Nat.dvd_add (Nat.dvd_trans dv32 ⟨s, rfl⟩) ⟨i, Nat.mul_comm _ _⟩)
  intro d
  induction d with
  | zero =>
    intro i a4 h4 hd hb
    refine w_M_presses_47 a1 a2 a3 a4 σ Q (rf.int ?_)
    rintro y σ1 ⟨ey, es⟩
    rw [ey, es]
    refine ⟨fun _ => rf.int ?_, fun z => absurd ?_ z⟩
    · rintro y2 σ2 ⟨ey2, es2⟩
      rw [ey2, es2]
      refine ⟨fun z => ?_, fun _ => kN a4 (fun q q1 q2 q3 => hb q q1 (by rw [Nat.add_zero] at hd; omega) q3)⟩
      rw [t_lt, h4, b3] at z
      rw [Nat.add_zero] at hd
      omega
    · rw [t_le, b3, h4]
      rw [Nat.add_zero] at hd
      omega
  | succ d ih =>
    intro i a4 h4 hd hb
    have hlt : 32 * s + i * 2 ^ o < fr := by
      have : (i + (d + 1)) * 2 ^ o = i * 2 ^ o + (d + 1) * 2 ^ o := Nat.add_mul _ _ _
      have : 1 * 2 ^ o ≤ (d + 1) * 2 ^ o := Nat.mul_le_mul_right _ (by omega)
      omega
    refine w_M_presses_47 a1 a2 a3 a4 σ Q (rf.int ?_)
    rintro y σ1 ⟨ey, es⟩
    rw [ey, es]
    refine ⟨fun z => ?_, fun _ => (c_of (k := 2) (j := 2) h3 rfl (by omega) σ).int ?_⟩
    · rw [t_le, b3, h4] at z
      omega
    · rintro y2 σ2 ⟨ey2, es2⟩
      rw [ey2, es2, e]
      refine (c_areFree h4 (by omega) b1 (by omega) σ).int ?_
      rintro y3 σ3 ⟨ey3, es3⟩
      rw [e, al_pow (al i)] at ey3
      rw [es3]
      refine ⟨fun z => rf.int ?_, fun z => (c_longOf h3 hn σ).int ?_⟩
      · have hfree : frp v (32 * s + i * 2 ^ o) o := by
          rcases ey3 with ⟨-, w⟩ | ⟨w, -⟩
          · intro f f1 f2
            have := w (f - (32 * s + i * 2 ^ o)) (by omega)
            rw [show 32 * s + i * 2 ^ o + (f - (32 * s + i * 2 ^ o)) = f by omega] at this
            exact this
          · exact absurd w z
        rintro y4 σ4 ⟨ey4, es4⟩
        rw [ey4, es4]
        refine ⟨fun _ => kY _ a4 h4 (by omega) hlt (al i) hfree hb, fun w => absurd ?_ w⟩
        rw [t_lt, h4, b3]
        omega
      · have nfree : ¬ frp v (32 * s + i * 2 ^ o) o := fun q => by
          rcases ey3 with ⟨w, -⟩ | ⟨-, j, j1, j2⟩
          · exact z (by rw [w]; decide)
          · exact j2 (q _ (by omega) (by omega))
        rintro y5 σ5 ⟨ey5, es5⟩
        rw [ey5, es5, e]
        have sm : (i + 1) * 2 ^ o = i * 2 ^ o + 2 ^ o := Nat.succ_mul i (2 ^ o)
        have h4' : (a4 + (1 : Int32) <<< (v (786 + 16 * n + 2) &&& 31)).toInt = ((32 * s + (i + 1) * 2 ^ o : Nat) : Int) := by
          rw [t_add h4 (t_pow b1 (by omega)) (by omega) (by omega)]
          omega
        refine ih (i + 1) _ h4' (by rw [show i + 1 + d = i + (d + 1) by omega]; exact hd) (fun q q1 q2 q3 => ?_)
        by_cases lt : q < 32 * s + i * 2 ^ o
        · exact hb q q1 lt q3
        · have : q = 32 * s + i * 2 ^ o := by
            have a1 := Nat.div_add_mod q (2 ^ o)
            have a2 := Nat.div_add_mod (32 * s + i * 2 ^ o) (2 ^ o)
            rw [q3] at a1
            rw [al i] at a2
            have a3 : 2 ^ o * (q / 2 ^ o) < 2 ^ o * ((32 * s + i * 2 ^ o) / 2 ^ o + 1) := by rw [Nat.mul_succ]; omega
            have a4 := Nat.lt_of_mul_lt_mul_left a3
            have a5 : 2 ^ o * ((32 * s + i * 2 ^ o) / 2 ^ o) ≤ 2 ^ o * (q / 2 ^ o) := by omega
            have a6 := Nat.le_of_mul_le_mul_left a5 (by omega)
            have : q / 2 ^ o = (32 * s + i * 2 ^ o) / 2 ^ o := by omega
            rw [this] at a1
            omega
          rw [this]
          exact nfree
theorem frp_iff {c : sm_S} {v : Nat → Int32} {s i o : Nat} (h : sim0 c v) (hs : s < 8) (hi : i < 32) (ho : o ≤ 4) : bit (st (c 2 s) o) i ↔ i % 2 ^ o = 0 ∧ frp v (32 * s + i) o := by
  rw [st_iff (by omega) hi]
  refine and_congr_right (fun al => ?_)
  have ha := t_al (k := o) (f := i) (by omega) al
  refine ⟨fun q f f1 f2 => ?_, fun q j hj => ?_⟩
  · have := q (f - (32 * s + i)) (by omega)
    rw [al_pow al] at this
    have e := (h.F f (by omega)).fre
    rw [show f / 32 = s by omega, show f % 32 = i + (f - (32 * s + i)) by omega] at e
    exact e.mp this
  · rw [al_pow al]
    have e := (h.F (32 * s + i + j) (by omega)).fre
    rw [show (32 * s + i + j) / 32 = s by omega, show (32 * s + i + j) % 32 = i + j by omega] at e
    exact e.mpr (q _ (by omega) (by omega))
