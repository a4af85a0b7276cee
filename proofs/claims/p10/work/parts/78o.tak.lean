/-! ===== the simulation: take ===== -/
def lucV (v : Nat → Int32) (x : Int32) : Prop := x = -1 ∨ ∃ n : Nat, n < 96 ∧ x.toInt = n ∧ v (786 + 16 * n + 0) = 1 ∧ v (786 + 16 * n + 3) = 2 ∧ v (786 + 16 * n + 6) = 0
theorem l_luc2 {N : Nat} {c : sm_S} {v : Nat → Int32} (h : sim0 c v) (hj : jj N v) : ∀ (d k : Nat) (a1 a2 : Int32), a2.toInt = k → k + d = 96 → lucV v a1 → ∃ y : Int32, (∀ σ : sm_S, σ 1 = v → xE xM m_M_leastUsed 4 [.ref 0, .int a1, .int a2] [] σ (sm_I (fun x σ' => x = y ∧ σ' = σ))) ∧ xE xD m_B_leastUsedCache 4 [.ref 8, .int a1, .int a2] [] c (sm_I (fun x σ' => x = y ∧ σ' = c)) ∧ lucV v y := by
  intro d
  induction d with
  | zero =>
    intro k a1 a2 h2 hk ha
    have q96 : (96 : Int32) ≤ a2 := by
      rw [t_le, h2]
      show (96 : Int) ≤ _
      omega
    exact ⟨a1, fun σ e => w_M_leastUsed_4 a1 a2 σ _ ⟨fun _ => ⟨_, rfl, rfl, rfl⟩, fun z => absurd q96 z⟩, d_B_leastUsedCache_4 a1 a2 c _ ⟨fun _ => ⟨_, rfl, rfl, rfl⟩, fun z => absurd q96 z⟩, ha⟩
  | succ d ih =>
    intro k a1 a2 h2 hk ha
    have n96 : ¬ (96 : Int32) ≤ a2 := by
      rw [t_le, h2]
      show ¬ (96 : Int) ≤ _
      omega
    have hn : k < 96 := by omega
    have h2' : (a2 + 1).toInt = ((k + 1 : Nat) : Int) := by
      rw [t_add h2 (y := 1) rfl (by omega) (by omega)]
      omega
    have vx := t_vp h2 hn
    obtain ⟨y0, r0, e0, l0⟩ := ih (k + 1) a1 (a2 + 1) h2' (by omega) ha
    have run : ∀ j : Nat, j < 16 → ∀ kI : Int32, kI.toInt = j → ∀ σ : sm_S, σ 1 = v → xC xM j_M_of [.ref 0, .int a2, .int kI] σ (sm_I (fun y σ' => y = v (786 + 16 * k + j) ∧ σ' = σ)) := fun j hj kI hk σ e => by
      have := c_of h2 hk (by omega) σ
      rw [e] at this
      exact this
    by_cases al : v (786 + 16 * k + 0) = 1
    · obtain ⟨gb, gb9⟩ := (h.B k hn).al al
      by_cases kd : v (786 + 16 * k + 3) = 2
      · by_cases lo : v (786 + 16 * k + 5) = 0 ∧ v (786 + 16 * k + 6) = 0
        · have new : lucV v a2 := Or.inr ⟨k, hn, h2, al, kd, lo.2⟩
          obtain ⟨y1, r1, e1, l1⟩ := ih (k + 1) a2 (a2 + 1) h2' (by omega) new
          have upR : ∀ (σ : sm_S) (Q : Option Value → sm_S → Prop), σ 1 = v → ((a1 = (-1) → xE xM m_M_leastUsed 4 [.ref 0, .int a2, .int (a2 + 1)] [] σ Q) ∧ (¬ (a1 = (-1)) → xC xM j_M_of [.ref 0, .int a2, .int 8] σ (sm_ri False (fun x10 σ9 => xC xM j_M_of [.ref 0, .int a1, .int 8] σ9 (sm_ri False (fun x12 σ11 => ((x12 ≤ x10 → xE xM m_M_leastUsed 4 [.ref 0, .int a1, .int (a2 + 1)] [] σ11 Q) ∧ (¬ (x12 ≤ x10) → xE xM m_M_leastUsed 4 [.ref 0, .int a2, .int (a2 + 1)] [] σ11 Q)))))))) → xE xM m_M_leastUsed 4 [.ref 0, .int a1, .int a2] [] σ Q := fun σ Q e hQ => by
            refine w_M_leastUsed_4 a1 a2 σ Q ⟨fun z => absurd z n96, fun _ => (run 0 (by decide) 0 rfl σ e).int ?_⟩
            rintro z1 σ1 ⟨ez1, es1⟩
            rw [ez1, es1, al]
            refine ⟨fun z => absurd rfl z, fun _ => (run 3 (by decide) 3 rfl σ e).int ?_⟩
            rintro z2 σ2 ⟨ez2, es2⟩
            rw [ez2, es2, kd]
            refine ⟨fun z => absurd rfl z, fun _ => (c_isPinned h2 hn σ).int ?_⟩
            rintro z3 σ3 ⟨ez3, es3⟩
            rw [e] at ez3
            rw [es3]
            refine ⟨fun z => ?_, fun _ => (c_isOnWay h2 hn σ).int ?_⟩
            · rcases ez3 with ⟨w, -⟩ | ⟨-, w⟩
              · exact absurd w z
              · exact absurd lo.1 w
            · rintro z4 σ4 ⟨ez4, es4⟩
              rw [e] at ez4
              rw [es4]
              refine ⟨fun z => ?_, fun _ => hQ⟩
              rcases ez4 with ⟨w, -⟩ | ⟨-, w⟩
              · exact absurd w z
              · exact absurd ((v6_iff hj hn).mpr lo.2) w
          have upC : ∀ {Q : Option Value → sm_S → Prop}, ((a1 = (-1) → xE xD m_B_leastUsedCache 4 [.ref 8, .int a2, .int (a2 + 1)] [] c Q) ∧ (¬ (a1 = (-1)) → (vp_in a2 96 ∧ (vp_in a1 96 ∧ (((c 16 (a1).toNatClampNeg) ≤ (c 16 k) → xE xD m_B_leastUsedCache 4 [.ref 8, .int a1, .int (a2 + 1)] [] c Q) ∧ (¬ ((c 16 (a1).toNatClampNeg) ≤ (c 16 k)) → xE xD m_B_leastUsedCache 4 [.ref 8, .int a2, .int (a2 + 1)] [] c Q)))))) → xE xD m_B_leastUsedCache 4 [.ref 8, .int a1, .int a2] [] c Q := fun {Q} hQ => by
            refine d_B_leastUsedCache_4 a1 a2 c Q ⟨fun z => absurd z n96, fun _ => ?_⟩
            rw [t_nat h2]
            refine ⟨vx, fun z => absurd z gb9, fun _ => ⟨vx, fun z => absurd (gb.kin.symm.trans kd) z, fun _ => (e_isLoose2 h2 hn c).int ?_⟩⟩
            rintro z1 σ1 ⟨ez1, es1⟩
            rw [es1]
            refine ⟨fun z => ?_, fun _ => hQ⟩
            rcases ez1 with ⟨w, -⟩ | ⟨-, w⟩
            · rw [w] at z; exact absurd z (by decide)
            · exact absurd ⟨gb.pin.symm.trans lo.1, (c14_iff gb).mpr lo.2⟩ w
          by_cases am : a1 = -1
          · exact ⟨y1, fun σ e => upR σ _ e ⟨fun _ => r1 σ e, fun z => absurd am z⟩, upC ⟨fun _ => e1, fun z => absurd am z⟩, l1⟩
          · rcases ha with z | ⟨m, m1, m2, m3, -⟩
            · exact absurd z am
            · obtain ⟨gm, -⟩ := (h.B m m1).al m3
              have run8 : ∀ σ : sm_S, σ 1 = v → xC xM j_M_of [.ref 0, .int a1, .int 8] σ (sm_I (fun y σ' => y = v (786 + 16 * m + 8) ∧ σ' = σ)) := fun σ e => by
                have := c_of (k := 8) (j := 8) m2 rfl (by omega) σ
                rw [e] at this
                exact this
              by_cases le : v (786 + 16 * m + 8) ≤ v (786 + 16 * k + 8)
              · refine ⟨y0, fun σ e => upR σ _ e ⟨fun z => absurd z am, fun _ => (run 8 (by decide) 8 rfl σ e).int ?_⟩, upC ⟨fun z => absurd z am, fun _ => ⟨vx, t_vp m2 m1, fun _ => e0, fun z => absurd ?_ z⟩⟩, l0⟩
                · rintro z1 σ1 ⟨ez1, es1⟩
                  rw [ez1, es1]
                  refine (run8 σ e).int ?_
                  rintro z2 σ2 ⟨ez2, es2⟩
                  rw [ez2, es2]
                  exact ⟨fun _ => r0 σ e, fun z => absurd le z⟩
                · rw [t_nat m2, ← gm.use, ← gb.use]
                  exact le
              · refine ⟨y1, fun σ e => upR σ _ e ⟨fun z => absurd z am, fun _ => (run 8 (by decide) 8 rfl σ e).int ?_⟩, upC ⟨fun z => absurd z am, fun _ => ⟨vx, t_vp m2 m1, fun z => absurd ?_ le, fun _ => e1⟩⟩, l1⟩
                · rintro z1 σ1 ⟨ez1, es1⟩
                  rw [ez1, es1]
                  refine (run8 σ e).int ?_
                  rintro z2 σ2 ⟨ez2, es2⟩
                  rw [ez2, es2]
                  exact ⟨fun z => absurd z le, fun _ => r1 σ e⟩
                · rw [t_nat m2, ← gm.use, ← gb.use] at z
                  exact z
        · refine ⟨y0, fun σ e => ?_, ?_, l0⟩
          · refine w_M_leastUsed_4 a1 a2 σ _ ⟨fun z => absurd z n96, fun _ => (run 0 (by decide) 0 rfl σ e).int ?_⟩
            rintro z1 σ1 ⟨ez1, es1⟩
            rw [ez1, es1, al]
            refine ⟨fun z => absurd rfl z, fun _ => (run 3 (by decide) 3 rfl σ e).int ?_⟩
            rintro z2 σ2 ⟨ez2, es2⟩
            rw [ez2, es2, kd]
            refine ⟨fun z => absurd rfl z, fun _ => (c_isPinned h2 hn σ).int ?_⟩
            rintro z3 σ3 ⟨ez3, es3⟩
            rw [e] at ez3
            rw [es3]
            refine ⟨fun _ => r0 σ e, fun q => (c_isOnWay h2 hn σ).int ?_⟩
            rintro z4 σ4 ⟨ez4, es4⟩
            rw [e] at ez4
            rw [es4]
            refine ⟨fun _ => r0 σ e, fun q2 => absurd ⟨?_, ?_⟩ lo⟩
            · rcases ez3 with ⟨-, w⟩ | ⟨w, -⟩
              · exact w
              · rw [w] at q; exact absurd (by decide) q
            · rcases ez4 with ⟨-, w⟩ | ⟨w, -⟩
              · exact (v6_iff hj hn).mp w
              · rw [w] at q2; exact absurd (by decide) q2
          · refine d_B_leastUsedCache_4 a1 a2 c _ ⟨fun z => absurd z n96, fun _ => ?_⟩
            rw [t_nat h2]
            refine ⟨vx, fun z => absurd z gb9, fun _ => ⟨vx, fun _ => e0, fun _ => (e_isLoose2 h2 hn c).int ?_⟩⟩
            rintro z1 σ1 ⟨ez1, es1⟩
            rw [es1]
            refine ⟨fun _ => e0, fun q => ?_⟩
            rcases ez1 with ⟨-, w1, w2⟩ | ⟨w, -⟩
            · exact absurd ⟨gb.pin.trans w1, (c14_iff gb).mp w2⟩ lo
            · exact absurd w q
      · refine ⟨y0, fun σ e => ?_, ?_, l0⟩
        · refine w_M_leastUsed_4 a1 a2 σ _ ⟨fun z => absurd z n96, fun _ => (run 0 (by decide) 0 rfl σ e).int ?_⟩
          rintro z1 σ1 ⟨ez1, es1⟩
          rw [ez1, es1]
          refine ⟨fun _ => r0 σ e, fun _ => (run 3 (by decide) 3 rfl σ e).int ?_⟩
          rintro z2 σ2 ⟨ez2, es2⟩
          rw [ez2, es2]
          exact ⟨fun _ => r0 σ e, fun z => absurd kd z⟩
        · refine d_B_leastUsedCache_4 a1 a2 c _ ⟨fun z => absurd z n96, fun _ => ?_⟩
          rw [t_nat h2]
          refine ⟨vx, fun _ => e0, fun _ => ⟨vx, fun _ => e0, fun z => absurd ?_ z⟩⟩
          rw [← gb.kin]
          exact kd
    · refine ⟨y0, fun σ e => ?_, ?_, l0⟩
      · refine w_M_leastUsed_4 a1 a2 σ _ ⟨fun z => absurd z n96, fun _ => (run 0 (by decide) 0 rfl σ e).int ?_⟩
        rintro z1 σ1 ⟨ez1, es1⟩
        rw [ez1, es1]
        exact ⟨fun _ => r0 σ e, fun z => absurd al z⟩
      · refine d_B_leastUsedCache_4 a1 a2 c _ ⟨fun z => absurd z n96, fun _ => ?_⟩
        rw [t_nat h2]
        refine ⟨vx, fun _ => e0, fun z => absurd ((h.B k hn).iff.mpr ?_) z⟩
        exact Classical.byContradiction (fun w => al ((h.B k hn).one w))
/-- leastUsedCache | leastUsed -/
theorem p_luc {N : Nat} {c : sm_S} {v : Nat → Int32} (h : sim0 c v) (hj : jj N v) : ∃ y : Int32, rdI j_M_leastUsed [.ref 0] v y v ∧ xC xD j_B_leastUsedCache [.ref 8] c (sm_I (fun x σ' => x = y ∧ σ' = c)) ∧ lucV v y := by
  obtain ⟨y, r, e, l⟩ := l_luc2 h hj 96 0 (-1) 0 rfl rfl (Or.inl rfl)
  refine ⟨y, fun σ es => (w_M_leastUsed σ _ (r σ es)).mono ?_, d_B_leastUsedCache c _ e, l⟩
  rintro r0 σ' ⟨x, rfl, hx, rfl⟩
  exact ⟨x, rfl, hx, by rw [← es, s_id]⟩
/-- the values of a block that comes -/
def tvF (v : Nat → Int32) (p : Nat) (x : Int32) : Nat → Nat → Int32
  | 0 => v
  | k + 1 => upd (tvF v p x k) (18 + 3 * (p + k) + 2) (x + nI k)
def tvC (w : Nat → Int32) (p : Nat) (x : Int32) : Nat → Nat → Int32
  | 0 => w
  | k + 1 => upd (tvC w p x k) (p + k) (x + nI k)
theorem tvF_o {v : Nat → Int32} {p i : Nat} {x : Int32} : ∀ {k : Nat}, (i < 18 ∨ 786 ≤ i ∨ i % 3 ≠ 2) → p + k ≤ 256 → tvF v p x k i = v i
  | 0, _, _ => rfl
  | k + 1, h, hp => by
    show upd (tvF v p x k) (18 + 3 * (p + k) + 2) (x + nI k) i = v i
    rw [u_ne (by omega), tvF_o h (by omega)]
theorem tie_tv {g : Prop} {N p : Nat} {x : Int32} {c : sm_S} {v : Nat → Int32} (h : tie g N c v) : ∀ k, p + k ≤ 256 → tie g N (sm_set c 7 (tvC (c 7) p x k)) (tvF v p x k)
  | 0, _ => by
    show tie g N (sm_set c 7 (c 7)) v
    rw [s_id]
    exact h
  | k + 1, hp => by
    have t := tie_tv (p := p) (x := x) h k (by omega)
    have s := sim_val (f := p + k) (x + nI k) t.s t.b (by omega)
    rw [s_at, s_ss] at s
    exact t.to s (fun j h1 h2 => by rw [s_ne (by omega), s_ne (by omega)]) (u_ne (by omega)) (fun i hi => u_ne (by omega)) (fun b hb => bk_cong (fun j _ _ _ _ => u_ne (by omega)) (t.b b hb))
theorem l_tv2 {a1 a2 a3 a4 a5 a6 : Int32} {o p : Nat} (h3 : a3.toInt = o) (ho : o ≤ 4) (h5 : a5.toInt = p) (hp : p + 2 ^ o ≤ 256) (v : Nat → Int32) : ∀ (d k : Nat) (a7 : Int32) (σ : sm_S), σ 1 = tvF v p a4 k → a7.toInt = k → k + d = 2 ^ o → xE xM m_M_take 135 [.ref 0, .int a1, .int a2, .int a3, .int a4, .int a5, .int a6, .int a7] [] σ (sm_I (fun y σ' => y = a6 ∧ σ' = sm_set σ 1 (cnF (tvF v p a4 (2 ^ o)) 0 1))) := by
  have hpw := t_pw (k := o) (by omega)
  intro d
  induction d with
  | zero =>
    intro k a7 σ hσ h7 hk
    have hk : k = 2 ^ o := by omega
    subst hk
    refine w_M_take_135 a1 a2 a3 a4 a5 a6 a7 σ _ ⟨fun _ => (c_counts (j := 0) rfl (by decide) 1 σ).void ?_, fun z => absurd ?_ z⟩
    · rintro _ rfl
      exact ⟨_, rfl, rfl, by rw [hσ]; rfl⟩
    · rw [t_le, t_pow h3 (by omega), h7]
      omega
  | succ d ih =>
    intro k a7 σ hσ h7 hk
    have h7' : (a7 + 1).toInt = ((k + 1 : Nat) : Int) := by
      rw [t_add h7 (y := 1) rfl (by omega) (by omega)]
      omega
    have hq : (a5 + a7).toInt = ((p + k : Nat) : Int) := by
      rw [t_add h5 h7 (by omega) (by omega)]
      omega
    refine w_M_take_135 a1 a2 a3 a4 a5 a6 a7 σ _ ⟨fun z => ?_, fun _ => (c_lays hq (by omega) _ σ).void ?_⟩
    · rw [t_le, t_pow h3 (by omega), h7] at z
      omega
    · rintro _ rfl
      have e : upd (σ 1) (18 + 3 * (p + k) + 2) (a4 + a7) = tvF v p a4 (k + 1) := by
        rw [hσ, t_nI h7]
        rfl
      rw [e]
      have := ih (k + 1) (a7 + 1) (sm_set σ 1 (tvF v p a4 (k + 1))) s_at h7' (by omega)
      rw [s_ss] at this
      exact this
theorem l_tvC2 {a1 a2 a3 a4 a5 a6 : Int32} {o p : Nat} (h3 : a3.toInt = o) (ho : o ≤ 4) (h5 : a5.toInt = p) (hp : p + 2 ^ o ≤ 256) (c : sm_S) : ∀ (d k : Nat) (a7 : Int32), a7.toInt = k → k + d = 2 ^ o → xE xD m_Y_bring 166 [.ref 0, .int a1, .int a2, .int a3, .int a4, .int a5, .int a6, .int a7] [] (sm_set c 7 (tvC (c 7) p a4 k)) (sm_I (fun y σ' => y = a6 ∧ σ' = sm_set (sm_set c 7 (tvC (c 7) p a4 (2 ^ o))) 40 (upd (c 40) 0 (c 40 0 + 1)))) := by
  have hpw := t_pw (k := o) (by omega)
  intro d
  induction d with
  | zero =>
    intro k a7 h7 hk
    have hk : k = 2 ^ o := by omega
    subst hk
    refine d_Y_bring_166 a1 a2 a3 a4 a5 a6 a7 _ _ ⟨fun _ => ⟨t_vp (n := 0) rfl (by omega), t_vp (n := 0) rfl (by omega), fun σ1 e1 => ⟨_, rfl, rfl, ?_⟩⟩, fun z => absurd ?_ z⟩
    · rw [e1]
      rfl
    · rw [t_le, t_pow h3 (by omega), h7]
      omega
  | succ d ih =>
    intro k a7 h7 hk
    have h7' : (a7 + 1).toInt = ((k + 1 : Nat) : Int) := by
      rw [t_add h7 (y := 1) rfl (by omega) (by omega)]
      omega
    have hq : (a5 + a7).toInt = ((p + k : Nat) : Int) := by
      rw [t_add h5 h7 (by omega) (by omega)]
      omega
    refine d_Y_bring_166 a1 a2 a3 a4 a5 a6 a7 _ _ ⟨fun z => ?_, fun _ => ⟨t_vp hq (by omega), fun σ2 e2 => ?_⟩⟩
    · rw [t_le, t_pow h3 (by omega), h7] at z
      omega
    · rw [t_nat hq, s_at, s_ss, t_nI h7] at e2
      rw [e2]
      have := ih (k + 1) (a7 + 1) h7' (by omega)
      exact this
