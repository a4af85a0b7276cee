/-! ===== the simulation: who can go; a span comes; spans come by turns ===== -/
/-- another span is on in the zone 0 -/
def elsN (v : Nat → Int32) (s t : Nat) : Prop := t ≠ s ∧ v (2358 + 8 * t) = 1 ∧ v (2358 + 8 * t + 1) = 0
theorem l_on2 {a2 : Int32} {s : Nat} (h2 : a2.toInt = s) (σ : sm_S) : ∀ (d k m : Nat) (a3 a4 : Int32), a4.toInt = k → k + d = 8 → a3.toInt = m → m ≤ k → (m = 0 ↔ ∀ t, t < k → ¬ elsN (σ 1) s t) → xE xM m_M_onMany 5 [.ref 0, .int 0, .int a2, .int a3, .int a4] [] σ (sm_I (fun x σ' => (∃ m : Nat, x.toInt = m ∧ (m = 0 ↔ ∀ t, t < 8 → ¬ elsN (σ 1) s t)) ∧ σ' = σ)) := by
  intro d
  induction d with
  | zero =>
    intro k m a3 a4 h4 hk h3 hm hb
    have hk : k = 8 := by omega
    subst hk
    exact w_M_onMany_5 0 a2 a3 a4 σ _ ⟨fun _ => ⟨_, rfl, ⟨m, h3, hb⟩, rfl⟩, fun h => absurd (by rw [t_le, h4]; show (8 : Int) ≤ _; omega) h⟩
  | succ d ih =>
    intro k m a3 a4 h4 hk h3 hm hb
    have h4' : (a4 + 1).toInt = ((k + 1 : Nat) : Int) := by
      rw [t_add h4 (y := 1) rfl (by omega) (by omega)]
      omega
    have h3' : (a3 + 1).toInt = ((m + 1 : Nat) : Int) := by
      rw [t_add h3 (y := 1) rfl (by omega) (by omega)]
      omega
    have no : ¬ elsN (σ 1) s k → (m = 0 ↔ ∀ t, t < k + 1 → ¬ elsN (σ 1) s t) := fun z => by
      rw [hb]
      refine ⟨fun q t ht => ?_, fun q t ht => q t (by omega)⟩
      by_cases e : t = k
      · rw [e]; exact z
      · exact q t (by omega)
    have yes : elsN (σ 1) s k → (m + 1 = 0 ↔ ∀ t, t < k + 1 → ¬ elsN (σ 1) s t) := fun z => ⟨fun q => by omega, fun q => absurd z (q k (by omega))⟩
    refine w_M_onMany_5 0 a2 a3 a4 σ _ ⟨fun h => ?_, fun _ => ⟨fun q => ih (k + 1) m a3 (a4 + 1) h4' (by omega) h3 (by omega) (no ?_), fun q => (c_spanState h4 (by omega) σ).int ?_⟩⟩
    · rw [t_le, h4] at h
      have h : (8 : Int) ≤ k := h
      omega
    · rintro ⟨z, -⟩
      have := congrArg Int32.toInt q
      rw [h4, h2] at this
      omega
    · rintro y σ1 ⟨ey, es⟩
      rw [ey, es]
      refine ⟨fun q2 => ih (k + 1) m a3 (a4 + 1) h4' (by omega) h3 (by omega) (no (fun z => q2 z.2.1)), fun q2 => (c_zoneOf2 h4 (by omega) σ).int ?_⟩
      rintro y2 σ2 ⟨ey2, es2⟩
      have st := Classical.not_not.mp q2
      have ez : zV (σ 1) k = σ 1 (2358 + 8 * k + 1) := by
        unfold zV
        rw [st]
        exact if_neg (by decide)
      rw [ey2, es2, ez]
      refine ⟨fun q3 => ih (k + 1) m a3 (a4 + 1) h4' (by omega) h3 (by omega) (no (fun z => q3 z.2.2)), fun q3 => ih (k + 1) (m + 1) (a3 + 1) (a4 + 1) h4' (by omega) h3' (by omega) (yes ⟨fun z => q (t_inj (by rw [h4, h2, z])), st, Classical.not_not.mp q3⟩)⟩
theorem l_canGo2 {a1 : Int32} {s : Nat} {v : Nat → Int32} (h1 : a1.toInt = s) (c : sm_S) (h : sim0 c v) : ∀ (d k : Nat) (a2 : Int32), a2.toInt = k → k + d = 8 → (∀ t, t < k → ¬ elsN v s t) → xE xD m_S_canGo 14 [.ref 17, .int a1, .int a2] [] c (sm_I (fun x σ' => ((x = 0 ∧ ∀ t, t < 8 → ¬ elsN v s t) ∨ (x = 1 ∧ ∃ t, t < 8 ∧ elsN v s t)) ∧ σ' = c)) := by
  intro d
  induction d with
  | zero =>
    intro k a2 h2 hk hb
    exact d_S_canGo_14 a1 a2 c _ ⟨fun _ => ⟨Or.inl rfl, _, rfl, Or.inl ⟨rfl, fun t ht => hb t (by omega)⟩, rfl⟩, fun z => absurd (by rw [t_le, h2]; show (8 : Int) ≤ _; omega) z⟩
  | succ d ih =>
    intro k a2 h2 hk hb
    have h2' : (a2 + 1).toInt = ((k + 1 : Nat) : Int) := by
      rw [t_add h2 (y := 1) rfl (by omega) (by omega)]
      omega
    have no : ¬ elsN v s k → ∀ t, t < k + 1 → ¬ elsN v s t := fun z t ht => by
      by_cases e : t = k
      · rw [e]; exact z
      · exact hb t (by omega)
    have st : v (2358 + 8 * k) = c 18 k := (h.S k (by omega)).sta
    refine d_S_canGo_14 a1 a2 c _ ⟨fun z => ?_, fun _ => ⟨fun q => ih (k + 1) (a2 + 1) h2' (by omega) (no ?_), fun q => ?_⟩⟩
    · rw [t_le, h2] at z
      have z : (8 : Int) ≤ k := z
      omega
    · rintro ⟨z, -⟩
      have := congrArg Int32.toInt q
      rw [h2, h1] at this
      omega
    · rw [t_nat h2, ← st]
      refine ⟨t_vp h2 (by omega), fun q2 => ih (k + 1) (a2 + 1) h2' (by omega) (no (fun z => q2 z.2.1)), fun q2 => ⟨t_vp h2 (by omega), fun q3 => ih (k + 1) (a2 + 1) h2' (by omega) (no ?_), fun q3 => ⟨Or.inr rfl, _, rfl, Or.inr ⟨rfl, k, by omega, fun z => q (t_inj (by rw [h2, h1, z])), Classical.not_not.mp q2, ?_⟩, rfl⟩⟩⟩
      all_goals
        have q2' := Classical.not_not.mp q2
        have ez : c 19 k = v (2358 + 8 * k + 1) := by
          rw [sim_zone h (by omega)]
          unfold zV
          rw [q2']
          exact if_neg (by decide)
        rw [ez] at q3
      · exact fun z => q3 z.2.2
      · exact Classical.not_not.mp q3
/-- canGo | canGo, of a span -/
theorem p_canGo {c : sm_S} {v : Nat → Int32} {a1 : Int32} {s : Nat} (h : sim0 c v) (h1 : a1.toInt = s) (hs : s < 8) : ∃ x : Int32, rdI j_M_canGo [.ref 0, .int a1] v x v ∧ xC xD j_S_canGo [.ref 17, .int a1] c (sm_I (fun y σ' => y = x ∧ σ' = c)) ∧ ((x = 1 ∧ c 18 s = 1) ∨ x = 0) := by
  have st : v (2358 + 8 * s) = c 18 s := (h.S s hs).sta
  have isS : ∀ σ : sm_S, xC xM j_M_isSpan [.ref 0, .int a1] σ (sm_I (fun y σ' => y = 1 ∧ σ' = σ)) := fun σ => (c_isSpan a1 σ).mono (by
    rintro r σ' ⟨y, rfl, hy, rfl⟩
    refine ⟨y, rfl, ?_, rfl⟩
    rcases hy with ⟨y1, -⟩ | ⟨-, hy⟩
    · exact y1
    · omega)
  by_cases on : c 18 s = 1
  · obtain ⟨x, hx, rx⟩ := pick (d_S_canGo a1 c _ ⟨t_vp h1 hs, fun _ => l_canGo2 h1 c h 8 0 0 rfl rfl (fun t ht => by omega), fun z => absurd (by rw [t_nat h1]; exact on) z⟩)
    refine ⟨x, fun σ e => ?_, rx, ?_⟩
    · refine w_M_canGo a1 σ _ ((isS σ).int ?_)
      rintro y1 σ1 ⟨ey1, es1⟩
      rw [ey1, es1]
      refine ⟨fun z => absurd z (by decide), fun _ => (c_spanState h1 hs σ).int ?_⟩
      rintro y2 σ2 ⟨ey2, es2⟩
      rw [ey2, es2, e, st]
      refine ⟨fun z => absurd on z, fun _ => (w_M_onMany 0 a1 σ _ (l_on2 h1 σ 8 0 0 0 0 rfl rfl rfl (Nat.le_refl 0) ⟨fun _ t ht => by omega, fun _ => rfl⟩)).int ?_⟩
      rintro y3 σ3 ⟨⟨m, ey3, hm⟩, es3⟩
      rw [e] at hm
      rw [es3]
      refine ⟨fun z => ⟨Or.inl rfl, _, rfl, ?_, by rw [← e, s_id]⟩, fun z => ⟨Or.inr rfl, _, rfl, ?_, by rw [← e, s_id]⟩⟩
      · rw [le0, ey3] at z
        rcases hx with ⟨w, -⟩ | ⟨-, t, t1, t2⟩
        · exact w.symm
        · exact absurd t2 (hm.mp (by omega) t t1)
      · rw [le0, ey3] at z
        rcases hx with ⟨-, w⟩ | ⟨w, -⟩
        · exact absurd (hm.mpr w) (by omega)
        · exact w.symm
    · rcases hx with ⟨w, -⟩ | ⟨w, -⟩
      · exact Or.inr w
      · exact Or.inl ⟨w, on⟩
  · refine ⟨0, fun σ e => ?_, d_S_canGo a1 c _ ⟨t_vp h1 hs, fun z => absurd (by rw [t_nat h1] at z; exact z) on, fun _ => ⟨Or.inl rfl, _, rfl, rfl, rfl⟩⟩, Or.inr rfl⟩
    refine w_M_canGo a1 σ _ ((isS σ).int ?_)
    rintro y1 σ1 ⟨ey1, es1⟩
    rw [ey1, es1]
    refine ⟨fun z => absurd z (by decide), fun _ => (c_spanState h1 hs σ).int ?_⟩
    rintro y2 σ2 ⟨ey2, es2⟩
    rw [ey2, es2, e, st]
    exact ⟨fun _ => ⟨Or.inl rfl, _, rfl, rfl, by rw [← e, s_id]⟩, fun z => absurd (Classical.not_not.mp z) on⟩
theorem opF_o {v : Nat → Int32} {s i : Nat} {z : Int32} (h1 : i < 18 + 3 * (32 * s) ∨ 18 + 3 * (32 * s + 32) ≤ i ∨ (i - 18) % 3 ≠ 0) (h2 : i ≠ 2358 + 8 * s + 0) (h3 : i ≠ 2358 + 8 * s + 1) : opF v s z i = v i := by
  unfold opF
  rw [fsF_out h1, u_ne h3, u_ne h2]
/-- open | comesOn -/
theorem p_on {g : Prop} {N s : Nat} {c : sm_S} {v : Nat → Int32} {a1 : Int32} (z : Int32) (h : tie g N c v) (hj : jj N v) (hx : jx v) (hN : N < 2000000000) (h1 : a1.toInt = s) (hs : s < 8) (h0 : v (2358 + 8 * s + 0) = 0) (hz : z = 0 ∨ z = 1) : ∃ v' c', rdI j_M_comesOn [.ref 0, .int a1, .int z] v z v' ∧ xC xD j_Y_open [.ref 0, .int a1, .int z] c (sm_V (fun σ' => σ' = c')) ∧ tie g (N + 1) c' v' ∧ jj (N + 1) v' ∧ jx v' := by
  have gs := h.s.S s hs
  have c0 : c 18 s = 0 := by rw [← gs.sta]; exact h0
  have run : rdI j_M_comesOn [.ref 0, .int a1, .int z] v z (wrF (opF v s z) N 3 a1 z) := fun σ e => by
    rw [← e]
    exact c_comesOn2 h1 hs z σ (by rw [e]; exact h.n)
  have det := run.det (c_comesOn (N := N) h1 hs (by omega) (rz v) (by rw [rz_at]; exact hj) (by rw [rz_at]; exact h0))
  have jw : jj (N + 1) (wrF (opF v s z) N 3 a1 z) := by
    obtain ⟨w, ew, jw, -⟩ := det
    rw [rz_eq ew] at jw
    exact jw
  have t1 : tie g N (opC c s z) (opF v s z) := by
    refine h.to (sim_on z h.s h.b hs c0) (fun k k1 k2 => ?_) (opF_o (by omega) (by omega) (by omega)) (fun i hi => opF_o (by omega) (by omega) (by omega)) (fun b hb => bk_cong (fun k _ _ _ _ => opF_o (by omega) (by omega) (by omega)) (h.b b hb))
    unfold opC
    rw [s_ne (by omega), s_ne (by omega), s_ne (by omega)]
  obtain ⟨nl, hnl, h5l, t2⟩ := t1.log hN 3 a1 z
  have lo : ∀ i, i < 2422 → i ≠ 5 → wrF (opF v s z) N 3 a1 z i = opF v s z i := fun i i1 i2 => wrF_lo i1 i2
  refine ⟨_, _, run, e_open2 h1 hs z c (n := nl) h5l hnl, t2, jw, ?_⟩
  refine ⟨fun b hb q => ?_, fun b hb q => ?_, fun t ht q => ?_, ?_, ?_⟩
  · rw [lo _ (by omega) (by omega), opF_o (by omega) (by omega) (by omega)] at q ⊢
    rw [lo _ (by omega) (by omega), opF_o (by omega) (by omega) (by omega), lo _ (by omega) (by omega), opF_o (by omega) (by omega) (by omega), lo _ (by omega) (by omega), opF_o (by omega) (by omega) (by omega)]
    exact hx.1 b hb q
  · rw [lo _ (by omega) (by omega), opF_o (by omega) (by omega) (by omega)] at q
    rw [lo _ (by omega) (by omega), opF_o (by omega) (by omega) (by omega)]
    exact hx.2.1 b hb q
  · by_cases e : t = s
    · subst e
      have : wrF (opF v t z) N 3 a1 z (2358 + 8 * t + 1) = z := by
        rw [lo _ (by omega) (by omega)]
        unfold opF
        rw [fsF_out (by omega), u_at]
      rw [this]
      exact hz
    · rw [lo _ (by omega) (by omega), opF_o (by omega) (by omega) (by omega)] at q
      rw [lo _ (by omega) (by omega), opF_o (by omega) (by omega) (by omega)]
      exact hx.2.2.1 t ht q
  · rw [lo _ (by omega) (by omega), opF_o (by omega) (by omega) (by omega)]
    exact hx.2.2.2.1
  · rw [lo _ (by omega) (by omega), opF_o (by omega) (by omega) (by omega), lo _ (by omega) (by omega), opF_o (by omega) (by omega) (by omega)]
    exact hx.2.2.2.2
