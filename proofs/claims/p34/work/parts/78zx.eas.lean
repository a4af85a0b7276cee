/-! ===== the simulation: the easiest span ===== -/
theorem rdI.N {j : Nat} {as : List Value} {v w : Nat → Int32} {y : Int32} (h : rdI j as v y w) {σ : sm_S} (e : σ 1 = v) : xC xN j as σ (sm_I (fun z σ' => z = y ∧ σ' = sm_set σ 1 w)) := by
  refine x_lift shMN (h σ e) ?_
  rintro r σ' ⟨x, rfl, -, rfl⟩ a i hv
  rw [s_ne (nvM hv)]
theorem rdI.NS {j : Nat} {as : List Value} {v : Nat → Int32} {y : Int32} (h : rdI j as v y v) {σ : sm_S} (e : σ 1 = v) : xC xN j as σ (sm_I (fun z σ' => z = y ∧ σ' = σ)) := (h.N e).mono (by
  rintro r σ' ⟨x, q, e1, e2⟩
  exact ⟨x, q, e1, by rw [e2, ← e, s_id]⟩)
/-- rows that agree, run alike -/
theorem rdI.cg {j : Nat} {as : List Value} {v v2 w w2 : Nat → Int32} {y y2 : Int32} (h : rdI j as v y w) (h2 : rdI j as v2 y2 w2) (e : ∀ i, i < 2662 → v2 i = v i) : y2 = y ∧ ∀ i, i < 2662 → w2 i = w i := by
  obtain ⟨M, -, n, r, σ', -, ⟨x, e1, e2, e3⟩, hd⟩ := x_det shMN (h (rz v) (rz_at v))
  have st : sm_stW id xM (rz v) (rz v2) := agM rfl rfl (fun i hi => by rw [rz_at, rz_at]; exact e i hi) (fun k hk => by unfold rz; rw [s_ne (by omega), s_ne (by omega)])
  have q2 : xC xN j as (rz v2) (sm_I (fun z σ' => z = y2 ∧ σ' = sm_set (rz v2) 1 w2)) := h2.N (rz_at v2)
  obtain ⟨M2, -, n2, r2, τ', -, ⟨e4, e5⟩, x2, e6, e7, e8⟩ := (hd (rz v2) st).and q2
  rw [e4, e1] at e6
  cases e6
  refine ⟨e7.symm.trans e2, fun i hi => ?_⟩
  have a : τ' 1 i = σ' 1 i := e5.1 1 (0, 2662) rfl i hi
  rw [e8, e3, s_at, s_at] at a
  exact a
theorem pickI {SH : List sm_Sh} {j : Nat} {as : List Value} {σ : sm_S} {P : Int32 → sm_S → Prop} (h : xC SH j as σ (sm_I P)) : ∃ x σ', P x σ' ∧ xC SH j as σ (sm_I (fun y τ => y = x ∧ τ = σ')) := by
  obtain ⟨M, hM, n, r, σ', hr, x, e, hq⟩ := h
  exact ⟨x, σ', hq, M, hM, n, r, σ', hr, x, e, rfl, rfl⟩
theorem pickV {SH : List sm_Sh} {j : Nat} {as : List Value} {σ : sm_S} {P : sm_S → Prop} (h : xC SH j as σ (sm_V P)) : ∃ σ', P σ' ∧ xC SH j as σ (sm_V (fun τ => τ = σ')) := by
  obtain ⟨M, hM, n, r, σ', hr, e, hq⟩ := h
  exact ⟨σ', hq, M, hM, n, r, σ', hr, e, rfl⟩
theorem l_canGoT2 {a1 : Int32} {s : Nat} {v : Nat → Int32} (h1 : a1.toInt = s) (σ0 : sm_S) (h : sim0 (bs 86 σ0) v) : ∀ (d k : Nat) (a2 : Int32), a2.toInt = k → k + d = 8 → (∀ t, t < k → ¬ elsN v s t) → xE xF m_S_canGo 14 [.ref 103, .int a1, .int a2] [] σ0 (sm_I (fun x σ' => ((x = 0 ∧ ∀ t, t < 8 → ¬ elsN v s t) ∨ (x = 1 ∧ ∃ t, t < 8 ∧ elsN v s t)) ∧ σ' = σ0)) := by
  intro d
  induction d with
  | zero =>
    intro k a2 h2 hk hb
    exact f_S_canGo_t_14 a1 a2 σ0 _ ⟨fun _ => ⟨Or.inl rfl, _, rfl, Or.inl ⟨rfl, fun t ht => hb t (by omega)⟩, rfl⟩, fun z => absurd (by rw [t_le, h2]; show (8 : Int) ≤ _; omega) z⟩
  | succ d ih =>
    intro k a2 h2 hk hb
    have h2' : (a2 + 1).toInt = ((k + 1 : Nat) : Int) := by
      rw [t_add h2 (y := 1) rfl (by omega) (by omega)]
      omega
    have no : ¬ elsN v s k → ∀ t, t < k + 1 → ¬ elsN v s t := fun z t ht => by
      by_cases e : t = k
      · rw [e]; exact z
      · exact hb t (by omega)
    have st : v (2358 + 8 * k) = σ0 104 k := (h.S k (by omega)).sta
    refine f_S_canGo_t_14 a1 a2 σ0 _ ⟨fun z => ?_, fun _ => ⟨fun q => ih (k + 1) (a2 + 1) h2' (by omega) (no ?_), fun q => ?_⟩⟩
    · rw [t_le, h2] at z
      have z : (8 : Int) ≤ k := z
      omega
    · rintro ⟨z, -⟩
      have := congrArg Int32.toInt q
      rw [h2, h1] at this
      omega
    · rw [t_nat h2, ← st]
      refine ⟨t_vp h2 (by omega), fun q2 => ih (k + 1) (a2 + 1) h2' (by omega) (no (fun z => q2 z.2.1)), fun q2 => ⟨t_vp h2 (by omega), fun q3 => ih (k + 1) (a2 + 1) h2' (by omega) (no ?_), fun q3 => ⟨Or.inr rfl, _, rfl, Or.inr ⟨rfl, k, by omega, fun z => q (t_inj (by rw [h2, h1, z])), Classical.not_not.mp q2, ?_⟩, rfl⟩⟩⟩
      all_goals
        have q2' := Classical.not_not.mp q2
        have ez0 : σ0 105 k = zV v k := sim_zone h (by omega)
        have ez : σ0 105 k = v (2358 + 8 * k + 1) := by
          rw [ez0]
          unfold zV
          rw [q2']
          exact if_neg (by decide)
        rw [ez] at q3
      · exact fun z => q3 z.2.2
      · exact Classical.not_not.mp q3
theorem p_canGoT {σ0 : sm_S} {v : Nat → Int32} {a1 : Int32} {s : Nat} (h : sim0 (bs 86 σ0) v) (h1 : a1.toInt = s) (hs : s < 8) : ∃ x : Int32, rdI j_M_canGo [.ref 0, .int a1] v x v ∧ xC xF j_S_canGo [.ref 103, .int a1] σ0 (sm_I (fun y σ' => y = x ∧ σ' = σ0)) ∧ ((x = 1 ∧ σ0 104 s = 1) ∨ x = 0) := by
  have st : v (2358 + 8 * s) = σ0 104 s := (h.S s hs).sta
  have isS : ∀ σ : sm_S, xC xM j_M_isSpan [.ref 0, .int a1] σ (sm_I (fun y σ' => y = 1 ∧ σ' = σ)) := fun σ => (c_isSpan a1 σ).mono (by
    rintro r σ' ⟨y, rfl, hy, rfl⟩
    refine ⟨y, rfl, ?_, rfl⟩
    rcases hy with ⟨y1, -⟩ | ⟨-, hy⟩
    · exact y1
    · omega)
  by_cases on : σ0 104 s = 1
  · obtain ⟨x, hx, rx⟩ := pick (f_S_canGo_t a1 σ0 _ ⟨t_vp h1 hs, fun _ => l_canGoT2 h1 σ0 h 8 0 0 rfl rfl (fun t ht => by omega), fun z => absurd (by rw [t_nat h1]; exact on) z⟩)
    refine ⟨x, fun σ e => ?_, rx, ?_⟩
    · refine w_M_canGo a1 σ _ ((isS σ).int ?_)
      rintro y1 σ1 ⟨ey1, es1⟩
      rw [ey1, es1]
      refine ⟨fun z => absurd z (by decide), fun _ => (c_spanState h1 hs σ).int ?_⟩
      rintro y2 σ2 ⟨ey2, es2⟩
      rw [ey2, es2, e, st]
      refine ⟨fun z => absurd on z, fun _ => (w_M_onMany 0 a1 σ _ (l_on2 h1 σ 8 0 0 0 0 rfl rfl rfl (Nat.le_refl 0) ⟨fun _ t ht => by omega, fun _ => rfl⟩)).int ?_⟩
      rintro y3 σ3 ⟨⟨m, ey3, hm⟩, es3⟩
      rw [e] at hm
      rw [es3]
      refine ⟨fun z => ⟨Or.inl rfl, _, rfl, ?_, by rw [← e, s_id]⟩, fun z => ⟨Or.inr rfl, _, rfl, ?_, by rw [← e, s_id]⟩⟩
      · rw [le0, ey3] at z
        rcases hx with ⟨w, -⟩ | ⟨-, t, t1, t2⟩
        · exact w.symm
        · exact absurd t2 (hm.mp (by omega) t t1)
      · rw [le0, ey3] at z
        rcases hx with ⟨-, w⟩ | ⟨w, -⟩
        · exact absurd (hm.mpr w) (by omega)
        · exact w.symm
    · rcases hx with ⟨w, -⟩ | ⟨w, -⟩
      · exact Or.inr w
      · exact Or.inl ⟨w, on⟩
  · refine ⟨0, fun σ e => ?_, f_S_canGo_t a1 σ0 _ ⟨t_vp h1 hs, fun z => absurd (by rw [t_nat h1] at z; exact z) on, fun _ => ⟨Or.inl rfl, _, rfl, rfl, rfl⟩⟩, Or.inr rfl⟩
    refine w_M_canGo a1 σ _ ((isS σ).int ?_)
    rintro y1 σ1 ⟨ey1, es1⟩
    rw [ey1, es1]
    refine ⟨fun z => absurd z (by decide), fun _ => (c_spanState h1 hs σ).int ?_⟩
    rintro y2 σ2 ⟨ey2, es2⟩
    rw [ey2, es2, e, st]
    exact ⟨fun _ => ⟨Or.inl rfl, _, rfl, rfl, by rw [← e, s_id]⟩, fun z => absurd (Classical.not_not.mp z) on⟩
theorem l_rs72 {a1 a2 a3 a4 : Int32} {Q : Option Value → sm_S → Prop} {v : Nat → Int32} {τ0 : sm_S} (h3 : ∀ i, i < 2662 → τ0 3 i = v i) (K : ∀ (a5 : Int32) (ω : sm_S), (∀ i, i < 2662 → ω 1 i = v i) → (∀ k, 2 ≤ k → ω k = τ0 k) → ω 0 = τ0 0 → ((a4 = 0 → xE xN m_M_easiestNow 31 [.ref 0, .int a1, .int (a2 + 1), .int a3, .int a4, .int a5] [] ω Q) ∧ (¬ (a4 = 0) → ((a1 = (-1) → (∀ σ1, σ1 = sm_set ω 0 (upd (ω 0) 5 a3) → xE xN m_M_easiestNow 31 [.ref 0, .int a2, .int (a2 + 1), .int a3, .int a4, .int a5] [] σ1 Q)) ∧ (¬ (a1 = (-1)) → ((a3 < (ω 0 5) → (∀ σ2, σ2 = sm_set ω 0 (upd (ω 0) 5 a3) → xE xN m_M_easiestNow 31 [.ref 0, .int a2, .int (a2 + 1), .int a3, .int a4, .int a5] [] σ2 Q)) ∧ (¬ (a3 < (ω 0 5)) → xE xN m_M_easiestNow 31 [.ref 0, .int a1, .int (a2 + 1), .int a3, .int a4, .int a5] [] ω Q))))))) : ∀ (d k : Nat) (a5 : Int32) (σ : sm_S), a5.toInt = k → k + d = 2662 → (∀ k, 2 ≤ k → σ k = τ0 k) → (∀ i, i < k → σ 1 i = v i) → σ 0 = τ0 0 → xE xN m_M_easiestNow 72 [.ref 0, .int a1, .int a2, .int a3, .int a4, .int a5] [] σ Q := by
  intro d
  induction d with
  | zero =>
    intro k a5 σ h5 hk g2 g1 g0
    refine w_N_easiestNow_72 a1 a2 a3 a4 a5 σ Q ⟨fun _ => K a5 σ (fun i hi => g1 i (by omega)) g2 g0, fun h => absurd ?_ h⟩
    rw [t_le, h5]
    show (2662 : Int) ≤ _
    omega
  | succ d ih =>
    intro k a5 σ h5 hk g2 g1 g0
    have h5' : (a5 + 1).toInt = ((k + 1 : Nat) : Int) := by
      rw [t_add h5 (y := 1) rfl (by omega) (by omega)]
      omega
    refine w_N_easiestNow_72 a1 a2 a3 a4 a5 σ Q ⟨fun h => ?_, fun _ => ⟨t_vp h5 (by omega), t_vp h5 (by omega), fun σ1 e1 => ?_⟩⟩
    · rw [t_le, h5] at h
      have h : (2662 : Int) ≤ k := h
      omega
    · rw [t_nat h5] at e1
      subst e1
      refine ih (k + 1) (a5 + 1) _ h5' (by omega) (fun k hk => by rw [s_ne (by omega)]; exact g2 k hk) (fun i hi => ?_) (by rw [s_ne (by decide)]; exact g0)
      rw [s_at]
      rcases Nat.lt_or_ge i k with hl | hl
      · rw [u_ne (by omega)]; exact g1 i hl
      · have hik : i = k := by omega
        subst hik
        rw [u_at, g2 3 (by omega)]
        exact h3 i (by omega)
def fnd (v : Nat → Int32) (x : Int32) : Prop := x = -1 ∨ ∃ s : Nat, s < 8 ∧ x.toInt = ((s : Nat) : Int) ∧ rdI j_M_canGo [.ref 0, .int x] v 1 v ∧ ∃ y w, rdI j_M_goesAway [.ref 0, .int x] v y w ∧ w (2358 + 8 * s) = 0
theorem l_fe_n {N : Nat} {v : Nat → Int32} (hj : jj N v) (hx : jx v) (hN : N < 1900000000) : ∀ (d k : Nat) (a2 a3 : Int32) (σ : sm_S), a3.toInt = ((k : Nat) : Int) → k + d = 8 → tie False N σ v → kl (bs 43 σ) → ∃ (r : Int32) (σ' : sm_S), xE xF m_H_findEasiest 4 [.ref 85, .ref 0, .int a2, .int a3] [] σ (sm_I (fun x ω => x = r ∧ ω = σ')) ∧ th σ σ' ∧ kl (bs 43 σ') ∧ ∀ (τ : sm_S) (u3 u4 u5 : Value), (∀ i, i < 2662 → τ 1 i = v i) → (∀ i, i < 2662 → τ 3 i = v i) → (a2 ≠ -1 → σ 85 4 = τ 0 5) → fnd v a2 → xE xN m_M_easiestNow 31 [.ref 0, .int a2, .int a3, u3, u4, u5] [] τ (sm_I (fun x ω => x = r ∧ (∀ i, i < 2662 → ω 1 i = v i) ∧ ω 2 = τ 2 ∧ (r ≠ -1 → σ' 85 4 = ω 0 5) ∧ fnd v r)) := by
  intro d
  induction d with
  | zero =>
    intro k a2 a3 σ h3 hk hT hl
    have le : (8 : Int32) ≤ a3 := by
      rw [t_le, h3]
      show (8 : Int) ≤ _
      omega
    exact ⟨a2, σ, f_H_findEasiest_n_4 a2 a3 σ _ ⟨fun _ => ⟨_, rfl, rfl, rfl⟩, fun z => absurd le z⟩, fun _ _ => rfl, hl, fun τ u3 u4 u5 e1 e3 e5 hf => w_N_easiestNow_31 a2 a3 u3 u4 u5 τ _ ⟨fun _ => ⟨_, rfl, rfl, e1, rfl, e5, hf⟩, fun z => absurd le z⟩⟩
  | succ d ih =>
    intro k a2 a3 σ h3 hk hT hl
    have hs : k < 8 := by omega
    have nle : ¬ (8 : Int32) ≤ a3 := by
      rw [t_le, h3]
      show ¬ (8 : Int) ≤ _
      omega
    have h3' : (a3 + 1).toInt = ((k + 1 : Nat) : Int) := by
      rw [t_add h3 (y := 1) rfl (by omega) (by omega)]
      omega
    have tv : ∀ v1 : Nat → Int32, (∀ i, i < 2662 → v1 i = v i) → tie False N σ v1 := fun v1 q => hT.eq (eqT.of (fun _ _ => rfl)) q
    obtain ⟨x, rx, cx, hxx⟩ := p_canGo hT.s h3 hs
    have cgR : ∀ (τ : sm_S), (∀ i, i < 2662 → τ 1 i = v i) → xC xN j_M_canGo [.ref 0, .int a3] τ (sm_I (fun z σ' => z = x ∧ σ' = τ)) := fun τ e1 => by
      obtain ⟨x1, rx1, -, -⟩ := p_canGo (tv (τ 1) e1).s h3 hs
      have q := (rx.cg rx1 e1).1
      rw [q] at rx1
      exact rx1.NS rfl
    rcases hxx with ⟨x1, on⟩ | x0
    · rw [x1] at rx
      obtain ⟨y, v', N', RG, j', x', n', C⟩ := p_try_n h3 hs hT.z0 hl hj hx hN rx
      obtain ⟨x4, σ3, ⟨h4, e3, t3, o3, e4⟩, C3⟩ := pickI C
      have hT3 : tie False N σ3 v := hT.eq (eqT.of (fun k hk => o3 k (by omega))) (fun _ _ => rfl)
      have gaR : ∀ (τ : sm_S), (∀ i, i < 2662 → τ 1 i = v i) → ∃ w1, (∀ i, i < 2662 → w1 i = v' i) ∧ xC xN j_M_goesAway [.ref 0, .int a3] τ (sm_I (fun z σ' => z = y ∧ σ' = sm_set τ 1 w1)) := fun τ e1 => by
        obtain ⟨xx, rx1, -, -⟩ := p_canGo (tv (τ 1) e1).s h3 hs
        have q := (rx.cg rx1 e1).1
        rw [q] at rx1
        obtain ⟨y1, w1, N1, RG1, -, -, -, -⟩ := p_try_n h3 hs (tv (τ 1) e1).z0 hl (jj_eq e1 hj) (hx.eq e1) hN rx1
        obtain ⟨q1, q2⟩ := RG.cg RG1 e1
        rw [q1] at RG1
        exact ⟨w1, q2, RG1.N rfl⟩
      have up : ∀ {Q : Option Value → sm_S → Prop} (τ : sm_S) (u3 u4 u5 : Value), (∀ i, i < 2662 → τ 1 i = v i) → (∀ i, i < 2662 → τ 3 i = v i) → (∀ (a4 a5 : Int32) (ω : sm_S), (a4 = 0 ↔ v' (2358 + 8 * k) ≠ 0) → (∀ i, i < 2662 → ω 1 i = v i) → (∀ k, 2 ≤ k → ω k = τ k) → ω 0 = τ 0 → ((a4 = 0 → xE xN m_M_easiestNow 31 [.ref 0, .int a2, .int (a3 + 1), .int y, .int a4, .int a5] [] ω Q) ∧ (¬ (a4 = 0) → ((a2 = (-1) → (∀ σ1, σ1 = sm_set ω 0 (upd (ω 0) 5 y) → xE xN m_M_easiestNow 31 [.ref 0, .int a3, .int (a3 + 1), .int y, .int a4, .int a5] [] σ1 Q)) ∧ (¬ (a2 = (-1)) → ((y < (ω 0 5) → (∀ σ2, σ2 = sm_set ω 0 (upd (ω 0) 5 y) → xE xN m_M_easiestNow 31 [.ref 0, .int a3, .int (a3 + 1), .int y, .int a4, .int a5] [] σ2 Q)) ∧ (¬ (y < (ω 0 5)) → xE xN m_M_easiestNow 31 [.ref 0, .int a2, .int (a3 + 1), .int y, .int a4, .int a5] [] ω Q))))))) → xE xN m_M_easiestNow 31 [.ref 0, .int a2, .int a3, u3, u4, u5] [] τ Q := fun {Q} τ u3 u4 u5 e1 e3' K => by
        refine w_N_easiestNow_31 a2 a3 u3 u4 u5 τ Q ⟨fun z => absurd z nle, fun _ => (cgR τ e1).int ?_⟩
        rintro y2 τ2 ⟨ey2, es2⟩
        rw [ey2, es2, x1]
        obtain ⟨w1, hw1, run⟩ := gaR τ e1
        refine ⟨fun _ => run.int ?_, fun z => absurd (by decide) z⟩
        rintro y4 τ4 ⟨ey4, es4⟩
        rw [ey4, es4]
        refine (n_spanState h3 hs _).int ?_
        rintro y6 τ6 ⟨ey6, es6⟩
        rw [s_at, hw1 _ (by omega)] at ey6
        rw [es6]
        have m2 : ∀ k, 2 ≤ k → (sm_set τ 1 w1) k = τ k := fun k hk => s_ne (by omega)
        have m0 : (sm_set τ 1 w1) 0 = τ 0 := s_ne (by decide)
        refine ⟨fun z => ?_, fun z => ?_⟩
        · exact l_rs72 (τ0 := τ) e3' (fun a5 ω q1 q2 q3 => K 0 a5 ω ⟨fun _ => by rw [← ey6]; exact z, fun _ => rfl⟩ q1 q2 q3) 2662 0 0 _ rfl (Nat.zero_add _) m2 (fun i hi => by omega) m0
        · exact l_rs72 (τ0 := τ) e3' (fun a5 ω q1 q2 q3 => K 1 a5 ω ⟨fun q => absurd q (by decide), fun q => absurd (by rw [← ey6]; exact Classical.not_not.mp z) q⟩ q1 q2 q3) 2662 0 0 _ rfl (Nat.zero_add _) m2 (fun i hi => by omega) m0
      have cl : ∀ {Q : Option Value → sm_S → Prop}, ((x4 = 0 → xE xF m_H_findEasiest 4 [.ref 85, .ref 0, .int a2, .int (a3 + 1)] [] σ3 Q) ∧ (¬ (x4 = 0) → ((a2 = (-1) → (∀ σ5, σ5 = sm_set σ3 85 (upd (σ3 85) 4 (σ3 85 3)) → xE xF m_H_findEasiest 4 [.ref 85, .ref 0, .int a3, .int (a3 + 1)] [] σ5 Q)) ∧ (¬ (a2 = (-1)) → (((σ3 85 4) ≤ (σ3 85 3) → xE xF m_H_findEasiest 4 [.ref 85, .ref 0, .int a2, .int (a3 + 1)] [] σ3 Q) ∧ (¬ ((σ3 85 4) ≤ (σ3 85 3)) → (∀ σ6, σ6 = sm_set σ3 85 (upd (σ3 85) 4 (σ3 85 3)) → xE xF m_H_findEasiest 4 [.ref 85, .ref 0, .int a3, .int (a3 + 1)] [] σ6 Q))))))) → xE xF m_H_findEasiest 4 [.ref 85, .ref 0, .int a2, .int a3] [] σ Q := fun {Q} hQ => by
        refine f_H_findEasiest_n_4 a2 a3 σ Q ⟨fun z => absurd z nle, fun _ => (nw0 cx).int ?_⟩
        rintro y2 τ2 ⟨ey2, es2⟩
        rw [ey2, es2, x1]
        refine ⟨fun z => absurd z (by decide), fun _ => C3.int ?_⟩
        rintro y4 τ4 ⟨ey4, es4⟩
        rw [ey4, es4]
        exact hQ
      have stay : (v' (2358 + 8 * k) ≠ 0 ∨ (a2 ≠ -1 ∧ σ3 85 4 ≤ σ3 85 3)) → ∃ (r : Int32) (σ' : sm_S), xE xF m_H_findEasiest 4 [.ref 85, .ref 0, .int a2, .int a3] [] σ (sm_I (fun x ω => x = r ∧ ω = σ')) ∧ th σ σ' ∧ kl (bs 43 σ') ∧ ∀ (τ : sm_S) (u3 u4 u5 : Value), (∀ i, i < 2662 → τ 1 i = v i) → (∀ i, i < 2662 → τ 3 i = v i) → (a2 ≠ -1 → σ 85 4 = τ 0 5) → fnd v a2 → xE xN m_M_easiestNow 31 [.ref 0, .int a2, .int a3, u3, u4, u5] [] τ (sm_I (fun x ω => x = r ∧ (∀ i, i < 2662 → ω 1 i = v i) ∧ ω 2 = τ 2 ∧ (r ≠ -1 → σ' 85 4 = ω 0 5) ∧ fnd v r)) := fun why => by
        obtain ⟨r, σ', C5, o5, k5, R5⟩ := ih (k + 1) a2 (a3 + 1) σ3 h3' (by omega) hT3 t3.k
        refine ⟨r, σ', cl ⟨fun _ => C5, fun z => ?_⟩, o3.tr o5, k5, fun τ u3 u4 u5 e1 e3' e5 hf => up τ u3 u4 u5 e1 e3' (fun a4 a5 ω z4 w1 w2 w0 => ?_)⟩
        · have nz := h4.b.2.mp z
          obtain ⟨n2, le⟩ := why.resolve_left (fun q => q nz)
          exact ⟨fun q => absurd q n2, fun _ => ⟨fun _ => C5, fun q => absurd le q⟩⟩
        · have w05 : a2 ≠ -1 → σ3 85 4 = ω 0 5 := fun q => by rw [e4, w0]; exact e5 q
          have go := R5 ω (.int y) (.int a4) (.int a5) w1 (fun i hi => by rw [w2 3 (by omega)]; exact e3' i hi) w05 hf
          have go2 : xE xN m_M_easiestNow 31 [.ref 0, .int a2, .int (a3 + 1), .int y, .int a4, .int a5] [] ω (sm_I (fun x ω => x = r ∧ (∀ i, i < 2662 → ω 1 i = v i) ∧ ω 2 = τ 2 ∧ (r ≠ -1 → σ' 85 4 = ω 0 5) ∧ fnd v r)) := go.mono (by
            rintro r0 ω' ⟨z, q0, q1, q2, q3, q4⟩
            exact ⟨z, q0, q1, q2, by rw [q3, w2 2 (by omega)], q4⟩)
          refine ⟨fun _ => go2, fun z => ?_⟩
          have nz : v' (2358 + 8 * k) = 0 := Classical.byContradiction (fun q => z (z4.mpr q))
          obtain ⟨n2, le⟩ := why.resolve_left (fun q => q nz)
          refine ⟨fun q => absurd q n2, fun _ => ⟨fun q => ?_, fun _ => go2⟩⟩
          exfalso
          rw [← w05 n2, t_lt] at q
          rw [t_le, e3] at le
          omega
      have take : v' (2358 + 8 * k) = 0 → (a2 = -1 ∨ ¬ σ3 85 4 ≤ σ3 85 3) → ∃ (r : Int32) (σ' : sm_S), xE xF m_H_findEasiest 4 [.ref 85, .ref 0, .int a2, .int a3] [] σ (sm_I (fun x ω => x = r ∧ ω = σ')) ∧ th σ σ' ∧ kl (bs 43 σ') ∧ ∀ (τ : sm_S) (u3 u4 u5 : Value), (∀ i, i < 2662 → τ 1 i = v i) → (∀ i, i < 2662 → τ 3 i = v i) → (a2 ≠ -1 → σ 85 4 = τ 0 5) → fnd v a2 → xE xN m_M_easiestNow 31 [.ref 0, .int a2, .int a3, u3, u4, u5] [] τ (sm_I (fun x ω => x = r ∧ (∀ i, i < 2662 → ω 1 i = v i) ∧ ω 2 = τ 2 ∧ (r ≠ -1 → σ' 85 4 = ω 0 5) ∧ fnd v r)) := fun of why => by
        have o5' : th σ3 (sm_set σ3 85 (upd (σ3 85) 4 (σ3 85 3))) := fun a ha => s_ne (by omega)
        have hT5 : tie False N (sm_set σ3 85 (upd (σ3 85) 4 (σ3 85 3))) v := hT3.eq (eqT.of (fun k hk => o5' k (by omega))) (fun _ _ => rfl)
        have k5' : kl (bs 43 (sm_set σ3 85 (upd (σ3 85) 4 (σ3 85 3)))) := kl_of (σ := bs 43 σ3) (by show (sm_set σ3 85 (upd (σ3 85) 4 (σ3 85 3))) 77 5 = σ3 77 5; rw [s_ne (by decide)]) t3.k
        obtain ⟨r, σ', C5, o5, k5, R5⟩ := ih (k + 1) a3 (a3 + 1) (sm_set σ3 85 (upd (σ3 85) 4 (σ3 85 3))) h3' (by omega) hT5 k5'
        have e54 : (sm_set σ3 85 (upd (σ3 85) 4 (σ3 85 3))) 85 4 = y := by rw [s_at, u_at, e3]
        have ff : fnd v a3 := Or.inr ⟨k, hs, h3, rx, y, v', RG, of⟩
        refine ⟨r, σ', cl ⟨fun z => absurd of (h4.b.1.mp z), fun _ => ⟨fun _ σ5 q5 => by rw [q5]; exact C5, fun n2 => ⟨fun q => ?_, fun _ σ5 q5 => by rw [q5]; exact C5⟩⟩⟩, (o3.tr o5').tr o5, k5, fun τ u3 u4 u5 e1 e3' e5 hf => up τ u3 u4 u5 e1 e3' (fun a4 a5 ω z4 w1 w2 w0 => ?_)⟩
        · rcases why with z | z
          · exact absurd z n2
          · exact absurd q z
        · have go2 : ∀ σ1, σ1 = sm_set ω 0 (upd (ω 0) 5 y) → xE xN m_M_easiestNow 31 [.ref 0, .int a3, .int (a3 + 1), .int y, .int a4, .int a5] [] σ1 (sm_I (fun x ω => x = r ∧ (∀ i, i < 2662 → ω 1 i = v i) ∧ ω 2 = τ 2 ∧ (r ≠ -1 → σ' 85 4 = ω 0 5) ∧ fnd v r)) := fun σ1 q1 => by
            have go := R5 σ1 (.int y) (.int a4) (.int a5) (fun i hi => by rw [q1, s_ne (by decide)]; exact w1 i hi) (fun i hi => by rw [q1, s_ne (by decide), w2 3 (by omega)]; exact e3' i hi) (fun _ => by rw [e54, q1, s_at, u_at]) ff
            refine go.mono ?_
            rintro r0 ω' ⟨z, q0, q2, q3, q4, q5⟩
            exact ⟨z, q0, q2, q3, by rw [q4, q1, s_ne (by decide), w2 2 (by omega)], q5⟩
          refine ⟨fun z => absurd of (z4.mp z), fun _ => ⟨fun _ => go2, fun n2 => ⟨fun _ => go2, fun q => ?_⟩⟩⟩
          exfalso
          have le := why.resolve_left n2
          have w05 : σ3 85 4 = ω 0 5 := by rw [e4, w0]; exact e5 n2
          rw [← w05, t_lt] at q
          rw [t_le, e3] at le
          omega
      by_cases of : v' (2358 + 8 * k) = 0
      · by_cases am : a2 = -1
        · exact take of (Or.inl am)
        · by_cases le : σ3 85 4 ≤ σ3 85 3
          · exact stay (Or.inr ⟨am, le⟩)
          · exact take of (Or.inr le)
      · exact stay (Or.inl of)
    · obtain ⟨r, σ', C5, o5, k5, R5⟩ := ih (k + 1) a2 (a3 + 1) σ h3' (by omega) hT hl
      refine ⟨r, σ', f_H_findEasiest_n_4 a2 a3 σ _ ⟨fun z => absurd z nle, fun _ => (nw0 cx).int ?_⟩, o5, k5, fun τ u3 u4 u5 e1 e3' e5 hf => w_N_easiestNow_31 a2 a3 u3 u4 u5 τ _ ⟨fun z => absurd z nle, fun _ => (cgR τ e1).int ?_⟩⟩
      · rintro y2 τ2 ⟨ey2, es2⟩
        rw [ey2, es2]
        exact ⟨fun _ => C5, fun z => absurd x0 z⟩
      · rintro y2 τ2 ⟨ey2, es2⟩
        rw [ey2, es2]
        exact ⟨fun z => absurd x0 z, fun _ => R5 τ u3 u4 u5 e1 e3' e5 hf⟩
theorem p_fe_n {N : Nat} {v : Nat → Int32} {σ : sm_S} (hj : jj N v) (hx : jx v) (hN : N < 1900000000) (hT : tie False N σ v) (hl : kl (bs 43 σ)) : ∃ (r : Int32) (σ' : sm_S), xC xF j_H_findEasiest [.ref 85, .ref 0] σ (sm_I (fun x ω => x = r ∧ ω = σ')) ∧ th σ σ' ∧ kl (bs 43 σ') ∧ ∀ τ : sm_S, (∀ i, i < 2662 → τ 1 i = v i) → xC xN j_M_easiestNow [.ref 0] τ (sm_I (fun x ω => x = r ∧ (∀ i, i < 2662 → ω 1 i = v i) ∧ ω 2 = τ 2 ∧ (r ≠ -1 → σ' 85 4 = ω 0 5) ∧ fnd v r)) := by
  obtain ⟨r, σ', C5, o5, k5, R5⟩ := l_fe_n hj hx hN 8 0 (-1) 0 σ rfl rfl hT hl
  refine ⟨r, σ', f_H_findEasiest_n σ _ C5, o5, k5, fun τ e1 => w_N_easiestNow τ _ (l_en4 2662 0 _ 0 _ _ _ τ _ rfl (Nat.zero_add _) (fun f f1 _ => ?_))⟩
  refine (R5 (sm_set τ 3 f) _ _ _ (fun i hi => by rw [s_ne (by decide)]; exact e1 i hi) (fun i hi => by rw [s_at, f1 i (Nat.zero_le i) hi]; exact e1 i hi) (fun z => absurd rfl z) (Or.inl rfl)).mono ?_
  rintro r0 ω' ⟨z, q0, q2, q3, q4, q5⟩
  exact ⟨z, q0, q2, q3, by rw [q4, s_ne (by decide)], q5⟩
def kyN (jA jM : Nat) (asA asM : List Value) (σ : sm_S) : Prop := ∃ r : Int32, xC xF jA asA σ (sm_I (fun x _ => x = r)) ∧ ∀ σ2 : sm_S, σ2 1 = σ 169 → xC xN jM asM σ2 (sm_I (fun y _ => y = r))
theorem rmUN {j : Nat} {as as' : List Value} {r : Int32} {v : Nat → Int32} (ha : as.map (sm_cv rM) = as') (h : ∀ σ : sm_S, σ 1 = v → xC xN j as σ (sm_I (fun y _ => y = r))) : ∀ σ1 : sm_S, σ1 169 = v → xC xF j as' σ1 (sm_I (fun y _ => y = r)) := fun σ1 e => by
  subst ha
  refine (x_up shNF (h (sh rM σ1) e)).mono ?_
  rintro r1 σ' ⟨r2, τ, rfl, ⟨x, rfl, hx⟩, -, -⟩
  exact ⟨x, rfl, hx⟩
theorem CLkN {jA jM B : Nat} {asA asM asM' : List Value} {σ : sm_S} (h : LR B σ) (a : xC xF jA asA σ (sm_I (fun _ σ' => BQ σ σ'))) (m : ∀ σ1, LQ B σ1 → xC xF jM asM' σ1 (sm_I (fun _ σ' => mQ (B + 1488000) σ1 σ'))) (k : ∀ σ1, LQ B σ1 → xC xF jM asM' σ1 (sm_I (fun _ σ' => kQ σ1 σ'))) (ha : asM.map (sm_cv rM) = asM') (q : kyN jA jM asA asM σ) : two (fun x y => x = y) jA jM asA asM' B σ := by
  obtain ⟨r, ra, rm⟩ := q
  exact CLe h a m k r ra (rmUN ha rm)
theorem n_isInX {lo hi : Int32} {L H : Int} (hl : lo.toInt = L) (hh : hi.toInt = H) (a : Int32) (σ : sm_S) : xC xN j_M_isIn [.ref 0, .int a, .int lo, .int hi] σ (sm_I (fun x σ' => isYes (L ≤ a.toInt ∧ a.toInt ≤ H) x ∧ σ' = σ)) := x_liftI (c_isInX hl hh a σ)
theorem ky_easiest {N : Nat} (a1 : Int32) (σ : sm_S) (hN : N < 1600000000) (hw : WW σ) (h : tw N σ (σ 169)) : kyN j_A_easiest j_M_easiest [.ref 42, .int a1] [.ref 0, .int a1] σ := by
  obtain ⟨ht, hj, hx⟩ := h
  have l0 : a1 < 0 ↔ a1.toInt < 0 := by rw [t_lt]; exact Iff.rfl
  have l1 : a1 ≤ 1 ↔ a1.toInt ≤ 1 := by rw [t_le]; exact Iff.rfl
  by_cases k1 : 0 ≤ a1.toInt ∧ a1.toInt ≤ 1
  · obtain ⟨r, σ', C, o, k', R⟩ := p_fe_n hj hx (by omega) ht.no hw.2.1
    have cla : ∀ (Q : Option Value → sm_S → Prop), ((a1 = 0 → Q (some (.int r)) σ') ∧ (¬ (a1 = 0) → ((r ≠ (-1) → Q (some (.int (σ' 85 4))) σ') ∧ (¬ (r ≠ (-1)) → Q (some (.int r)) σ')))) → xC xF j_A_easiest [.ref 42, .int a1] σ Q := fun Q hQ => by
      refine f_A_easiest a1 σ Q ⟨fun z => absurd (l0.mp z) (by omega), fun _ => ⟨fun _ => C.int ?_, fun z => absurd (l1.mpr k1.2) z⟩⟩
      rintro y2 τ2 ⟨ey2, es2⟩
      rw [ey2, es2]
      exact hQ
    have ref : ∀ (Q : Option Value → sm_S → Prop) (σ2 : sm_S), σ2 1 = σ 169 → (∀ ω : sm_S, (r ≠ -1 → σ' 85 4 = ω 0 5) → ((r ≠ (-1) → ((a1 ≠ 0 → Q (some (.int (ω 0 5))) ω) ∧ (¬ (a1 ≠ 0) → Q (some (.int r)) ω))) ∧ (¬ (r ≠ (-1)) → Q (some (.int (-1))) ω))) → xC xN j_M_easiest [.ref 0, .int a1] σ2 Q := fun Q σ2 e2 hQ => by
      refine w_N_easiest a1 σ2 Q (fun σ1 e1 => (n_isInX (L := 0) (H := 1) rfl rfl a1 σ1).int ?_)
      obtain ⟨f1, -⟩ := told1 e2 e1
      rintro x3 σ3 ⟨hx3, es3⟩
      rw [es3]
      refine ⟨fun _ => (R σ1 (fun i _ => by rw [f1])).int ?_, fun z => absurd (hx3.b.2.mpr k1) z⟩
      rintro y2 ω ⟨ey2, -, -, q, -⟩
      rw [ey2]
      exact hQ ω q
    by_cases a0 : a1 = 0
    · refine ⟨r, cla _ ⟨fun _ => an_ rfl, fun z => absurd a0 z⟩, fun σ2 e2 => ref _ σ2 e2 (fun ω q => ⟨fun _ => ⟨fun z => absurd a0 z, fun _ => an_ rfl⟩, fun z => an_ (Classical.not_not.mp z).symm⟩)⟩
    · by_cases rm : r = -1
      · exact ⟨r, cla _ ⟨fun z => absurd z a0, fun _ => ⟨fun z => absurd rm z, fun _ => an_ rfl⟩⟩, fun σ2 e2 => ref _ σ2 e2 (fun ω q => ⟨fun z => absurd rm z, fun _ => an_ rm.symm⟩)⟩
      · exact ⟨σ' 85 4, cla _ ⟨fun z => absurd z a0, fun _ => ⟨fun _ => an_ rfl, fun z => absurd rm z⟩⟩, fun σ2 e2 => ref _ σ2 e2 (fun ω q => ⟨fun _ => ⟨fun _ => an_ (q rm).symm, fun z => absurd a0 z⟩, fun z => absurd rm z⟩)⟩
  · refine ⟨-1, f_A_easiest a1 σ _ ⟨fun _ => an_ rfl, fun z => ⟨fun z2 => absurd ?_ k1, fun _ => an_ rfl⟩⟩, fun σ2 e2 => w_N_easiest a1 σ2 _ (fun σ1 e1 => (n_isInX (L := 0) (H := 1) rfl rfl a1 σ1).int ?_)⟩
    · rw [l0] at z
      rw [l1] at z2
      omega
    · rintro x3 σ3 ⟨hx3, es3⟩
      rw [es3]
      exact ⟨fun z => absurd (hx3.b.2.mp z) k1, fun _ => an_ rfl⟩
theorem ce_easiest {B : Nat} (a1 : Int32) (σ : sm_S) (hB : B < 1500000000) (h : LR B σ) : two (fun x y => x = y) j_A_easiest j_M_easiest [.ref 42, .int a1] [.ref 168, .int a1] B σ := by
  have h2 := h
  obtain ⟨hL, ⟨N, hN, ht⟩, -⟩ := h2
  exact CLkN h (a_easiestQ a1 σ h.1.1) (fun σ1 q => m_easiest a1 σ1 hB q.2.1) (fun σ1 q => by
    obtain ⟨N, hN, hj⟩ := (lw_bs q.2.1).1
    exact qUN (as := [.ref 0, .int a1]) rfl (k_easiest (N := N) a1 (by omega) (sh rM σ1) hj)) (asM := [.ref 0, .int a1]) rfl (ky_easiest a1 σ (by omega) h.1.1 ht)
