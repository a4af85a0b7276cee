section
/-! ===== the model: press, gather ===== -/
def k14 (σ σ' : sm_S) : Prop := ∀ k, k ≠ 1 → k ≠ 4 → σ' k = σ k
theorem k14.rf {σ : sm_S} : k14 σ σ := fun _ _ _ => rfl
theorem k14.tr {a b c : sm_S} (h1 : k14 a b) (h2 : k14 b c) : k14 a c := fun k g1 g2 => (h2 k g1 g2).trans (h1 k g1 g2)
theorem k14.s1 {σ : sm_S} {w : Nat → Int32} : k14 σ (sm_set σ 1 w) := fun k h1 _ => s_ne h1
theorem k14.s4 {σ : sm_S} {w : Nat → Int32} : k14 σ (sm_set σ 4 w) := fun k _ h4 => s_ne h4
def nDone (σ : sm_S) (b : Nat) : Bool := decide (σ 4 b = 0)
theorem t_32s {a : Int32} {s : Nat} (h : a.toInt = s) (hs : s < 8) : (32 * a).toInt = ((32 * s : Nat) : Int) := by
  rw [t_mul (x := 32) rfl h (by omega) (by omega)]
  omega
theorem l_presses47 {a1 : Int32} {s n N m fr o : Nat} (h1 : a1.toInt = s) (hs : s < 8) (hn : n < 96)
    (ihO : ∀ (a2 a3 : Int32) (v4 : Value) (σ : sm_S), cn (nDone σ) 96 ≤ m → jj N (σ 1) → toPress σ s a3 → xE xM m_M_presses 29 [.ref 0, .int a1, .int a2, .int a3, v4] [] σ (sm_I (fun _ σ' => jj N (σ' 1) ∧ k14 σ σ'))) :
    ∀ (d f0 : Nat) (a2 a3 a4 : Int32) (σ : sm_S), a3.toInt = n → a4.toInt = f0 → f0 < 400 → f0 % 2 ^ o = 0 → fr ≤ f0 + d → cn (nDone σ) 96 ≤ m → jj N (σ 1) → σ 1 (786 + 16 * n + 6) = 0 → σ 1 (786 + 16 * n + 0) = 1 → (σ 1 (786 + 16 * n + 1)).toInt = fr → (σ 1 (786 + 16 * n + 2)).toInt = o → o ≤ 4 → fr < 256 →
    xE xM m_M_presses 47 [.ref 0, .int a1, .int a2, .int a3, .int a4] [] σ (sm_I (fun _ σ' => jj N (σ' 1) ∧ k14 σ σ')) := by
  intro d
  induction d with
  | zero =>
    intro f0 a2 a3 a4 σ h3 h4 hf4 hal hd hc hj h6 hI hfr ho ho4 hfr2
    refine w_M_presses_47 a1 a2 a3 a4 σ _ ((c_frameOf h3 hn σ).int ?_)
    rintro x σ ⟨hx, rfl⟩
    have hxf : x.toInt = fr := by rw [hx]; exact hfr
    refine ⟨fun _ => (c_frameOf h3 hn _).int ?_, fun h => absurd (by rw [t_le, hxf, h4]; omega) h⟩
    rintro x2 σ ⟨hx2, rfl⟩
    have hxf2 : x2.toInt = fr := by rw [hx2]; exact hfr
    refine ⟨fun h => ?_, fun _ => (c_nextToPress h1 _ hj).int ?_⟩
    · rw [t_lt, hxf2, h4] at h; omega
    · rintro y σ ⟨hy, rfl⟩
      exact ihO _ _ _ _ hc hj hy
  | succ d ih =>
    intro f0 a2 a3 a4 σ h3 h4 hf4 hal hd hc hj h6 hI hfr ho ho4 hfr2
    have hpw := t_pw (k := o) (by omega)
    have hmv : ∀ (a2 : Int32) (v4 : Value), f0 < fr → xC xM j_M_movesTo [.ref 0, .int a3, .int a4] σ (sm_rv False (fun σ5 => xC xM j_M_nextToPress [.ref 0, .int a1] σ5 (sm_ri False (fun x7 σ6 => xE xM m_M_presses 29 [.ref 0, .int a1, .int a2, .int x7, v4] [] σ6 (sm_I (fun _ σ' => jj N (σ' 1) ∧ k14 σ σ')))))) := by
      intro a2 v4 hlt
      refine (c_movesTo h3 hn h4 (by omega) σ ho hal h6 hI hj).void ?_
      rintro _ ⟨w, rfl, hw, -⟩
      have hj2 : jj N ((sm_set σ 1 w) 1) := by rw [s_at]; exact hw
      refine (c_nextToPress h1 _ hj2).int ?_
      rintro y σ2 ⟨hy, rfl⟩
      have hc2 : cn (nDone (sm_set σ 1 w)) 96 ≤ m := by
        have : nDone (sm_set σ 1 w) = nDone σ := by funext b; unfold nDone; rw [s_ne (by decide)]
        rw [this]; exact hc
      refine (ihO a2 y v4 _ hc2 hj2 hy).mono ?_
      rintro r σ' ⟨z, rfl, g1, g2⟩
      exact ⟨z, rfl, g1, k14.s1.tr g2⟩
    have hno : ∀ (a2 : Int32) (v4 : Value), xC xM j_M_nextToPress [.ref 0, .int a1] σ (sm_ri False (fun x7 σ6 => xE xM m_M_presses 29 [.ref 0, .int a1, .int a2, .int x7, v4] [] σ6 (sm_I (fun _ σ' => jj N (σ' 1) ∧ k14 σ σ')))) := by
      intro a2 v4
      refine (c_nextToPress h1 _ hj).int ?_
      rintro y σ ⟨hy, rfl⟩
      exact ihO _ _ _ _ hc hj hy
    refine w_M_presses_47 a1 a2 a3 a4 σ _ ((c_frameOf h3 hn σ).int ?_)
    rintro x σ ⟨hx, rfl⟩
    have hxf : x.toInt = fr := by rw [hx]; exact hfr
    refine ⟨fun hle => (c_frameOf h3 hn _).int ?_, fun hlt => (c_of (k := 2) (j := 2) h3 rfl (by omega) _).int ?_⟩
    · rintro x2 σ ⟨hx2, rfl⟩
      have hxf2 : x2.toInt = fr := by rw [hx2]; exact hfr
      refine ⟨fun h => ?_, fun _ => hno _ _⟩
      rw [t_lt, hxf2, h4] at h
      rw [t_le, hxf, h4] at hle
      omega
    · rw [t_le, hxf, h4] at hlt
      rintro x2 σ ⟨hx2, rfl⟩
      have hxo : x2.toInt = o := by rw [hx2]; exact ho
      refine (c_areFree h4 (by omega) hxo (by omega) _).int ?_
      rintro x3 σ ⟨-, rfl⟩
      refine ⟨fun _ => (c_frameOf h3 hn _).int ?_, fun _ => (c_longOf h3 hn _).int ?_⟩
      · rintro x4 σ ⟨hx4, rfl⟩
        have hxf4 : x4.toInt = fr := by rw [hx4]; exact hfr
        exact ⟨fun _ => hmv _ _ (by omega), fun h => absurd (by rw [t_lt, hxf4, h4]; omega) h⟩
      · rintro _ σ ⟨rfl, rfl⟩
        have h4' : (a4 + ((1 : Int32) <<< (σ 1 (786 + 16 * n + 2) &&& 31))).toInt = ((f0 + 2 ^ o : Nat) : Int) := by
          rw [t_add h4 (t_pow ho (by omega)) (by omega) (by omega)]
          omega
        exact ih (f0 + 2 ^ o) a2 a3 _ _ h3 h4' (by omega) (by rw [Nat.add_mod_right]; exact hal) (by omega) hc hj h6 hI hfr ho ho4 hfr2
theorem t_m32 {s o : Nat} (ho : o ≤ 4) : (32 * s) % 2 ^ o = 0 := by
  rcases (show o = 0 ∨ o = 1 ∨ o = 2 ∨ o = 3 ∨ o = 4 by omega) with rfl | rfl | rfl | rfl | rfl <;> simp only [Nat.reducePow] <;> omega
theorem l_presses29 {a1 : Int32} {s N : Nat} (h1 : a1.toInt = s) (hs : s < 8) : ∀ (m : Nat) (a2 a3 : Int32) (v4 : Value) (σ : sm_S), cn (nDone σ) 96 ≤ m → jj N (σ 1) → toPress σ s a3 → xE xM m_M_presses 29 [.ref 0, .int a1, .int a2, .int a3, v4] [] σ (sm_I (fun _ σ' => jj N (σ' 1) ∧ k14 σ σ')) := by
  intro m
  induction m with
  | zero =>
    intro a2 a3 v4 σ hc hj h3
    refine w_M_presses_29 a1 a2 a3 v4 σ _ ⟨fun _ => ⟨_, rfl, hj, k14.rf⟩, fun ha => ?_⟩
    obtain ⟨n, e1, e2, e3, -⟩ := h3.resolve_left ha
    have := cn_lt (P := nDone σ) (P' := fun _ => false) (j := n) (by simpa [nDone] using e3) rfl (N := 96) e2 (fun i _ h => by cases h)
    omega
  | succ m ih =>
    intro a2 a3 v4 σ hc hj h3
    refine w_M_presses_29 a1 a2 a3 v4 σ _ ⟨fun _ => ⟨_, rfl, hj, k14.rf⟩, fun ha => ?_⟩
    obtain ⟨n, e1, e2, e3, e4, eI, fr, e5, e6⟩ := h3.resolve_left ha
    refine ⟨t_vp e1 e2, Or.inr rfl, fun σ1 es => ?_⟩
    rw [t_nat e1] at es
    obtain ⟨o, fr2, b1, b2, b3, b4, b5, -⟩ := hj.2.1.1 n e2
    have hff : fr2 = fr := by rw [e5] at b3; omega
    subst hff
    have hj1 : σ1 1 = σ 1 := by rw [es, s_ne (by decide)]
    have hlt : cn (nDone σ1) 96 < cn (nDone σ) 96 := by
      refine cn_lt (j := n) (by simpa [nDone] using e3) (by simp only [nDone, es, s_at, u_at]; decide) e2 (fun i hi h => ?_)
      by_cases hin : i = n
      · subst hin; simpa [nDone] using e3
      · simp only [nDone, es, s_at, decide_eq_true_eq] at h ⊢
        rw [u_ne hin] at h
        exact h
    refine (l_presses47 (fr := fr2) (o := o) (n := n) (m := m) h1 hs e2 ih 256 (32 * s) a2 a3 (32 * a1) σ1 e1 (t_32s h1 hs) (by omega) (t_m32 b2) (by omega) (by omega) (by rw [hj1]; exact hj) (by rw [hj1]; exact t_to0 (hj.2.1.1 n e2) e4) (by rw [hj1]; exact eI) (by rw [hj1]; exact e5) (by rw [hj1]; exact b1) b2 b4).mono ?_
    rintro r σ' ⟨z, rfl, g1, g2⟩
    exact ⟨z, rfl, g1, (by rw [es]; exact k14.s4 : k14 σ σ1).tr g2⟩
theorem l_presses4 {a1 a2 : Int32} {s N : Nat} (h1 : a1.toInt = s) (hs : s < 8) : ∀ (d k : Nat) (a3 : Int32) (v4 : Value) (σ : sm_S), a3.toInt = k → k + d = 96 → jj N (σ 1) → xE xM m_M_presses 4 [.ref 0, .int a1, .int a2, .int a3, v4] [] σ (sm_I (fun _ σ' => jj N (σ' 1) ∧ k14 σ σ')) := by
  intro d
  induction d with
  | zero =>
    intro k a3 v4 σ h3 hk hj
    refine w_M_presses_4 a1 a2 a3 v4 σ _ ⟨fun _ => (c_nextToPress h1 _ hj).int ?_, fun h => absurd ?_ h⟩
    · rintro y σ ⟨hy, rfl⟩
      exact l_presses29 h1 hs 96 _ _ _ _ cn_bd hj hy
    · rw [t_le, h3]
      show (96 : Int) ≤ _
      omega
  | succ d ih =>
    intro k a3 v4 σ h3 hk hj
    have h3' : (a3 + 1).toInt = ((k + 1 : Nat) : Int) := by
      rw [t_add h3 (y := 1) rfl (by omega) (by omega)]
      omega
    refine w_M_presses_4 a1 a2 a3 v4 σ _ ⟨fun h => ?_, fun _ => ⟨t_vp h3 (by omega), Or.inl rfl, fun σ1 es => ?_⟩⟩
    · rw [t_le, h3] at h
      have h : (96 : Int) ≤ k := h
      omega
    · refine (ih (k + 1) (a3 + 1) v4 σ1 h3' (by omega) (by rw [es, s_ne (by decide)]; exact hj)).mono ?_
      rintro r σ' ⟨z, rfl, g1, g2⟩
      exact ⟨z, rfl, g1, (by rw [es]; exact k14.s4 : k14 σ σ1).tr g2⟩
theorem c_presses {a1 : Int32} {s N : Nat} (h1 : a1.toInt = s) (hs : s < 8) (σ : sm_S) (hj : jj N (σ 1)) : xC xM j_M_presses [.ref 0, .int a1] σ (sm_I (fun _ σ' => jj N (σ' 1) ∧ k14 σ σ')) :=
  w_M_presses a1 σ _ (l_presses4 h1 hs 96 0 0 _ σ rfl rfl hj)
theorem X_k14 {N : Nat} {σ σ1 σ' : sm_S} {x : Int32} (e1 : σ1 = sm_set σ 0 (upd (σ 0) 0 0)) (hj : jj N (σ' 1)) (hk : k14 σ1 σ') : pubX N 0 σ x σ' := by
  refine ⟨N, hj, Nat.le_refl N, Nat.le_refl N, ?_, ?_, fun k h => ?_⟩
  · rw [hk 5 (by decide) (by decide), e1, s_ne (by decide)]
  · rw [hk 0 (by decide) (by decide), e1, s_at, u_ne (by decide)]
  · rw [hk k (by omega) (by omega), e1, s_ne (by omega)]
theorem c_press {N : Nat} (a1 : Int32) (σ : sm_S) (hj : jj N (σ 1)) : xC xM j_M_press [.ref 0, .int a1] σ (sm_I (pubX N 0 σ)) := by
  refine w_M_press a1 σ _ (fun σ1 e1 => (c_isSpan a1 σ1).int ?_)
  have hj1 : jj N (σ1 1) := by rw [e1, s_ne (by decide)]; exact hj
  rintro x1 σ1 ⟨hx1, rfl⟩
  refine ⟨fun _ => ⟨_, rfl, pub_X (pub_keep hj e1)⟩, fun n1 => ?_⟩
  obtain ⟨-, s, hs, h1⟩ := hx1.resolve_right (fun z => n1 z.1)
  refine (c_spanState h1 hs _).int ?_
  rintro x2 σ1 ⟨-, rfl⟩
  refine ⟨fun _ => ⟨_, rfl, pub_X (pub_keep hj e1)⟩, fun _ => (c_presses h1 hs _ hj1).int ?_⟩
  rintro x3 σ' ⟨g1, g2⟩
  exact ⟨_, rfl, X_k14 e1 g1 g2⟩
end
section
/-! ===== the model: gather; spans come and begin to go ===== -/
theorem l_gather {a1 : Int32} {m N : Nat} (h1 : a1.toInt = m) (hm : m < 6) : ∀ (d k : Nat) (a2 a3 : Int32) (v4 : Value) (σ : sm_S), a3.toInt = k → k + d = 96 → jj N (σ 1) → xE xM m_M_gather 19 [.ref 0, .int a1, .int a2, .int a3, v4] [] σ (sm_I (fun _ σ' => jj N (σ' 1) ∧ k14 σ σ')) := by
  intro d
  induction d with
  | zero =>
    intro k a2 a3 v4 σ h3 hk hj
    refine w_M_gather_19 a1 a2 a3 v4 σ _ ⟨fun _ => ⟨_, rfl, hj, k14.rf⟩, fun h => absurd ?_ h⟩
    rw [t_le, h3]
    show (96 : Int) ≤ _
    omega
  | succ d ih =>
    intro k a2 a3 v4 σ h3 hk hj
    have h3' : (a3 + 1).toInt = ((k + 1 : Nat) : Int) := by
      rw [t_add h3 (y := 1) rfl (by omega) (by omega)]
      omega
    have go : ∀ (b2 : Int32) (w4 : Value), xE xM m_M_gather 19 [.ref 0, .int a1, .int b2, .int (a3 + 1), w4] [] σ (sm_I (fun _ σ' => jj N (σ' 1) ∧ k14 σ σ')) := fun b2 w4 => ih (k + 1) b2 (a3 + 1) w4 σ h3' (by omega) hj
    obtain ⟨o, fr, b1, b2, b3, b4, b5, -⟩ := hj.2.1.1 k (by omega)
    have hkn : k < 96 := by omega
    refine w_M_gather_19 a1 a2 a3 v4 σ _ ⟨fun h => ?_, fun _ => (c_isBlock a3 σ).int ?_⟩
    · rw [t_le, h3] at h
      have h : (96 : Int) ≤ k := h
      omega
    · rintro x1 σ ⟨hx1, rfl⟩
      refine ⟨fun _ => go _ _, fun nI => (c_of (k := 4) (j := 4) h3 rfl (by omega) _).int ?_⟩
      rintro x2 σ ⟨-, rfl⟩
      refine ⟨fun _ => go _ _, fun _ => (c_isLoose h3 hkn _).int ?_⟩
      rintro x3 σ ⟨hx3, rfl⟩
      refine ⟨fun _ => go _ _, fun n3 => ?_⟩
      obtain ⟨-, -, h6⟩ := hx3.resolve_left n3
      have hI : σ 1 (786 + 16 * k + 0) = 1 := by
        obtain ⟨-, k2, -, hk2, hI⟩ := hx1.resolve_right (fun z => nI z.1)
        have : k2 = k := by omega
        subst this
        exact hI
      refine (c_frameOf h3 hkn _).int ?_
      rintro x4 σ ⟨hx4, rfl⟩
      have hf4 : x4.toInt = fr := by rw [hx4]; exact b3
      refine (c_spanOf hf4 _).int ?_
      rintro x5 σ ⟨hx5, rfl⟩
      have hsp : fr / 32 < 8 := by omega
      refine (c_spanState hx5 hsp _).int ?_
      rintro x6 σ ⟨-, rfl⟩
      refine ⟨fun _ => (c_of (k := 2) (j := 2) h3 rfl (by omega) _).int ?_, fun _ => go _ _⟩
      rintro x7 σ ⟨hx7, rfl⟩
      have ho7 : x7.toInt = o := by rw [hx7]; exact b1
      refine (c_bestPlace h1 hm ho7 b2 _).int ?_
      rintro x8 σ ⟨hx8, rfl⟩
      refine ⟨fun _ => go _ _, fun n8 => ?_⟩
      obtain ⟨p, hp1, hp2, hp3⟩ := hx8.resolve_left n8
      refine (c_spanOf hp1 _).int ?_
      rintro x9 σ ⟨hx9, rfl⟩
      have hsp2 : p / 32 < 8 := by omega
      refine (c_rankOf hx9 hsp2 h1 hm _).int ?_
      rintro x10 σ ⟨-, -, rfl⟩
      refine (c_frameOf h3 hkn _).int ?_
      rintro x11 σ ⟨hx11, rfl⟩
      have hf11 : x11.toInt = fr := by rw [hx11]; exact b3
      refine (c_spanOf hf11 _).int ?_
      rintro x12 σ ⟨hx12, rfl⟩
      refine (c_rankOf hx12 hsp h1 hm _).int ?_
      rintro x13 σ ⟨-, -, rfl⟩
      refine ⟨fun _ => (c_movesTo h3 hkn hp1 hp2 _ b1 hp3 (t_to0 (hj.2.1.1 k hkn) h6) hI hj).void ?_, fun _ => go _ _⟩
      rintro _ ⟨w, rfl, hw, -⟩
      refine (ih (k + 1) _ (a3 + 1) _ _ h3' (by omega) (by rw [s_at]; exact hw)).mono ?_
      rintro r σ' ⟨z, rfl, g1, g2⟩
      exact ⟨z, rfl, g1, k14.s1.tr g2⟩
theorem c_gather {N : Nat} (a1 : Int32) (σ : sm_S) (hj : jj N (σ 1)) : xC xM j_M_gather [.ref 0, .int a1] σ (sm_I (pubX N 0 σ)) := by
  refine w_M_gather a1 σ _ (fun σ1 e1 => (c_isTask a1 σ1).int ?_)
  have hj1 : jj N (σ1 1) := by rw [e1, s_ne (by decide)]; exact hj
  rintro x1 σ1 ⟨hx1, rfl⟩
  refine ⟨fun n1 => ?_, fun _ => ⟨_, rfl, pub_X (pub_keep hj e1)⟩⟩
  obtain ⟨-, m, hm, h1⟩ := hx1.resolve_right (fun z => n1 z.1)
  refine (l_gather h1 hm 96 0 0 0 _ _ rfl rfl hj1).mono ?_
  rintro r σ' ⟨z, rfl, g1, g2⟩
  exact ⟨z, rfl, X_k14 e1 g1 g2⟩
/-- a span changes, but for which block is on its way -/
theorem jr_span {v v' : Nat → Int32} {s : Nat} (hs : s < 8) (hj : jr v) (e : ∀ i, 786 ≤ i → i < 2422 → (i < 2358 + 8 * s ∨ 2358 + 8 * s + 8 ≤ i) → v' i = v i) (e6 : v' (2358 + 8 * s + 6) = v (2358 + 8 * s + 6)) (hsp : sp_ok v' s) (hz : z0_ok v') : jr v' := by
  obtain ⟨j1, j2, j3, j4, -⟩ := hj
  refine ⟨fun b hb => bk_cong (fun k hk _ _ _ => e _ (by omega) (by omega) (by omega)) (j1 b hb), fun b hb => ln_cong (fun k hk _ _ _ => e _ (by omega) (by omega) (by omega)) (fun t k ht hk => e _ (by omega) (by omega) (by omega)) (j2 b hb), fun s2 hs2 => ?_, fun b hb => ?_, hz⟩
  · by_cases hss : s2 = s
    · subst hss; exact hsp
    · obtain ⟨st, pt, at', q, h1, h2, h3, h4, h5, h6', h7, h8, h9⟩ := j3 s2 hs2
      refine ⟨st, pt, at', q, ?_, h2, ?_, h4, h5, ?_, h7, ?_, ?_⟩
      · rw [e _ (by omega) (by omega) (by omega)]; exact h1
      · rw [e _ (by omega) (by omega) (by omega)]; exact h3
      · rw [e _ (by omega) (by omega) (by omega)]; exact h6'
      · rw [e _ (by omega) (by omega) (by omega)]; exact h8
      · rcases h9 with h9 | ⟨b, g1, g2, g3, g4, fr, g5, g6⟩
        · exact Or.inl h9
        · refine Or.inr ⟨b, g1, g2, g3, ?_, fr, ?_, g6⟩ <;> rw [e _ (by omega) (by omega) (by omega)] <;> assumption
  · intro hb6
    rw [e _ (by omega) (by omega) (by omega)] at hb6
    obtain ⟨h1, fr, h2, h3, h4⟩ := j4 b hb hb6
    refine ⟨?_, fr, ?_, h3, ?_⟩
    · rw [e _ (by omega) (by omega) (by omega)]; exact h1
    · rw [e _ (by omega) (by omega) (by omega)]; exact h2
    · by_cases hss : fr / 32 = s
      · rw [hss, e6, ← hss]; exact h4
      · rw [e _ (by omega) (by omega) (by omega)]; exact h4
theorem l_framesOf {a1 : Int32} (σ : sm_S) : ∀ (d k c : Nat) (a2 a3 : Int32), a3.toInt = k → k + d = 8 → a2.toInt = ((32 * c : Nat) : Int) → c ≤ k → (∀ s, s < k → σ 1 (2358 + 8 * s) ≠ 0 → σ 1 (2358 + 8 * s + 1) = a1 → 1 ≤ c) → xE xM m_M_framesOf 4 [.ref 0, .int a1, .int a2, .int a3] [] σ (sm_I (fun x σ' => (∃ c : Nat, x.toInt = ((32 * c : Nat) : Int) ∧ c ≤ 8 ∧ ∀ s, s < 8 → σ 1 (2358 + 8 * s) ≠ 0 → σ 1 (2358 + 8 * s + 1) = a1 → 1 ≤ c) ∧ σ' = σ)) := by
  intro d
  induction d with
  | zero =>
    intro k c a2 a3 h3 hk h2 hc hall
    refine w_M_framesOf_4 a1 a2 a3 σ _ ⟨fun _ => ⟨_, rfl, ⟨c, h2, by omega, fun s hs => hall s (by omega)⟩, rfl⟩, fun h => absurd ?_ h⟩
    rw [t_le, h3]
    show (8 : Int) ≤ _
    omega
  | succ d ih =>
    intro k c a2 a3 h3 hk h2 hc hall
    have h3' : (a3 + 1).toInt = ((k + 1 : Nat) : Int) := by
      rw [t_add h3 (y := 1) rfl (by omega) (by omega)]
      omega
    refine w_M_framesOf_4 a1 a2 a3 σ _ ⟨fun h => ?_, fun _ => (c_zoneOf h3 (by omega) σ).int ?_⟩
    · rw [t_le, h3] at h
      have h : (8 : Int) ≤ k := h
      omega
    · rintro x σ ⟨hx, rfl⟩
      refine ⟨fun hne => ih (k + 1) c a2 _ h3' (by omega) h2 (by omega) (fun s hs g1 g2 => ?_), fun _ => ih (k + 1) (c + 1) _ _ h3' (by omega) ?_ (by omega) (fun _ _ _ _ => by omega)⟩
      · by_cases hsk : s = k
        · subst hsk
          rcases hx with ⟨g3, -⟩ | ⟨-, g3⟩
          · exact absurd g3 g1
          · exact absurd (g3.trans g2) hne
        · exact hall s (by omega) g1 g2
      · rw [t_add h2 (y := 32) rfl (by omega) (by omega)]
        omega
theorem c_framesOf (a1 : Int32) (σ : sm_S) : xC xM j_M_framesOf [.ref 0, .int a1] σ (sm_I (fun x σ' => (∃ c : Nat, x.toInt = ((32 * c : Nat) : Int) ∧ c ≤ 8 ∧ ∀ s, s < 8 → σ 1 (2358 + 8 * s) ≠ 0 → σ 1 (2358 + 8 * s + 1) = a1 → 1 ≤ c) ∧ σ' = σ)) :=
  w_M_framesOf a1 σ _ (l_framesOf σ 8 0 0 0 0 rfl rfl rfl (Nat.le_refl 0) (fun s hs => absurd hs (Nat.not_lt_zero s)))
theorem c_settingOf {a : Int32} {n : Nat} (h : a.toInt = n) (hn : n < 2662) (σ : sm_S) : xC xM j_M_settingOf [.ref 0, .int a] σ (sm_I (fun _ σ' => σ' = σ)) := by
  refine w_M_settingOf a σ _ ⟨t_vp h hn, (c_firstOf a σ).int ?_⟩
  rintro x σ rfl
  exact ⟨_, rfl, rfl⟩
theorem c_zoneByRatio (σ : sm_S) : xC xM j_M_zoneByRatio [.ref 0] σ (sm_I (fun x σ' => (x = 0 ∨ x = 1) ∧ σ' = σ)) := by
  refine w_M_zoneByRatio σ _ ((c_framesOf 1 σ).int ?_)
  rintro x1 σ ⟨-, rfl⟩
  refine (c_settingOf (n := 2) rfl (by omega) _).int ?_
  rintro x2 σ rfl
  refine (c_framesOf 0 _).int ?_
  rintro x3 σ ⟨-, rfl⟩
  exact ⟨fun _ => ⟨_, rfl, Or.inl rfl, rfl⟩, fun _ => ⟨_, rfl, Or.inr rfl, rfl⟩⟩
theorem l_comesOn {a1 a2 : Int32} {s N : Nat} (h1 : a1.toInt = s) (hs : s < 8) (hN : N < 2147483000) : ∀ (d k : Nat) (a3 : Int32) (σ : sm_S), a3.toInt = ((32 * s + k : Nat) : Int) → k + d = 32 → jj N (σ 1) → xE xM m_M_comesOn 31 [.ref 0, .int a1, .int a2, .int a3] [] σ (sm_I (fun x σ' => x = a2 ∧ ∃ w, σ' = sm_set σ 1 w ∧ jj (N + 1) w ∧ ∀ i, 786 ≤ i → i < 2422 → w i = σ 1 i)) := by
  have hb : ((32 * a1) + 32).toInt = ((32 * s + 32 : Nat) : Int) := by
    rw [t_add (t_32s h1 hs) (y := 32) rfl (by omega) (by omega)]
    omega
  intro d
  induction d with
  | zero =>
    intro k a3 σ h3 hk hj
    refine w_M_comesOn_31 a1 a2 a3 σ _ ⟨fun _ => (c_writes' _ _ _ _ hj hN).void ?_, fun h => absurd ?_ h⟩
    · rintro _ ⟨w, rfl, hw, ew⟩
      exact ⟨_, rfl, rfl, w, rfl, hw, fun i h1 h2 => ew i h2 (by omega)⟩
    · rw [t_le, hb, h3]
      omega
  | succ d ih =>
    intro k a3 σ h3 hk hj
    have h3' : (a3 + 1).toInt = ((32 * s + (k + 1) : Nat) : Int) := by
      rw [t_add h3 (y := 1) rfl (by omega) (by omega)]
      omega
    refine w_M_comesOn_31 a1 a2 a3 σ _ ⟨fun h => ?_, fun _ => (c_frameAt a3 σ).int ?_⟩
    · rw [t_le, hb, h3] at h
      omega
    · rintro _ σ ⟨rfl, rfl⟩
      obtain ⟨p1, q1⟩ := ixF (k := 0) (j := 0) h3 rfl (by omega)
      rw [q1]
      refine ⟨p1, fun σ1 e1 => ?_⟩
      subst e1
      have hj1 : jj N (upd (σ 1) (18 + 3 * (32 * s + k) + 0) 1) := jj_fr (fr_st1 (f := 32 * s + k) rfl (by decide) (by omega) hj.1) (fr_upd (by omega) (by omega)) hj
      refine (ih (k + 1) (a3 + 1) _ h3' (by omega) (by rw [s_at]; exact hj1)).mono ?_
      rintro r σ' ⟨z, rfl, g0, w, rfl, hw, ew⟩
      rw [s_at] at ew
      exact ⟨z, rfl, g0, w, s_ss, hw, fun i g1 g2 => by rw [ew i g1 g2, u_ne (by omega)]⟩
/-- a span that was off comes -/
theorem c_comesOn {a1 a2 : Int32} {s N : Nat} (h1 : a1.toInt = s) (hs : s < 8) (hN : N < 2147483000) (σ : sm_S) (hj : jj N (σ 1)) (h0 : σ 1 (2358 + 8 * s) = 0) : xC xM j_M_comesOn [.ref 0, .int a1, .int a2] σ (sm_I (fun x σ' => ∃ w, σ' = sm_set σ 1 w ∧ jj (N + 1) w ∧ w (2358 + 8 * s) = 1 ∧ ∀ i, 786 ≤ i → i < 2422 → i ≠ 2358 + 8 * s → i ≠ 2358 + 8 * s + 1 → w i = σ 1 i)) := by
  refine w_M_comesOn a1 a2 σ _ ((c_spanAt a1 σ).int ?_)
  rintro _ σ ⟨rfl, rfl⟩
  obtain ⟨p0, q0⟩ := ixS (k := 0) (j := 0) h1 rfl (by omega)
  obtain ⟨p1, q1⟩ := ixS (k := 1) (j := 1) h1 rfl (by omega)
  rw [q0]
  refine ⟨p0, fun σ1 e1 => (c_spanAt a1 σ1).int ?_⟩
  rintro _ σ1 ⟨rfl, rfl⟩
  rw [q1]
  refine ⟨p1, fun σ2 e2 => ?_⟩
  subst e2 e1
  simp only [s_at, s_ss]
  have hv : ∀ i, i ≠ 2358 + 8 * s + 0 → i ≠ 2358 + 8 * s + 1 → upd (upd (σ 1) (2358 + 8 * s + 0) 1) (2358 + 8 * s + 1) a2 i = σ 1 i := fun i g1 g2 => by rw [u_ne g2, u_ne g1]
  have hjn : jj N (upd (upd (σ 1) (2358 + 8 * s + 0) 1) (2358 + 8 * s + 1) a2) := by
    refine ⟨fr_cong (fun i h1 h2 => hv _ (by omega) (by omega)) (fun b k hb hk => hv _ (by omega) (by omega)) hj.1, ?_, by rw [hv _ (by omega) (by omega)]; exact hj.2.2⟩
    obtain ⟨st, pt, at', q, g1, g2, g3, g4, g5, g6, g7, g8, g9⟩ := hj.2.1.2.2.1 s hs
    have hst : st = 0 := by
      rw [show σ 1 (2358 + 8 * s + 0) = 0 from h0] at g1
      have g1 : (0 : Int) = st := g1
      omega
    obtain ⟨s2, hs2, z1, z2⟩ := hj.2.1.2.2.2.2
    have hs22 : s2 ≠ s := fun z => by
      subst z
      rw [show σ 1 (2358 + 8 * s2 + 0) = 0 from h0] at z1
      exact absurd z1 (by decide)
    refine jr_span hs hj.2.1 (fun i _ _ h => hv i (by omega) (by omega)) (hv _ (by omega) (by omega)) ⟨1, pt, at', q, ?_, by omega, ?_, g4, fun h => by omega, ?_, g7, ?_, Or.inl ?_⟩ ⟨s2, hs2, ?_, ?_⟩
    · rw [u_ne (by omega), u_at]; rfl
    · rw [hv _ (by omega) (by omega)]; exact g3
    · rw [hv _ (by omega) (by omega)]; exact g6
    · rw [hv _ (by omega) (by omega)]; exact g8
    · rcases g9 with g9 | ⟨b, -, -, f3, -⟩
      · exact g9
      · omega
    · rw [hv _ (by omega) (by omega)]; exact z1
    · rw [hv _ (by omega) (by omega)]; exact z2
  refine (l_comesOn h1 hs hN 32 0 _ _ (by rw [t_32s h1 hs]; rfl) rfl (by rw [s_at]; exact hjn)).mono ?_
  rintro r σ' ⟨x, rfl, -, w, rfl, hw, ew⟩
  rw [s_at] at ew
  refine ⟨x, rfl, w, s_ss, hw, ?_, fun i g1 g2 g3 g4 => by rw [ew i g1 g2, hv i g3 g4]⟩
  rw [ew _ (by omega) (by omega), u_ne (by omega)]
  exact u_at
theorem c_come {N : Nat} (a1 a2 : Int32) (σ : sm_S) (hj : jj N (σ 1)) (hN : N < 2147483000) : xC xM j_M_come [.ref 0, .int a1, .int a2] σ (sm_I (pub N 1 σ)) := by
  refine w_M_come a1 a2 σ _ (fun σ1 e1 => (c_isSpan a1 σ1).int ?_)
  have hj1 : jj N (σ1 1) := by rw [e1, s_ne (by decide)]; exact hj
  rintro x1 σ1 ⟨hx1, rfl⟩
  refine ⟨fun _ => ⟨_, rfl, pub_keep hj e1⟩, fun n1 => ?_⟩
  obtain ⟨-, s, hs, h1⟩ := hx1.resolve_right (fun z => n1 z.1)
  refine (c_spanState h1 hs _).int ?_
  rintro x2 σ1 ⟨hx2, rfl⟩
  refine ⟨fun _ => ⟨_, rfl, pub_keep hj e1⟩, fun n2 => (c_isIn a2 0 2 _).int ?_⟩
  have h0 : σ1 1 (2358 + 8 * s) = 0 := by rw [← hx2]; exact Classical.not_not.mp n2
  rintro x3 σ1 ⟨-, rfl⟩
  have hon : ∀ z : Int32, xC xM j_M_comesOn [.ref 0, .int a1, .int z] σ1 (sm_ri False (fun x9 σ8 => sm_I (pub N 1 σ) (some (.int x9)) σ8)) := by
    intro z
    refine (c_comesOn h1 hs hN _ hj1 h0).int ?_
    rintro y _ ⟨w, rfl, hw, -⟩
    exact ⟨_, rfl, pub_set e1 hw (by omega) (Nat.le_refl _)⟩
  refine ⟨fun _ => ⟨fun _ => hon _, fun _ => (c_zoneByRatio _).int ?_⟩, fun _ => ⟨_, rfl, pub_keep hj e1⟩⟩
  rintro y σ1 ⟨-, rfl⟩
  exact hon y
end
section
/-! ===== the model: whose turn it is; a span begins to go ===== -/
theorem l_manyOfNode {a1 a2 : Int32} (σ : sm_S) : ∀ (d k : Nat) (a3 a4 : Int32), a4.toInt = k → k < 100 → 8 ≤ k + 2 * d → xE xM m_M_manyOfNode 5 [.ref 0, .int a1, .int a2, .int a3, .int a4] [] σ (sm_I (fun _ σ' => σ' = σ)) := by
  intro d
  induction d with
  | zero =>
    intro k a3 a4 h4 hk hd
    refine w_M_manyOfNode_5 a1 a2 a3 a4 σ _ ⟨fun _ => ⟨_, rfl, rfl⟩, fun h => absurd ?_ h⟩
    rw [t_le, h4]
    show (8 : Int) ≤ _
    omega
  | succ d ih =>
    intro k a3 a4 h4 hk hd
    have h4' : (a4 + 2).toInt = ((k + 2 : Nat) : Int) := by
      rw [t_add h4 (y := 2) rfl (by omega) (by omega)]
      omega
    refine w_M_manyOfNode_5 a1 a2 a3 a4 σ _ ⟨fun _ => ⟨_, rfl, rfl⟩, fun h => ?_⟩
    rw [t_le, h4] at h
    have h : ¬ (8 : Int) ≤ k := h
    refine (c_spanState h4 (by omega) σ).int ?_
    rintro x σ ⟨-, rfl⟩
    exact ⟨fun _ => ⟨fun _ => ih (k + 2) _ _ h4' (by omega) (by omega), fun _ => ih (k + 2) _ _ h4' (by omega) (by omega)⟩, fun _ => ⟨fun _ => ih (k + 2) _ _ h4' (by omega) (by omega), fun _ => ih (k + 2) _ _ h4' (by omega) (by omega)⟩⟩
theorem c_manyOfNode {a1 a2 : Int32} {n : Nat} (h1 : a1.toInt = n) (hn : n < 2) (σ : sm_S) : xC xM j_M_manyOfNode [.ref 0, .int a1, .int a2] σ (sm_I (fun _ σ' => σ' = σ)) :=
  w_M_manyOfNode a1 a2 σ _ (l_manyOfNode σ 4 n 0 a1 h1 (by omega) (by omega))
theorem l_turnOf {a1 : Int32} (σ : sm_S) : ∀ (d k : Nat) (a2 : Int32), a2.toInt = k → k < 100 → 8 ≤ k + 2 * d → xE xM m_M_turnOf 41 [.ref 0, .int a1, .int a2] [] σ (sm_I (fun x σ' => (x = -1 ∨ ∃ s : Nat, x.toInt = s ∧ s < 8 ∧ σ 1 (2358 + 8 * s) = 0) ∧ σ' = σ)) := by
  intro d
  induction d with
  | zero =>
    intro k a2 h2 hk hd
    refine w_M_turnOf_41 a1 a2 σ _ ⟨fun _ => ⟨_, rfl, Or.inl rfl, rfl⟩, fun h => absurd ?_ h⟩
    rw [t_le, h2]
    show (8 : Int) ≤ _
    omega
  | succ d ih =>
    intro k a2 h2 hk hd
    have h2' : (a2 + 2).toInt = ((k + 2 : Nat) : Int) := by
      rw [t_add h2 (y := 2) rfl (by omega) (by omega)]
      omega
    refine w_M_turnOf_41 a1 a2 σ _ ⟨fun _ => ⟨_, rfl, Or.inl rfl, rfl⟩, fun h => ?_⟩
    rw [t_le, h2] at h
    have h : ¬ (8 : Int) ≤ k := h
    refine (c_spanState h2 (by omega) σ).int ?_
    rintro x σ ⟨hx, rfl⟩
    exact ⟨fun _ => ih (k + 2) _ h2' (by omega) (by omega), fun n0 => ⟨_, rfl, Or.inr ⟨k, h2, by omega, by rw [← hx]; exact Classical.not_not.mp n0⟩, rfl⟩⟩
theorem c_turnOf (σ : sm_S) : xC xM j_M_turnOf [.ref 0] σ (sm_I (fun x σ' => (x = -1 ∨ ∃ s : Nat, x.toInt = s ∧ s < 8 ∧ σ 1 (2358 + 8 * s) = 0) ∧ σ' = σ)) := by
  have l0 := l_turnOf (a1 := 0) σ 4 0 0 rfl (by omega) (by omega)
  have l1 := l_turnOf (a1 := 1) σ 4 1 1 rfl (by omega) (by omega)
  refine w_M_turnOf σ _ ((c_manyOfNode (n := 0) rfl (by omega) σ).int ?_)
  rintro x1 σ rfl
  refine ⟨fun _ => l1, fun _ => (c_manyOfNode (n := 1) rfl (by omega) _).int ?_⟩
  rintro x2 σ rfl
  refine ⟨fun _ => l0, fun _ => (c_manyOfNode (n := 0) rfl (by omega) _).int ?_⟩
  rintro x3 σ rfl
  refine (c_manyOfNode (n := 1) rfl (by omega) _).int ?_
  rintro x4 σ rfl
  exact ⟨fun _ => l1, fun _ => l0⟩
theorem l_byTurns {a1 : Int32} {n : Nat} (h1 : a1.toInt = n) (hn : n ≤ 8) : ∀ (d k N : Nat) (a2 : Int32) (σ : sm_S), a2.toInt = k → k + d = n → jj N (σ 1) → N + d < 2147480000 → xE xM m_M_byTurns 20 [.ref 0, .int a1, .int a2] [] σ (sm_I (fun _ σ' => ∃ w N', σ' = sm_set σ 1 w ∧ jj N' w ∧ N ≤ N' ∧ N' ≤ N + d)) := by
  intro d
  induction d with
  | zero =>
    intro k N a2 σ h2 hk hj hN
    refine w_M_byTurns_20 a1 a2 σ _ ⟨fun _ => ⟨_, rfl, σ 1, N, s_id.symm, hj, Nat.le_refl N, Nat.le_refl N⟩, fun h => absurd ?_ h⟩
    rw [t_le, h1, h2]
    omega
  | succ d ih =>
    intro k N a2 σ h2 hk hj hN
    have h2' : (a2 + 1).toInt = ((k + 1 : Nat) : Int) := by
      rw [t_add h2 (y := 1) rfl (by omega) (by omega)]
      omega
    obtain ⟨x0, hT⟩ := sm_C.det (c_turnOf σ)
    have keep : ∀ y : Int32, sm_I (fun _ σ' => ∃ w N', σ' = sm_set σ 1 w ∧ jj N' w ∧ N ≤ N' ∧ N' ≤ N + (d + 1)) (some (.int y)) σ := fun y => ⟨y, rfl, σ 1, N, s_id.symm, hj, Nat.le_refl N, by omega⟩
    refine w_M_byTurns_20 a1 a2 σ _ ⟨fun _ => keep _, fun _ => hT.int ?_⟩
    rintro x1 σ1 ⟨e1, hx1, rfl⟩
    refine ⟨fun _ => keep _, fun n1 => hT.int ?_⟩
    rintro x2 σ2 ⟨e2, hx2, rfl⟩
    obtain ⟨s, hs1, hs2, hs3⟩ := hx2.resolve_left (fun z => n1 (by rw [e1, ← e2]; exact z))
    refine (c_zoneByRatio _).int ?_
    rintro x3 σ3 ⟨-, rfl⟩
    refine (c_comesOn hs1 hs2 (by omega) _ hj hs3).int ?_
    rintro y _ ⟨w, rfl, hw, -⟩
    refine (ih (k + 1) (N + 1) (a2 + 1) _ h2' (by omega) (by rw [s_at]; exact hw) (by omega)).mono ?_
    rintro r σ' ⟨z, rfl, w2, N', rfl, hw2, l1, l2⟩
    exact ⟨z, rfl, w2, N', s_ss, hw2, by omega, by omega⟩
theorem c_byTurns {N : Nat} (a1 : Int32) (σ : sm_S) (hj : jj N (σ 1)) (hN : N < 2147470000) : xC xM j_M_byTurns [.ref 0, .int a1] σ (sm_I (pub N 8 σ)) := by
  refine w_M_byTurns a1 σ _ (fun σ1 e1 => (c_isIn a1 1 8 σ1).int ?_)
  have hj1 : jj N (σ1 1) := by rw [e1, s_ne (by decide)]; exact hj
  rintro x1 σ1 ⟨hx1, rfl⟩
  refine ⟨fun n1 => ?_, fun _ => ⟨_, rfl, pub_keep hj e1⟩⟩
  obtain ⟨-, g1, g2⟩ := hx1.resolve_right (fun z => n1 z.1)
  have g1 : 1 ≤ a1.toInt := g1
  have g2 : a1.toInt ≤ 8 := g2
  obtain ⟨n, hn⟩ := t_of (x := a1) (by omega)
  refine (l_byTurns hn (by omega) n 0 N 0 _ rfl (by omega) hj1 (by omega)).mono ?_
  rintro r σ' ⟨z, rfl, w, N', rfl, hw, l1, l2⟩
  exact ⟨z, rfl, pub_set e1 hw l1 (by omega)⟩
/-- another span that is on, of this zone -/
def onElse (v : Nat → Int32) (zone but : Int32) : Prop := ∃ s : Nat, s < 8 ∧ but.toInt ≠ s ∧ v (2358 + 8 * s) = 1 ∧ v (2358 + 8 * s + 1) = zone
theorem l_onMany {a1 a2 : Int32} (σ : sm_S) : ∀ (d k c : Nat) (a3 a4 : Int32), a4.toInt = k → k + d = 8 → a3.toInt = c → c ≤ k → (0 < c → onElse (σ 1) a1 a2) → xE xM m_M_onMany 5 [.ref 0, .int a1, .int a2, .int a3, .int a4] [] σ (sm_I (fun x σ' => (x ≤ 0 ∨ onElse (σ 1) a1 a2) ∧ σ' = σ)) := by
  intro d
  induction d with
  | zero =>
    intro k c a3 a4 h4 hk h3 hc hon
    refine w_M_onMany_5 a1 a2 a3 a4 σ _ ⟨fun _ => ⟨_, rfl, ?_, rfl⟩, fun h => absurd ?_ h⟩
    · rcases Nat.eq_zero_or_pos c with h | h
      · refine Or.inl ?_
        rw [t_le, h3, h]
        exact Int.le_refl _
      · exact Or.inr (hon h)
    · rw [t_le, h4]
      show (8 : Int) ≤ _
      omega
  | succ d ih =>
    intro k c a3 a4 h4 hk h3 hc hon
    have h4' : (a4 + 1).toInt = ((k + 1 : Nat) : Int) := by
      rw [t_add h4 (y := 1) rfl (by omega) (by omega)]
      omega
    have h3' : (a3 + 1).toInt = ((c + 1 : Nat) : Int) := by
      rw [t_add h3 (y := 1) rfl (by omega) (by omega)]
      omega
    have go := ih (k + 1) c a3 (a4 + 1) h4' (by omega) h3 (by omega) hon
    refine w_M_onMany_5 a1 a2 a3 a4 σ _ ⟨fun h => ?_, fun _ => ⟨fun _ => go, fun hne => (c_spanState h4 (by omega) σ).int ?_⟩⟩
    · rw [t_le, h4] at h
      have h : (8 : Int) ≤ k := h
      omega
    · rintro x σ ⟨hx, rfl⟩
      refine ⟨fun _ => go, fun h1 => (c_zoneOf h4 (by omega) _).int ?_⟩
      have h1 : σ 1 (2358 + 8 * k) = 1 := by rw [← hx]; exact Classical.not_not.mp h1
      rintro y σ ⟨hy, rfl⟩
      refine ⟨fun _ => go, fun hz => ih (k + 1) (c + 1) _ _ h4' (by omega) h3' (by omega) (fun _ => ⟨k, by omega, fun z => hne (t_inj (by rw [h4, z])), h1, ?_⟩)⟩
      rcases hy with ⟨g, -⟩ | ⟨-, g⟩
      · rw [h1] at g; exact absurd g (by decide)
      · rw [← g]; exact Classical.not_not.mp hz
theorem c_onMany (a1 a2 : Int32) (σ : sm_S) : xC xM j_M_onMany [.ref 0, .int a1, .int a2] σ (sm_I (fun x σ' => (x ≤ 0 ∨ onElse (σ 1) a1 a2) ∧ σ' = σ)) :=
  w_M_onMany a1 a2 σ _ (l_onMany σ 8 0 0 0 0 rfl rfl rfl (Nat.le_refl 0) (fun h => absurd h (Nat.lt_irrefl 0)))
theorem c_canGo (a1 : Int32) (σ : sm_S) : xC xM j_M_canGo [.ref 0, .int a1] σ (sm_I (fun x σ' => (x = 0 ∨ (x = 1 ∧ ∃ s : Nat, s < 8 ∧ a1.toInt = s ∧ σ 1 (2358 + 8 * s) = 1 ∧ onElse (σ 1) 0 a1)) ∧ σ' = σ)) := by
  refine w_M_canGo a1 σ _ ((c_isSpan a1 σ).int ?_)
  rintro x1 σ ⟨hx1, rfl⟩
  refine ⟨fun _ => ⟨Or.inl rfl, _, rfl, Or.inl rfl, rfl⟩, fun n1 => ?_⟩
  obtain ⟨-, s, hs, h1⟩ := hx1.resolve_right (fun z => n1 z.1)
  refine (c_spanState h1 hs _).int ?_
  rintro x2 σ ⟨hx2, rfl⟩
  refine ⟨fun _ => ⟨Or.inl rfl, _, rfl, Or.inl rfl, rfl⟩, fun n2 => (c_onMany 0 a1 _).int ?_⟩
  rintro x3 σ ⟨hx3, rfl⟩
  exact ⟨fun _ => ⟨Or.inl rfl, _, rfl, Or.inl rfl, rfl⟩, fun n3 => ⟨Or.inr rfl, _, rfl, Or.inr ⟨rfl, s, hs, h1, by rw [← hx2]; exact Classical.not_not.mp n2, hx3.resolve_left n3⟩, rfl⟩⟩
theorem c_isGoing {a1 : Int32} {s : Nat} (h1 : a1.toInt = s) (hs : s < 8) (σ : sm_S) : xC xM j_M_isGoing [.ref 0, .int a1] σ (sm_I (fun x σ' => ((x = 0 ∧ σ 1 (2358 + 8 * s) < 2) ∨ (x = 1 ∧ ¬ σ 1 (2358 + 8 * s) < 2)) ∧ σ' = σ)) := by
  refine w_M_isGoing a1 σ _ ((c_spanState h1 hs σ).int ?_)
  rintro _ σ ⟨rfl, rfl⟩
  exact ⟨fun h => ⟨Or.inl rfl, _, rfl, Or.inl ⟨rfl, h⟩, rfl⟩, fun h => ⟨Or.inr rfl, _, rfl, Or.inr ⟨rfl, h⟩, rfl⟩⟩
theorem c_beginsToGo {a1 : Int32} {s N : Nat} (h1 : a1.toInt = s) (hs : s < 8) (hN : N < 2147483000) (σ : sm_S) (hj : jj N (σ 1)) (hon : σ 1 (2358 + 8 * s) = 1) (hel : onElse (σ 1) 0 a1) : xC xM j_M_beginsToGo [.ref 0, .int a1] σ (sm_V (fun σ' => ∃ w, σ' = sm_set σ 1 w ∧ jj (N + 1) w ∧ w (2358 + 8 * s) = 2 ∧ ∀ i, 786 ≤ i → i < 2422 → (i < 2358 + 8 * s ∨ 2358 + 8 * s + 8 ≤ i) → w i = σ 1 i)) := by
  refine w_M_beginsToGo a1 σ _ ((c_spanAt a1 σ).int ?_)
  rintro _ σ ⟨rfl, rfl⟩
  obtain ⟨p0, q0⟩ := ixS (k := 0) (j := 0) h1 rfl (by omega)
  obtain ⟨p2, q2⟩ := ixS (k := 2) (j := 2) h1 rfl (by omega)
  obtain ⟨p3, q3⟩ := ixS (k := 3) (j := 3) h1 rfl (by omega)
  obtain ⟨p4, q4⟩ := ixS (k := 4) (j := 4) h1 rfl (by omega)
  obtain ⟨p5, q5⟩ := ixS (k := 5) (j := 5) h1 rfl (by omega)
  obtain ⟨p6, q6⟩ := ixS (k := 6) (j := 6) h1 rfl (by omega)
  rw [q0, q2, q3, q4, q5, q6]
  refine ⟨p0, fun σ1 e1 => ⟨p2, fun σ2 e2 => ⟨p3, fun σ3 e3 => ⟨p4, fun σ4 e4 => ⟨p5, fun σ5 e5 => ⟨p6, fun σ6 e6 => ⟨by decide, ?_⟩⟩⟩⟩⟩⟩⟩
  subst e6 e5 e4 e3 e2 e1
  simp only [s_at, s_ss]
  have hw0 : ∃ v, v = upd (upd (upd (upd (upd (upd (σ 1) (2358 + 8 * s + 0) 2) (2358 + 8 * s + 2) 0) (2358 + 8 * s + 3) 0) (2358 + 8 * s + 4) 0) (2358 + 8 * s + 5) 0) (2358 + 8 * s + 6) 0 := ⟨_, rfl⟩
  obtain ⟨v, hv⟩ := hw0
  rw [← hv]
  have hve : ∀ i, (i < 2358 + 8 * s ∨ 2358 + 8 * s + 8 ≤ i) → v i = σ 1 i := fun i hi => by rw [hv, u_ne (by omega), u_ne (by omega), u_ne (by omega), u_ne (by omega), u_ne (by omega), u_ne (by omega)]
  have hv0 : v (2358 + 8 * s + 0) = 2 := by rw [hv, u_ne (by omega), u_ne (by omega), u_ne (by omega), u_ne (by omega), u_ne (by omega), u_at]
  have hv2 : v (2358 + 8 * s + 2) = 0 := by rw [hv, u_ne (by omega), u_ne (by omega), u_ne (by omega), u_ne (by omega), u_at]
  have hv5 : v (2358 + 8 * s + 5) = 0 := by rw [hv, u_ne (by omega), u_at]
  have hv6 : v (2358 + 8 * s + 6) = 0 := by rw [hv, u_at]
  have hjn : jj N v := by
    refine ⟨fr_cong (fun i h1 h2 => hve _ (by omega)) (fun b k hb hk => hve _ (by omega)) hj.1, ?_, by rw [hve _ (by omega)]; exact hj.2.2⟩
    obtain ⟨st, pt, at', q, g1, g2, g3, g4, g5, g6, g7, g8, g9⟩ := hj.2.1.2.2.1 s hs
    have hst : st = 1 := by
      rw [show σ 1 (2358 + 8 * s + 0) = 1 from hon] at g1
      have g1 : (1 : Int) = st := g1
      omega
    have hq0 : q = 0 := by
      rcases g9 with g9 | ⟨b, -, -, f3, -⟩
      · exact g9
      · omega
    obtain ⟨s2, f1, f2, f3, f4⟩ := hel
    refine jr_span hs hj.2.1 (fun i _ _ h => hve i h) ?_ ⟨2, 0, 0, 0, by rw [hv0]; rfl, by omega, by rw [hv2]; rfl, by omega, fun _ => by omega, by rw [hv5]; rfl, by omega, by rw [hv6]; rfl, Or.inl rfl⟩ ⟨s2, f1, ?_, ?_⟩
    · apply t_inj
      rw [hv6, g8, hq0]
      rfl
    · rw [hve _ (by omega)]; exact f3
    · rw [hve _ (by omega)]; exact f4
  refine (c_writes' _ _ _ _ (by rw [s_at]; exact hjn) hN).void ?_
  rintro _ ⟨w, rfl, hw, ew⟩
  rw [s_at] at ew
  exact ⟨rfl, w, s_ss, hw, by rw [ew _ (by omega) (by omega)]; exact hv0, fun i g1 g2 g3 => by rw [ew i g2 (by omega), hve i g3]⟩
theorem c_go {N : Nat} (a1 : Int32) (σ : sm_S) (hj : jj N (σ 1)) (hN : N < 2147483000) : xC xM j_M_go [.ref 0, .int a1] σ (sm_I (pub N 1 σ)) := by
  refine w_M_go a1 σ _ (fun σ1 e1 => (c_canGo a1 σ1).int ?_)
  have hj1 : jj N (σ1 1) := by rw [e1, s_ne (by decide)]; exact hj
  rintro x1 σ1 ⟨hx1, rfl⟩
  refine ⟨fun n1 => ?_, fun _ => ⟨Or.inl rfl, _, rfl, pub_keep hj e1⟩⟩
  obtain ⟨-, s, hs, h1, h2, h3⟩ := hx1.resolve_left n1
  refine (c_beginsToGo h1 hs hN _ hj1 h2 h3).void ?_
  rintro _ ⟨w, rfl, hw, -⟩
  exact ⟨Or.inr rfl, _, rfl, pub_set e1 hw (by omega) (Nat.le_refl _)⟩
end
section
/-! ===== the model: a span's way ends ===== -/
/-- block n isn't on its way any more (at frame p now), its line is empty, span s has none on its way -/
theorem jr_back {v v' : Nat → Int32} {n s o p : Nat} (hn : n < 96) (hs : s < 8) (hj : jr v) (hq : (v (2358 + 8 * s + 6)).toInt = ((n + 1 : Nat) : Int)) (ho : (v (786 + 16 * n + 2)).toInt = o) (hp1 : (v' (786 + 16 * n + 1)).toInt = p) (hp2 : p < 256) (hp3 : p % 2 ^ o = 0)
    (e6 : v' (786 + 16 * n + 6) = 0) (e7 : v' (786 + 16 * n + 7) = 0) (e9 : v' (786 + 16 * n + 9) = 0) (eS : v' (2358 + 8 * s + 6) = 0)
    (e : ∀ i, 786 ≤ i → i < 2422 → i ≠ 786 + 16 * n + 1 → i ≠ 786 + 16 * n + 6 → i ≠ 786 + 16 * n + 7 → i ≠ 786 + 16 * n + 9 → i ≠ 2358 + 8 * s + 6 → v' i = v i) : jr v' := by
  obtain ⟨j1, j2, j3, j4, s0, hs0, z1, z2⟩ := hj
  have hns : ∃ fr : Nat, (v (786 + 16 * n + 1)).toInt = fr ∧ fr / 32 = s := by
    obtain ⟨st, pt, at', q, -, -, -, -, -, -, -, g8, g9⟩ := j3 s hs
    rw [hq] at g8
    rcases g9 with g9 | ⟨b, f1, f2, -, -, fr, f5, f6⟩
    · omega
    · have : b = n := by omega
      subst this
      exact ⟨fr, f5, f6⟩
  refine ⟨fun b hb => ?_, fun b hb => ?_, fun s2 hs2 => ?_, fun b hb => ?_, s0, hs0, ?_, ?_⟩
  · obtain ⟨o2, fr, h1, h2, h3, h4, h5, h6, h7, h8⟩ := j1 b hb
    by_cases hbn : b = n
    · subst hbn
      have hoo : o2 = o := by rw [ho] at h1; omega
      subst hoo
      refine ⟨o2, p, ?_, h2, hp1, hp2, hp3, ?_, ⟨0, by rw [e6]; rfl, Or.inl rfl⟩, by rw [e7]; decide⟩
      · rw [e _ (by omega) (by omega) (by omega) (by omega) (by omega) (by omega) (by omega)]; exact h1
      · rw [e _ (by omega) (by omega) (by omega) (by omega) (by omega) (by omega) (by omega)]; exact h6
    · exact bk_cong (fun k hk _ _ _ => e _ (by omega) (by omega) (by omega) (by omega) (by omega) (by omega) (by omega)) ⟨o2, fr, h1, h2, h3, h4, h5, h6, h7, h8⟩
  · by_cases hbn : b = n
    · subst hbn
      exact ⟨0, o, by rw [e9]; rfl, by omega, by rw [e _ (by omega) (by omega) (by omega) (by omega) (by omega) (by omega) (by omega)]; exact ho, fun h => by omega, fun k hk => by omega, fun k m _ hm => by omega⟩
    · exact ln_cong (fun k hk _ _ _ => e _ (by omega) (by omega) (by omega) (by omega) (by omega) (by omega) (by omega)) (fun t k ht hk => e _ (by omega) (by omega) (by omega) (by omega) (by omega) (by omega) (by omega)) (j2 b hb)
  · obtain ⟨st, pt, at', q, h1, h2, h3, h4, h5, h6, h7, h8, h9⟩ := j3 s2 hs2
    by_cases hss : s2 = s
    · subst hss
      refine ⟨st, pt, at', 0, ?_, h2, ?_, h4, h5, ?_, h7, by rw [eS]; rfl, Or.inl rfl⟩
      · rw [e _ (by omega) (by omega) (by omega) (by omega) (by omega) (by omega) (by omega)]; exact h1
      · rw [e _ (by omega) (by omega) (by omega) (by omega) (by omega) (by omega) (by omega)]; exact h3
      · rw [e _ (by omega) (by omega) (by omega) (by omega) (by omega) (by omega) (by omega)]; exact h6
    · refine ⟨st, pt, at', q, ?_, h2, ?_, h4, h5, ?_, h7, ?_, ?_⟩
      · rw [e _ (by omega) (by omega) (by omega) (by omega) (by omega) (by omega) (by omega)]; exact h1
      · rw [e _ (by omega) (by omega) (by omega) (by omega) (by omega) (by omega) (by omega)]; exact h3
      · rw [e _ (by omega) (by omega) (by omega) (by omega) (by omega) (by omega) (by omega)]; exact h6
      · rw [e _ (by omega) (by omega) (by omega) (by omega) (by omega) (by omega) (by omega)]; exact h8
      · rcases h9 with h9 | ⟨b, g1, g2, g3, g4, fr, g5, g6⟩
        · exact Or.inl h9
        · have hbn : b ≠ n := fun z => by
            subst z
            obtain ⟨fr2, f1, f2⟩ := hns
            rw [g5] at f1
            have : fr = fr2 := by omega
            subst this
            omega
          refine Or.inr ⟨b, g1, g2, g3, ?_, fr, ?_, g6⟩ <;> rw [e _ (by omega) (by omega) (by omega) (by omega) (by omega) (by omega) (by omega)] <;> assumption
  · intro hb6
    by_cases hbn : b = n
    · subst hbn; exact absurd e6 hb6
    · rw [e _ (by omega) (by omega) (by omega) (by omega) (by omega) (by omega) (by omega)] at hb6
      obtain ⟨h1, fr, h2, h3, h4⟩ := j4 b hb hb6
      have hfs : fr / 32 ≠ s := fun z => by
        rw [z, hq] at h4
        omega
      refine ⟨?_, fr, ?_, h3, ?_⟩ <;> rw [e _ (by omega) (by omega) (by omega) (by omega) (by omega) (by omega) (by omega)] <;> assumption
  · rw [e _ (by omega) (by omega) (by omega) (by omega) (by omega) (by omega) (by omega)]; exact z1
  · rw [e _ (by omega) (by omega) (by omega) (by omega) (by omega) (by omega) (by omega)]; exact z2
/-- who waits, out of ln_ok -/
theorem ln_line {v : Nat → Int32} {n : Nat} (h : ln_ok v n) : ∃ L o : Nat, (v (786 + 16 * n + 9)).toInt = L ∧ L ≤ 6 ∧ (v (786 + 16 * n + 2)).toInt = o ∧ lineOf v n o L := by
  obtain ⟨L, o, h1, h2, h3, -, h5, -⟩ := h
  refine ⟨L, o, h1, h2, h3, fun j hj => ?_⟩
  obtain ⟨t, a, g1, g2, g3, g4, g5⟩ := h5 j hj
  exact ⟨t, a, g1, g2, g4, g5, Or.inl g3⟩
theorem l_opens {a1 a2 : Int32} {s N : Nat} (h1 : a1.toInt = s) (hs : s < 8) : ∀ (d k : Nat) (a3 : Int32) (σ : sm_S), a3.toInt = ((32 * s + k : Nat) : Int) → k + d = 32 → jj N (σ 1) → xE xM m_M_opens 47 [.ref 0, .int a1, .int a2, .int a3] [] σ (sm_V (fun σ' => ∃ w, σ' = sm_set σ 1 w ∧ jj N w ∧ ∀ i, 786 ≤ i → i < 2422 → w i = σ 1 i)) := by
  have hb : ((32 * a1) + 32).toInt = ((32 * s + 32 : Nat) : Int) := by
    rw [t_add (t_32s h1 hs) (y := 32) rfl (by omega) (by omega)]
    omega
  intro d
  induction d with
  | zero =>
    intro k a3 σ h3 hk hj
    refine w_M_opens_47 a1 a2 a3 σ _ ⟨fun _ => ⟨rfl, σ 1, s_id.symm, hj, fun _ _ _ => rfl⟩, fun h => absurd ?_ h⟩
    rw [t_le, hb, h3]
    omega
  | succ d ih =>
    intro k a3 σ h3 hk hj
    have h3' : (a3 + 1).toInt = ((32 * s + (k + 1) : Nat) : Int) := by
      rw [t_add h3 (y := 1) rfl (by omega) (by omega)]
      omega
    refine w_M_opens_47 a1 a2 a3 σ _ ⟨fun h => ?_, fun _ => (c_stateOf h3 (by omega) σ).int ?_⟩
    · rw [t_le, hb, h3] at h
      omega
    · rintro x σ ⟨-, rfl⟩
      refine ⟨fun _ => ih (k + 1) _ _ h3' (by omega) hj, fun _ => (c_frameAt a3 _).int ?_⟩
      rintro _ σ ⟨rfl, rfl⟩
      obtain ⟨p1, q1⟩ := ixF (k := 0) (j := 0) h3 rfl (by omega)
      rw [q1]
      refine ⟨p1, fun σ1 e1 => ?_⟩
      subst e1
      have hj1 : jj N (upd (σ 1) (18 + 3 * (32 * s + k) + 0) 1) := jj_fr (fr_st1 (f := 32 * s + k) rfl (by decide) (by omega) hj.1) (fr_upd (by omega) (by omega)) hj
      refine (ih (k + 1) (a3 + 1) _ h3' (by omega) (by rw [s_at]; exact hj1)).mono ?_
      rintro r σ' ⟨rfl, w, rfl, hw, ew⟩
      rw [s_at] at ew
      exact ⟨rfl, w, s_ss, hw, fun i g1 g2 => by rw [ew i g1 g2, u_ne (by omega)]⟩
theorem c_opens {a1 : Int32} {s N : Nat} (h1 : a1.toInt = s) (hs : s < 8) (σ : sm_S) (hj : jj N (σ 1)) (h6 : σ 1 (2358 + 8 * s + 6) = 0) : xC xM j_M_opens [.ref 0, .int a1] σ (sm_V (fun σ' => ∃ w, σ' = sm_set σ 1 w ∧ jj N w ∧ w (2358 + 8 * s) = 1 ∧ ∀ i, 786 ≤ i → i < 2422 → (i < 2358 + 8 * s ∨ 2358 + 8 * s + 8 ≤ i) → w i = σ 1 i)) := by
  refine w_M_opens a1 σ _ ((c_spanAt a1 σ).int ?_)
  rintro _ σ ⟨rfl, rfl⟩
  obtain ⟨p0, q0⟩ := ixS (k := 0) (j := 0) h1 rfl (by omega)
  obtain ⟨p2, q2⟩ := ixS (k := 2) (j := 2) h1 rfl (by omega)
  obtain ⟨p3, q3⟩ := ixS (k := 3) (j := 3) h1 rfl (by omega)
  obtain ⟨p4, q4⟩ := ixS (k := 4) (j := 4) h1 rfl (by omega)
  rw [q0, q2, q3, q4]
  refine ⟨p0, fun σ1 e1 => ⟨p2, fun σ2 e2 => ⟨p3, fun σ3 e3 => ⟨p4, fun σ4 e4 => ?_⟩⟩⟩⟩
  subst e4 e3 e2 e1
  simp only [s_at, s_ss]
  have hw0 : ∃ v, v = upd (upd (upd (upd (σ 1) (2358 + 8 * s + 0) 1) (2358 + 8 * s + 2) 0) (2358 + 8 * s + 3) 0) (2358 + 8 * s + 4) 0 := ⟨_, rfl⟩
  obtain ⟨v, hv⟩ := hw0
  rw [← hv]
  have hve : ∀ i, i ≠ 2358 + 8 * s + 0 → i ≠ 2358 + 8 * s + 2 → i ≠ 2358 + 8 * s + 3 → i ≠ 2358 + 8 * s + 4 → v i = σ 1 i := fun i h1 h2 h3 h4 => by rw [hv, u_ne h4, u_ne h3, u_ne h2, u_ne h1]
  have hv0 : v (2358 + 8 * s + 0) = 1 := by rw [hv, u_ne (by omega), u_ne (by omega), u_ne (by omega), u_at]
  have hv2 : v (2358 + 8 * s + 2) = 0 := by rw [hv, u_ne (by omega), u_ne (by omega), u_at]
  have hjn : jj N v := by
    refine ⟨fr_cong (fun i h1 h2 => hve _ (by omega) (by omega) (by omega) (by omega)) (fun b k hb hk => hve _ (by omega) (by omega) (by omega) (by omega)) hj.1, ?_, by rw [hve _ (by omega) (by omega) (by omega) (by omega)]; exact hj.2.2⟩
    obtain ⟨st, pt, at', q, g1, g2, g3, g4, g5, g6, g7, g8, g9⟩ := hj.2.1.2.2.1 s hs
    obtain ⟨s2, f1, f2, f3⟩ := hj.2.1.2.2.2.2
    refine jr_span hs hj.2.1 (fun i _ _ h => hve i (by omega) (by omega) (by omega) (by omega)) (hve _ (by omega) (by omega) (by omega) (by omega)) ⟨1, 0, at', 0, by rw [hv0]; rfl, by omega, by rw [hv2]; rfl, by omega, fun _ => by omega, ?_, g7, ?_, Or.inl rfl⟩ ⟨s2, f1, ?_, ?_⟩
    · rw [hve _ (by omega) (by omega) (by omega) (by omega)]; exact g6
    · rw [hve _ (by omega) (by omega) (by omega) (by omega), h6]; rfl
    · by_cases hss : s2 = s
      · subst hss; exact hv0
      · rw [hve _ (by omega) (by omega) (by omega) (by omega)]; exact f2
    · rw [hve _ (by omega) (by omega) (by omega) (by omega)]; exact f3
  refine (l_opens h1 hs 32 0 _ _ (by rw [t_32s h1 hs]; rfl) rfl (by rw [s_at]; exact hjn)).mono ?_
  rintro r σ' ⟨rfl, w, rfl, hw, ew⟩
  rw [s_at] at ew
  exact ⟨rfl, w, s_ss, hw, by rw [ew _ (by omega) (by omega)]; exact hv0, fun i g1 g2 g3 => by rw [ew i g1 g2, hve i (by omega) (by omega) (by omega) (by omega)]⟩
end
section
/-! ===== the model: staysBack, fails, giveUp ===== -/
theorem l_staysBack {a1 a2 a3 : Int32} {s n o p N : Nat} (h1 : a1.toInt = s) (hs : s < 8) (h2 : a2.toInt = n) (hn : n < 96) (h3 : a3.toInt = p) (hp : p < 256) (hpa : p % 2 ^ o = 0) (ho4 : o ≤ 4) (hN : N < 2147470000) : ∀ (d k : Nat) (a4 : Int32) (σ : sm_S), a4.toInt = k → k + d = 2 ^ o → jj N (σ 1) → (σ 1 (786 + 16 * n + 2)).toInt = o → (σ 1 (2358 + 8 * s + 6)).toInt = ((n + 1 : Nat) : Int) →
    xE xM m_M_staysBack 35 [.ref 0, .int a1, .int a2, .int a3, .int a4] [] σ (sm_V (fun σ' => ∃ w N', σ' = sm_set σ 1 w ∧ jj N' w ∧ N ≤ N' ∧ N' ≤ N + 6 ∧ w (2358 + 8 * s + 6) = 0 ∧ ∀ i, 2358 ≤ i → i < 2422 → i ≠ 2358 + 8 * s + 6 → w i = σ 1 i)) := by
  have hpw := t_pw (k := o) (by omega)
  have hs2 := t_al (k := o) (by omega) hpa
  intro d
  induction d with
  | zero =>
    intro k a4 σ h4 hk hj ho hS
    refine w_M_staysBack_35 a1 a2 a3 a4 σ _ ((c_longOf h2 hn σ).int ?_)
    rintro _ σ ⟨rfl, rfl⟩
    refine ⟨fun _ => (c_lay (k := 6) (j := 6) h2 rfl (by omega) 0 _).void ?_, fun h => absurd ?_ h⟩
    · rintro _ rfl
      refine (c_lay (k := 7) (j := 7) h2 rfl (by omega) 0 _).void ?_
      rintro _ rfl
      refine (c_spanAt a1 _).int ?_
      rintro _ σ1 ⟨rfl, e1⟩
      obtain ⟨p6, q6⟩ := ixS (k := 6) (j := 6) h1 rfl (by omega)
      rw [q6]
      refine ⟨p6, fun σ2 e2 => ?_⟩
      subst e2 e1
      simp only [s_at, s_ss]
      have hw0 : ∃ v, v = upd (upd (upd (σ 1) (786 + 16 * n + 6) 0) (786 + 16 * n + 7) 0) (2358 + 8 * s + 6) 0 := ⟨_, rfl⟩
      obtain ⟨v, hv⟩ := hw0
      rw [← hv]
      have hve : ∀ i, i ≠ 786 + 16 * n + 6 → i ≠ 786 + 16 * n + 7 → i ≠ 2358 + 8 * s + 6 → v i = σ 1 i := fun i g1 g2 g3 => by rw [hv, u_ne g3, u_ne g2, u_ne g1]
      obtain ⟨L, oL, l1, l2, l3, l4⟩ := ln_line (hj.2.1.2.1 n hn)
      have hoo : oL = o := by rw [ho] at l3; omega
      subst hoo
      obtain ⟨o2, fr, b1, b2, b3, b4, b5, -⟩ := hj.2.1.1 n hn
      have hoo : o2 = oL := by rw [ho] at b1; omega
      subst hoo
      have hal := t_al (k := o2) (by omega) b5
      have hjb : jj N (upd v (786 + 16 * n + 9) 0) := by
        refine ⟨fr_cong (fun i h1 h2 => by rw [u_ne (by omega), hve _ (by omega) (by omega) (by omega)]) (fun b k hb hk => by rw [u_ne (by omega), hve _ (by omega) (by omega) (by omega)]) hj.1, ?_, by rw [u_ne (by omega), hve _ (by omega) (by omega) (by omega)]; exact hj.2.2⟩
        refine jr_back (p := fr) hn hs hj.2.1 hS ho ?_ b4 b5 ?_ ?_ u_at ?_ (fun i g1 g2 g3 g4 g5 g6 g7 => by rw [u_ne g6, hve i g4 g5 g7])
        · rw [u_ne (by omega), hve _ (by omega) (by omega) (by omega)]; exact b3
        · rw [u_ne (by omega), hv, u_ne (by omega), u_ne (by omega), u_at]
        · rw [u_ne (by omega), hv, u_ne (by omega), u_at]
        · rw [u_ne (by omega), hv, u_at]
      refine (c_wakes (L := L) (fr := fr) (o := o2) (N := N) h2 hn _ (by rw [s_at, hve _ (by omega) (by omega) (by omega)]; exact l1) l2 (by rw [s_at, hve _ (by omega) (by omega) (by omega)]; exact b3) (by omega) ?_ (by rw [s_at]; exact hjb) (by omega)).void ?_
      · intro j hjL
        obtain ⟨t, a, g1, g2, g3, g4, g5⟩ := l4 j hjL
        rw [s_at]
        refine ⟨t, a, g1, ?_, ?_, g4, ?_⟩ <;> rw [hve _ (by omega) (by omega) (by omega)] <;> assumption
      · rintro _ ⟨w, N', rfl, hw, k1, k2, ew, -⟩
        rw [s_at] at ew
        refine ⟨rfl, w, N', s_ss, hw, k1, k2, ?_, fun i g1 g2 g3 => ?_⟩
        · rw [ew _ (by omega) (by omega) (by omega) (by omega) (by omega) (by omega), hv, u_at]
        · rw [ew _ (by omega) (by omega) (by omega) (by omega) (by omega) (by omega), hve _ (by omega) (by omega) (by omega)]
    · rw [t_le, t_pow ho (by omega), h4]
      omega
  | succ d ih =>
    intro k a4 σ h4 hk hj ho hS
    have h4' : (a4 + 1).toInt = ((k + 1 : Nat) : Int) := by
      rw [t_add h4 (y := 1) rfl (by omega) (by omega)]
      omega
    have hto := t_add h3 h4 (by omega) (by omega)
    rw [← Int.natCast_add] at hto
    refine w_M_staysBack_35 a1 a2 a3 a4 σ _ ((c_longOf h2 hn σ).int ?_)
    rintro _ σ ⟨rfl, rfl⟩
    refine ⟨fun h => ?_, fun _ => (c_leaves' hto (by omega) _ hj.1).void ?_⟩
    · rw [t_le, t_pow ho (by omega), h4] at h
      omega
    · rintro _ ⟨v, rfl, g1, g2, -⟩
      refine (ih (k + 1) (a4 + 1) _ h4' (by omega) (by rw [s_at]; exact jj_fr g1 g2 hj) (by rw [s_at, g2 _ (by omega)]; exact ho) (by rw [s_at, g2 _ (by omega)]; exact hS)).mono ?_
      rintro r σ' ⟨rfl, w, N', rfl, hw, k1, k2, k3, ew⟩
      rw [s_at] at ew
      exact ⟨rfl, w, N', s_ss, hw, k1, k2, k3, fun i f1 f2 f3 => by rw [ew i f1 f2 f3, g2 i (by omega)]⟩
theorem c_staysBack {a1 : Int32} {s N : Nat} (h1 : a1.toInt = s) (hs : s < 8) (hN : N < 2147470000) (σ : sm_S) (hj : jj N (σ 1)) : xC xM j_M_staysBack [.ref 0, .int a1] σ (sm_V (fun σ' => ∃ w N', σ' = sm_set σ 1 w ∧ jj N' w ∧ N ≤ N' ∧ N' ≤ N + 6 ∧ w (2358 + 8 * s + 6) = 0 ∧ ∀ i, 2358 ≤ i → i < 2422 → i ≠ 2358 + 8 * s + 6 → w i = σ 1 i)) := by
  refine w_M_staysBack a1 σ _ ((c_spanAt a1 σ).int ?_)
  rintro _ σ ⟨rfl, rfl⟩
  obtain ⟨p6, q6⟩ := ixS (k := 6) (j := 6) h1 rfl (by omega)
  rw [q6]
  obtain ⟨st, pt, at', q, g1, g2, g3, g4, g5, g6, g7, g8, g9⟩ := hj.2.1.2.2.1 s hs
  have hq1 : (σ 1 (2358 + 8 * s + 6) - 1).toInt = (q : Int) - 1 := by
    have hqb : q ≤ 96 := by
      rcases g9 with g9 | ⟨b, f1, f2, -⟩ <;> omega
    exact t_sub g8 (y := 1) rfl (by omega) (by omega)
  refine ⟨p6, fun hne => ?_, fun he => ⟨rfl, σ 1, N, s_id.symm, hj, Nat.le_refl N, by omega, ?_, fun _ _ _ _ => rfl⟩⟩
  · rcases g9 with g9 | ⟨b, f1, f2, f3, f4, fr, f5, f6⟩
    · exact absurd (t_inj (by rw [hq1, g9]; rfl)) hne
    · have hb : (σ 1 (2358 + 8 * s + 6) - 1).toInt = b := by rw [hq1]; omega
      obtain ⟨o, fr2, b1, b2, b3, b4, b5, b6, ⟨t, b7, b8⟩, b9⟩ := hj.2.1.1 b f1
      have ht1 : 1 ≤ t ∧ t ≤ 256 ∧ (t - 1) % 2 ^ o = 0 := b8.resolve_left (fun z => f4 (t_inj (by rw [b7, z]; rfl)))
      refine (c_of (k := 6) (j := 6) hb rfl (by omega) _).int ?_
      rintro y σ ⟨hy, rfl⟩
      have hy1 : (y - 1).toInt = ((t - 1 : Nat) : Int) := by
        rw [hy, t_sub b7 (y := 1) rfl (by omega) (by omega)]
        omega
      have hpw := t_pw (k := o) (by omega)
      exact l_staysBack h1 hs hb f1 hy1 (by omega) ht1.2.2 b2 hN (2 ^ o) 0 0 _ rfl (by omega) hj b1 (by rw [g8, f2])
  · have he : σ 1 (2358 + 8 * s + 6) - 1 = -1 := Classical.not_not.mp he
    apply t_inj
    rw [he] at hq1
    have hq1 : (-1 : Int) = (q : Int) - 1 := hq1
    rw [g8]
    show (q : Int) = 0
    omega
theorem c_fails {a1 a2 : Int32} {s N : Nat} (h1 : a1.toInt = s) (hs : s < 8) (hN : N < 2147460000) (σ : sm_S) (hj : jj N (σ 1)) : xC xM j_M_fails [.ref 0, .int a1, .int a2] σ (sm_V (fun σ' => ∃ w N', σ' = sm_set σ 1 w ∧ jj N' w ∧ N ≤ N' ∧ N' ≤ N + 7 ∧ w (2358 + 8 * s) = 1 ∧ ∀ i, 2358 ≤ i → i < 2422 → (i < 2358 + 8 * s ∨ 2358 + 8 * s + 8 ≤ i) → w i = σ 1 i)) := by
  refine w_M_fails a1 a2 σ _ ((c_staysBack h1 hs (by omega) σ hj).void ?_)
  rintro _ ⟨w1, N1, rfl, hw1, a1', a2', a3', a4'⟩
  refine (c_opens h1 hs _ (by rw [s_at]; exact hw1) (by rw [s_at]; exact a3')).void ?_
  rintro _ ⟨w2, rfl, hw2, b1, b2⟩
  rw [s_at] at b2
  refine (c_spanAt a1 _).int ?_
  rintro _ σ1 ⟨rfl, e1⟩
  obtain ⟨p7, q7⟩ := ixS (k := 7) (j := 7) h1 rfl (by omega)
  rw [q7]
  refine ⟨p7, fun σ2 e2 => ?_⟩
  subst e2 e1
  simp only [s_at, s_ss]
  refine (c_counts (k := 7) (j := 7) rfl (by omega) 1 _).void ?_
  rintro _ rfl
  simp only [s_at, s_ss]
  have hj3 := jj_low (i := 7 + 7) (x := upd w2 (2358 + 8 * s + 7) (a2 + 1) (7 + 7) + 1) (by omega) (by omega) (jj_cell (i := 2358 + 8 * s + 7) (x := a2 + 1) (by omega) (Or.inr (Or.inr ⟨s, hs, Or.inr (Or.inr rfl)⟩)) hw2)
  refine (c_writes' _ _ _ _ (by rw [s_at]; exact hj3) (by omega)).void ?_
  rintro _ ⟨w3, rfl, hw3, c1⟩
  rw [s_at] at c1
  refine ⟨rfl, w3, N1 + 1, s_ss, hw3, by omega, by omega, ?_, fun i g1 g2 g3 => ?_⟩
  · rw [c1 _ (by omega) (by omega), u_ne (by omega), u_ne (by omega)]; exact b1
  · rw [c1 _ (by omega) (by omega), u_ne (by omega), u_ne (by omega), b2 i (by omega) (by omega) g3, a4' i g1 g2 (by omega)]
theorem c_giveUp {N : Nat} (a1 : Int32) (σ : sm_S) (hj : jj N (σ 1)) (hN : N < 2147460000) : xC xM j_M_giveUp [.ref 0, .int a1] σ (sm_I (pub N 7 σ)) := by
  refine w_M_giveUp a1 σ _ (fun σ1 e1 => (c_isSpan a1 σ1).int ?_)
  have hj1 : jj N (σ1 1) := by rw [e1, s_ne (by decide)]; exact hj
  rintro x1 σ1 ⟨hx1, rfl⟩
  refine ⟨fun _ => ⟨Or.inl rfl, _, rfl, pub_keep hj e1⟩, fun n1 => ?_⟩
  obtain ⟨-, s, hs, h1⟩ := hx1.resolve_right (fun z => n1 z.1)
  refine (c_isGoing h1 hs _).int ?_
  rintro x2 σ1 ⟨-, rfl⟩
  refine ⟨fun _ => (c_fails h1 hs hN _ hj1).void ?_, fun _ => ⟨Or.inl rfl, _, rfl, pub_keep hj e1⟩⟩
  rintro _ ⟨w, N', rfl, hw, k1, k2, -⟩
  exact ⟨Or.inr rfl, _, rfl, pub_set e1 hw k1 k2⟩
end
section
/-! ===== the model: the first block of a span; a block is passed; a part is shut ===== -/
theorem t_dec {x : Int32} {m : Nat} (h : x.toInt = m) : (x - 1).toInt = (m : Int) - 1 := by
  have := t_bd x
  exact t_sub h (y := 1) rfl (by omega) (by omega)
/-- of, also for the number -1 -/
theorem c_ofm {b k : Int32} {m j : Nat} (hb : b.toInt = (m : Int) - 1) (hm : m ≤ 96) (hk : k.toInt = j) (hj : j < 16) (σ : sm_S) : xC xM j_M_of [.ref 0, .int b, .int k] σ (sm_I (fun x σ' => x = σ 1 (770 + 16 * m + j) ∧ σ' = σ)) := by
  refine w_M_of b k σ _ ((c_blockAt b σ).int ?_)
  rintro _ _ ⟨rfl, rfl⟩
  have h0 : (16 * b).toInt = 16 * ((m : Int) - 1) := t_mul (x := 16) rfl hb (by omega) (by omega)
  have h1 := t_add (a := 786) (x := 786) rfl h0 (by omega) (by omega)
  have h2 := t_add h1 hk (by omega) (by omega)
  have h3 : (786 + 16 * b + k).toInt = ((770 + 16 * m + j : Nat) : Int) := by rw [h2]; omega
  rw [t_nat h3]
  exact ⟨t_vp h3 (by omega), _, rfl, rfl, rfl⟩
theorem c_frameOfm {b : Int32} {m : Nat} (hb : b.toInt = (m : Int) - 1) (hm : m ≤ 96) (σ : sm_S) : xC xM j_M_frameOf [.ref 0, .int b] σ (sm_I (fun x σ' => x = σ 1 (770 + 16 * m + 1) ∧ σ' = σ)) := by
  refine w_M_frameOf b σ _ ((c_ofm (k := 1) (j := 1) hb hm rfl (by omega) σ).int ?_)
  rintro _ _ ⟨rfl, rfl⟩
  exact ⟨_, rfl, rfl, rfl⟩
/-- none, or a block whose first frame is taken, in the span, from there on -/
def fbk (v : Nat → Int32) (s fm : Nat) (x : Int32) : Prop := x = -1 ∨ ∃ n fr : Nat, x.toInt = n ∧ n < 96 ∧ v (786 + 16 * n + 0) = 1 ∧ (v (786 + 16 * n + 1)).toInt = fr ∧ fr < 256 ∧ fr / 32 = s ∧ fm ≤ fr % 32 ∧ v (18 + 3 * fr) = 3 ∧ (v (18 + 3 * fr + 1)).toInt = ((n + 1 : Nat) : Int)
theorem l_firstBlock {a1 a2 : Int32} {s N fm : Nat} (h1 : a1.toInt = s) (hs : s < 8) (σ : sm_S) (hj : jj N (σ 1)) : ∀ (d k : Nat) (a3 : Int32) (v4 v5 : Value), a3.toInt = k → k + d = 32 → fm ≤ k →
    xE xM m_M_firstBlock 2 [.ref 0, .int a1, .int a2, .int a3, v4, v5] [] σ (sm_I (fun x σ' => fbk (σ 1) s fm x ∧ σ' = σ)) := by
  intro d
  induction d with
  | zero =>
    intro k a3 v4 v5 h3 hk hfm
    refine w_M_firstBlock_2 a1 a2 a3 v4 v5 σ _ ⟨fun _ => ⟨_, rfl, Or.inl rfl, rfl⟩, fun h => absurd ?_ h⟩
    rw [t_le, h3]
    show (32 : Int) ≤ _
    omega
  | succ d ih =>
    intro k a3 v4 v5 h3 hk hfm
    have h3' : (a3 + 1).toInt = ((k + 1 : Nat) : Int) := by
      rw [t_add h3 (y := 1) rfl (by omega) (by omega)]
      omega
    have hf : (32 * a1 + a3).toInt = ((32 * s + k : Nat) : Int) := by
      rw [t_add (t_32s h1 hs) h3 (by omega) (by omega)]
      omega
    refine w_M_firstBlock_2 a1 a2 a3 v4 v5 σ _ ⟨fun h => ?_, fun _ => (c_frameAt _ σ).int ?_⟩
    · rw [t_le, h3] at h
      have h : (32 : Int) ≤ k := h
      omega
    · rintro _ σ ⟨rfl, rfl⟩
      obtain ⟨p1, q1⟩ := ixF (k := 1) (j := 1) hf rfl (by omega)
      rw [q1]
      refine ⟨p1, (c_stateOf hf (by omega) _).int ?_⟩
      rintro x4 σ ⟨hx4, rfl⟩
      obtain ⟨g1, g2⟩ := hj.1.1 (32 * s + k) (by omega)
      obtain ⟨m, hm⟩ := t_of g1
      have hm96 : m ≤ 96 := by omega
      refine ⟨fun _ => ih (k + 1) _ _ _ h3' (by omega) (by omega), fun n3 => (c_frameOfm (t_dec hm) hm96 _).int ?_⟩
      have hst : σ 1 (18 + 3 * (32 * s + k)) = 3 := by rw [← hx4]; exact Classical.not_not.mp n3
      rintro x6 σ ⟨hx6, rfl⟩
      refine ⟨fun _ => ih (k + 1) _ _ _ h3' (by omega) (by omega), fun n6 => ⟨_, rfl, ?_, rfl⟩⟩
      have e6 : x6 = 32 * a1 + a3 := Classical.not_not.mp n6
      by_cases hm0 : m = 0
      · refine Or.inl (t_inj ?_)
        rw [t_dec hm, hm0]
        rfl
      · have hx6' : σ 1 (786 + 16 * (m - 1) + 1) = 32 * a1 + a3 := by
          rw [← e6, hx6]
          congr 1
          omega
        have hb : (σ 1 (18 + 3 * (32 * s + k) + 1)).toInt = ((m - 1 + 1 : Nat) : Int) := by rw [hm]; omega
        refine Or.inr ⟨m - 1, 32 * s + k, ?_, by omega, ?_, by rw [hx6']; exact hf, by omega, by omega, by omega, hst, hb⟩
        · rw [t_dec hm]; omega
        · exact (hj.1.2 (m - 1) (by omega)).resolve_right (fun z => z (32 * s + k) (by omega) (by rw [hx6']; exact hf) hst hb)
theorem c_firstBlock {a1 a2 : Int32} {s N fm : Nat} (h1 : a1.toInt = s) (hs : s < 8) (h2 : a2.toInt = fm) (hfm : fm ≤ 32) (σ : sm_S) (hj : jj N (σ 1)) : xC xM j_M_firstBlock [.ref 0, .int a1, .int a2] σ (sm_I (fun x σ' => fbk (σ 1) s fm x ∧ σ' = σ)) :=
  w_M_firstBlock a1 a2 σ _ (l_firstBlock h1 hs σ hj (32 - fm) fm a2 _ _ h2 (by omega) (Nat.le_refl fm))
theorem jj_at {v : Nat → Int32} {s N a : Nat} {y : Int32} (hs : s < 8) (hy : y.toInt = a) (ha : a ≤ 32) (hj : jj N v) : jj N (upd v (2358 + 8 * s + 5) y) := by
  refine ⟨fr_cong (fun i h1 h2 => u_ne (by omega)) (fun n k hn hk => u_ne (by omega)) hj.1, ?_, by rw [u_ne (by omega)]; exact hj.2.2⟩
  obtain ⟨st, pt, at', q, g1, g2, g3, g4, g5, g6, g7, g8, g9⟩ := hj.2.1.2.2.1 s hs
  obtain ⟨s2, f1, f2, f3⟩ := hj.2.1.2.2.2.2
  refine jr_span hs hj.2.1 (fun i _ _ h => u_ne (by omega)) (u_ne (by omega)) ⟨st, pt, a, q, ?_, g2, ?_, g4, g5, by rw [u_at]; exact hy, ha, ?_, ?_⟩ ⟨s2, f1, ?_, ?_⟩
  · rw [u_ne (by omega)]; exact g1
  · rw [u_ne (by omega)]; exact g3
  · rw [u_ne (by omega)]; exact g8
  · rcases g9 with g9 | ⟨b, c1, c2, c3, c4, fr, c5, c6⟩
    · exact Or.inl g9
    · refine Or.inr ⟨b, c1, c2, c3, ?_, fr, ?_, c6⟩ <;> rw [u_ne (by omega)] <;> assumption
  · rw [u_ne (by omega)]; exact f2
  · rw [u_ne (by omega)]; exact f3
theorem c_isPassed {a1 a2 : Int32} {s n o fr N : Nat} (h1 : a1.toInt = s) (hs : s < 8) (h2 : a2.toInt = n) (hn : n < 96) (σ : sm_S) (hj : jj N (σ 1)) (ho : (σ 1 (786 + 16 * n + 2)).toInt = o) (ho4 : o ≤ 4) (hfr : (σ 1 (786 + 16 * n + 1)).toInt = fr) (hal : fr % 2 ^ o = 0) : xC xM j_M_isPassed [.ref 0, .int a1, .int a2] σ (sm_V (fun σ' => ∃ y, σ' = sm_set σ 1 (upd (σ 1) (2358 + 8 * s + 5) y) ∧ y.toInt = ((fr % 32 + 2 ^ o : Nat) : Int) ∧ jj N (upd (σ 1) (2358 + 8 * s + 5) y))) := by
  have hpw := t_pw (k := o) (by omega)
  have ha := t_al (k := o) (by omega) hal
  refine w_M_isPassed a1 a2 σ _ ((c_spanAt a1 σ).int ?_)
  rintro _ σ ⟨rfl, rfl⟩
  refine (c_frameOf h2 hn _).int ?_
  rintro x4 σ ⟨hx4, rfl⟩
  refine ⟨by decide, (c_longOf h2 hn _).int ?_⟩
  rintro x6 σ ⟨hx6, rfl⟩
  obtain ⟨p5, q5⟩ := ixS (k := 5) (j := 5) h1 rfl (by omega)
  rw [q5]
  refine ⟨p5, fun σ7 e7 => ?_⟩
  have hr : (x4 - x4 / 32 * 32).toInt = ((fr % 32 : Nat) : Int) := t_rem (d := 32) (by rw [hx4]; exact hfr) rfl (by decide)
  have hy : (x4 - x4 / 32 * 32 + x6).toInt = ((fr % 32 + 2 ^ o : Nat) : Int) := by
    rw [t_add hr (y := ((2 ^ o : Nat) : Int)) (by rw [hx6]; exact t_pow ho (by omega)) (by omega) (by omega)]
    omega
  exact ⟨rfl, _, e7, hy, jj_at hs hy (by omega) hj⟩
/-- other spans' rows -/
def oth (s : Nat) (v v' : Nat → Int32) : Prop := ∀ i, 2358 ≤ i → i < 2422 → (i < 2358 + 8 * s ∨ 2358 + 8 * s + 8 ≤ i) → v' i = v i
theorem oth.rf {s : Nat} {v : Nat → Int32} : oth s v v := fun _ _ _ _ => rfl
theorem oth.tr {s : Nat} {a b c : Nat → Int32} (h1 : oth s a b) (h2 : oth s b c) : oth s a c := fun i g1 g2 g3 => (h2 i g1 g2 g3).trans (h1 i g1 g2 g3)
theorem l_shuts88 {a1 a2 a3 : Int32} {s f0 N pt : Nat} (hs : s < 8) (h2 : a2.toInt = ((2358 + 8 * s : Nat) : Int)) (h3 : a3.toInt = f0) (hf0 : f0 + 8 ≤ 256) (hpt : pt ≤ 3) : ∀ (d k : Nat) (a4 : Int32) (σ : sm_S), a4.toInt = ((f0 + k : Nat) : Int) → k + d = 8 → jj N (σ 1) → (σ 1 (2358 + 8 * s + 2)).toInt = pt → σ 1 (2358 + 8 * s) = 2 →
    xE xM m_M_shuts 88 [.ref 0, .int a1, .int a2, .int a3, .int a4] [] σ (sm_V (fun σ' => ∃ w, σ' = sm_set σ 1 w ∧ jj N w ∧ oth s (σ 1) w)) := by
  have hix : ∀ {k : Int32} {j : Nat}, k.toInt = j → j < 8 → (a2 + k).toInt = ((2358 + 8 * s + j : Nat) : Int) := by
    intro k j hk hj
    rw [t_add h2 hk (by omega) (by omega)]
    omega
  have h38 : (a3 + 8).toInt = ((f0 + 8 : Nat) : Int) := by
    rw [t_add h3 (y := 8) rfl (by omega) (by omega)]
    omega
  intro d
  induction d with
  | zero =>
    intro k a4 σ h4 hk hj hp hst
    refine w_M_shuts_88 a1 a2 a3 a4 σ _ ⟨fun _ => (c_more (hix (k := 2) (j := 2) rfl (by omega)) (by omega) 1 σ).void ?_, fun h => absurd (by rw [t_le, h38, h4]; omega) h⟩
    rintro _ rfl
    have i0 := hix (k := 0) (j := 0) rfl (by omega)
    have i2 := hix (k := 2) (j := 2) rfl (by omega)
    have i3 := hix (k := 3) (j := 3) rfl (by omega)
    have i5 := hix (k := 5) (j := 5) rfl (by omega)
    rw [t_nat i0, t_nat i2, t_nat i3, t_nat i5, s_at, u_at]
    have hp1 : (σ 1 (2358 + 8 * s + 2) + 1).toInt = ((pt + 1 : Nat) : Int) := by
      rw [t_add hp (y := 1) rfl (by omega) (by omega)]
      omega
    obtain ⟨st, pt2, at', q, g1, g2, g3, g4, g5, g6, g7, g8, g9⟩ := hj.2.1.2.2.1 s hs
    have hst2 : st = 2 := by
      rw [show σ 1 (2358 + 8 * s + 0) = 2 from hst] at g1
      have g1 : (2 : Int) = st := g1
      omega
    have hq : q = 0 := by
      rcases g9 with g9 | ⟨b, c1, c2, c3, -⟩
      · exact g9
      · omega
    obtain ⟨s2, f1, f2, f3⟩ := hj.2.1.2.2.2.2
    have hs2 : s2 ≠ s := fun z => by
      subst z
      rw [show σ 1 (2358 + 8 * s2 + 0) = 2 from hst] at f2
      exact absurd f2 (by decide)
    refine ⟨t_vp i2 (by omega), fun h4' => ⟨t_vp i0 (by omega), fun σ2 e2 => ⟨t_vp i3 (by omega), fun σ3 e3 => ⟨t_vp i5 (by omega), fun σ4 e4 => ?_⟩⟩⟩, fun h4' => ?_⟩
    · subst e4 e3 e2
      simp only [s_at, s_ss]
      rw [t_le, hp1] at h4'
      have h4' : (4 : Int) ≤ _ := h4'
      have hw0 : ∃ v, v = upd (upd (upd (upd (σ 1) (2358 + 8 * s + 2) (σ 1 (2358 + 8 * s + 2) + 1)) (2358 + 8 * s + 0) 3) (2358 + 8 * s + 3) 1) (2358 + 8 * s + 5) 0 := ⟨_, rfl⟩
      obtain ⟨v, hv⟩ := hw0
      rw [← hv]
      have hve : ∀ i, (i < 2358 + 8 * s ∨ 2358 + 8 * s + 6 ≤ i) → v i = σ 1 i := fun i hi => by rw [hv, u_ne (by omega), u_ne (by omega), u_ne (by omega), u_ne (by omega)]
      refine ⟨rfl, v, rfl, ⟨fr_cong (fun i _ _ => hve i (by omega)) (fun n k hn hk => hve _ (by omega)) hj.1, ?_, by rw [hve _ (by omega)]; exact hj.2.2⟩, fun i _ _ h => hve i (by omega)⟩
      refine jr_span hs hj.2.1 (fun i _ _ h => hve i (by omega)) (hve _ (by omega)) ⟨3, 4, 0, 0, ?_, by omega, ?_, by omega, fun z => by omega, ?_, by omega, ?_, Or.inl rfl⟩ ⟨s2, f1, ?_, ?_⟩
      · rw [hv, u_ne (by omega), u_ne (by omega), u_at]; rfl
      · rw [hv, u_ne (by omega), u_ne (by omega), u_ne (by omega), u_at, hp1]; omega
      · rw [hv, u_at]; rfl
      · rw [hve _ (by omega), g8, hq]
      · rw [hve _ (by omega)]; exact f2
      · rw [hve _ (by omega)]; exact f3
    · rw [t_le, hp1] at h4'
      have h4' : ¬ (4 : Int) ≤ _ := h4'
      have hve : ∀ i, i ≠ 2358 + 8 * s + 2 → upd (σ 1) (2358 + 8 * s + 2) (σ 1 (2358 + 8 * s + 2) + 1) i = σ 1 i := fun i hi => u_ne hi
      refine ⟨rfl, _, rfl, ⟨fr_cong (fun i _ _ => hve i (by omega)) (fun n k hn hk => hve _ (by omega)) hj.1, ?_, by rw [hve _ (by omega)]; exact hj.2.2⟩, fun i _ _ h => hve i (by omega)⟩
      refine jr_span hs hj.2.1 (fun i _ _ h => hve i (by omega)) (hve _ (by omega)) ⟨2, pt + 1, at', 0, ?_, by omega, ?_, by omega, fun z => by omega, ?_, g7, ?_, Or.inl rfl⟩ ⟨s2, f1, ?_, ?_⟩
      · rw [hve _ (by omega), show σ 1 (2358 + 8 * s + 0) = 2 from hst]; rfl
      · rw [u_at]; exact hp1
      · rw [hve _ (by omega)]; exact g6
      · rw [hve _ (by omega), g8, hq]
      · rw [hve _ (by omega)]; exact f2
      · rw [hve _ (by omega)]; exact f3
  | succ d ih =>
    intro k a4 σ h4 hk hj hp hst
    have h4' : (a4 + 1).toInt = ((f0 + (k + 1) : Nat) : Int) := by
      rw [t_add h4 (y := 1) rfl (by omega) (by omega)]
      omega
    refine w_M_shuts_88 a1 a2 a3 a4 σ _ ⟨fun h => ?_, fun _ => (c_isFree h4 (by omega) σ).int ?_⟩
    · rw [t_le, h38, h4] at h; omega
    · rintro x σ ⟨-, rfl⟩
      refine ⟨fun _ => ih (k + 1) _ _ h4' (by omega) hj hp hst, fun _ => (c_frameAt a4 _).int ?_⟩
      rintro _ σ ⟨rfl, rfl⟩
      obtain ⟨p1, q1⟩ := ixF (k := 0) (j := 0) h4 rfl (by omega)
      rw [q1]
      refine ⟨p1, fun σ1 e1 => ?_⟩
      subst e1
      have hj1 : jj N (upd (σ 1) (18 + 3 * (f0 + k) + 0) 2) := jj_fr (fr_st1 (f := f0 + k) rfl (by decide) (by omega) hj.1) (fr_upd (by omega) (by omega)) hj
      refine (ih (k + 1) (a4 + 1) _ h4' (by omega) (by rw [s_at]; exact hj1) (by rw [s_at, u_ne (by omega)]; exact hp) (by rw [s_at, u_ne (by omega)]; exact hst)).mono ?_
      rintro r σ' ⟨rfl, w, rfl, hw, ew⟩
      rw [s_at] at ew
      exact ⟨rfl, w, s_ss, hw, fun i g1 g2 g3 => by rw [ew i g1 g2 g3, u_ne (by omega)]⟩
theorem l_shuts26 {a1 a2 a3 : Int32} {s f0 N pt : Nat} (h1 : a1.toInt = s) (hs : s < 8) (hN : N < 2147460000) (h2 : a2.toInt = ((2358 + 8 * s : Nat) : Int)) (h3 : a3.toInt = f0) (hf0 : f0 + 8 ≤ 256) (hpt : pt ≤ 3) (σ : sm_S) (hj : jj N (σ 1)) (hp : (σ 1 (2358 + 8 * s + 2)).toInt = pt) (hst : σ 1 (2358 + 8 * s) = 2) : ∀ (d k : Nat) (a4 : Int32), a4.toInt = ((f0 + k : Nat) : Int) → k + d = 8 →
    xE xM m_M_shuts 26 [.ref 0, .int a1, .int a2, .int a3, .int a4] [] σ (sm_V (fun σ' => ∃ w N', σ' = sm_set σ 1 w ∧ jj N' w ∧ N ≤ N' ∧ N' ≤ N + 7 ∧ oth s (σ 1) w)) := by
  have h38 : (a3 + 8).toInt = ((f0 + 8 : Nat) : Int) := by
    rw [t_add h3 (y := 8) rfl (by omega) (by omega)]
    omega
  intro d
  induction d with
  | zero =>
    intro k a4 h4 hk
    refine w_M_shuts_26 a1 a2 a3 a4 σ _ ⟨fun _ => (l_shuts88 hs h2 h3 hf0 hpt 8 0 a3 σ (by rw [h3]; omega) rfl hj hp hst).mono ?_, fun h => absurd (by rw [t_le, h38, h4]; omega) h⟩
    rintro r σ' ⟨rfl, w, rfl, hw, ew⟩
    exact ⟨rfl, w, N, rfl, hw, Nat.le_refl N, by omega, ew⟩
  | succ d ih =>
    intro k a4 h4 hk
    have h4' : (a4 + 1).toInt = ((f0 + (k + 1) : Nat) : Int) := by
      rw [t_add h4 (y := 1) rfl (by omega) (by omega)]
      omega
    refine w_M_shuts_26 a1 a2 a3 a4 σ _ ⟨fun h => ?_, fun _ => (c_stateOf h4 (by omega) σ).int ?_⟩
    · rw [t_le, h38, h4] at h; omega
    · rintro x2 σ ⟨-, rfl⟩
      refine ⟨fun _ => ih (k + 1) _ h4' (by omega), fun _ => (c_frameAt a4 _).int ?_⟩
      rintro _ σ ⟨rfl, rfl⟩
      obtain ⟨p1, q1⟩ := ixF (k := 1) (j := 1) h4 rfl (by omega)
      rw [q1]
      obtain ⟨g1, g2⟩ := hj.1.1 (f0 + k) (by omega)
      obtain ⟨m, hm⟩ := t_of g1
      refine ⟨p1, (c_ofm (k := 3) (j := 3) (t_dec hm) (by omega) rfl (by omega) _).int ?_⟩
      rintro x6 σ ⟨-, rfl⟩
      refine ⟨fun _ => (c_fails h1 hs hN _ hj).void ?_, fun _ => ih (k + 1) _ h4' (by omega)⟩
      rintro _ ⟨w, N', rfl, hw, l1, l2, -, ew⟩
      exact ⟨rfl, w, N', rfl, hw, l1, l2, ew⟩
theorem c_shuts {a1 : Int32} {s N : Nat} (h1 : a1.toInt = s) (hs : s < 8) (hN : N < 2147460000) (σ : sm_S) (hj : jj N (σ 1)) (hst : σ 1 (2358 + 8 * s) = 2) : xC xM j_M_shuts [.ref 0, .int a1] σ (sm_V (fun σ' => ∃ w N', σ' = sm_set σ 1 w ∧ jj N' w ∧ N ≤ N' ∧ N' ≤ N + 7 ∧ oth s (σ 1) w)) := by
  refine w_M_shuts a1 σ _ ((c_spanAt a1 σ).int ?_)
  rintro _ σ ⟨rfl, rfl⟩
  obtain ⟨p2, q2⟩ := ixS (k := 2) (j := 2) h1 rfl (by omega)
  rw [q2]
  obtain ⟨st, pt, at', q, g1, g2, g3, g4, g5, g6, g7, g8, g9⟩ := hj.2.1.2.2.1 s hs
  have hst2 : st = 2 := by
    rw [show σ 1 (2358 + 8 * s + 0) = 2 from hst] at g1
    have g1 : (2 : Int) = st := g1
    omega
  have hpt := g5 hst2
  have h8 : (8 * σ 1 (2358 + 8 * s + 2)).toInt = 8 * (pt : Int) := t_mul (x := 8) rfl g3 (by omega) (by omega)
  have hf : (32 * a1 + 8 * σ 1 (2358 + 8 * s + 2)).toInt = ((32 * s + 8 * pt : Nat) : Int) := by
    rw [t_add (t_32s h1 hs) h8 (by omega) (by omega)]
    omega
  have h2 : (2358 + 8 * a1).toInt = ((2358 + 8 * s : Nat) : Int) := by
    rw [t_add (a := 2358) (x := 2358) rfl (t_mul (x := 8) rfl h1 (by omega) (by omega)) (by omega) (by omega)]
    omega
  exact ⟨p2, l_shuts26 h1 hs hN h2 hf (by omega) hpt _ hj g3 hst 8 0 _ (by rw [hf]; omega) rfl⟩
end
section
/-! ===== the model: what gets less as a span is looked through ===== -/
/-- a frame that a cache has -/
def isCP (v : Nat → Int32) (f : Nat) : Prop := v (18 + 3 * f) = 3 ∧ ∃ n, n < 96 ∧ (v (18 + 3 * f + 1)).toInt = ((n + 1 : Nat) : Int) ∧ v (786 + 16 * n + 3) = 2
noncomputable def isC (v : Nat → Int32) (f : Nat) : Bool := @decide (isCP v f) (Classical.propDecidable _)
def isZ (v : Nat → Int32) (b : Nat) : Bool := decide (v (786 + 16 * b + 0) = 0)
noncomputable def mu (v : Nat → Int32) : Nat := 2 * cn (isC v) 256 + cn (isZ v) 96
theorem isC_t {v : Nat → Int32} {f : Nat} : isC v f = true ↔ isCP v f := by
  unfold isC
  exact @decide_eq_true_iff _ (Classical.propDecidable _)
theorem isC_f {v : Nat → Int32} {f : Nat} (h : ¬ isCP v f) : isC v f = false := by
  unfold isC
  exact @decide_eq_false _ (Classical.propDecidable _) h
theorem isZ_t {v : Nat → Int32} {f : Nat} : isZ v f = true ↔ v (786 + 16 * f + 0) = 0 := by
  unfold isZ
  exact decide_eq_true_iff
theorem mu_le {v : Nat → Int32} : mu v ≤ 608 := by
  have h1 := cn_bd (P := isC v) (N := 256)
  have h2 := cn_bd (P := isZ v) (N := 96)
  unfold mu
  omega
theorem cn_ex {P P' : Nat → Bool} {lo hi : Nat} : ∀ {N : Nat}, (∀ i, i < N → P' i = true → P i = true ∨ (lo ≤ i ∧ i < hi)) → cn P' N ≤ cn P N + (min N hi - lo)
  | 0, _ => Nat.zero_le _
  | n + 1, h => by
    have h1 := cn_ex (N := n) (lo := lo) (hi := hi) (fun i g => h i (by omega))
    have h2 := h n (by omega)
    simp only [cn]
    by_cases hp : P' n = true
    · rw [if_pos hp]
      rcases h2 hp with h3 | h3
      · rw [if_pos h3]; omega
      · split <;> omega
    · rw [if_neg hp]
      split <;> omega
/-- nothing more of either kind -/
theorem mu_mono {v v' : Nat → Int32} (h1 : ∀ f, f < 256 → v' (18 + 3 * f) = 3 → v (18 + 3 * f) = 3 ∧ v' (18 + 3 * f + 1) = v (18 + 3 * f + 1)) (h2 : ∀ n, n < 96 → v' (786 + 16 * n + 3) = v (786 + 16 * n + 3)) (h3 : ∀ n, n < 96 → v' (786 + 16 * n + 0) = v (786 + 16 * n + 0)) : mu v' ≤ mu v := by
  have a1 : cn (isC v') 256 ≤ cn (isC v) 256 := by
    refine cn_le (fun f hf h => ?_)
    rw [isC_t] at h ⊢
    obtain ⟨e1, n, hn, e2, e3⟩ := h
    obtain ⟨g1, g2⟩ := h1 f hf e1
    exact ⟨g1, n, hn, by rw [← g2]; exact e2, by rw [← h2 n hn]; exact e3⟩
  have a2 : cn (isZ v') 96 ≤ cn (isZ v) 96 := by
    refine cn_le (fun f hf h => ?_)
    rw [isZ_t] at h ⊢
    rw [← h3 f hf]; exact h
  unfold mu
  omega
theorem mu_cong {v v' : Nat → Int32} (h1 : ∀ f, f < 256 → v' (18 + 3 * f) = v (18 + 3 * f) ∧ v' (18 + 3 * f + 1) = v (18 + 3 * f + 1)) (h2 : ∀ n, n < 96 → v' (786 + 16 * n + 3) = v (786 + 16 * n + 3)) (h3 : ∀ n, n < 96 → v' (786 + 16 * n + 0) = v (786 + 16 * n + 0)) : mu v' ≤ mu v :=
  mu_mono (fun f hf h => ⟨by rw [← (h1 f hf).1]; exact h, (h1 f hf).2⟩) h2 h3
theorem mu_drop {v v' : Nat → Int32} {n fr : Nat} (hn : n < 96) (hfr : fr < 256) (hl : fr_lv v v') (he : ∀ i, 786 ≤ i → i < 2422 → i ≠ 786 + 16 * n + 0 → v' i = v i) (h1 : v (18 + 3 * fr) = 3) (h2 : (v (18 + 3 * fr + 1)).toInt = ((n + 1 : Nat) : Int)) (h3 : v (786 + 16 * n + 3) = 2) (h4 : v' (18 + 3 * fr) = 1 ∨ v' (18 + 3 * fr) = 2) : mu v' + 1 ≤ mu v := by
  have a1 : cn (isC v') 256 < cn (isC v) 256 := by
    refine cn_lt (j := fr) (isC_t.mpr ⟨h1, n, hn, h2, h3⟩) (isC_f (fun z => ?_)) hfr (fun f hf h => ?_)
    · rcases h4 with h4 | h4 <;> (have := z.1; rw [h4] at this; exact absurd this (by decide))
    · rw [isC_t] at h ⊢
      obtain ⟨e1, m, hm, e2, e3⟩ := h
      rcases hl f hf with g | ⟨g1, g2⟩
      · rcases g with g | g <;> (rw [g] at e1; exact absurd e1 (by decide))
      · exact ⟨by rw [← g1]; exact e1, m, hm, by rw [← g2]; exact e2, by rw [← he _ (by omega) (by omega) (by omega)]; exact e3⟩
  have a2 : cn (isZ v') 96 ≤ cn (isZ v) 96 + (min 96 (n + 1) - n) := by
    refine cn_ex (fun b hb h => ?_)
    by_cases hbn : b = n
    · exact Or.inr (by omega)
    · refine Or.inl ?_
      rw [isZ_t] at h ⊢
      rw [← he _ (by omega) (by omega) (by omega)]; exact h
  unfold mu
  omega
/-- a block in a span of which nothing is on its way isn't on its way -/
theorem to_0 {v : Nat → Int32} {n s fr : Nat} (hj : jr v) (hn : n < 96) (h6 : v (2358 + 8 * s + 6) = 0) (hf : (v (786 + 16 * n + 1)).toInt = fr) (hs : fr / 32 = s) : v (786 + 16 * n + 6) = 0 := by
  rcases Classical.em (v (786 + 16 * n + 6) = 0) with h | h
  · exact h
  · obtain ⟨-, fr2, g1, g2, g3⟩ := hj.2.2.2.1 n hn h
    have : fr2 = fr := by rw [hf] at g1; omega
    subst this
    rw [hs, h6] at g3
    have g3 : (0 : Int) = _ := g3
    omega
theorem jr_order {v : Nat → Int32} {n o : Nat} {x : Int32} (hn : n < 96) (hj : jr v) (h6 : v (786 + 16 * n + 6) = 0) (ho : (v (786 + 16 * n + 2)).toInt = ((o + 1 : Nat) : Int)) (hx : x.toInt = o) : jr (upd v (786 + 16 * n + 2) x) := by
  obtain ⟨j1, j2, j3, j4, s, hs, z1, z2⟩ := hj
  have e : ∀ i, i ≠ 786 + 16 * n + 2 → upd v (786 + 16 * n + 2) x i = v i := fun i hi => u_ne hi
  refine ⟨fun b hb => ?_, fun b hb => ?_, fun s hs => ?_, fun b hb => ?_, s, hs, ?_, ?_⟩
  · by_cases hbn : b = n
    · subst hbn
      obtain ⟨o2, fr, h1, h2, h3, h4, h5, h6', h7, h8⟩ := j1 b hb
      have hoo : o2 = o + 1 := by rw [ho] at h1; omega
      subst hoo
      have h5' : fr % 2 ^ o = 0 := by
        have hd : 2 ^ o ∣ fr := Nat.dvd_trans ⟨2, Nat.pow_succ 2 o⟩ (Nat.dvd_of_mod_eq_zero h5)
        exact Nat.mod_eq_zero_of_dvd hd
      refine ⟨o, fr, by rw [u_at]; exact hx, by omega, ?_, h4, h5', ?_, ⟨0, ?_, Or.inl rfl⟩, ?_⟩
      · rw [e _ (by omega)]; exact h3
      · rw [e _ (by omega)]; exact h6'
      · rw [e _ (by omega), h6]; rfl
      · rw [e _ (by omega)]; exact h8
    · exact bk_cong (fun k hk _ _ _ => e _ (by omega)) (j1 b hb)
  · by_cases hbn : b = n
    · subst hbn
      obtain ⟨L, o2, h1, h2, h3, h4, h5, h6'⟩ := j2 b hb
      have hL : L = 0 := by
        rcases Nat.eq_zero_or_pos L with z | z
        · exact z
        · exact absurd h6 (h4 z)
      subst hL
      exact ⟨0, o, by rw [e _ (by omega)]; exact h1, by omega, by rw [u_at]; exact hx, fun z => by omega, fun k hk => by omega, fun k m _ hm => by omega⟩
    · exact ln_cong (fun k hk _ _ _ => e _ (by omega)) (fun t k ht hk => e _ (by omega)) (j2 b hb)
  · obtain ⟨st, pt, at', q, h1, h2, h3, h4, h5, h6', h7, h8, h9⟩ := j3 s hs
    refine ⟨st, pt, at', q, ?_, h2, ?_, h4, h5, ?_, h7, ?_, ?_⟩
    · rw [e _ (by omega)]; exact h1
    · rw [e _ (by omega)]; exact h3
    · rw [e _ (by omega)]; exact h6'
    · rw [e _ (by omega)]; exact h8
    · rcases h9 with h9 | ⟨b, g1, g2, g3, g4, fr, g5, g6⟩
      · exact Or.inl h9
      · refine Or.inr ⟨b, g1, g2, g3, ?_, fr, ?_, g6⟩ <;> rw [e _ (by omega)] <;> assumption
  · intro hb6
    rw [e _ (by omega)] at hb6
    obtain ⟨h1, fr, h2, h3, h4⟩ := j4 b hb hb6
    refine ⟨?_, fr, ?_, h3, ?_⟩ <;> rw [e _ (by omega)] <;> assumption
  · rw [e _ (by omega)]; exact z1
  · rw [e _ (by omega)]; exact z2
theorem c_splits {b : Int32} {n o fr N : Nat} (hb : b.toInt = n) (hn : n < 96) (hN : N < 2147480000) (σ : sm_S) (hj : jj N (σ 1)) (hI : σ 1 (786 + 16 * n + 0) = 1) (h6 : σ 1 (786 + 16 * n + 6) = 0) (ho : (σ 1 (786 + 16 * n + 2)).toInt = ((o + 1 : Nat) : Int)) (hfr : (σ 1 (786 + 16 * n + 1)).toInt = fr) (hk : σ 1 (786 + 16 * n + 3) ≠ 2) (hfree : ∃ j, j < 96 ∧ σ 1 (786 + 16 * j) = 0) :
    xC xM j_M_splits [.ref 0, .int b] σ (sm_V (fun σ' => ∃ w, σ' = sm_set σ 1 w ∧ jj (N + 1) w ∧ mu w + 1 ≤ mu (σ 1) ∧ ∀ i, 2358 ≤ i → i < 2422 → w i = σ 1 i)) := by
  obtain ⟨o2, fr2, b1, b2, b3, b4, b5, ⟨t, b6, b6'⟩, -⟩ := hj.2.1.1 n hn
  have hoo : o2 = o + 1 := by rw [ho] at b1; omega
  subst hoo
  have hff : fr2 = fr := by rw [hfr] at b3; omega
  subst hff
  have hpw := t_pw (k := o) (by omega)
  have hps : 2 ^ (o + 1) = 2 ^ o * 2 := Nat.pow_succ 2 o
  have hal := t_al (k := o + 1) (by omega) b5
  have h5' : fr2 % 2 ^ o = 0 := by
    have hd : 2 ^ o ∣ fr2 := Nat.dvd_trans ⟨2, Nat.pow_succ 2 o⟩ (Nat.dvd_of_mod_eq_zero b5)
    exact Nat.mod_eq_zero_of_dvd hd
  have h5'' : (fr2 + 2 ^ o) % 2 ^ o = 0 := by rw [Nat.add_mod_right]; exact h5'
  refine w_M_splits b σ _ ((c_freeNumber σ).int ?_)
  rintro x2 σ ⟨hx2, rfl⟩
  have hx2' : ∃ m : Nat, x2.toInt = m ∧ m < 96 ∧ σ 1 (786 + 16 * m) = 0 := by
    rcases hx2 with ⟨-, h⟩ | ⟨m, h1, h2, h3, -⟩
    · obtain ⟨j, hj1, hj2⟩ := hfree
      exact absurd hj2 (h j hj1)
    · exact ⟨m, h1, h2, h3⟩
  obtain ⟨m, hm1, hm2, hm3⟩ := hx2'
  have hmn : m ≠ n := fun z => by
    subst z
    rw [show σ 1 (786 + 16 * m) = 1 from hI] at hm3
    exact absurd hm3 (by decide)
  refine (c_of (k := 2) (j := 2) hb rfl (by omega) _).int ?_
  rintro x4 σ ⟨hx4, rfl⟩
  have hx41 : (x4 - 1).toInt = o := by
    rw [hx4, t_dec ho]
    omega
  refine (c_lay (k := 2) (j := 2) hb rfl (by omega) _ _).void ?_
  rintro _ rfl
  have hj1 : jj N (upd (σ 1) (786 + 16 * n + 2) (x4 - 1)) := ⟨fr_cong (fun i _ _ => u_ne (by omega)) (fun c k hc hk => u_ne (by omega)) hj.1, jr_order hn hj.2.1 h6 ho hx41, by rw [u_ne (by omega)]; exact hj.2.2⟩
  refine (c_frameOf hb hn _).int ?_
  rintro x7 σ7 ⟨hx7, e7⟩
  subst e7
  rw [s_at, u_ne (by omega)] at hx7
  refine (c_of (k := 3) (j := 3) hb rfl (by omega) _).int ?_
  rintro x9 σ7 ⟨hx9, e7⟩
  subst e7
  rw [s_at, u_ne (by omega)] at hx9
  refine (c_of (k := 4) (j := 4) hb rfl (by omega) _).int ?_
  rintro x11 σ7 ⟨hx11, e7⟩
  subst e7
  rw [s_at, u_ne (by omega)] at hx11
  refine (c_of (k := 8) (j := 8) hb rfl (by omega) _).int ?_
  rintro x13 σ7 ⟨-, e7⟩
  subst e7
  have hto : (x7 + ((1 : Int32) <<< ((x4 - 1) &&& 31))).toInt = ((fr2 + 2 ^ o : Nat) : Int) := by
    rw [t_add (x := (fr2 : Int)) (by rw [hx7]; exact hfr) (t_pow hx41 (by omega)) (by omega) (by omega)]
    omega
  refine (c_comes (n := m) (o := o) (fr := fr2 + 2 ^ o) (t := t) (N := N) hm1 hm2 hto (by omega) hx41 (by omega) h5'' (by rw [hx11]; exact b6) b6' _ (by rw [s_at]; exact hj1) (by rw [s_at, u_ne (by omega)]; exact hm3)).void ?_
  rintro _ ⟨v, rfl, hv, e1, ⟨r0, r1, r2, r3⟩, e4, e5⟩
  rw [s_at] at e1 e5
  refine (c_counts (k := 4) (j := 4) rfl (by omega) 1 _).void ?_
  rintro _ rfl
  refine (c_writes' (N := N) _ _ _ _ (by rw [s_at, s_at]; exact jj_low (by omega) (by omega) hv) (by omega)).void ?_
  rintro _ ⟨w, rfl, hw, ew⟩
  simp only [s_at, s_ss] at ew ⊢
  have ew' : ∀ i, 18 ≤ i → i < 2422 → w i = v i := fun i h1 h2 => by rw [ew i h2 (by omega), u_ne (by omega)]
  have evo : ∀ i, 786 ≤ i → (i < 786 + 16 * m ∨ 786 + 16 * m + 16 ≤ i) → i ≠ 786 + 16 * n + 2 → v i = σ 1 i := fun i h1 h2 h3 => by rw [e1 i (Or.inr h1) h2, u_ne h3]
  refine ⟨rfl, w, rfl, hw, ?_, fun i h1 h2 => by rw [ew' i (by omega) h2, evo i (by omega) (by omega) (by omega)]⟩
  have a1 : cn (isC w) 256 ≤ cn (isC (σ 1)) 256 := by
    refine cn_le (fun f hf h => ?_)
    rw [isC_t] at h ⊢
    obtain ⟨c1, l, hl, c2, c3⟩ := h
    rw [ew' _ (by omega) (by omega)] at c1 c2 c3
    have hlm : l ≠ m := fun z => by
      subst z
      rw [r3, hx9] at c3
      exact hk c3
    rw [evo _ (by omega) (by omega) (by omega)] at c3
    by_cases hr : fr2 + 2 ^ o ≤ f ∧ f < fr2 + 2 ^ o + 2 ^ o
    · obtain ⟨g1, g2⟩ := e4 (f - (fr2 + 2 ^ o)) (by omega)
      rw [show fr2 + 2 ^ o + (f - (fr2 + 2 ^ o)) = f by omega, c2] at g2
      omega
    · rw [e5 _ (by omega) (by omega) (by omega), u_ne (by omega)] at c1 c2
      exact ⟨c1, l, hl, c2, c3⟩
  have a2 : cn (isZ w) 96 < cn (isZ (σ 1)) 96 := by
    refine cn_lt (j := m) (isZ_t.mpr hm3) ?_ hm2 (fun c hc h => ?_)
    · unfold isZ
      rw [ew' _ (by omega) (by omega), r0]
      decide
    · rw [isZ_t] at h ⊢
      rw [ew' _ (by omega) (by omega)] at h
      by_cases hcm : c = m
      · subst hcm
        rw [r0] at h
        exact absurd h (by decide)
      · rw [evo _ (by omega) (by omega) (by omega)] at h
        exact h
  unfold mu
  omega
end
section
/-! ===== the model: a block arrives; values are copied ===== -/
theorem mu_one {v v' : Nat → Int32} {n : Nat} (h : ∀ i, i < 18 + 3 * n ∨ 18 + 3 * n + 3 ≤ i → v' i = v i) (hn : n < 256) : mu v' ≤ mu v + 2 := by
  have a1 : cn (isC v') 256 ≤ cn (isC v) 256 + (min 256 (n + 1) - n) := by
    refine cn_ex (fun f hf g => ?_)
    by_cases hfn : f = n
    · exact Or.inr (by omega)
    · refine Or.inl ?_
      rw [isC_t] at g ⊢
      obtain ⟨e1, m, hm, e2, e3⟩ := g
      exact ⟨by rw [← h _ (by omega)]; exact e1, m, hm, by rw [← h _ (by omega)]; exact e2, by rw [← h _ (by omega)]; exact e3⟩
  have a2 : cn (isZ v') 96 ≤ cn (isZ v) 96 := by
    refine cn_le (fun f hf g => ?_)
    rw [isZ_t] at g ⊢
    rw [← h _ (by omega)]; exact g
  unfold mu
  omega
theorem l_arrives {a1 a2 a3 : Int32} {s n o p fr N : Nat} (h1 : a1.toInt = s) (hs : s < 8) (h2 : a2.toInt = n) (hn : n < 96) (h3 : a3.toInt = p) (hp : p < 256) (hpa : p % 2 ^ o = 0) (ho4 : o ≤ 4) (hfr2 : fr < 256) (hfa : fr % 2 ^ o = 0) (hN : N < 2147470000) : ∀ (d k : Nat) (a4 : Int32) (σ : sm_S), a4.toInt = k → k + d = 2 ^ o → jj N (σ 1) → (σ 1 (786 + 16 * n + 2)).toInt = o → (σ 1 (786 + 16 * n + 1)).toInt = fr → σ 1 (786 + 16 * n + 0) = 1 → (σ 1 (2358 + 8 * s + 6)).toInt = ((n + 1 : Nat) : Int) →
    xE xM m_M_arrives 13 [.ref 0, .int a1, .int a2, .int a3, .int a4] [] σ (sm_V (fun σ' => ∃ w N', σ' = sm_set σ 1 w ∧ jj N' w ∧ N ≤ N' ∧ N' ≤ N + 7 ∧ mu w ≤ mu (σ 1) + 4 * d ∧ w (2358 + 8 * s + 6) = 0 ∧ ∀ i, 2358 ≤ i → i < 2422 → i ≠ 2358 + 8 * s + 6 → w i = σ 1 i)) := by
  have hpw := t_pw (k := o) (by omega)
  have hs2 := t_al (k := o) (by omega) hpa
  have hs3 := t_al (k := o) (by omega) hfa
  intro d
  induction d with
  | zero =>
    intro k a4 σ h4 hk hj ho hfr hI hS
    refine w_M_arrives_13 a1 a2 a3 a4 σ _ ((c_longOf h2 hn σ).int ?_)
    rintro _ σ ⟨rfl, rfl⟩
    refine ⟨fun _ => (c_lay (k := 1) (j := 1) h2 rfl (by omega) a3 _).void ?_, fun h => absurd ?_ h⟩
    · rintro _ rfl
      refine (c_lay (k := 6) (j := 6) h2 rfl (by omega) 0 _).void ?_
      rintro _ rfl
      refine (c_lay (k := 7) (j := 7) h2 rfl (by omega) 0 _).void ?_
      rintro _ rfl
      refine (c_spanAt a1 _).int ?_
      rintro _ σ1 ⟨rfl, e1⟩
      obtain ⟨p6, q6⟩ := ixS (k := 6) (j := 6) h1 rfl (by omega)
      rw [q6]
      refine ⟨p6, fun σ2 e2 => ?_⟩
      subst e2 e1
      refine (c_counts (k := 2) (j := 2) rfl (by omega) 1 _).void ?_
      rintro _ rfl
      simp only [s_at, s_ss]
      have hw0 : ∃ u, u = upd (upd (upd (upd (σ 1) (786 + 16 * n + 1) a3) (786 + 16 * n + 6) 0) (786 + 16 * n + 7) 0) (2358 + 8 * s + 6) 0 := ⟨_, rfl⟩
      obtain ⟨u, hu⟩ := hw0
      rw [← hu]
      have hue : ∀ i, i ≠ 786 + 16 * n + 1 → i ≠ 786 + 16 * n + 6 → i ≠ 786 + 16 * n + 7 → i ≠ 2358 + 8 * s + 6 → u i = σ 1 i := fun i g1 g2 g3 g4 => by rw [hu, u_ne g4, u_ne g3, u_ne g2, u_ne g1]
      have hu1 : u (786 + 16 * n + 1) = a3 := by rw [hu, u_ne (by omega), u_ne (by omega), u_ne (by omega), u_at]
      have hu6 : u (786 + 16 * n + 6) = 0 := by rw [hu, u_ne (by omega), u_ne (by omega), u_at]
      have hu7 : u (786 + 16 * n + 7) = 0 := by rw [hu, u_ne (by omega), u_at]
      have huS : u (2358 + 8 * s + 6) = 0 := by rw [hu, u_at]
      refine (c_writes _ _ _ _ (n := N) (by rw [s_at, u_ne (by omega), hue _ (by omega) (by omega) (by omega) (by omega)]; exact hj.2.2)).void ?_
      rintro _ ⟨v, rfl, w1, w2⟩
      rw [s_at] at w1 w2
      rw [s_ss]
      have hvu : ∀ i, 18 ≤ i → i < 2422 → v i = u i := fun i g1 g2 => by rw [w2 i g2 (by omega), u_ne (by omega)]
      have hve : ∀ i, 18 ≤ i → i < 2422 → i ≠ 786 + 16 * n + 1 → i ≠ 786 + 16 * n + 6 → i ≠ 786 + 16 * n + 7 → i ≠ 2358 + 8 * s + 6 → v i = σ 1 i := fun i g1 g2 g3 g4 g5 g6 => by rw [hvu i g1 g2, hue i g3 g4 g5 g6]
      obtain ⟨L, oL, l1, l2, l3, l4⟩ := ln_line (hj.2.1.2.1 n hn)
      have hoo : oL = o := by rw [ho] at l3; omega
      subst hoo
      have hv1 : (v (786 + 16 * n + 1)).toInt = p := by rw [hvu _ (by omega) (by omega), hu1]; exact h3
      have hjb : jj (N + 1) (upd v (786 + 16 * n + 9) 0) := by
        refine ⟨?_, ?_, ?_⟩
        · refine fr_cong (v := upd (σ 1) (786 + 16 * n + 1) a3) (fun i g1 g2 => ?_) (fun b k hb hk => ?_) (fr_frame hI hj.1)
          · rw [u_ne (by omega), hve i g1 (by omega) (by omega) (by omega) (by omega) (by omega), u_ne (by omega)]
          · rw [u_ne (by omega), hvu _ (by omega) (by omega), hu, u_ne (by omega), u_ne (by omega), u_ne (by omega)]
        · refine jr_back (p := p) hn hs hj.2.1 hS ho ?_ hp hpa ?_ ?_ u_at ?_ (fun i g1 g2 g3 g4 g5 g6 g7 => by rw [u_ne g6, hve i (by omega) g2 g3 g4 g5 g7])
          · rw [u_ne (by omega)]; exact hv1
          · rw [u_ne (by omega), hvu _ (by omega) (by omega)]; exact hu6
          · rw [u_ne (by omega), hvu _ (by omega) (by omega)]; exact hu7
          · rw [u_ne (by omega), hvu _ (by omega) (by omega)]; exact huS
        · rw [u_ne (by omega), w1, u_ne (by omega), hue _ (by omega) (by omega) (by omega) (by omega), t_add hj.2.2 (y := 1) rfl (by omega) (by omega)]
          omega
      refine (c_wakes (L := L) (fr := p) (o := oL) (N := N + 1) h2 hn _ (by rw [s_at, hve _ (by omega) (by omega) (by omega) (by omega) (by omega) (by omega)]; exact l1) l2 (by rw [s_at]; exact hv1) (by omega) ?_ (by rw [s_at]; exact hjb) (by omega)).void ?_
      · intro j hjL
        obtain ⟨t, a, g1, g2, g3, g4, g5⟩ := l4 j hjL
        rw [s_at]
        refine ⟨t, a, g1, ?_, ?_, g4, ?_⟩ <;> rw [hve _ (by omega) (by omega) (by omega) (by omega) (by omega) (by omega)] <;> assumption
      · rintro _ ⟨w, N', rfl, hw, k1, k2, ew, es⟩
        rw [s_at] at ew es
        refine ⟨rfl, w, N', s_ss, hw, by omega, by omega, ?_, ?_, fun i g1 g2 g3 => ?_⟩
        · refine Nat.le_trans (mu_cong (v := σ 1) (fun f hf => ?_) (fun b hb => ?_) (fun b hb => ?_)) (Nat.le_add_right _ _)
          · rw [(es f hf).1, (es f hf).2, hve _ (by omega) (by omega) (by omega) (by omega) (by omega) (by omega), hve _ (by omega) (by omega) (by omega) (by omega) (by omega) (by omega)]
            exact ⟨rfl, rfl⟩
          · rw [ew _ (by omega) (by omega) (by omega) (by omega) (by omega) (by omega), hve _ (by omega) (by omega) (by omega) (by omega) (by omega) (by omega)]
          · rw [ew _ (by omega) (by omega) (by omega) (by omega) (by omega) (by omega), hve _ (by omega) (by omega) (by omega) (by omega) (by omega) (by omega)]
        · rw [ew _ (by omega) (by omega) (by omega) (by omega) (by omega) (by omega), hvu _ (by omega) (by omega)]; exact huS
        · rw [ew _ (by omega) (by omega) (by omega) (by omega) (by omega) (by omega), hve _ (by omega) (by omega) (by omega) (by omega) (by omega) (by omega)]
    · rw [t_le, t_pow ho (by omega), h4]
      omega
  | succ d ih =>
    intro k a4 σ h4 hk hj ho hfr hI hS
    have h4' : (a4 + 1).toInt = ((k + 1 : Nat) : Int) := by
      rw [t_add h4 (y := 1) rfl (by omega) (by omega)]
      omega
    have hto := t_add h3 h4 (by omega) (by omega)
    rw [← Int.natCast_add] at hto
    refine w_M_arrives_13 a1 a2 a3 a4 σ _ ((c_longOf h2 hn σ).int ?_)
    rintro _ σ ⟨rfl, rfl⟩
    refine ⟨fun h => ?_, fun _ => (c_frameOf h2 hn _).int ?_⟩
    · rw [t_le, t_pow ho (by omega), h4] at h
      omega
    · rintro x σ ⟨hx, rfl⟩
      have hfo := t_add (a := x) (x := (fr : Int)) (by rw [hx]; exact hfr) h4 (by omega) (by omega)
      rw [← Int.natCast_add] at hfo
      refine (c_leaves' hfo (by omega) _ hj.1).void ?_
      rintro _ ⟨v, rfl, g1, g2, -, g3⟩
      refine (c_has' hto (by omega) h2 hn _ (by rw [s_at]; exact g1) (fun _ => by rw [s_at, g2 _ (by omega)]; exact hI)).void ?_
      rintro _ ⟨v2, rfl, g4, g5, -, -, g6⟩
      rw [s_at] at g5 g6
      have hfe := g2.tr g5
      simp only [s_ss]
      refine (ih (k + 1) (a4 + 1) _ h4' (by omega) (by rw [s_at]; exact jj_fr g4 hfe hj) (by rw [s_at, hfe _ (by omega)]; exact ho) (by rw [s_at, hfe _ (by omega)]; exact hfr) (by rw [s_at, hfe _ (by omega)]; exact hI) (by rw [s_at, hfe _ (by omega)]; exact hS)).mono ?_
      rintro r σ' ⟨rfl, w, N', rfl, hw, k1, k2, k3, k4, ew⟩
      rw [s_at] at ew k3
      have m1 := mu_one g3 (by omega)
      have m2 := mu_one (v := v) (v' := v2) (n := p + k) (fun i hi => g6 i (by omega)) (by omega)
      exact ⟨rfl, w, N', s_ss, hw, k1, k2, by omega, k4, fun i f1 f2 f3 => by rw [ew i f1 f2 f3, hfe i (by omega)]⟩
/-- s has n on its way: what is known of it -/
theorem on_way {v : Nat → Int32} {s N : Nat} (hs : s < 8) (hj : jj N v) (h : v (2358 + 8 * s + 6) ≠ 0) : ∃ n o fr p : Nat, n < 96 ∧ (v (2358 + 8 * s + 6)).toInt = ((n + 1 : Nat) : Int) ∧ (v (786 + 16 * n + 2)).toInt = o ∧ o ≤ 4 ∧ (v (786 + 16 * n + 1)).toInt = fr ∧ fr < 256 ∧ fr % 2 ^ o = 0 ∧ (v (786 + 16 * n + 6)).toInt = ((p + 1 : Nat) : Int) ∧ p < 256 ∧ p % 2 ^ o = 0 ∧ v (786 + 16 * n + 0) = 1 ∧ 0 ≤ (v (786 + 16 * n + 7)).toInt ∧ v (2358 + 8 * s + 0) = 3 := by
  obtain ⟨st, pt, at', q, g1, g2, g3, g4, g5, g6, g7, g8, g9⟩ := hj.2.1.2.2.1 s hs
  rcases g9 with g9 | ⟨b, f1, f2, f3, f4, fr, f5, f6⟩
  · exact absurd (t_inj (by rw [g8, g9]; rfl)) h
  · obtain ⟨o, fr2, b1, b2, b3, b4, b5, b6, ⟨t, b7, b8⟩, b9⟩ := hj.2.1.1 b f1
    have ht1 : 1 ≤ t ∧ t ≤ 256 ∧ (t - 1) % 2 ^ o = 0 := b8.resolve_left (fun z => f4 (t_inj (by rw [b7, z]; rfl)))
    obtain ⟨i1, -⟩ := hj.2.1.2.2.2.1 b f1 f4
    refine ⟨b, o, fr2, t - 1, f1, by rw [g8, f2], b1, b2, b3, b4, b5, by rw [b7]; omega, by omega, ht1.2.2, i1, b9, t_inj (by rw [g1, f3]; rfl)⟩
theorem c_arrives {a1 a2 : Int32} {s n N : Nat} (h1 : a1.toInt = s) (hs : s < 8) (h2 : a2.toInt = n) (hn : n < 96) (hN : N < 2147470000) (σ : sm_S) (hj : jj N (σ 1)) (hS : (σ 1 (2358 + 8 * s + 6)).toInt = ((n + 1 : Nat) : Int)) : xC xM j_M_arrives [.ref 0, .int a1, .int a2] σ (sm_V (fun σ' => ∃ w N', σ' = sm_set σ 1 w ∧ jj N' w ∧ N ≤ N' ∧ N' ≤ N + 7 ∧ mu w ≤ mu (σ 1) + 64 ∧ ∀ i, 2358 ≤ i → i < 2422 → i ≠ 2358 + 8 * s + 6 → w i = σ 1 i)) := by
  obtain ⟨n2, o, fr, p, k1, k2, k3, k4, k5, k6, k7, k8, k9, k10, k11, k12, k13⟩ := on_way hs hj (fun z => by rw [z] at hS; have hS : (0 : Int) = _ := hS; omega)
  have hnn : n2 = n := by omega
  subst hnn
  have hpw := t_pw (k := o) (by omega)
  have hp16 : 2 ^ o ≤ 16 := by
    have := Nat.pow_le_pow_right (n := 2) (by decide) k4
    omega
  refine w_M_arrives a1 a2 σ _ ((c_of (k := 6) (j := 6) h2 rfl (by omega) σ).int ?_)
  rintro y σ ⟨hy, rfl⟩
  have hy1 : (y - 1).toInt = ((p : Nat) : Int) := by
    rw [hy, t_dec k8]
    omega
  refine (l_arrives h1 hs h2 k1 hy1 k9 k10 k4 k6 k7 hN (2 ^ o) 0 0 _ rfl (by omega) hj k3 k5 k11 k2).mono ?_
  rintro r σ' ⟨rfl, w, N', rfl, hw, l1, l2, l3, -, ew⟩
  exact ⟨rfl, w, N', rfl, hw, l1, l2, by omega, ew⟩
/-- jj doesn't speak of how much is copied but that it is no negative number -/
theorem jj_copied {v : Nat → Int32} {n N : Nat} {x : Int32} (hn : n < 96) (hx : 0 ≤ x.toInt) (hj : jj N v) : jj N (upd v (786 + 16 * n + 7) x) := by
  refine ⟨fr_cong (fun i _ _ => u_ne (by omega)) (fun b k hb hk => u_ne (by omega)) hj.1, ?_, by rw [u_ne (by omega)]; exact hj.2.2⟩
  obtain ⟨j1, j2, j3, j4, s, hs, z1, z2⟩ := hj.2.1
  have e : ∀ i, i ≠ 786 + 16 * n + 7 → upd v (786 + 16 * n + 7) x i = v i := fun i hi => u_ne hi
  refine ⟨fun b hb => ?_, fun b hb => ?_, fun s hs => ?_, fun b hb => ?_, s, hs, ?_, ?_⟩
  · by_cases hbn : b = n
    · subst hbn
      obtain ⟨o2, fr, h1, h2, h3, h4, h5, h6', h7, h8⟩ := j1 b hb
      refine ⟨o2, fr, ?_, h2, ?_, h4, h5, ?_, ?_, by rw [u_at]; exact hx⟩ <;> rw [e _ (by omega)] <;> assumption
    · exact bk_cong (fun k hk _ _ _ => e _ (by omega)) (j1 b hb)
  · obtain ⟨L, o2, h1, h2, h3, h4, h5, h6'⟩ := j2 b hb
    refine ⟨L, o2, ?_, h2, ?_, ?_, fun k hk => ?_, fun k m hkm hm => ?_⟩
    · rw [e _ (by omega)]; exact h1
    · rw [e _ (by omega)]; exact h3
    · rw [e _ (by omega)]; exact h4
    · obtain ⟨t, a, g1, g2, g3, g4, g5⟩ := h5 k hk
      refine ⟨t, a, g1, ?_, ?_, ?_, g5⟩ <;> rw [e _ (by omega)] <;> assumption
    · rw [e _ (by omega), e _ (by omega)]; exact h6' k m hkm hm
  · obtain ⟨st, pt, at', q, h1, h2, h3, h4, h5, h6', h7, h8, h9⟩ := j3 s hs
    refine ⟨st, pt, at', q, ?_, h2, ?_, h4, h5, ?_, h7, ?_, ?_⟩
    · rw [e _ (by omega)]; exact h1
    · rw [e _ (by omega)]; exact h3
    · rw [e _ (by omega)]; exact h6'
    · rw [e _ (by omega)]; exact h8
    · rcases h9 with h9 | ⟨b, g1, g2, g3, g4, fr, g5, g6⟩
      · exact Or.inl h9
      · refine Or.inr ⟨b, g1, g2, g3, ?_, fr, ?_, g6⟩ <;> rw [e _ (by omega)] <;> assumption
  · intro hb6
    rw [e _ (by omega)] at hb6
    obtain ⟨h1, fr, h2, h3, h4⟩ := j4 b hb hb6
    refine ⟨?_, fr, ?_, h3, ?_⟩ <;> rw [e _ (by omega)] <;> assumption
  · rw [e _ (by omega)]; exact z1
  · rw [e _ (by omega)]; exact z2
theorem l_copies {a1 a2 a3 : Int32} {s n o fr p N : Nat} (h1 : a1.toInt = s) (hs : s < 8) (h3 : a3.toInt = n) (hn : n < 96) (hN : N < 2147470000) (ho4 : o ≤ 4) (hfr : fr < 256) (hfa : fr % 2 ^ o = 0) (hp : p < 256) (hpa : p % 2 ^ o = 0) : ∀ (d k : Nat) (a4 : Int32) (v5 : Value) (σ : sm_S), (σ 1 (786 + 16 * n + 7)).toInt = k → 2 ^ o ≤ k + d → jj N (σ 1) → (σ 1 (786 + 16 * n + 2)).toInt = o → (σ 1 (786 + 16 * n + 1)).toInt = fr → (σ 1 (786 + 16 * n + 6)).toInt = ((p + 1 : Nat) : Int) → (σ 1 (2358 + 8 * s + 6)).toInt = ((n + 1 : Nat) : Int) →
    xE xM m_M_copies 19 [.ref 0, .int a1, .int a2, .int a3, .int a4, v5] [] σ (sm_I (fun _ σ' => ∃ w N', σ' = sm_set σ 1 w ∧ jj N' w ∧ N ≤ N' ∧ N' ≤ N + 7 ∧ mu w ≤ mu (σ 1) + 64 ∧ ∀ i, 2358 ≤ i → i < 2422 → i ≠ 2358 + 8 * s + 6 → w i = σ 1 i)) := by
  have hpw := t_pw (k := o) (by omega)
  have hs2 := t_al (k := o) (by omega) hpa
  have hs3 := t_al (k := o) (by omega) hfa
  have fin : ∀ (a4 : Int32) (σ : sm_S), jj N (σ 1) → (σ 1 (2358 + 8 * s + 6)).toInt = ((n + 1 : Nat) : Int) → xC xM j_M_of [.ref 0, .int a3, .int 7] σ (sm_ri False (fun x2 σ1 => xC xM j_M_longOf [.ref 0, .int a3] σ1 (sm_ri False (fun x4 σ3 => ((x2 ≠ x4 → (sm_I (fun _ σ' => ∃ w N', σ' = sm_set σ 1 w ∧ jj N' w ∧ N ≤ N' ∧ N' ≤ N + 7 ∧ mu w ≤ mu (σ 1) + 64 ∧ ∀ i, 2358 ≤ i → i < 2422 → i ≠ 2358 + 8 * s + 6 → w i = σ 1 i)) (some (.int a4)) σ3) ∧ (¬ (x2 ≠ x4) → xC xM j_M_arrives [.ref 0, .int a1, .int a3] σ3 (sm_rv False (fun σ5 => (sm_I (fun _ σ' => ∃ w N', σ' = sm_set σ 1 w ∧ jj N' w ∧ N ≤ N' ∧ N' ≤ N + 7 ∧ mu w ≤ mu (σ 1) + 64 ∧ ∀ i, 2358 ≤ i → i < 2422 → i ≠ 2358 + 8 * s + 6 → w i = σ 1 i)) (some (.int a4)) σ5))))))) ) := by
    intro a4 σ hj hS
    refine (c_of (k := 7) (j := 7) h3 rfl (by omega) σ).int ?_
    rintro x2 σ ⟨-, rfl⟩
    refine (c_longOf h3 hn _).int ?_
    rintro x4 σ ⟨-, rfl⟩
    refine ⟨fun _ => ⟨_, rfl, σ 1, N, s_id.symm, hj, Nat.le_refl N, by omega, by omega, fun _ _ _ _ => rfl⟩, fun _ => (c_arrives h1 hs h3 hn hN _ hj hS).void ?_⟩
    rintro _ ⟨w, N', rfl, hw, l1, l2, l3, ew⟩
    exact ⟨_, rfl, w, N', rfl, hw, l1, l2, l3, ew⟩
  intro d
  induction d with
  | zero =>
    intro k a4 v5 σ h7 hk hj ho hf h6 hS
    refine w_M_copies_19 a1 a2 a3 a4 v5 σ _ ⟨fun _ => fin a4 σ hj hS, fun _ => (c_of (k := 7) (j := 7) h3 rfl (by omega) σ).int ?_⟩
    rintro x7 σ ⟨hx7, rfl⟩
    refine (c_longOf h3 hn _).int ?_
    rintro x9 σ ⟨hx9, rfl⟩
    refine ⟨fun _ => fin a4 _ hj hS, fun h => absurd ?_ h⟩
    rw [t_le, hx9, t_pow ho (by omega), hx7, h7]
    omega
  | succ d ih =>
    intro k a4 v5 σ h7 hk hj ho hf h6 hS
    refine w_M_copies_19 a1 a2 a3 a4 v5 σ _ ⟨fun _ => fin a4 σ hj hS, fun _ => (c_of (k := 7) (j := 7) h3 rfl (by omega) σ).int ?_⟩
    rintro x7 σ ⟨hx7, rfl⟩
    refine (c_longOf h3 hn _).int ?_
    rintro x9 σ ⟨hx9, rfl⟩
    refine ⟨fun _ => fin a4 _ hj hS, fun h => ?_⟩
    rw [t_le, hx9, t_pow ho (by omega), hx7, h7] at h
    refine (c_of (k := 7) (j := 7) h3 rfl (by omega) _).int ?_
    rintro x16 σ ⟨hx16, rfl⟩
    have h16 : x16.toInt = k := by rw [hx16]; exact h7
    refine (c_of (k := 6) (j := 6) h3 rfl (by omega) _).int ?_
    rintro x18 σ ⟨hx18, rfl⟩
    refine (c_frameOf h3 hn _).int ?_
    rintro x20 σ ⟨hx20, rfl⟩
    have hfo : (x20 + x16).toInt = ((fr + k : Nat) : Int) := by
      rw [t_add (x := (fr : Int)) (by rw [hx20]; exact hf) h16 (by omega) (by omega)]
      omega
    have hto : (x18 - 1 + x16).toInt = ((p + k : Nat) : Int) := by
      rw [t_add (x := (p : Int)) (by rw [hx18, t_dec h6]; omega) h16 (by omega) (by omega)]
      omega
    refine (c_valueOf hfo (by omega) _).int ?_
    rintro x22 σ ⟨-, rfl⟩
    refine (c_lays' hto (by omega) _ hj.1).void ?_
    rintro _ ⟨v, rfl, g1, g2, g3⟩
    have hj1 := jj_fr g1 g2 hj
    refine (c_lay (k := 7) (j := 7) h3 rfl (by omega) _ _).void ?_
    rintro _ rfl
    refine (c_counts (k := 3) (j := 3) rfl (by omega) 1 _).void ?_
    rintro _ rfl
    simp only [s_at, s_ss]
    have h16' : (x16 + 1).toInt = ((k + 1 : Nat) : Int) := by
      rw [t_add h16 (y := 1) rfl (by omega) (by omega)]
      omega
    have hw0 : ∃ u, u = upd (upd v (786 + 16 * n + 7) (x16 + 1)) (7 + 3) (upd v (786 + 16 * n + 7) (x16 + 1) (7 + 3) + 1) := ⟨_, rfl⟩
    obtain ⟨u, hu⟩ := hw0
    rw [← hu]
    have hue : ∀ i, 786 ≤ i → i ≠ 786 + 16 * n + 7 → u i = σ 1 i := fun i e1 e2 => by rw [hu, u_ne (by omega), u_ne e2, g2 i (Or.inr e1)]
    have hju : jj N u := by
      rw [hu]
      exact jj_low (by omega) (by omega) (jj_copied hn (by rw [h16']; omega) hj1)
    refine (ih (k + 1) _ _ _ (by rw [s_at, hu, u_ne (by omega), u_at]; exact h16') (by omega) (by rw [s_at]; exact hju) ?_ ?_ ?_ ?_).mono ?_
    · rw [s_at, hue _ (by omega) (by omega)]; exact ho
    · rw [s_at, hue _ (by omega) (by omega)]; exact hf
    · rw [s_at, hue _ (by omega) (by omega)]; exact h6
    · rw [s_at, hue _ (by omega) (by omega)]; exact hS
    · rintro r σ' ⟨z, rfl, w, N', rfl, hw, l1, l2, l3, ew⟩
      rw [s_at] at l3 ew
      have hmu : mu u ≤ mu (σ 1) := by
        refine mu_cong (fun f hf => ?_) (fun b hb => hue _ (by omega) (by omega)) (fun b hb => hue _ (by omega) (by omega))
        rw [hu, u_ne (by omega), u_ne (by omega), u_ne (by omega), u_ne (by omega), g3 _ (by omega), g3 _ (by omega)]
        exact ⟨rfl, rfl⟩
      exact ⟨z, rfl, w, N', s_ss, hw, l1, l2, by omega, fun i e1 e2 e3 => by rw [ew i e1 e2 e3, hue i (by omega) (by omega)]⟩
theorem c_copies {a1 a2 : Int32} {s N : Nat} (h1 : a1.toInt = s) (hs : s < 8) (hN : N < 2147470000) (σ : sm_S) (hj : jj N (σ 1)) (h6 : σ 1 (2358 + 8 * s + 6) ≠ 0) : xC xM j_M_copies [.ref 0, .int a1, .int a2] σ (sm_I (fun _ σ' => ∃ w N', σ' = sm_set σ 1 w ∧ jj N' w ∧ N ≤ N' ∧ N' ≤ N + 7 ∧ mu w ≤ mu (σ 1) + 64 ∧ ∀ i, 2358 ≤ i → i < 2422 → i ≠ 2358 + 8 * s + 6 → w i = σ 1 i)) := by
  refine w_M_copies a1 a2 σ _ ((c_spanAt a1 σ).int ?_)
  rintro _ σ ⟨rfl, rfl⟩
  obtain ⟨p6, q6⟩ := ixS (k := 6) (j := 6) h1 rfl (by omega)
  rw [q6]
  obtain ⟨n, o, fr, p, k1, k2, k3, k4, k5, k6, k7, k8, k9, k10, k11, k12, k13⟩ := on_way hs hj h6
  have hb : (σ 1 (2358 + 8 * s + 6) - 1).toInt = n := by
    rw [t_dec k2]
    omega
  obtain ⟨k, hk⟩ := t_of k12
  exact ⟨p6, l_copies h1 hs hb k1 hN k4 k6 k7 k9 k10 (2 ^ o) k _ _ _ hk (by omega) hj k3 k5 k8 k2⟩
end
section
/-! ===== the model: a span is looked through ===== -/
theorem jr_leave {v v' : Nat → Int32} {n s o p fr : Nat} (hn : n < 96) (hs : s < 8) (hj : jr v) (hI : v (786 + 16 * n + 0) = 1) (hfr : (v (786 + 16 * n + 1)).toInt = fr) (hfs : fr / 32 = s) (hst : v (2358 + 8 * s + 0) = 3) (hS : v (2358 + 8 * s + 6) = 0) (ho : (v (786 + 16 * n + 2)).toInt = o) (hp : p < 256) (hpa : p % 2 ^ o = 0)
    (e6 : (v' (786 + 16 * n + 6)).toInt = ((p + 1 : Nat) : Int)) (e7 : v' (786 + 16 * n + 7) = 0) (eS : (v' (2358 + 8 * s + 6)).toInt = ((n + 1 : Nat) : Int)) (e : ∀ i, 786 ≤ i → i < 2422 → i ≠ 786 + 16 * n + 6 → i ≠ 786 + 16 * n + 7 → i ≠ 2358 + 8 * s + 6 → v' i = v i) : jr v' := by
  have h6 := to_0 hj hn hS hfr hfs
  obtain ⟨j1, j2, j3, j4, s0, hs0, z1, z2⟩ := hj
  have e6' : v' (786 + 16 * n + 6) ≠ 0 := fun z => by rw [z] at e6; have e6 : (0 : Int) = _ := e6; omega
  obtain ⟨on, frn, h1n, h2n, h3n, h4n, h5n, h6n, h7n, h8n⟩ := j1 n hn
  have hoo : on = o := by rw [ho] at h1n; omega
  subst hoo
  have hff : frn = fr := by rw [hfr] at h3n; omega
  subst hff
  refine ⟨fun b hb => ?_, fun b hb => ?_, fun s2 hs2 => ?_, fun b hb => ?_, s0, hs0, ?_, ?_⟩
  · by_cases hbn : b = n
    · subst hbn
      refine ⟨on, frn, ?_, h2n, ?_, h4n, h5n, ?_, ⟨p + 1, e6, Or.inr ⟨by omega, by omega, by rw [Nat.add_sub_cancel]; exact hpa⟩⟩, by rw [e7]; decide⟩
      · rw [e _ (by omega) (by omega) (by omega) (by omega) (by omega)]; exact h1n
      · rw [e _ (by omega) (by omega) (by omega) (by omega) (by omega)]; exact h3n
      · rw [e _ (by omega) (by omega) (by omega) (by omega) (by omega)]; exact h6n
    · exact bk_cong (fun k hk _ _ _ => e _ (by omega) (by omega) (by omega) (by omega) (by omega)) (j1 b hb)
  · by_cases hbn : b = n
    · subst hbn
      obtain ⟨L, o2, h1, h2, h3, h4, h5, h6'⟩ := j2 b hb
      refine ⟨L, o2, ?_, h2, ?_, fun _ => e6', fun k hk => ?_, fun k m hkm hm => ?_⟩
      · rw [e _ (by omega) (by omega) (by omega) (by omega) (by omega)]; exact h1
      · rw [e _ (by omega) (by omega) (by omega) (by omega) (by omega)]; exact h3
      · obtain ⟨t, a, g1, g2, g3, g4, g5⟩ := h5 k hk
        refine ⟨t, a, g1, ?_, ?_, ?_, g5⟩ <;> rw [e _ (by omega) (by omega) (by omega) (by omega) (by omega)] <;> assumption
      · rw [e _ (by omega) (by omega) (by omega) (by omega) (by omega), e _ (by omega) (by omega) (by omega) (by omega) (by omega)]; exact h6' k m hkm hm
    · exact ln_cong (fun k hk _ _ _ => e _ (by omega) (by omega) (by omega) (by omega) (by omega)) (fun t k ht hk => e _ (by omega) (by omega) (by omega) (by omega) (by omega)) (j2 b hb)
  · obtain ⟨st, pt, at', q, h1, h2, h3, h4, h5, h6', h7, h8, h9⟩ := j3 s2 hs2
    by_cases hss : s2 = s
    · subst hss
      have hst3 : st = 3 := by
        rw [hst] at h1
        have h1 : (3 : Int) = st := h1
        omega
      refine ⟨st, pt, at', n + 1, ?_, h2, ?_, h4, h5, ?_, h7, eS, Or.inr ⟨n, hn, rfl, hst3, e6', frn, ?_, hfs⟩⟩
      · rw [e _ (by omega) (by omega) (by omega) (by omega) (by omega)]; exact h1
      · rw [e _ (by omega) (by omega) (by omega) (by omega) (by omega)]; exact h3
      · rw [e _ (by omega) (by omega) (by omega) (by omega) (by omega)]; exact h6'
      · rw [e _ (by omega) (by omega) (by omega) (by omega) (by omega)]; exact hfr
    · refine ⟨st, pt, at', q, ?_, h2, ?_, h4, h5, ?_, h7, ?_, ?_⟩
      · rw [e _ (by omega) (by omega) (by omega) (by omega) (by omega)]; exact h1
      · rw [e _ (by omega) (by omega) (by omega) (by omega) (by omega)]; exact h3
      · rw [e _ (by omega) (by omega) (by omega) (by omega) (by omega)]; exact h6'
      · rw [e _ (by omega) (by omega) (by omega) (by omega) (by omega)]; exact h8
      · rcases h9 with h9 | ⟨b, g1, g2, g3, g4, fr2, g5, g6⟩
        · exact Or.inl h9
        · have hbn : b ≠ n := fun z => by subst z; exact g4 h6
          refine Or.inr ⟨b, g1, g2, g3, ?_, fr2, ?_, g6⟩ <;> rw [e _ (by omega) (by omega) (by omega) (by omega) (by omega)] <;> assumption
  · by_cases hbn : b = n
    · subst hbn
      intro _
      refine ⟨?_, frn, ?_, h4n, by rw [hfs]; exact eS⟩
      · rw [e _ (by omega) (by omega) (by omega) (by omega) (by omega)]; exact hI
      · rw [e _ (by omega) (by omega) (by omega) (by omega) (by omega)]; exact hfr
    · intro hb6
      rw [e _ (by omega) (by omega) (by omega) (by omega) (by omega)] at hb6
      obtain ⟨h1, fr2, h2, h3, h4⟩ := j4 b hb hb6
      have hns : fr2 / 32 ≠ s := fun z => by
        rw [z, hS] at h4
        have h4 : (0 : Int) = _ := h4
        omega
      refine ⟨?_, fr2, ?_, h3, ?_⟩ <;> rw [e _ (by omega) (by omega) (by omega) (by omega) (by omega)] <;> assumption
  · rw [e _ (by omega) (by omega) (by omega) (by omega) (by omega)]; exact z1
  · rw [e _ (by omega) (by omega) (by omega) (by omega) (by omega)]; exact z2
theorem l_looks123 {a1 a2 a3 a4 : Int32} {s n o p fr N : Nat} (h1 : a1.toInt = s) (hs : s < 8) (h2 : a2.toInt = ((2358 + 8 * s : Nat) : Int)) (h3 : a3.toInt = n) (hn : n < 96) (h4 : a4.toInt = p) (hp : p < 256) (hpa : p % 2 ^ o = 0) (ho4 : o ≤ 4) (hfa : fr % 2 ^ o = 0) : ∀ (d k : Nat) (a5 : Int32) (σ : sm_S), a5.toInt = k → k + d = 2 ^ o → fr_ok (σ 1) → (∀ v, fr_ok v → fr_eq (σ 1) v → jj N (upd v (2358 + 8 * s + 6) (a3 + 1))) → (σ 1 (786 + 16 * n + 2)).toInt = o → (σ 1 (786 + 16 * n + 1)).toInt = fr →
    xE xM m_M_looks 123 [.ref 0, .int a1, .int a2, .int a3, .int a4, .int a5] [] σ (sm_I (fun x σ' => ∃ w, σ' = sm_set σ 1 w ∧ jj N w ∧ mu w ≤ mu (σ 1) ∧ x = 1 ∧ (w (2358 + 8 * s + 5)).toInt = ((fr % 32 + 2 ^ o : Nat) : Int) ∧ (w (2358 + 8 * s + 6)).toInt = ((n + 1 : Nat) : Int) ∧ ∀ i, 2358 ≤ i → i < 2422 → i ≠ 2358 + 8 * s + 5 → i ≠ 2358 + 8 * s + 6 → w i = σ 1 i)) := by
  have hpw := t_pw (k := o) (by omega)
  have hs2 := t_al (k := o) (by omega) hpa
  have hb1 : (a3 + 1).toInt = ((n + 1 : Nat) : Int) := by
    rw [t_add h3 (y := 1) rfl (by omega) (by omega)]
    omega
  have i6 : (a2 + 6).toInt = ((2358 + 8 * s + 6 : Nat) : Int) := by
    rw [t_add h2 (y := 6) rfl (by omega) (by omega)]
    omega
  intro d
  induction d with
  | zero =>
    intro k a5 σ h5 hk hF hH ho hf
    refine w_M_looks_123 a1 a2 a3 a4 a5 σ _ ((c_longOf h3 hn σ).int ?_)
    rintro _ σ ⟨rfl, rfl⟩
    rw [t_nat i6]
    refine ⟨fun _ => ⟨t_vp i6 (by omega), fun σ3 e3 => ?_⟩, fun h => absurd ?_ h⟩
    · subst e3
      have hj := hH (σ 1) hF fr_eq.rf
      refine (c_isPassed (o := o) (fr := fr) h1 hs h3 hn _ (by rw [s_at]; exact hj) (by rw [s_at, u_ne (by omega)]; exact ho) ho4 (by rw [s_at, u_ne (by omega)]; exact hf) hfa).void ?_
      rintro _ ⟨y, rfl, hy, hjy⟩
      rw [s_at] at hjy ⊢
      refine ⟨Or.inr rfl, _, rfl, _, s_ss, hjy, ?_, rfl, by rw [u_at]; exact hy, by rw [u_ne (by omega), u_at]; exact hb1, fun i g1 g2 g3 g4 => by rw [u_ne g3, u_ne g4]⟩
      refine mu_cong (fun f hf => ?_) (fun b hb => ?_) (fun b hb => ?_)
      · rw [u_ne (by omega), u_ne (by omega), u_ne (by omega), u_ne (by omega)]
        exact ⟨rfl, rfl⟩
      · rw [u_ne (by omega), u_ne (by omega)]
      · rw [u_ne (by omega), u_ne (by omega)]
    · rw [t_le, t_pow ho (by omega), h5]
      omega
  | succ d ih =>
    intro k a5 σ h5 hk hF hH ho hf
    have h5' : (a5 + 1).toInt = ((k + 1 : Nat) : Int) := by
      rw [t_add h5 (y := 1) rfl (by omega) (by omega)]
      omega
    have hto := t_add h4 h5 (by omega) (by omega)
    rw [← Int.natCast_add] at hto
    refine w_M_looks_123 a1 a2 a3 a4 a5 σ _ ((c_longOf h3 hn σ).int ?_)
    rintro _ σ ⟨rfl, rfl⟩
    refine ⟨fun h => ?_, fun _ => (c_has' hto (by omega) h3 hn _ hF (fun z => absurd z (by decide))).void ?_⟩
    · rw [t_le, t_pow ho (by omega), h5] at h
      omega
    · rintro _ ⟨v, rfl, g1, g2, g3, g4, g5⟩
      refine (ih (k + 1) (a5 + 1) _ h5' (by omega) (by rw [s_at]; exact g1) (fun u hu1 hu2 => hH u hu1 (g2.tr (by rw [s_at] at hu2; exact hu2))) (by rw [s_at, g2 _ (by omega)]; exact ho) (by rw [s_at, g2 _ (by omega)]; exact hf)).mono ?_
      rintro r σ' ⟨x, rfl, w, rfl, hw, k1, k2, k3, k4, ew⟩
      rw [s_at] at ew k1
      refine ⟨x, rfl, w, s_ss, hw, Nat.le_trans k1 ?_, k2, k3, k4, fun i f1 f2 f3 f4 => by rw [ew i f1 f2 f3 f4, g2 i (by omega)]⟩
      refine mu_mono (fun f hf h => ?_) (fun b hb => g2 _ (by omega)) (fun b hb => g2 _ (by omega))
      by_cases hfp : f = p + k
      · subst hfp
        rw [g3] at h
        exact absurd h (by decide)
      · rw [g5 _ (by omega)] at h ⊢
        exact ⟨h, rfl⟩
def lkQ (N s at0 : Nat) (v : Nat → Int32) (x : Int32) (w : Nat → Int32) (N' : Nat) : Prop := jj N' w ∧ N ≤ N' ∧ N' + mu w ≤ N + mu v ∧ (∀ i, 2358 ≤ i → i < 2422 → i ≠ 2358 + 8 * s + 5 → i ≠ 2358 + 8 * s + 6 → w i = v i) ∧ ((x = 0 ∧ w (2358 + 8 * s + 6) = 0) ∨ (x = 1 ∧ w (2358 + 8 * s + 6) ≠ 0 ∧ ∃ at1 : Nat, (w (2358 + 8 * s + 5)).toInt = at1 ∧ at0 < at1))
theorem l_looks20 {a1 a2 : Int32} {s : Nat} (h1 : a1.toInt = s) (hs : s < 8) (h2 : a2.toInt = ((2358 + 8 * s : Nat) : Int)) : ∀ (m N at0 : Nat) (a3 : Int32) (v4 v5 : Value) (σ : sm_S), (32 - at0) + mu (σ 1) ≤ m → N + mu (σ 1) < 2000000000 → jj N (σ 1) → σ 1 (2358 + 8 * s + 0) = 3 → σ 1 (2358 + 8 * s + 6) = 0 → (σ 1 (2358 + 8 * s + 5)).toInt = at0 → fbk (σ 1) s at0 a3 →
    xE xM m_M_looks 20 [.ref 0, .int a1, .int a2, .int a3, v4, v5] [] σ (sm_I (fun x σ' => ∃ w N', σ' = sm_set σ 1 w ∧ lkQ N s at0 (σ 1) x w N')) := by
  have i5 : (a2 + 5).toInt = ((2358 + 8 * s + 5 : Nat) : Int) := by
    rw [t_add h2 (y := 5) rfl (by omega) (by omega)]
    omega
  intro m
  induction m with
  | zero =>
    intro N at0 a3 v4 v5 σ hm hN hj hst hS hat hfb
    refine w_M_looks_20 a1 a2 a3 v4 v5 σ _ ⟨fun _ => ⟨Or.inl rfl, _, rfl, σ 1, N, s_id.symm, hj, Nat.le_refl _, Nat.le_refl _, fun _ _ _ _ _ => rfl, Or.inl ⟨rfl, hS⟩⟩, fun h => ?_⟩
    obtain ⟨n, fr, k1, k2, k3, k4, k5, k6, k7, k8, k9⟩ := hfb.resolve_left h
    omega
  | succ m ih =>
    intro N at0 a3 v4 v5 σ hm hN hj hst hS hat hfb
    have again : ∀ (v4 v5 : Value) (w : Nat → Int32) (N1 at1 : Nat), jj N1 w → (∀ i, 2358 ≤ i → i < 2422 → i ≠ 2358 + 8 * s + 5 → w i = σ 1 i) → (w (2358 + 8 * s + 5)).toInt = at1 → at0 ≤ at1 → N ≤ N1 → N1 + mu w ≤ N + mu (σ 1) → (32 - at1) + mu w ≤ m → vp_in (a2 + 5) 2662 ∧ xC xM j_M_firstBlock [.ref 0, .int a1, .int ((sm_set σ 1 w) 1 (a2 + 5).toNatClampNeg)] (sm_set σ 1 w) (sm_ri False (fun x5 σ4 => xE xM m_M_looks 20 [.ref 0, .int a1, .int a2, .int x5, v4, v5] [] σ4 (sm_I (fun x σ' => ∃ w N', σ' = sm_set σ 1 w ∧ lkQ N s at0 (σ 1) x w N')))) := by
      intro v4 v5 w N1 at1 hw ew hat1 hle hN1 hmu hm1
      refine ⟨t_vp i5 (by omega), ?_⟩
      rw [t_nat i5, s_at]
      have h32 : at1 ≤ 32 := by
        obtain ⟨st, pt, at', q, g1, g2, g3, g4, g5, g6, g7, g8, g9⟩ := hw.2.1.2.2.1 s hs
        rw [hat1] at g6
        omega
      refine (c_firstBlock h1 hs hat1 h32 _ (by rw [s_at]; exact hw)).int ?_
      rintro x5 σ4 ⟨hx5, rfl⟩
      rw [s_at] at hx5
      refine (ih N1 at1 x5 v4 v5 _ (by rw [s_at]; exact hm1) (by rw [s_at]; omega) (by rw [s_at]; exact hw) (by rw [s_at, ew _ (by omega) (by omega) (by omega)]; exact hst) (by rw [s_at, ew _ (by omega) (by omega) (by omega)]; exact hS) (by rw [s_at]; exact hat1) (by rw [s_at]; exact hx5)).mono ?_
      rintro r σ' ⟨x, rfl, w2, N2, rfl, q1, q2, q3, q4, q5⟩
      rw [s_at] at q3 q4
      refine ⟨x, rfl, w2, N2, s_ss, q1, by omega, by omega, fun i f1 f2 f3 f4 => by rw [q4 i f1 f2 f3 f4, ew i f1 f2 f3], ?_⟩
      rcases q5 with q5 | ⟨q6, q7, at2, q8, q9⟩
      · exact Or.inl q5
      · exact Or.inr ⟨q6, q7, at2, q8, by omega⟩
    refine w_M_looks_20 a1 a2 a3 v4 v5 σ _ ⟨fun _ => ⟨Or.inl rfl, _, rfl, σ 1, N, s_id.symm, hj, Nat.le_refl _, Nat.le_refl _, fun _ _ _ _ _ => rfl, Or.inl ⟨rfl, hS⟩⟩, fun h => ?_⟩
    obtain ⟨n, fr, k1, k2, k3, k4, k5, k6, k7, k8, k9⟩ := hfb.resolve_left h
    have h6 := to_0 hj.2.1 k2 hS k4 k6
    obtain ⟨o, fr2, b1, b2, b3, b4, b5, ⟨t, b6, b6'⟩, -⟩ := hj.2.1.1 n k2
    have hff : fr2 = fr := by rw [k4] at b3; omega
    subst hff
    have hpw := t_pw (k := o) (by omega)
    have hal := t_al (k := o) (by omega) b5
    have pass : ∀ (v4 v5 : Value), xC xM j_M_isPassed [.ref 0, .int a1, .int a3] σ (sm_rv False (fun σ3 => (vp_in (a2 + 5) 2662 ∧ xC xM j_M_firstBlock [.ref 0, .int a1, .int (σ3 1 ((a2 + 5)).toNatClampNeg)] σ3 (sm_ri False (fun x5 σ4 => xE xM m_M_looks 20 [.ref 0, .int a1, .int a2, .int x5, v4, v5] [] σ4 (sm_I (fun x σ' => ∃ w N', σ' = sm_set σ 1 w ∧ lkQ N s at0 (σ 1) x w N'))))))) := by
      intro v4 v5
      refine (c_isPassed h1 hs k1 k2 _ hj b1 b2 b3 b5).void ?_
      rintro _ ⟨y, rfl, hy, hjy⟩
      have hmu : mu (upd (σ 1) (2358 + 8 * s + 5) y) ≤ mu (σ 1) := by
        refine mu_cong (fun f hf => ?_) (fun b hb => u_ne (by omega)) (fun b hb => u_ne (by omega))
        rw [u_ne (by omega), u_ne (by omega)]
        exact ⟨rfl, rfl⟩
      exact again v4 v5 _ N (fr2 % 32 + 2 ^ o) hjy (fun i _ _ g => u_ne g) (by rw [u_at]; exact hy) (by omega) (Nat.le_refl N) (by omega) (by omega)
    refine (c_of (k := 3) (j := 3) k1 rfl (by omega) σ).int ?_
    rintro x2 σ ⟨hx2, rfl⟩
    refine ⟨fun _ => pass _ _, fun _ => (c_isPinned k1 k2 _).int ?_⟩
    rintro x7 σ ⟨-, rfl⟩
    refine ⟨fun _ => (c_of (k := 3) (j := 3) k1 rfl (by omega) _).int ?_, fun _ => pass _ _⟩
    rintro x9 σ ⟨hx9, rfl⟩
    refine ⟨fun hk2 => (c_of (k := 4) (j := 4) k1 rfl (by omega) _).int ?_, fun hk2 => ?_⟩
    · rintro x11 σ ⟨hx11, rfl⟩
      refine (c_of (k := 3) (j := 3) k1 rfl (by omega) _).int ?_
      rintro x13 σ ⟨-, rfl⟩
      refine (c_of (k := 2) (j := 2) k1 rfl (by omega) _).int ?_
      rintro x15 σ ⟨hx15, rfl⟩
      refine (c_bestPlace (m := t) (o := o) (by rw [hx11]; exact b6) b6' (by rw [hx15]; exact b1) b2 _).int ?_
      rintro x17 σ ⟨hx17, rfl⟩
      refine ⟨fun _ => (c_of (k := 2) (j := 2) k1 rfl (by omega) _).int ?_, fun n17 => ?_⟩
      · rintro x19 σ ⟨hx19, rfl⟩
        refine ⟨fun _ => pass _ _, fun n19 => (c_freeNumber _).int ?_⟩
        rintro x24 σ ⟨hx24, rfl⟩
        refine ⟨fun _ => pass _ _, fun n24 => ?_⟩
        have ho1 : ∃ o1, o = o1 + 1 := by
          rw [t_le, hx19, b1] at n19
          have n19 : ¬ (o : Int) ≤ 0 := n19
          exact ⟨o - 1, by omega⟩
        obtain ⟨o1, rfl⟩ := ho1
        have hfree : ∃ j, j < 96 ∧ σ 1 (786 + 16 * j) = 0 := by
          rcases hx24 with ⟨z, -⟩ | ⟨j, z1, z2, z3, -⟩
          · exact absurd z n24
          · exact ⟨j, z2, z3⟩
        refine (c_splits k1 k2 (by omega) _ hj k3 h6 b1 k4 (by rw [← hx9]; exact hk2) hfree).void ?_
        rintro _ ⟨w, rfl, hw, hmu, ew⟩
        exact again _ _ w (N + 1) at0 hw (fun i g1 g2 _ => ew i g1 g2) (by rw [ew _ (by omega) (by omega)]; exact hat) (Nat.le_refl _) (by omega) (by omega) (by omega)
      · obtain ⟨p, hp1, hp2, hp3⟩ := hx17.resolve_left n17
        refine (c_lay (k := 6) (j := 6) k1 rfl (by omega) _ _).void ?_
        rintro _ rfl
        refine (c_lay (k := 7) (j := 7) k1 rfl (by omega) _ _).void ?_
        rintro _ rfl
        simp only [s_at, s_ss]
        have hp1' : (x17 + 1).toInt = ((p + 1 : Nat) : Int) := by
          rw [t_add hp1 (y := 1) rfl (by omega) (by omega)]
          omega
        have hb1 : (a3 + 1).toInt = ((n + 1 : Nat) : Int) := by
          rw [t_add k1 (y := 1) rfl (by omega) (by omega)]
          omega
        have hw0 : ∃ u, u = upd (upd (σ 1) (786 + 16 * n + 6) (x17 + 1)) (786 + 16 * n + 7) 0 := ⟨_, rfl⟩
        obtain ⟨u, hu⟩ := hw0
        rw [← hu]
        have hue : ∀ i, i ≠ 786 + 16 * n + 6 → i ≠ 786 + 16 * n + 7 → u i = σ 1 i := fun i g1 g2 => by rw [hu, u_ne g2, u_ne g1]
        have hu6 : u (786 + 16 * n + 6) = x17 + 1 := by rw [hu, u_ne (by omega), u_at]
        have hu7 : u (786 + 16 * n + 7) = 0 := by rw [hu, u_at]
        refine (l_looks123 (o := o) (p := p) (fr := fr2) (N := N) h1 hs h2 k1 k2 hp1 hp2 hp3 b2 b5 (2 ^ o) 0 0 _ rfl (by omega) ?_ ?_ ?_ ?_).mono ?_
        · rw [s_at]
          exact fr_cong (fun i _ _ => hue i (by omega) (by omega)) (fun b k hb hk => hue _ (by omega) (by omega)) hj.1
        · intro v hv1 hv2
          rw [s_at] at hv2
          refine ⟨fr_cong (fun i _ _ => u_ne (by omega)) (fun b k hb hk => u_ne (by omega)) hv1, ?_, ?_⟩
          · refine jr_leave k2 hs hj.2.1 k3 k4 k6 hst hS b1 hp2 hp3 ?_ ?_ (by rw [u_at]; exact hb1) (fun i g1 g2 g3 g4 g5 => by rw [u_ne g5, hv2 i (Or.inr g1), hue i g3 g4])
            · rw [u_ne (by omega), hv2 _ (by omega), hu6]; exact hp1'
            · rw [u_ne (by omega), hv2 _ (by omega), hu7]
          · rw [u_ne (by omega), hv2 _ (by omega), hue _ (by omega) (by omega)]; exact hj.2.2
        · rw [s_at, hue _ (by omega) (by omega)]; exact b1
        · rw [s_at, hue _ (by omega) (by omega)]; exact b3
        · rintro r σ' ⟨x, rfl, w, rfl, hw, q1, q2, q3, q4, q5⟩
          rw [s_at] at q1 q5
          have hmu : mu u ≤ mu (σ 1) := by
            refine mu_cong (fun f hf => ?_) (fun b hb => hue _ (by omega) (by omega)) (fun b hb => hue _ (by omega) (by omega))
            rw [hue _ (by omega) (by omega), hue _ (by omega) (by omega)]
            exact ⟨rfl, rfl⟩
          refine ⟨x, rfl, w, N, s_ss, hw, Nat.le_refl N, by omega, fun i f1 f2 f3 f4 => by rw [q5 i f1 f2 f3 f4, hue i (by omega) (by omega)], Or.inr ⟨q2, fun z => ?_, _, q3, by omega⟩⟩
          rw [z] at q4
          have q4 : (0 : Int) = _ := q4
          omega
    · have hk2' : σ 1 (786 + 16 * n + 3) = 2 := by rw [← hx9]; exact Classical.not_not.mp hk2
      refine (c_drops k1 k2 (by omega) _ hj h6).void ?_
      rintro _ ⟨w, fr3, rfl, hw, e1, e2, e3, e4, e5, e6⟩
      have hff : fr3 = fr2 := by rw [b3] at e4; omega
      subst hff
      have hmu := mu_drop k2 e5 e1 e3 k8 k9 hk2' e6
      exact again _ _ w (N + 1) at0 hw (fun i g1 g2 _ => e3 i (by omega) (by omega) (by omega)) (by rw [e3 _ (by omega) (by omega) (by omega)]; exact hat) (Nat.le_refl _) (by omega) (by omega) (by omega)
theorem c_looks {a1 : Int32} {s N at0 : Nat} (h1 : a1.toInt = s) (hs : s < 8) (σ : sm_S) (hN : N + mu (σ 1) < 2000000000) (hj : jj N (σ 1)) (hst : σ 1 (2358 + 8 * s + 0) = 3) (hS : σ 1 (2358 + 8 * s + 6) = 0) (hat : (σ 1 (2358 + 8 * s + 5)).toInt = at0) : xC xM j_M_looks [.ref 0, .int a1] σ (sm_I (fun x σ' => ∃ w N', σ' = sm_set σ 1 w ∧ lkQ N s at0 (σ 1) x w N')) := by
  refine w_M_looks a1 σ _ ((c_spanAt a1 σ).int ?_)
  rintro _ σ ⟨rfl, rfl⟩
  obtain ⟨p5, q5⟩ := ixS (k := 5) (j := 5) h1 rfl (by omega)
  rw [q5]
  have h2 : (2358 + 8 * a1).toInt = ((2358 + 8 * s : Nat) : Int) := by
    rw [t_add (a := 2358) (x := 2358) rfl (t_mul (x := 8) rfl h1 (by omega) (by omega)) (by omega) (by omega)]
    omega
  have h32 : at0 ≤ 32 := by
    obtain ⟨st, pt, at', q, g1, g2, g3, g4, g5, g6, g7, g8, g9⟩ := hj.2.1.2.2.1 s hs
    rw [hat] at g6
    omega
  refine ⟨p5, (c_firstBlock h1 hs hat h32 _ hj).int ?_⟩
  rintro x4 σ ⟨hx4, rfl⟩
  exact l_looks20 h1 hs h2 _ N at0 x4 _ _ _ (Nat.le_refl _) hN hj hst hS hat hx4
end
section
/-! ===== the model: a tick ===== -/
theorem l_manyIn {a1 a2 : Int32} {s : Nat} (h1 : a1.toInt = s) (hs : s < 8) (σ : sm_S) : ∀ (d k : Nat) (a3 a4 : Int32), a4.toInt = ((32 * s + k : Nat) : Int) → k + d = 32 → xE xM m_M_manyIn 8 [.ref 0, .int a1, .int a2, .int a3, .int a4] [] σ (sm_I (fun _ σ' => σ' = σ)) := by
  have h38 : (32 * a1 + 32).toInt = ((32 * s + 32 : Nat) : Int) := by
    rw [t_add (t_32s h1 hs) (y := 32) rfl (by omega) (by omega)]
    omega
  intro d
  induction d with
  | zero =>
    intro k a3 a4 h4 hk
    exact w_M_manyIn_8 a1 a2 a3 a4 σ _ ⟨fun _ => ⟨_, rfl, rfl⟩, fun h => absurd (by rw [t_le, h38, h4]; omega) h⟩
  | succ d ih =>
    intro k a3 a4 h4 hk
    have h4' : (a4 + 1).toInt = ((32 * s + (k + 1) : Nat) : Int) := by
      rw [t_add h4 (y := 1) rfl (by omega) (by omega)]
      omega
    refine w_M_manyIn_8 a1 a2 a3 a4 σ _ ⟨fun h => ?_, fun _ => (c_stateOf h4 (by omega) σ).int ?_⟩
    · rw [t_le, h38, h4] at h; omega
    · rintro x σ ⟨-, rfl⟩
      exact ⟨fun _ => ih (k + 1) _ _ h4' (by omega), fun _ => ih (k + 1) _ _ h4' (by omega)⟩
theorem c_manyIn {a1 : Int32} {s : Nat} (h1 : a1.toInt = s) (hs : s < 8) (a2 : Int32) (σ : sm_S) : xC xM j_M_manyIn [.ref 0, .int a1, .int a2] σ (sm_I (fun _ σ' => σ' = σ)) :=
  w_M_manyIn a1 a2 σ _ (l_manyIn h1 hs σ 32 0 _ _ (t_32s h1 hs) rfl)
theorem c_whyOf {a1 : Int32} {s N : Nat} (h1 : a1.toInt = s) (hs : s < 8) (σ : sm_S) (hj : jj N (σ 1)) : xC xM j_M_whyOf [.ref 0, .int a1] σ (sm_I (fun _ σ' => σ' = σ)) := by
  refine w_M_whyOf a1 σ _ ((c_firstBlock (fm := 0) h1 hs rfl (by omega) σ hj).int ?_)
  rintro x2 σ ⟨hx2, rfl⟩
  refine ⟨fun hne => ?_, fun _ => ⟨_, rfl, rfl⟩⟩
  obtain ⟨n, fr, k1, k2, -⟩ := hx2.resolve_left hne
  refine (c_of (k := 3) (j := 3) k1 rfl (by omega) _).int ?_
  rintro x4 σ ⟨-, rfl⟩
  refine ⟨fun _ => (c_isPinned k1 k2 _).int ?_, fun _ => ⟨_, rfl, rfl⟩⟩
  rintro x6 σ ⟨-, rfl⟩
  exact ⟨fun _ => ⟨_, rfl, rfl⟩, fun _ => ⟨_, rfl, rfl⟩⟩
theorem l_isOver {a1 a2 : Int32} {s N : Nat} (h1 : a1.toInt = s) (hs : s < 8) : ∀ (d k : Nat) (a3 : Int32) (σ : sm_S), a3.toInt = ((32 * s + k : Nat) : Int) → k + d = 32 → jj N (σ 1) → xE xM m_M_isOver 84 [.ref 0, .int a1, .int a2, .int a3] [] σ (sm_V (fun σ' => ∃ w, σ' = sm_set σ 1 w ∧ jj N w ∧ ∀ i, 2358 ≤ i → i < 2422 → w i = σ 1 i)) := by
  have h38 : (32 * a1 + 32).toInt = ((32 * s + 32 : Nat) : Int) := by
    rw [t_add (t_32s h1 hs) (y := 32) rfl (by omega) (by omega)]
    omega
  intro d
  induction d with
  | zero =>
    intro k a3 σ h3 hk hj
    refine w_M_isOver_84 a1 a2 a3 σ _ ⟨fun _ => (c_counts (k := 6) (j := 6) rfl (by omega) 1 σ).void ?_, fun h => absurd (by rw [t_le, h38, h3]; omega) h⟩
    rintro _ rfl
    exact ⟨rfl, _, rfl, jj_low (by omega) (by omega) hj, fun i _ _ => u_ne (by omega)⟩
  | succ d ih =>
    intro k a3 σ h3 hk hj
    have h3' : (a3 + 1).toInt = ((32 * s + (k + 1) : Nat) : Int) := by
      rw [t_add h3 (y := 1) rfl (by omega) (by omega)]
      omega
    refine w_M_isOver_84 a1 a2 a3 σ _ ⟨fun h => ?_, fun _ => (c_frameAt a3 σ).int ?_⟩
    · rw [t_le, h38, h3] at h; omega
    · rintro _ σ ⟨rfl, rfl⟩
      obtain ⟨p1, q1⟩ := ixF (k := 0) (j := 0) h3 rfl (by omega)
      rw [q1]
      refine ⟨p1, fun σ1 e1 => ?_⟩
      subst e1
      have hj1 : jj N (upd (σ 1) (18 + 3 * (32 * s + k) + 0) 0) := jj_fr (fr_st1 (f := 32 * s + k) rfl (by decide) (by omega) hj.1) (fr_upd (by omega) (by omega)) hj
      refine (ih (k + 1) (a3 + 1) _ h3' (by omega) (by rw [s_at]; exact hj1)).mono ?_
      rintro r σ' ⟨rfl, w, rfl, hw, ew⟩
      rw [s_at] at ew
      exact ⟨rfl, w, s_ss, hw, fun i g1 g2 => by rw [ew i g1 g2, u_ne (by omega)]⟩
theorem c_isOver {a1 : Int32} {s N : Nat} (h1 : a1.toInt = s) (hs : s < 8) (hN : N < 2147460000) (σ : sm_S) (hj : jj N (σ 1)) (hst : σ 1 (2358 + 8 * s + 0) = 3) (hS : σ 1 (2358 + 8 * s + 6) = 0) : xC xM j_M_isOver [.ref 0, .int a1] σ (sm_V (fun σ' => ∃ w N', σ' = sm_set σ 1 w ∧ jj N' w ∧ N ≤ N' ∧ N' ≤ N + 7 ∧ oth s (σ 1) w)) := by
  refine w_M_isOver a1 σ _ ((c_spanAt a1 σ).int ?_)
  rintro _ σ ⟨rfl, rfl⟩
  obtain ⟨p0, q0⟩ := ixS (k := 0) (j := 0) h1 rfl (by omega)
  obtain ⟨p1, q1⟩ := ixS (k := 1) (j := 1) h1 rfl (by omega)
  obtain ⟨p2, q2⟩ := ixS (k := 2) (j := 2) h1 rfl (by omega)
  obtain ⟨p3, q3⟩ := ixS (k := 3) (j := 3) h1 rfl (by omega)
  obtain ⟨p4, q4⟩ := ixS (k := 4) (j := 4) h1 rfl (by omega)
  obtain ⟨p5, q5⟩ := ixS (k := 5) (j := 5) h1 rfl (by omega)
  have h23 : (2358 + 8 * a1 + 3).toInt = ((2358 + 8 * s + 3 : Nat) : Int) := t_ix (c := 2358) (m := 8) (C := 2358) (M := 8) (k := 3) (j := 3) rfl rfl h1 rfl (by omega)
  rw [q0, q1, q2, q3, q4, q5]
  refine (c_counts (k := 9) (j := 9) rfl (by omega) 1 _).void ?_
  rintro _ rfl
  have hj1 : jj N (upd (σ 1) (7 + 9) (σ 1 (7 + 9) + 1)) := jj_low (by omega) (by omega) hj
  have hw0 : ∃ u, u = upd (σ 1) (7 + 9) (σ 1 (7 + 9) + 1) := ⟨_, rfl⟩
  obtain ⟨u, hu⟩ := hw0
  rw [← hu] at hj1 ⊢
  have hue : ∀ i, 18 ≤ i → u i = σ 1 i := fun i g => by rw [hu, u_ne (by omega)]
  have hstu : u (2358 + 8 * s + 0) = 3 := by rw [hue _ (by omega)]; exact hst
  have hSu : u (2358 + 8 * s + 6) = 0 := by rw [hue _ (by omega)]; exact hS
  obtain ⟨st, pt, at', q, g1, g2, g3, g4, g5, g6, g7, g8, g9⟩ := hj1.2.1.2.2.1 s hs
  have hst3 : st = 3 := by
    rw [hstu] at g1
    have g1 : (3 : Int) = st := g1
    omega
  obtain ⟨s2, f1, f2, f3⟩ := hj1.2.1.2.2.2.2
  have hs2 : s2 ≠ s := fun z => by
    subst z
    rw [hstu] at f2
    exact absurd f2 (by decide)
  refine (c_manyIn h1 hs _ _).int ?_
  rintro x5 σ5 e5
  subst e5
  refine (c_manyIn h1 hs _ _).int ?_
  rintro x7 σ5 e5
  subst e5
  refine ⟨fun _ => ⟨p3, (c_settingOf (n := 1) rfl (by omega) _).int ?_⟩, fun _ => ⟨p3, (c_writes' (N := N) _ _ _ _ (by rw [s_at]; exact hj1) (by omega)).void ?_⟩⟩
  · rintro x9 σ5 e5
    subst e5
    refine ⟨fun _ => (c_more (j := 2358 + 8 * s + 3) h23 (by omega) 1 _).void ?_, fun _ => (c_whyOf h1 hs _ (by rw [s_at]; exact hj1)).int ?_⟩
    · rintro _ rfl
      refine (c_settingOf (n := 3) rfl (by omega) _).int ?_
      rintro x12 σ5 e5
      subst e5
      refine ⟨p4, fun σ6 e6 => ⟨p5, fun σ7 e7 => ?_⟩⟩
      subst e7 e6
      simp only [s_at, s_ss]
      refine ⟨rfl, _, N, rfl, jj_at (a := 0) hs rfl (by omega) (jj_cell (by omega) (Or.inr (Or.inr ⟨s, hs, Or.inr (Or.inl rfl)⟩)) (jj_cell (by omega) (Or.inr (Or.inr ⟨s, hs, Or.inl rfl⟩)) hj1)), Nat.le_refl N, by omega, fun i c1 c2 c3 => ?_⟩
      rw [u_ne (by omega), u_ne (by omega), u_ne (by omega), hue _ (by omega)]
    · rintro x16 σ5 e5
      subst e5
      refine (c_fails (N := N) h1 hs hN _ (by rw [s_at]; exact hj1)).void ?_
      rintro _ ⟨w, N', rfl, hw, l1, l2, -, ew⟩
      rw [s_at] at ew
      exact ⟨rfl, w, N', s_ss, hw, l1, l2, fun i c1 c2 c3 => by rw [ew i c1 c2 c3, hue i (by omega)]⟩
  · rintro _ ⟨v, rfl, hv, ev⟩
    rw [s_at] at ev
    refine ⟨p0, fun σ1 e1 => ⟨p1, fun σ2 e2 => ⟨p2, fun σ3 e3 => ⟨p3, fun σ4 e4 => ?_⟩⟩⟩⟩
    subst e4 e3 e2 e1
    simp only [s_at, s_ss]
    have hw0 : ∃ w, w = upd (upd (upd (upd v (2358 + 8 * s + 0) 0) (2358 + 8 * s + 1) 0) (2358 + 8 * s + 2) 0) (2358 + 8 * s + 3) 0 := ⟨_, rfl⟩
    obtain ⟨w, hw⟩ := hw0
    rw [← hw]
    have hwe : ∀ i, (i < 2358 + 8 * s ∨ 2358 + 8 * s + 4 ≤ i) → w i = v i := fun i hi => by rw [hw, u_ne (by omega), u_ne (by omega), u_ne (by omega), u_ne (by omega)]
    have hjw : jj (N + 1) w := by
      refine ⟨fr_cong (fun i _ _ => hwe i (by omega)) (fun b k hb hk => hwe _ (by omega)) hv.1, ?_, by rw [hwe _ (by omega)]; exact hv.2.2⟩
      refine jr_span hs hv.2.1 (fun i _ _ h => hwe i (by omega)) (hwe _ (by omega)) ⟨0, 0, at', 0, ?_, by omega, ?_, by omega, fun z => by omega, ?_, g7, ?_, Or.inl rfl⟩ ⟨s2, f1, ?_, ?_⟩
      · rw [hw, u_ne (by omega), u_ne (by omega), u_ne (by omega), u_at]; rfl
      · rw [hw, u_ne (by omega), u_at]; rfl
      · rw [hwe _ (by omega), ev _ (by omega) (by omega)]; exact g6
      · rw [hwe _ (by omega), ev _ (by omega) (by omega), hSu]; rfl
      · rw [hwe _ (by omega), ev _ (by omega) (by omega)]; exact f2
      · rw [hwe _ (by omega), ev _ (by omega) (by omega)]; exact f3
    refine (l_isOver (N := N + 1) h1 hs 32 0 _ _ (t_32s h1 hs) rfl (by rw [s_at]; exact hjw)).mono ?_
    rintro r σ' ⟨rfl, z, rfl, hz, ez⟩
    rw [s_at] at ez
    exact ⟨rfl, z, N + 1, s_ss, hz, by omega, by omega, fun i c1 c2 c3 => by rw [ez i c1 c2, hwe i (by omega), ev i (by omega) (by omega), hue i (by omega)]⟩
theorem t_pos0 {x : Int32} {q : Nat} (h : x.toInt = q) (h2 : x ≤ 0) : x = 0 := by
  apply t_inj
  rw [t_le, h] at h2
  have h2 : (q : Int) ≤ 0 := h2
  rw [h]
  show (q : Int) = 0
  omega
theorem sb_0 {v : Nat → Int32} {s N : Nat} (hs : s < 8) (hj : jj N v) (h : v (2358 + 8 * s + 6) ≤ 0) : v (2358 + 8 * s + 6) = 0 := by
  obtain ⟨st, pt, at', q, g1, g2, g3, g4, g5, g6, g7, g8, g9⟩ := hj.2.1.2.2.1 s hs
  exact t_pos0 g8 h
/-- the loop of moves, nothing on its way -/
theorem l_moves {a1 a2 : Int32} {s : Nat} (h1 : a1.toInt = s) (hs : s < 8) (h2 : a2.toInt = ((2358 + 8 * s : Nat) : Int)) : ∀ (d N at0 : Nat) (a3 : Int32) (σ : sm_S), 32 ≤ at0 + d → N + mu (σ 1) + 71 * d < 1900000000 → jj N (σ 1) → σ 1 (2358 + 8 * s + 0) = 3 → σ 1 (2358 + 8 * s + 6) = 0 → (σ 1 (2358 + 8 * s + 5)).toInt = at0 →
    xE xM m_M_moves 32 [.ref 0, .int a1, .int a2, .int a3] [] σ (sm_V (fun σ' => ∃ w N', σ' = sm_set σ 1 w ∧ jj N' w ∧ N ≤ N' ∧ N' ≤ N + mu (σ 1) + 71 * d + 7 ∧ oth s (σ 1) w)) := by
  have i6 : (a2 + 6).toInt = ((2358 + 8 * s + 6 : Nat) : Int) := by
    rw [t_add h2 (y := 6) rfl (by omega) (by omega)]
    omega
  intro d
  induction d with
  | zero =>
    intro N at0 a3 σ hd hN hj hst hS hat
    refine w_M_moves_32 a1 a2 a3 σ _ ?_
    rw [t_nat i6, hS]
    refine ⟨t_vp i6 (by omega), fun h => absurd h (by decide), fun _ => (c_looks h1 hs σ (by omega) hj hst hS hat).int ?_⟩
    rintro x4 _ ⟨w, N', rfl, q1, q2, q3, q4, q5⟩
    have hst' : w (2358 + 8 * s + 0) = 3 := by rw [q4 _ (by omega) (by omega) (by omega) (by omega)]; exact hst
    refine ⟨fun hx => ?_, fun hx => ?_⟩
    · have hS' := (q5.resolve_right (fun z => by rw [z.1] at hx; exact absurd hx (by decide))).2
      refine (c_isOver (N := N') h1 hs (by omega) _ (by rw [s_at]; exact q1) (by rw [s_at]; exact hst') (by rw [s_at]; exact hS')).void ?_
      rintro _ ⟨w2, N2, rfl, r1, r2, r3, r4⟩
      rw [s_at] at r4
      exact ⟨rfl, w2, N2, s_ss, r1, by omega, by omega, fun i c1 c2 c3 => by rw [r4 i c1 c2 c3, q4 i c1 c2 (by omega) (by omega)]⟩
    · obtain ⟨-, -, at1, e1, e2⟩ := q5.resolve_left (fun z => hx z.1)
      obtain ⟨st, pt, at', q, g1, g2, g3, g4, g5, g6, g7, g8, g9⟩ := q1.2.1.2.2.1 s hs
      rw [e1] at g6
      omega
  | succ d ih =>
    intro N at0 a3 σ hd hN hj hst hS hat
    refine w_M_moves_32 a1 a2 a3 σ _ ?_
    rw [t_nat i6, hS]
    refine ⟨t_vp i6 (by omega), fun h => absurd h (by decide), fun _ => (c_looks h1 hs σ (by omega) hj hst hS hat).int ?_⟩
    rintro x4 _ ⟨w, N', rfl, q1, q2, q3, q4, q5⟩
    have hst' : w (2358 + 8 * s + 0) = 3 := by rw [q4 _ (by omega) (by omega) (by omega) (by omega)]; exact hst
    refine ⟨fun hx => ?_, fun hx => ?_⟩
    · have hS' := (q5.resolve_right (fun z => by rw [z.1] at hx; exact absurd hx (by decide))).2
      refine (c_isOver (N := N') h1 hs (by omega) _ (by rw [s_at]; exact q1) (by rw [s_at]; exact hst') (by rw [s_at]; exact hS')).void ?_
      rintro _ ⟨w2, N2, rfl, r1, r2, r3, r4⟩
      rw [s_at] at r4
      exact ⟨rfl, w2, N2, s_ss, r1, by omega, by omega, fun i c1 c2 c3 => by rw [r4 i c1 c2 c3, q4 i c1 c2 (by omega) (by omega)]⟩
    · obtain ⟨-, hne, at1, e1, e2⟩ := q5.resolve_left (fun z => hx z.1)
      refine (c_copies (N := N') h1 hs (by omega) _ (by rw [s_at]; exact q1) (by rw [s_at]; exact hne)).int ?_
      rintro x7 _ ⟨w2, N2, rfl, r1, r2, r3, r4, r5⟩
      rw [s_at] at r4 r5
      rw [s_ss, s_at]
      have hoth : ∀ i, 2358 ≤ i → i < 2422 → (i < 2358 + 8 * s ∨ 2358 + 8 * s + 8 ≤ i) → w2 i = σ 1 i := fun i c1 c2 c3 => by rw [r5 i c1 c2 (by omega), q4 i c1 c2 (by omega) (by omega)]
      refine ⟨t_vp i6 (by omega), fun hle => ?_, fun _ => ⟨rfl, w2, N2, rfl, r1, by omega, by omega, hoth⟩⟩
      refine (ih N2 at1 x7 _ (by omega) (by rw [s_at]; omega) (by rw [s_at]; exact r1) (by rw [s_at, r5 _ (by omega) (by omega) (by omega)]; exact hst') (by rw [s_at]; exact sb_0 hs r1 hle) (by rw [s_at, r5 _ (by omega) (by omega) (by omega)]; exact e1)).mono ?_
      rintro r σ' ⟨rfl, w3, N3, rfl, t1, t2, t3, t4⟩
      rw [s_at] at t3 t4
      exact ⟨rfl, w3, N3, s_ss, t1, by omega, by omega, fun i c1 c2 c3 => by rw [t4 i c1 c2 c3, hoth i c1 c2 c3]⟩
theorem c_moves {a1 : Int32} {s N : Nat} (h1 : a1.toInt = s) (hs : s < 8) (hN : N < 1800000000) (σ : sm_S) (hj : jj N (σ 1)) (hst : σ 1 (2358 + 8 * s + 0) = 3) : xC xM j_M_moves [.ref 0, .int a1] σ (sm_V (fun σ' => ∃ w N', σ' = sm_set σ 1 w ∧ jj N' w ∧ N ≤ N' ∧ N' ≤ N + 3100 ∧ oth s (σ 1) w)) := by
  have hmu := mu_le (v := σ 1)
  refine w_M_moves a1 σ _ ((c_spanAt a1 σ).int ?_)
  rintro _ σ ⟨rfl, rfl⟩
  obtain ⟨p4, q4⟩ := ixS (k := 4) (j := 4) h1 rfl (by omega)
  have i4 : (2358 + 8 * a1 + 4).toInt = ((2358 + 8 * s + 4 : Nat) : Int) := t_ix (c := 2358) (m := 8) (C := 2358) (M := 8) (k := 4) (j := 4) rfl rfl h1 rfl (by omega)
  have h2 : (2358 + 8 * a1).toInt = ((2358 + 8 * s : Nat) : Int) := by
    rw [t_add (a := 2358) (x := 2358) rfl (t_mul (x := 8) rfl h1 (by omega) (by omega)) (by omega) (by omega)]
    omega
  have i6 : (2358 + 8 * a1 + 6).toInt = ((2358 + 8 * s + 6 : Nat) : Int) := t_ix (c := 2358) (m := 8) (C := 2358) (M := 8) (k := 6) (j := 6) rfl rfl h1 rfl (by omega)
  rw [q4]
  refine ⟨p4, fun _ => (c_settingOf (n := 0) rfl (by omega) _).int ?_, fun _ => (c_more i4 (by omega) (-1) _).void ?_⟩
  · rintro x4 σ rfl
    obtain ⟨st, pt, at', q, g1, g2, g3, g4, g5, g6, g7, g8, g9⟩ := hj.2.1.2.2.1 s hs
    by_cases hS : σ 1 (2358 + 8 * s + 6) = 0
    · refine (l_moves h1 hs h2 32 N at' x4 σ (by omega) (by omega) hj hst hS g6).mono ?_
      rintro r σ' ⟨rfl, w, N', rfl, r1, r2, r3, r4⟩
      exact ⟨rfl, w, N', rfl, r1, r2, by omega, r4⟩
    · refine w_M_moves_32 a1 _ x4 σ _ ?_
      rw [t_nat i6]
      have hpos : 0 < σ 1 (2358 + 8 * s + 6) := by
        rw [t_lt, g8]
        show (0 : Int) < q
        rcases Nat.eq_zero_or_pos q with z | z
        · exact absurd (t_inj (by rw [g8, z]; rfl)) hS
        · omega
      refine ⟨t_vp i6 (by omega), fun _ => (c_copies (N := N) h1 hs (by omega) _ hj hS).int ?_, fun h => absurd hpos h⟩
      rintro x7 _ ⟨w2, N2, rfl, r1, r2, r3, r4, r5⟩
      rw [s_at]
      have hmu2 := mu_le (v := w2)
      refine ⟨t_vp i6 (by omega), fun hle => ?_, fun _ => ⟨rfl, w2, N2, rfl, r1, by omega, by omega, fun i c1 c2 c3 => r5 i c1 c2 (by omega)⟩⟩
      refine (l_moves h1 hs h2 32 N2 at' x7 _ (by omega) (by rw [s_at]; omega) (by rw [s_at]; exact r1) (by rw [s_at, r5 _ (by omega) (by omega) (by omega)]; exact hst) (by rw [s_at]; exact sb_0 hs r1 hle) (by rw [s_at, r5 _ (by omega) (by omega) (by omega)]; exact g6)).mono ?_
      rintro r σ' ⟨rfl, w3, N3, rfl, t1, t2, t3, t4⟩
      rw [s_at] at t3 t4
      exact ⟨rfl, w3, N3, s_ss, t1, by omega, by omega, fun i c1 c2 c3 => by rw [t4 i c1 c2 c3, r5 i c1 c2 (by omega)]⟩
  · rintro _ rfl
    exact ⟨rfl, _, N, rfl, jj_cell (by omega) (Or.inr (Or.inr ⟨s, hs, Or.inr (Or.inl rfl)⟩)) hj, Nat.le_refl N, by omega, fun i c1 c2 c3 => u_ne (by omega)⟩
end
section
/-! ===== the model: ticks; what is thought ===== -/
def offs (v v' : Nat → Int32) : Prop := ∀ t, t < 8 → v (2358 + 8 * t) = 0 → v' (2358 + 8 * t) = 0
theorem offs.rf {v : Nat → Int32} : offs v v := fun _ _ h => h
theorem offs.tr {a b c : Nat → Int32} (h1 : offs a b) (h2 : offs b c) : offs a c := fun t ht h => h2 t ht (h1 t ht h)
theorem oth.offs {s : Nat} {v v' : Nat → Int32} (h : oth s v v') (hs : v (2358 + 8 * s) ≠ 0) : offs v v' := by
  intro t ht h0
  by_cases hts : t = s
  · subst hts; exact absurd h0 hs
  · rw [h _ (by omega) (by omega) (by omega)]; exact h0
theorem l_ticks : ∀ (d k N : Nat) (a1 : Int32) (σ : sm_S), a1.toInt = k → k + d = 8 → jj N (σ 1) → N + 3100 * d < 1790000000 → xE xM m_M_ticks 8 [.ref 0, .int a1] [] σ (sm_V (fun σ' => ∃ w N', σ' = sm_set σ 1 w ∧ jj N' w ∧ N ≤ N' ∧ N' ≤ N + 3100 * d ∧ offs (σ 1) w)) := by
  intro d
  induction d with
  | zero =>
    intro k N a1 σ h1 hk hj hN
    refine w_M_ticks_8 a1 σ _ ⟨fun _ => ⟨rfl, σ 1, N, s_id.symm, hj, Nat.le_refl N, by omega, offs.rf⟩, fun h => absurd ?_ h⟩
    rw [t_le, h1]
    show (8 : Int) ≤ _
    omega
  | succ d ih =>
    intro k N a1 σ h1 hk hj hN
    have h1' : (a1 + 1).toInt = ((k + 1 : Nat) : Int) := by
      rw [t_add h1 (y := 1) rfl (by omega) (by omega)]
      omega
    have hk8 : k < 8 := by omega
    refine w_M_ticks_8 a1 σ _ ⟨fun h => ?_, fun _ => (c_spanState h1 hk8 σ).int ?_⟩
    · rw [t_le, h1] at h
      have h : (8 : Int) ≤ k := h
      omega
    · rintro x2 σ ⟨hx2, rfl⟩
      refine ⟨fun _ => (c_spanState h1 hk8 _).int ?_, fun n2 => ?_⟩
      · rintro x4 σ ⟨hx4, rfl⟩
        refine ⟨fun _ => ?_, fun n4 => ?_⟩
        · refine (ih (k + 1) N (a1 + 1) _ h1' (by omega) hj (by omega)).mono ?_
          rintro r σ' ⟨rfl, w, N', rfl, hw, l1, l2, l3⟩
          exact ⟨rfl, w, N', rfl, hw, l1, by omega, l3⟩
        · have hst : σ 1 (2358 + 8 * k) = 3 := by rw [← hx4]; exact Classical.not_not.mp n4
          refine (c_moves (N := N) h1 hk8 (by omega) _ hj hst).void ?_
          rintro _ ⟨v, N1, rfl, hv, m1, m2, m3⟩
          refine (ih (k + 1) N1 (a1 + 1) _ h1' (by omega) (by rw [s_at]; exact hv) (by omega)).mono ?_
          rintro r σ' ⟨rfl, w, N', rfl, hw, l1, l2, l3⟩
          rw [s_at] at l3
          exact ⟨rfl, w, N', s_ss, hw, by omega, by omega, (m3.offs (by rw [hst]; decide)).tr l3⟩
      · have hst : σ 1 (2358 + 8 * k) = 2 := by rw [← hx2]; exact Classical.not_not.mp n2
        refine (c_shuts (N := N) h1 hk8 (by omega) _ hj hst).void ?_
        rintro _ ⟨v, N1, rfl, hv, m1, m2, m3⟩
        refine (ih (k + 1) N1 (a1 + 1) _ h1' (by omega) (by rw [s_at]; exact hv) (by omega)).mono ?_
        rintro r σ' ⟨rfl, w, N', rfl, hw, l1, l2, l3⟩
        rw [s_at] at l3
        exact ⟨rfl, w, N', s_ss, hw, by omega, by omega, (m3.offs (by rw [hst]; decide)).tr l3⟩
theorem c_ticks {N : Nat} (hN : N < 1780000000) (σ : sm_S) (hj : jj N (σ 1)) : xC xM j_M_ticks [.ref 0] σ (sm_V (fun σ' => ∃ w N', σ' = sm_set σ 1 w ∧ jj N' w ∧ N ≤ N' ∧ N' ≤ N + 24800 ∧ offs (σ 1) w)) := by
  refine w_M_ticks σ _ ((c_more (j := 4) rfl (by omega) 1 σ).void ?_)
  rintro _ rfl
  refine (l_ticks 8 0 N 0 _ rfl rfl (by rw [s_at]; exact jj_low (by omega) (by omega) hj) (by omega)).mono ?_
  rintro r σ' ⟨rfl, w, N', rfl, hw, l1, l2, l3⟩
  rw [s_at] at l3
  refine ⟨rfl, w, N', s_ss, hw, l1, by omega, fun t ht h0 => l3 t ht ?_⟩
  rw [u_ne (by omega)]; exact h0
theorem l_tick {a1 : Int32} {n : Nat} (h1 : a1.toInt = n) (hn : n ≤ 60) : ∀ (d k N : Nat) (a2 : Int32) (σ : sm_S), a2.toInt = k → k + d = n → jj N (σ 1) → N + 24800 * d < 1700000000 → xE xM m_M_tick 34 [.ref 0, .int a1, .int a2] [] σ (sm_I (fun _ σ' => ∃ w N', σ' = sm_set σ 1 w ∧ jj N' w ∧ N ≤ N' ∧ N' ≤ N + 24800 * d)) := by
  intro d
  induction d with
  | zero =>
    intro k N a2 σ h2 hk hj hN
    refine w_M_tick_34 a1 a2 σ _ ⟨fun _ => ⟨t_vp (n := 4) rfl (by omega), _, rfl, σ 1, N, s_id.symm, hj, Nat.le_refl N, by omega⟩, fun h => absurd (by rw [t_le, h1, h2]; omega) h⟩
  | succ d ih =>
    intro k N a2 σ h2 hk hj hN
    have h2' : (a2 + 1).toInt = ((k + 1 : Nat) : Int) := by
      rw [t_add h2 (y := 1) rfl (by omega) (by omega)]
      omega
    refine w_M_tick_34 a1 a2 σ _ ⟨fun h => ?_, fun _ => (c_ticks (N := N) (by omega) σ hj).void ?_⟩
    · rw [t_le, h1, h2] at h; omega
    · rintro _ ⟨v, N1, rfl, hv, m1, m2, -⟩
      refine (ih (k + 1) N1 (a2 + 1) _ h2' (by omega) (by rw [s_at]; exact hv) (by omega)).mono ?_
      rintro r σ' ⟨x, rfl, w, N', rfl, hw, l1, l2⟩
      exact ⟨x, rfl, w, N', s_ss, hw, by omega, by omega⟩
theorem c_tick {N : Nat} (a1 : Int32) (hN : N < 1600000000) (σ : sm_S) (hj : jj N (σ 1)) : xC xM j_M_tick [.ref 0, .int a1] σ (sm_I (pubX N 1488000 σ)) := by
  refine w_M_tick a1 σ _ (fun σ1 e1 => (c_isIn a1 1 60 σ1).int ?_)
  have hj1 : jj N (σ1 1) := by rw [e1, s_ne (by decide)]; exact hj
  rintro x3 σ1 ⟨hx3, rfl⟩
  refine ⟨fun _ => ⟨_, rfl, pub_X (pub_keep hj e1)⟩, fun n3 => ⟨t_vp (n := 4) rfl (by omega), fun _ => ?_, fun _ => ⟨_, rfl, pub_X (pub_keep hj e1)⟩⟩⟩
  obtain ⟨-, g1, g2⟩ := hx3.resolve_right (fun z => n3 z.1)
  have g1 : (1 : Int) ≤ a1.toInt := g1
  have g2 : a1.toInt ≤ (60 : Int) := g2
  obtain ⟨n, hn⟩ := t_of (x := a1) (by omega)
  refine (l_tick hn (by omega) n 0 N 0 _ rfl (by omega) hj1 (by omega)).mono ?_
  rintro r σ' ⟨x, rfl, w, N', rfl, hw, l1, l2⟩
  exact ⟨x, rfl, pub_X (pub_set e1 hw l1 (by omega))⟩
theorem jj_eq {v v' : Nat → Int32} {N : Nat} (h : ∀ i, i < 2662 → v' i = v i) (hj : jj N v) : jj N v' :=
  ⟨fr_cong (fun i _ _ => h i (by omega)) (fun b k hb hk => h _ (by omega)) hj.1, jr_cong (ceq.of (fun i _ _ => h i (by omega))) hj.2.1, by rw [h 5 (by omega)]; exact hj.2.2⟩
theorem l_thinks : ∀ (d k : Nat) (a1 : Int32) (σ : sm_S), a1.toInt = k → k + d = 2662 → xE xM m_M_thinks 2 [.ref 0, .int a1] [] σ (sm_V (fun σ' => ∃ f, σ' = sm_set σ 2 f ∧ (∀ i, k ≤ i → i < 2662 → f i = σ 1 i) ∧ ∀ i, i < k → f i = σ 2 i)) := by
  intro d
  induction d with
  | zero =>
    intro k a1 σ h1 hk
    refine w_M_thinks_2 a1 σ _ ⟨fun _ => ⟨rfl, σ 2, s_id.symm, fun i _ _ => by omega, fun _ _ => rfl⟩, fun h => absurd ?_ h⟩
    rw [t_le, h1]
    show (2662 : Int) ≤ _
    omega
  | succ d ih =>
    intro k a1 σ h1 hk
    have h1' : (a1 + 1).toInt = ((k + 1 : Nat) : Int) := by
      rw [t_add h1 (y := 1) rfl (by omega) (by omega)]
      omega
    refine w_M_thinks_2 a1 σ _ ⟨fun h => ?_, fun _ => ⟨t_vp h1 (by omega), t_vp h1 (by omega), fun σ1 e1 => ?_⟩⟩
    · rw [t_le, h1] at h
      have h : (2662 : Int) ≤ k := h
      omega
    · rw [t_nat h1] at e1
      refine (ih (k + 1) (a1 + 1) σ1 h1' (by omega)).mono ?_
      rintro r σ' ⟨rfl, f, rfl, g1, g2⟩
      subst e1
      refine ⟨rfl, f, s_ss, fun i i1 i2 => ?_, fun i i1 => ?_⟩
      · rcases Nat.lt_or_ge k i with hl | hl
        · rw [g1 i hl i2, s_ne (by decide)]
        · have hik : i = k := by omega
          rw [g2 i (by omega), s_at, hik, u_at]
      · rw [g2 i (by omega), s_at, u_ne (by omega)]
theorem c_thinks (σ : sm_S) : xC xM j_M_thinks [.ref 0] σ (sm_V (fun σ' => ∃ f, σ' = sm_set σ 2 f ∧ ∀ i, i < 2662 → f i = σ 1 i)) := by
  refine w_M_thinks σ _ ((l_thinks 2662 0 0 σ rfl rfl).mono ?_)
  rintro r σ' ⟨rfl, f, rfl, g1, -⟩
  exact ⟨rfl, f, rfl, fun i hi => g1 i (Nat.zero_le i) hi⟩
theorem l_forgets : ∀ (d k : Nat) (a1 : Int32) (σ : sm_S), a1.toInt = k → k + d = 2662 → xE xM m_M_forgets 2 [.ref 0, .int a1] [] σ (sm_V (fun σ' => ∃ f, σ' = sm_set σ 1 f ∧ (∀ i, k ≤ i → i < 2662 → f i = σ 2 i) ∧ ∀ i, i < k → f i = σ 1 i)) := by
  intro d
  induction d with
  | zero =>
    intro k a1 σ h1 hk
    refine w_M_forgets_2 a1 σ _ ⟨fun _ => ⟨rfl, σ 1, s_id.symm, fun i _ _ => by omega, fun _ _ => rfl⟩, fun h => absurd ?_ h⟩
    rw [t_le, h1]
    show (2662 : Int) ≤ _
    omega
  | succ d ih =>
    intro k a1 σ h1 hk
    have h1' : (a1 + 1).toInt = ((k + 1 : Nat) : Int) := by
      rw [t_add h1 (y := 1) rfl (by omega) (by omega)]
      omega
    refine w_M_forgets_2 a1 σ _ ⟨fun h => ?_, fun _ => ⟨t_vp h1 (by omega), t_vp h1 (by omega), fun σ1 e1 => ?_⟩⟩
    · rw [t_le, h1] at h
      have h : (2662 : Int) ≤ k := h
      omega
    · rw [t_nat h1] at e1
      refine (ih (k + 1) (a1 + 1) σ1 h1' (by omega)).mono ?_
      rintro r σ' ⟨rfl, f, rfl, g1, g2⟩
      subst e1
      refine ⟨rfl, f, s_ss, fun i i1 i2 => ?_, fun i i1 => ?_⟩
      · rcases Nat.lt_or_ge k i with hl | hl
        · rw [g1 i hl i2, s_ne (by decide)]
        · have hik : i = k := by omega
          rw [g2 i (by omega), s_at, hik, u_at]
      · rw [g2 i (by omega), s_at, u_ne (by omega)]
theorem c_forgets (σ : sm_S) : xC xM j_M_forgets [.ref 0] σ (sm_V (fun σ' => ∃ f, σ' = sm_set σ 1 f ∧ ∀ i, i < 2662 → f i = σ 2 i)) := by
  refine w_M_forgets σ _ ((l_forgets 2662 0 0 σ rfl rfl).mono ?_)
  rintro r σ' ⟨rfl, f, rfl, g1, -⟩
  exact ⟨rfl, f, rfl, fun i hi => g1 i (Nat.zero_le i) hi⟩
/-- behind what was thought, all is as it was -/
theorem pub_th {N D : Nat} {σ σ1 σ2 : sm_S} {x : Int32} {f g : Nat → Int32} (hj : jj N (σ 1)) (e1 : σ1 = sm_set σ 0 (upd (σ 0) 0 0)) (hf : ∀ i, i < 2662 → f i = σ 1 i) (h2 : σ2 2 = f) (h3 : ∀ k, k ≠ 1 → k ≠ 2 → k ≠ 4 → σ2 k = σ1 k) (hg : ∀ i, i < 2662 → g i = σ2 2 i) : pubX N D σ x (sm_set σ2 1 g) := by
  refine ⟨N, ?_, Nat.le_refl N, by omega, ?_, ?_, fun k hk => ?_⟩
  · rw [s_at]
    exact jj_eq (fun i hi => by rw [hg i hi, h2, hf i hi]) hj
  · rw [s_ne (by decide), h3 5 (by decide) (by decide) (by decide), e1, s_ne (by decide)]
  · rw [s_ne (by decide), h3 0 (by decide) (by decide) (by decide), e1, s_at, u_ne (by decide)]
  · rw [s_ne (by omega), h3 k (by omega) (by omega) (by omega), e1, s_ne (by omega)]
/-- a span goes away in thought -/
theorem l_goesAway {a1 : Int32} {s : Nat} (h1 : a1.toInt = s) (hs : s < 8) : ∀ (d k N : Nat) (a2 : Int32) (σ : sm_S), a2.toInt = k → k + d = 500 → jj N (σ 1) → N + 24800 * d < 1750000000 → xE xM m_M_goesAway 7 [.ref 0, .int a1, .int a2] [] σ (sm_I (fun _ σ' => ∃ w N', σ' = sm_set σ 1 w ∧ jj N' w ∧ N ≤ N' ∧ N' ≤ N + 24800 * d ∧ offs (σ 1) w)) := by
  intro d
  induction d with
  | zero =>
    intro k N a2 σ h2 hk hj hN
    refine w_M_goesAway_7 a1 a2 σ _ ⟨fun _ => ⟨_, rfl, σ 1, N, s_id.symm, hj, Nat.le_refl N, by omega, offs.rf⟩, fun h => absurd ?_ h⟩
    rw [t_le, h2]
    show (500 : Int) ≤ _
    omega
  | succ d ih =>
    intro k N a2 σ h2 hk hj hN
    have h2' : (a2 + 1).toInt = ((k + 1 : Nat) : Int) := by
      rw [t_add h2 (y := 1) rfl (by omega) (by omega)]
      omega
    refine w_M_goesAway_7 a1 a2 σ _ ⟨fun h => ?_, fun _ => (c_isGoing h1 hs σ).int ?_⟩
    · rw [t_le, h2] at h
      have h : (500 : Int) ≤ k := h
      omega
    · rintro x2 σ ⟨-, rfl⟩
      refine ⟨fun _ => ⟨_, rfl, σ 1, N, s_id.symm, hj, Nat.le_refl N, by omega, offs.rf⟩, fun _ => (c_ticks (N := N) (by omega) σ hj).void ?_⟩
      rintro _ ⟨v, N1, rfl, hv, m1, m2, m3⟩
      refine (ih (k + 1) N1 (a2 + 1) _ h2' (by omega) (by rw [s_at]; exact hv) (by omega)).mono ?_
      rintro r σ' ⟨x, rfl, w, N', rfl, hw, l1, l2, l3⟩
      rw [s_at] at l3
      exact ⟨x, rfl, w, N', s_ss, hw, by omega, by omega, m3.tr l3⟩
theorem c_goesAway {a1 : Int32} {s N : Nat} (h1 : a1.toInt = s) (hs : s < 8) (hN : N < 1730000000) (σ : sm_S) (hj : jj N (σ 1)) (hon : σ 1 (2358 + 8 * s) = 1) (hel : onElse (σ 1) 0 a1) : xC xM j_M_goesAway [.ref 0, .int a1] σ (sm_I (fun _ σ' => ∃ w N', σ' = sm_set σ 1 w ∧ jj N' w ∧ N ≤ N' ∧ N' ≤ N + 12400001 ∧ offs (σ 1) w)) := by
  refine w_M_goesAway a1 σ _ ((c_beginsToGo (N := N) h1 hs (by omega) σ hj hon hel).void ?_)
  rintro _ ⟨v, rfl, hv, -, ev⟩
  obtain ⟨d, hd⟩ : ∃ d, d = 500 := ⟨_, rfl⟩
  refine (l_goesAway h1 hs d 0 (N + 1) 0 _ rfl (by omega) (by rw [s_at]; exact hv) (by omega)).mono ?_
  rintro r σ' ⟨x, rfl, w, N', rfl, hw, l1, l2, l3⟩
  rw [s_at] at l3
  refine ⟨x, rfl, w, N', s_ss, hw, by omega, by omega, fun t ht h0 => l3 t ht ?_⟩
  by_cases hts : t = s
  · subst hts
    rw [hon] at h0
    exact absurd h0 (by decide)
  · rw [ev _ (by omega) (by omega) (by omega)]; exact h0
theorem c_would {N : Nat} (a1 a2 : Int32) (hN : N < 1600000000) (σ : sm_S) (hj : jj N (σ 1)) : xC xM j_M_would [.ref 0, .int a1, .int a2] σ (sm_I (pubX N 0 σ)) := by
  refine w_M_would a1 a2 σ _ (fun σ1 e1 => (c_canGo a1 σ1).int ?_)
  have hj1 : jj N (σ1 1) := by rw [e1, s_ne (by decide)]; exact hj
  rintro x3 σ1 ⟨hx3, rfl⟩
  refine ⟨fun _ => ⟨_, rfl, pub_X (pub_keep hj e1)⟩, fun n3 => (c_isIn _ _ _ _).int ?_⟩
  obtain ⟨-, s, hs, h1, hon, hel⟩ := hx3.resolve_left n3
  rintro x5 σ1 ⟨-, rfl⟩
  refine ⟨fun _ => (c_thinks _).void ?_, fun _ => ⟨_, rfl, pub_X (pub_keep hj e1)⟩⟩
  rintro _ ⟨f, rfl, hf⟩
  have v10 : vp_in (10 : Int32) 2662 := t_vp (n := 10) rfl (by omega)
  have v11 : vp_in (11 : Int32) 2662 := t_vp (n := 11) rfl (by omega)
  have v12 : vp_in (12 : Int32) 2662 := t_vp (n := 12) rfl (by omega)
  refine ⟨v10, v11, v12, (c_goesAway (N := N) h1 hs (by omega) _ (by rw [s_ne (by decide)]; exact hj1) (by rw [s_ne (by decide)]; exact hon) (by rw [s_ne (by decide)]; exact hel)).int ?_⟩
  rintro x8 _ ⟨w, N', rfl, hw, -⟩
  have hf' : ∀ i, i < 2662 → f i = σ 1 i := fun i hi => by rw [hf i hi, e1, s_ne (by decide)]
  have fin : ∀ y : Int32, xC xM j_M_forgets [.ref 0] (sm_set (sm_set σ1 2 f) 1 w) (sm_rv False (fun σ9 => sm_I (pubX N 0 σ) (some (.int y)) σ9)) := by
    intro y
    refine (c_forgets _).void ?_
    rintro _ ⟨g, rfl, hg⟩
    exact ⟨y, rfl, pub_th hj e1 hf' (by rw [s_ne (by decide), s_at]) (fun k k1 k2 _ => by rw [s_ne k1, s_ne k2]) hg⟩
  refine ⟨fun _ => ?_, fun _ => (c_spanState h1 hs _).int ?_⟩
  · repeat' (first | exact fin _ | exact v10 | exact v11 | exact v12 | intro _ | refine ⟨?_, ?_⟩)
  · rintro x18 σ18 ⟨-, e18⟩
    subst e18
    repeat' (first | exact fin _ | exact v10 | exact v11 | exact v12 | intro _ | refine ⟨?_, ?_⟩)
theorem l_movable {N : Nat} {σ0 σ1 : sm_S} {f : Nat → Int32} (hj0 : jj N (σ0 1)) (e1 : σ1 = sm_set σ0 0 (upd (σ0 0) 0 0)) (hf : ∀ i, i < 2662 → f i = σ0 1 i) : ∀ (m N1 : Nat) (a1 : Int32) (σ : sm_S), cn (fun s => decide (σ 1 (2358 + 8 * s) = 0)) 8 ≤ m → jj N1 (σ 1) → N1 + m < 2000000000 → σ 2 = f → (∀ k, k ≠ 1 → k ≠ 2 → k ≠ 4 → σ k = σ1 k) → xE xM m_M_movable 11 [.ref 0, .int a1] [] σ (sm_I (pubX N 0 σ0)) := by
  have fin : ∀ (y : Int32) (σ : sm_S), σ 2 = f → (∀ k, k ≠ 1 → k ≠ 2 → k ≠ 4 → σ k = σ1 k) → xC xM j_M_forgets [.ref 0] σ (sm_rv False (fun σ9 => sm_I (pubX N 0 σ0) (some (.int y)) σ9)) := by
    intro y σ h2 h3
    refine (c_forgets _).void ?_
    rintro _ ⟨g, rfl, hg⟩
    exact ⟨y, rfl, pub_th hj0 e1 hf h2 h3 hg⟩
  intro m
  induction m with
  | zero =>
    intro N1 a1 σ hm hj hN h2 h3
    refine w_M_movable_11 a1 σ _ ((c_turnOf σ).int ?_)
    rintro x2 σ ⟨hx2, rfl⟩
    refine ⟨fun _ => fin _ _ h2 h3, fun n2 => ?_⟩
    obtain ⟨s, k1, k2, k3⟩ := hx2.resolve_left n2
    have := cn_lt (P := fun s => decide (σ 1 (2358 + 8 * s) = 0)) (P' := fun _ => false) (j := s) (decide_eq_true k3) rfl (N := 8) k2 (fun i _ h => by cases h)
    omega
  | succ m ih =>
    intro N1 a1 σ hm hj hN h2 h3
    obtain ⟨x0, hT⟩ := sm_C.det (c_turnOf σ)
    refine w_M_movable_11 a1 σ _ (hT.int ?_)
    rintro x2 σ ⟨e2, -, rfl⟩
    refine ⟨fun _ => fin _ _ h2 h3, fun n2 => (c_zoneByRatio _).int ?_⟩
    rintro x5 σ ⟨-, rfl⟩
    refine ⟨fun _ => fin _ _ h2 h3, fun _ => hT.int ?_⟩
    rintro x8 σ ⟨e8, hx8, rfl⟩
    · obtain ⟨s, k1, k2, k3⟩ := hx8.resolve_left (fun z => n2 (by rw [e2, ← e8]; exact z))
      refine (c_comesOn (N := N1) k1 k2 (by omega) _ hj k3).int ?_
      rintro x10 _ ⟨w, rfl, hw, hws, ew⟩
      refine ih (N1 + 1) _ _ ?_ (by rw [s_at]; exact hw) (by omega) (by rw [s_ne (by decide)]; exact h2) (fun k c1 c2 c4 => by rw [s_ne c1]; exact h3 k c1 c2 c4)
      have := cn_lt (P := fun s => decide (σ 1 (2358 + 8 * s) = 0)) (P' := fun t => decide ((sm_set σ 1 w) 1 (2358 + 8 * t) = 0)) (j := s) (decide_eq_true k3) (by rw [s_at, hws]; rfl) (N := 8) k2 (fun i hi h => by
        rw [s_at] at h
        have h := of_decide_eq_true h
        refine decide_eq_true ?_
        by_cases his : i = s
        · subst his; exact k3
        · rw [← ew _ (by omega) (by omega) (by omega) (by omega)]; exact h)
      omega
theorem c_movable {N : Nat} (hN : N < 1600000000) (σ : sm_S) (hj : jj N (σ 1)) : xC xM j_M_movable [.ref 0] σ (sm_I (pubX N 0 σ)) := by
  refine w_M_movable σ _ (fun σ1 e1 => (c_thinks σ1).void ?_)
  have hj1 : jj N (σ1 1) := by rw [e1, s_ne (by decide)]; exact hj
  rintro _ ⟨f, rfl, hf⟩
  have hf' : ∀ i, i < 2662 → f i = σ 1 i := fun i hi => by rw [hf i hi, e1, s_ne (by decide)]
  exact l_movable hj e1 hf' 8 N 0 _ cn_bd (by rw [s_ne (by decide)]; exact hj1) (by omega) s_at (fun k _ k2 _ => s_ne k2)
theorem l_greatestIn15 {a1 : Int32} {s : Nat} (h1 : a1.toInt = s) (hs : s < 8) {σ : sm_S} {o : Nat} (ho : o ≤ 5) {a3 : Int32} (h3 : a3.toInt = o) (ihO : ∀ (a2 : Int32) (v4 : Value), xE xM m_M_greatestIn 4 [.ref 0, .int a1, .int a2, .int (a3 + 1), v4] [] σ (sm_I (fun _ σ' => σ' = σ))) : ∀ (d k : Nat) (a2 a4 : Int32), a4.toInt = ((32 * s + k : Nat) : Int) → 32 ≤ k + d → k < 64 → xE xM m_M_greatestIn 15 [.ref 0, .int a1, .int a2, .int a3, .int a4] [] σ (sm_I (fun _ σ' => σ' = σ)) := by
  have hpw := t_pw ho
  have h38 : (32 * a1 + 32).toInt = ((32 * s + 32 : Nat) : Int) := by
    rw [t_add (t_32s h1 hs) (y := 32) rfl (by omega) (by omega)]
    omega
  intro d
  induction d with
  | zero =>
    intro k a2 a4 h4 hk hk2
    exact w_M_greatestIn_15 a1 a2 a3 a4 σ _ ⟨fun _ => ihO _ _, fun h => absurd (by rw [t_le, h38, h4]; omega) h⟩
  | succ d ih =>
    intro k a2 a4 h4 hk hk2
    refine w_M_greatestIn_15 a1 a2 a3 a4 σ _ ⟨fun _ => ihO _ _, fun h => (c_areFree h4 (by omega) h3 ho σ).int ?_⟩
    rw [t_le, h38, h4] at h
    have h4' : (a4 + ((1 : Int32) <<< (a3 &&& 31))).toInt = ((32 * s + (k + 2 ^ o) : Nat) : Int) := by
      rw [t_add h4 (t_pow h3 (by omega)) (by omega) (by omega)]
      omega
    rintro x2 σ ⟨-, rfl⟩
    exact ⟨fun _ => ih (k + 2 ^ o) _ _ h4' (by omega) (by omega), fun _ => ih (k + 2 ^ o) _ _ h4' (by omega) (by omega)⟩
theorem l_greatestIn4 {a1 : Int32} {s : Nat} (h1 : a1.toInt = s) (hs : s < 8) (σ : sm_S) : ∀ (d o : Nat) (a2 a3 : Int32) (v4 : Value), a3.toInt = o → o + d = 6 → xE xM m_M_greatestIn 4 [.ref 0, .int a1, .int a2, .int a3, v4] [] σ (sm_I (fun _ σ' => σ' = σ)) := by
  intro d
  induction d with
  | zero =>
    intro o a2 a3 v4 h3 ho
    refine w_M_greatestIn_4 a1 a2 a3 v4 σ _ ⟨fun _ => ⟨_, rfl, rfl⟩, fun h => absurd ?_ h⟩
    rw [t_lt, h3]
    show (5 : Int) < _
    omega
  | succ d ih =>
    intro o a2 a3 v4 h3 ho
    have h3' : (a3 + 1).toInt = ((o + 1 : Nat) : Int) := by
      rw [t_add h3 (y := 1) rfl (by omega) (by omega)]
      omega
    exact w_M_greatestIn_4 a1 a2 a3 v4 σ _ ⟨fun _ => ⟨_, rfl, rfl⟩, fun _ => l_greatestIn15 h1 hs (by omega) h3 (fun b2 w4 => ih (o + 1) b2 (a3 + 1) w4 h3' (by omega)) 32 0 a2 _ (t_32s h1 hs) (by omega) (by omega)⟩
theorem c_greatestIn {a1 : Int32} {s : Nat} (h1 : a1.toInt = s) (hs : s < 8) (σ : sm_S) : xC xM j_M_greatestIn [.ref 0, .int a1] σ (sm_I (fun _ σ' => σ' = σ)) :=
  w_M_greatestIn a1 σ _ (l_greatestIn4 h1 hs σ 6 0 _ _ _ rfl rfl)
theorem c_pressed {N : Nat} (a1 : Int32) (σ : sm_S) (hj : jj N (σ 1)) : xC xM j_M_pressed [.ref 0, .int a1] σ (sm_I (pubX N 0 σ)) := by
  refine w_M_pressed a1 σ _ (fun σ1 e1 => (c_isSpan a1 σ1).int ?_)
  have hj1 : jj N (σ1 1) := by rw [e1, s_ne (by decide)]; exact hj
  rintro x3 σ1 ⟨hx3, rfl⟩
  refine ⟨fun _ => ⟨_, rfl, pub_X (pub_keep hj e1)⟩, fun n3 => ?_⟩
  obtain ⟨-, s, hs, h1⟩ := hx3.resolve_right (fun z => n3 z.1)
  refine (c_spanState h1 hs _).int ?_
  rintro x5 σ1 ⟨-, rfl⟩
  refine ⟨fun _ => (c_thinks _).void ?_, fun _ => ⟨_, rfl, pub_X (pub_keep hj e1)⟩⟩
  rintro _ ⟨f, rfl, hf⟩
  have hf' : ∀ i, i < 2662 → f i = σ 1 i := fun i hi => by rw [hf i hi, e1, s_ne (by decide)]
  refine (c_presses (N := N) h1 hs _ (by rw [s_ne (by decide)]; exact hj1)).int ?_
  rintro x8 σ7 ⟨-, k7⟩
  refine (c_greatestIn h1 hs _).int ?_
  rintro x10 σ7 rfl
  refine (c_forgets _).void ?_
  rintro _ ⟨g, rfl, hg⟩
  exact ⟨_, rfl, pub_th hj e1 hf' (by rw [k7 2 (by decide) (by decide), s_at]) (fun k k1 k2 k4 => by rw [k7 k k1 k4, s_ne k2]) hg⟩
theorem l_keepsWhy {a1 a2 : Int32} {n o t : Nat} (h1 : a1.toInt = n) (hn : n < 96) (σ : sm_S) (ho : (σ 1 (786 + 16 * n + 2)).toInt = o) (ho4 : o ≤ 4) (ht : (σ 1 (786 + 16 * n + 4)).toInt = t) (ht6 : t < 6) : ∀ (d k : Nat) (a3 : Int32), a3.toInt = k → 256 ≤ k + d → k < 300 → xE xM m_M_keepsWhy 36 [.ref 0, .int a1, .int a2, .int a3] [] σ (sm_I (fun _ σ' => σ' = σ)) := by
  have hpw := t_pw (k := o) (by omega)
  have hp16 : 2 ^ o ≤ 16 := by
    have := Nat.pow_le_pow_right (n := 2) (by decide) ho4
    omega
  intro d
  induction d with
  | zero =>
    intro k a3 h3 hk hk2
    refine w_M_keepsWhy_36 a1 a2 a3 σ _ ⟨fun _ => ⟨_, rfl, rfl⟩, fun h => absurd ?_ h⟩
    rw [t_le, h3]
    show (256 : Int) ≤ _
    omega
  | succ d ih =>
    intro k a3 h3 hk hk2
    refine w_M_keepsWhy_36 a1 a2 a3 σ _ ⟨fun _ => ⟨_, rfl, rfl⟩, fun h => ?_⟩
    rw [t_le, h3] at h
    have h : ¬ (256 : Int) ≤ k := h
    have next : xC xM j_M_longOf [.ref 0, .int a1] σ (sm_ri False (fun x4 σ3 => xE xM m_M_keepsWhy 36 [.ref 0, .int a1, .int a2, .int (a3 + x4)] [] σ3 (sm_I (fun _ σ' => σ' = σ)))) := by
      refine (c_longOf h1 hn σ).int ?_
      rintro x4 σ ⟨hx4, rfl⟩
      refine ih (k + 2 ^ o) _ ?_ (by omega) (by omega)
      rw [t_add h3 (y := ((2 ^ o : Nat) : Int)) (by rw [hx4]; exact t_pow ho (by omega)) (by omega) (by omega)]
      omega
    refine (c_spanOf h3 σ).int ?_
    rintro x2 σ ⟨hx2, rfl⟩
    refine ⟨fun _ => next, fun _ => (c_spanOf h3 _).int ?_⟩
    rintro x6 σ ⟨hx6, rfl⟩
    refine (c_spanState hx6 (by omega) _).int ?_
    rintro x8 σ ⟨-, rfl⟩
    refine ⟨fun _ => next, fun _ => (c_spanOf h3 _).int ?_⟩
    rintro x12 σ ⟨hx12, rfl⟩
    refine (c_of (k := 3) (j := 3) h1 rfl (by omega) _).int ?_
    rintro x14 σ ⟨-, rfl⟩
    refine (c_of (k := 4) (j := 4) h1 rfl (by omega) _).int ?_
    rintro x16 σ ⟨hx16, rfl⟩
    refine (c_rankOf (m := t) hx12 (by omega) (by rw [hx16]; exact ht) ht6 _).int ?_
    rintro x18 σ ⟨-, -, rfl⟩
    refine ⟨fun _ => next, fun _ => (c_of (k := 2) (j := 2) h1 rfl (by omega) _).int ?_⟩
    rintro x22 σ ⟨hx22, rfl⟩
    refine (c_areFree (k := o) h3 (by omega) (by rw [hx22]; exact ho) (by omega) _).int ?_
    rintro x24 σ ⟨-, rfl⟩
    exact ⟨fun _ => next, fun _ => ⟨_, rfl, rfl⟩⟩
theorem c_keepsWhy {a1 a2 : Int32} {n N : Nat} (h1 : a1.toInt = n) (hn : n < 96) (σ : sm_S) (hj : jj N (σ 1)) : xC xM j_M_keepsWhy [.ref 0, .int a1, .int a2] σ (sm_I (fun _ σ' => σ' = σ)) := by
  obtain ⟨o, fr, b1, b2, b3, b4, b5, ⟨t, b6, b6'⟩, -⟩ := hj.2.1.1 n hn
  refine w_M_keepsWhy a1 a2 σ _ ((c_of (k := 3) (j := 3) h1 rfl (by omega) σ).int ?_)
  rintro x2 σ ⟨-, rfl⟩
  refine ⟨fun _ => (c_isPinned h1 hn _).int ?_, fun _ => ⟨_, rfl, rfl⟩⟩
  rintro x4 σ ⟨-, rfl⟩
  refine ⟨fun _ => (c_of (k := 3) (j := 3) h1 rfl (by omega) _).int ?_, fun _ => ⟨_, rfl, rfl⟩⟩
  rintro x6 σ ⟨-, rfl⟩
  exact ⟨fun _ => l_keepsWhy h1 hn _ b1 b2 b6 b6' 256 0 0 rfl (by omega) (by omega), fun _ => ⟨_, rfl, rfl⟩⟩
theorem l_keeperAt {a1 a2 : Int32} {s N : Nat} (h1 : a1.toInt = s) (hs : s < 8) (σ : sm_S) (hj : jj N (σ 1)) : ∀ (d c fm : Nat) (a3 a4 : Int32), a3.toInt = c → c ≤ fm → fm ≤ 32 → 32 ≤ fm + d → fbk (σ 1) s fm a4 → xE xM m_M_keeperAt 10 [.ref 0, .int a1, .int a2, .int a3, .int a4] [] σ (sm_I (fun x σ' => (a2 = -1 → ∃ m : Nat, m ≤ 32 ∧ x.toInt = m) ∧ (a2 ≠ -1 → ∃ m : Nat, m ≤ 96 ∧ x.toInt = (m : Int) - 1) ∧ σ' = σ)) := by
  have stop : ∀ (a3 : Int32) (c : Nat), a3.toInt = c → c ≤ 32 → ((a2 ≠ -1 → sm_I (fun x σ' => (a2 = -1 → ∃ m : Nat, m ≤ 32 ∧ x.toInt = m) ∧ (a2 ≠ -1 → ∃ m : Nat, m ≤ 96 ∧ x.toInt = (m : Int) - 1) ∧ σ' = σ) (some (.int (-1))) σ) ∧ (¬ (a2 ≠ -1) → sm_I (fun x σ' => (a2 = -1 → ∃ m : Nat, m ≤ 32 ∧ x.toInt = m) ∧ (a2 ≠ -1 → ∃ m : Nat, m ≤ 96 ∧ x.toInt = (m : Int) - 1) ∧ σ' = σ) (some (.int a3)) σ)) := by
    intro a3 c h3 hc
    exact ⟨fun hne => ⟨_, rfl, fun z => absurd z hne, fun _ => ⟨0, by omega, rfl⟩, rfl⟩, fun he => ⟨_, rfl, fun _ => ⟨c, hc, h3⟩, fun z => absurd z he, rfl⟩⟩
  intro d
  induction d with
  | zero =>
    intro c fm a3 a4 h3 hc hfm hd hfb
    refine w_M_keeperAt_10 a1 a2 a3 a4 σ _ ⟨fun _ => stop a3 c h3 (by omega), fun h => ?_⟩
    obtain ⟨n, fr, k1, k2, k3, k4, k5, k6, k7, -⟩ := hfb.resolve_left h
    omega
  | succ d ih =>
    intro c fm a3 a4 h3 hc hfm hd hfb
    refine w_M_keeperAt_10 a1 a2 a3 a4 σ _ ⟨fun _ => stop a3 c h3 (by omega), fun h => ?_⟩
    obtain ⟨n, fr, k1, k2, k3, k4, k5, k6, k7, -⟩ := hfb.resolve_left h
    have next : ∀ (b3 : Int32) (c' : Nat), b3.toInt = c' → c' ≤ fm + 1 → xC xM j_M_frameOf [.ref 0, .int a4] σ (sm_ri False (fun x4 σ3 => (¬ (32 : Int32) = 0 ∧ xC xM j_M_firstBlock [.ref 0, .int a1, .int ((x4 - x4 / (32 : Int32) * (32 : Int32)) + 1)] σ3 (sm_ri False (fun x6 σ5 => xE xM m_M_keeperAt 10 [.ref 0, .int a1, .int a2, .int b3, .int x6] [] σ5 (sm_I (fun x σ' => (a2 = -1 → ∃ m : Nat, m ≤ 32 ∧ x.toInt = m) ∧ (a2 ≠ -1 → ∃ m : Nat, m ≤ 96 ∧ x.toInt = (m : Int) - 1) ∧ σ' = σ))))))) := by
      intro b3 c' hb3 hc'
      refine (c_frameOf k1 k2 σ).int ?_
      rintro x4 σ ⟨hx4, rfl⟩
      have hr : (x4 - x4 / 32 * 32).toInt = ((fr % 32 : Nat) : Int) := t_rem (d := 32) (by rw [hx4]; exact k4) rfl (by decide)
      have hr1 : (x4 - x4 / 32 * 32 + 1).toInt = ((fr % 32 + 1 : Nat) : Int) := by
        rw [t_add hr (y := 1) rfl (by omega) (by omega)]
        omega
      refine ⟨by decide, (c_firstBlock h1 hs hr1 (by omega) _ hj).int ?_⟩
      rintro x6 σ ⟨hx6, rfl⟩
      exact ih c' (fr % 32 + 1) b3 x6 hb3 (by omega) (by omega) (by omega) hx6
    refine (c_keepsWhy k1 k2 σ hj).int ?_
    rintro x2 σ rfl
    refine ⟨fun _ => ⟨fun _ => next (a3 + 1) (c + 1) ?_ (by omega), fun he => ⟨_, rfl, fun z => ?_, fun _ => ⟨n + 1, by omega, by rw [k1]; omega⟩, rfl⟩⟩, fun _ => next a3 c h3 (by omega)⟩
    · rw [t_add h3 (y := 1) rfl (by omega) (by omega)]
      omega
    · have he : a3 = a2 := Classical.not_not.mp he
      rw [he, z] at h3
      have h3 : (-1 : Int) = c := h3
      omega
theorem c_keeperAt {a1 a2 : Int32} {s N : Nat} (h1 : a1.toInt = s) (hs : s < 8) (σ : sm_S) (hj : jj N (σ 1)) : xC xM j_M_keeperAt [.ref 0, .int a1, .int a2] σ (sm_I (fun x σ' => (a2 = -1 → ∃ m : Nat, m ≤ 32 ∧ x.toInt = m) ∧ (a2 ≠ -1 → ∃ m : Nat, m ≤ 96 ∧ x.toInt = (m : Int) - 1) ∧ σ' = σ)) := by
  refine w_M_keeperAt a1 a2 σ _ ((c_firstBlock (fm := 0) h1 hs rfl (by omega) σ hj).int ?_)
  rintro x2 σ ⟨hx2, rfl⟩
  exact l_keeperAt h1 hs _ hj 32 0 0 0 x2 rfl (Nat.le_refl 0) (by omega) (by omega) hx2
theorem c_keeps {N : Nat} (a1 a2 a3 : Int32) (σ : sm_S) (hj : jj N (σ 1)) : xC xM j_M_keeps [.ref 0, .int a1, .int a2, .int a3] σ (sm_I (pubX N 0 σ)) := by
  refine w_M_keeps a1 a2 a3 σ _ (fun σ1 e1 => (c_isSpan a1 σ1).int ?_)
  have hj1 : jj N (σ1 1) := by rw [e1, s_ne (by decide)]; exact hj
  rintro x3 σ1 ⟨hx3, rfl⟩
  have keep : ∀ y : Int32, sm_I (pubX N 0 σ) (some (.int y)) σ1 := fun y => ⟨_, rfl, pub_X (pub_keep hj e1)⟩
  refine ⟨fun n3 => ?_, fun _ => keep _⟩
  obtain ⟨-, s, hs, h1⟩ := hx3.resolve_right (fun z => n3 z.1)
  refine ⟨fun n2 => ⟨fun _ => (c_keeperAt h1 hs _ hj1).int ?_, fun _ => ⟨fun z => absurd rfl z, fun _ => keep _⟩⟩, fun _ => (c_keeperAt h1 hs _ hj1).int ?_⟩
  · rintro x5 σ1 ⟨-, g2, rfl⟩
    refine ⟨fun n5 => ?_, fun _ => keep _⟩
    obtain ⟨m, m1, m2⟩ := g2 n2
    have hm0 : m ≠ 0 := fun z => n5 (t_inj (by rw [m2, z]; rfl))
    have hx5 : x5.toInt = ((m - 1 : Nat) : Int) := by rw [m2]; omega
    refine ⟨fun _ => ⟨fun _ => ⟨fun _ => ⟨fun _ => keep _, fun _ => (c_of (k := 5) (j := 5) hx5 rfl (by omega) _).int ?_⟩, fun _ => (c_of (k := 4) (j := 4) hx5 rfl (by omega) _).int ?_⟩, fun _ => (c_keepsWhy hx5 (by omega) _ hj1).int ?_⟩, fun _ => keep _⟩
    · rintro y σ1 ⟨-, rfl⟩; exact keep _
    · rintro y σ1 ⟨-, rfl⟩; exact keep _
    · rintro y σ1 rfl; exact keep _
  · rintro x19 σ1 ⟨-, -, rfl⟩
    exact keep _
theorem l_holders {a1 : Int32} {s N : Nat} (h1 : a1.toInt = s) (hs : s < 8) (σ : sm_S) (hj : jj N (σ 1)) : ∀ (d k : Nat) (a2 a3 : Int32) (v4 : Value), a3.toInt = k → 33 ≤ k + d → k ≤ 40 → xE xM m_M_holders 19 [.ref 0, .int a1, .int a2, .int a3, v4] [] σ (sm_I (fun _ σ' => σ' = σ)) := by
  intro d
  induction d with
  | zero =>
    intro k a2 a3 v4 h3 hk hk2
    refine w_M_holders_19 a1 a2 a3 v4 σ _ ((c_keeperAt h1 hs σ hj).int ?_)
    rintro x2 σ ⟨g1, -, rfl⟩
    obtain ⟨m, m1, m2⟩ := g1 rfl
    exact ⟨fun _ => ⟨_, rfl, rfl⟩, fun h => absurd (by rw [t_le, m2, h3]; omega) h⟩
  | succ d ih =>
    intro k a2 a3 v4 h3 hk hk2
    refine w_M_holders_19 a1 a2 a3 v4 σ _ ((c_keeperAt h1 hs σ hj).int ?_)
    rintro x2 σ ⟨g1, -, rfl⟩
    obtain ⟨m, m1, m2⟩ := g1 rfl
    refine ⟨fun _ => ⟨_, rfl, rfl⟩, fun h => (c_keeperAt h1 hs _ hj).int ?_⟩
    rw [t_le, m2, h3] at h
    have h3' : (a3 + 1).toInt = ((k + 1 : Nat) : Int) := by
      rw [t_add h3 (y := 1) rfl (by omega) (by omega)]
      omega
    rintro x4 σ ⟨-, g2, rfl⟩
    obtain ⟨m', n1, n2⟩ := g2 (fun z => by rw [z] at h3; have h3 : (-1 : Int) = k := h3; omega)
    refine (c_ofm (k := 3) (j := 3) n2 n1 rfl (by omega) _).int ?_
    rintro x6 σ ⟨-, rfl⟩
    refine ⟨fun _ => (c_ofm (k := 5) (j := 5) n2 n1 rfl (by omega) _).int ?_, fun _ => (c_ofm (k := 4) (j := 4) n2 n1 rfl (by omega) _).int ?_⟩
    · rintro x8 σ ⟨-, rfl⟩
      exact ih (k + 1) _ _ _ h3' (by omega) (by omega)
    · rintro x10 σ ⟨-, rfl⟩
      refine (c_ofm (k := 5) (j := 5) n2 n1 rfl (by omega) _).int ?_
      rintro x12 σ ⟨-, rfl⟩
      exact ih (k + 1) _ _ _ h3' (by omega) (by omega)
theorem c_holders {N : Nat} (a1 : Int32) (σ : sm_S) (hj : jj N (σ 1)) : xC xM j_M_holders [.ref 0, .int a1] σ (sm_I (pubX N 0 σ)) := by
  refine w_M_holders a1 σ _ (fun σ1 e1 => (c_isSpan a1 σ1).int ?_)
  have hj1 : jj N (σ1 1) := by rw [e1, s_ne (by decide)]; exact hj
  rintro x3 σ1 ⟨hx3, rfl⟩
  refine ⟨fun n3 => ?_, fun _ => ⟨_, rfl, pub_X (pub_keep hj e1)⟩⟩
  obtain ⟨-, s, hs, h1⟩ := hx3.resolve_right (fun z => n3 z.1)
  refine (l_holders h1 hs _ hj1 33 0 _ _ _ rfl (by omega) (by omega)).mono ?_
  rintro r σ' ⟨x, rfl, rfl⟩
  exact ⟨x, rfl, pub_X (pub_keep hj e1)⟩
end
