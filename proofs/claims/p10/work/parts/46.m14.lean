/-! ===== the model: press, gather ===== -/
def k14 (σ σ' : sm_S) : Prop := ∀ k, k ≠ 1 → k ≠ 4 → σ' k = σ k
theorem k14.rf {σ : sm_S} : k14 σ σ := fun _ _ _ => rfl
theorem k14.tr {a b c : sm_S} (h1 : k14 a b) (h2 : k14 b c) : k14 a c := fun k g1 g2 => (h2 k g1 g2).trans (h1 k g1 g2)
theorem k14.s1 {σ : sm_S} {w : Nat → Int32} : k14 σ (sm_set σ 1 w) := fun k h1 _ => s_ne h1
theorem k14.s4 {σ : sm_S} {w : Nat → Int32} : k14 σ (sm_set σ 4 w) := fun k _ h4 => s_ne h4
def nDone (σ : sm_S) (b : Nat) : Bool := decide (σ 4 b = 0)
theorem t_32s {a : Int32} {s : Nat} (h : a.toInt = s) (hs : s < 8) : (32 * a).toInt = ((32 * s : Nat) : Int) := by
  rw [t_mul (x := 32) rfl h (by omega) (by omega)]
  omega
theorem l_presses47 {a1 : Int32} {s n N m fr o : Nat} (h1 : a1.toInt = s) (hs : s < 8) (hn : n < 96)
    (ihO : ∀ (a2 a3 : Int32) (v4 : Value) (σ : sm_S), cn (nDone σ) 96 ≤ m → jj N (σ 1) → toPress σ s a3 → xE xM m_M_presses 29 [.ref 0, .int a1, .int a2, .int a3, v4] [] σ (sm_I (fun _ σ' => jj N (σ' 1) ∧ k14 σ σ'))) :
    ∀ (d f0 : Nat) (a2 a3 a4 : Int32) (σ : sm_S), a3.toInt = n → a4.toInt = f0 → f0 < 400 → f0 % 2 ^ o = 0 → fr ≤ f0 + d → cn (nDone σ) 96 ≤ m → jj N (σ 1) → σ 1 (786 + 16 * n + 6) = 0 → σ 1 (786 + 16 * n + 0) = 1 → (σ 1 (786 + 16 * n + 1)).toInt = fr → (σ 1 (786 + 16 * n + 2)).toInt = o → o ≤ 4 → fr < 256 →
    xE xM m_M_presses 47 [.ref 0, .int a1, .int a2, .int a3, .int a4] [] σ (sm_I (fun _ σ' => jj N (σ' 1) ∧ k14 σ σ')) := by
  intro d
  induction d with
  | zero =>
    intro f0 a2 a3 a4 σ h3 h4 hf4 hal hd hc hj h6 hI hfr ho ho4 hfr2
    refine w_M_presses_47 a1 a2 a3 a4 σ _ ((c_frameOf h3 hn σ).int ?_)
    rintro x σ ⟨hx, rfl⟩
    have hxf : x.toInt = fr := by rw [hx]; exact hfr
    refine ⟨fun _ => (c_frameOf h3 hn _).int ?_, fun h => absurd (by rw [t_le, hxf, h4]; omega) h⟩
    rintro x2 σ ⟨hx2, rfl⟩
    have hxf2 : x2.toInt = fr := by rw [hx2]; exact hfr
    refine ⟨fun h => ?_, fun _ => (c_nextToPress h1 _ hj).int ?_⟩
    · rw [t_lt, hxf2, h4] at h; omega
    · rintro y σ ⟨hy, rfl⟩
      exact ihO _ _ _ _ hc hj hy
  | succ d ih =>
    intro f0 a2 a3 a4 σ h3 h4 hf4 hal hd hc hj h6 hI hfr ho ho4 hfr2
    have hpw := t_pw (k := o) (by omega)
    have hmv : ∀ (a2 : Int32) (v4 : Value), f0 < fr → xC xM j_M_movesTo [.ref 0, .int a3, .int a4] σ (sm_rv False (fun σ5 => xC xM j_M_nextToPress [.ref 0, .int a1] σ5 (sm_ri False (fun x7 σ6 => xE xM m_M_presses 29 [.ref 0, .int a1, .int a2, .int x7, v4] [] σ6 (sm_I (fun _ σ' => jj N (σ' 1) ∧ k14 σ σ')))))) := by
      intro a2 v4 hlt
      refine (c_movesTo h3 hn h4 (by omega) σ ho hal h6 hI hj).void ?_
      rintro _ ⟨w, rfl, hw, -⟩
      have hj2 : jj N ((sm_set σ 1 w) 1) := by rw [s_at]; exact hw
      refine (c_nextToPress h1 _ hj2).int ?_
      rintro y σ2 ⟨hy, rfl⟩
      have hc2 : cn (nDone (sm_set σ 1 w)) 96 ≤ m := by
        have : nDone (sm_set σ 1 w) = nDone σ := by funext b; unfold nDone; rw [s_ne (by decide)]
        rw [this]; exact hc
      refine (ihO a2 y v4 _ hc2 hj2 hy).mono ?_
      rintro r σ' ⟨z, rfl, g1, g2⟩
      exact ⟨z, rfl, g1, k14.s1.tr g2⟩
    have hno : ∀ (a2 : Int32) (v4 : Value), xC xM j_M_nextToPress [.ref 0, .int a1] σ (sm_ri False (fun x7 σ6 => xE xM m_M_presses 29 [.ref 0, .int a1, .int a2, .int x7, v4] [] σ6 (sm_I (fun _ σ' => jj N (σ' 1) ∧ k14 σ σ')))) := by
      intro a2 v4
      refine (c_nextToPress h1 _ hj).int ?_
      rintro y σ ⟨hy, rfl⟩
      exact ihO _ _ _ _ hc hj hy
    refine w_M_presses_47 a1 a2 a3 a4 σ _ ((c_frameOf h3 hn σ).int ?_)
    rintro x σ ⟨hx, rfl⟩
    have hxf : x.toInt = fr := by rw [hx]; exact hfr
    refine ⟨fun hle => (c_frameOf h3 hn _).int ?_, fun hlt => (c_of (k := 2) (j := 2) h3 rfl (by omega) _).int ?_⟩
    · rintro x2 σ ⟨hx2, rfl⟩
      have hxf2 : x2.toInt = fr := by rw [hx2]; exact hfr
      refine ⟨fun h => ?_, fun _ => hno _ _⟩
      rw [t_lt, hxf2, h4] at h
      rw [t_le, hxf, h4] at hle
      omega
    · rw [t_le, hxf, h4] at hlt
      rintro x2 σ ⟨hx2, rfl⟩
      have hxo : x2.toInt = o := by rw [hx2]; exact ho
      refine (c_areFree h4 (by omega) hxo (by omega) _).int ?_
      rintro x3 σ ⟨-, rfl⟩
      refine ⟨fun _ => (c_frameOf h3 hn _).int ?_, fun _ => (c_longOf h3 hn _).int ?_⟩
      · rintro x4 σ ⟨hx4, rfl⟩
        have hxf4 : x4.toInt = fr := by rw [hx4]; exact hfr
        exact ⟨fun _ => hmv _ _ (by omega), fun h => absurd (by rw [t_lt, hxf4, h4]; omega) h⟩
      · rintro _ σ ⟨rfl, rfl⟩
        have h4' : (a4 + ((1 : Int32) <<< (σ 1 (786 + 16 * n + 2) &&& 31))).toInt = ((f0 + 2 ^ o : Nat) : Int) := by
          rw [t_add h4 (t_pow ho (by omega)) (by omega) (by omega)]
          omega
        exact ih (f0 + 2 ^ o) a2 a3 _ _ h3 h4' (by omega) (by rw [Nat.add_mod_right]; exact hal) (by omega) hc hj h6 hI hfr ho ho4 hfr2
theorem t_m32 {s o : Nat} (ho : o ≤ 4) : (32 * s) % 2 ^ o = 0 := by
  rcases (show o = 0 ∨ o = 1 ∨ o = 2 ∨ o = 3 ∨ o = 4 by omega) with rfl | rfl | rfl | rfl | rfl <;> simp only [Nat.reducePow] <;> omega
theorem l_presses29 {a1 : Int32} {s N : Nat} (h1 : a1.toInt = s) (hs : s < 8) : ∀ (m : Nat) (a2 a3 : Int32) (v4 : Value) (σ : sm_S), cn (nDone σ) 96 ≤ m → jj N (σ 1) → toPress σ s a3 → xE xM m_M_presses 29 [.ref 0, .int a1, .int a2, .int a3, v4] [] σ (sm_I (fun _ σ' => jj N (σ' 1) ∧ k14 σ σ')) := by
  intro m
  induction m with
  | zero =>
    intro a2 a3 v4 σ hc hj h3
    refine w_M_presses_29 a1 a2 a3 v4 σ _ ⟨fun _ => ⟨_, rfl, hj, k14.rf⟩, fun ha => ?_⟩
    obtain ⟨n, e1, e2, e3, -⟩ := h3.resolve_left ha
    have := cn_lt (P := nDone σ) (P' := fun _ => false) (j := n) (by simpa [nDone] using e3) rfl (N := 96) e2 (fun i _ h => by cases h)
    omega
  | succ m ih =>
    intro a2 a3 v4 σ hc hj h3
    refine w_M_presses_29 a1 a2 a3 v4 σ _ ⟨fun _ => ⟨_, rfl, hj, k14.rf⟩, fun ha => ?_⟩
    obtain ⟨n, e1, e2, e3, e4, eI, fr, e5, e6⟩ := h3.resolve_left ha
    refine ⟨t_vp e1 e2, Or.inr rfl, fun σ1 es => ?_⟩
    rw [t_nat e1] at es
    obtain ⟨o, fr2, b1, b2, b3, b4, b5, -⟩ := hj.2.1.1 n e2
    have hff : fr2 = fr := by rw [e5] at b3; omega
    subst hff
    have hj1 : σ1 1 = σ 1 := by rw [es, s_ne (by decide)]
    have hlt : cn (nDone σ1) 96 < cn (nDone σ) 96 := by
      refine cn_lt (j := n) (by simpa [nDone] using e3) (by simp only [nDone, es, s_at, u_at]; decide) e2 (fun i hi h => ?_)
      by_cases hin : i = n
      · subst hin; simpa [nDone] using e3
      · simp only [nDone, es, s_at, decide_eq_true_eq] at h ⊢
        rw [u_ne hin] at h
        exact h
    refine (l_presses47 (fr := fr2) (o := o) (n := n) (m := m) h1 hs e2 ih 256 (32 * s) a2 a3 (32 * a1) σ1 e1 (t_32s h1 hs) (by omega) (t_m32 b2) (by omega) (by omega) (by rw [hj1]; exact hj) (by rw [hj1]; exact t_to0 (hj.2.1.1 n e2) e4) (by rw [hj1]; exact eI) (by rw [hj1]; exact e5) (by rw [hj1]; exact b1) b2 b4).mono ?_
    rintro r σ' ⟨z, rfl, g1, g2⟩
    exact ⟨z, rfl, g1, (by rw [es]; exact k14.s4 : k14 σ σ1).tr g2⟩
theorem l_presses4 {a1 a2 : Int32} {s N : Nat} (h1 : a1.toInt = s) (hs : s < 8) : ∀ (d k : Nat) (a3 : Int32) (v4 : Value) (σ : sm_S), a3.toInt = k → k + d = 96 → jj N (σ 1) → xE xM m_M_presses 4 [.ref 0, .int a1, .int a2, .int a3, v4] [] σ (sm_I (fun _ σ' => jj N (σ' 1) ∧ k14 σ σ')) := by
  intro d
  induction d with
  | zero =>
    intro k a3 v4 σ h3 hk hj
    refine w_M_presses_4 a1 a2 a3 v4 σ _ ⟨fun _ => (c_nextToPress h1 _ hj).int ?_, fun h => absurd ?_ h⟩
    · rintro y σ ⟨hy, rfl⟩
      exact l_presses29 h1 hs 96 _ _ _ _ cn_bd hj hy
    · rw [t_le, h3]
      show (96 : Int) ≤ _
      omega
  | succ d ih =>
    intro k a3 v4 σ h3 hk hj
    have h3' : (a3 + 1).toInt = ((k + 1 : Nat) : Int) := by
      rw [t_add h3 (y := 1) rfl (by omega) (by omega)]
      omega
    refine w_M_presses_4 a1 a2 a3 v4 σ _ ⟨fun h => ?_, fun _ => ⟨t_vp h3 (by omega), Or.inl rfl, fun σ1 es => ?_⟩⟩
    · rw [t_le, h3] at h
      have h : (96 : Int) ≤ k := h
      omega
    · refine (ih (k + 1) (a3 + 1) v4 σ1 h3' (by omega) (by rw [es, s_ne (by decide)]; exact hj)).mono ?_
      rintro r σ' ⟨z, rfl, g1, g2⟩
      exact ⟨z, rfl, g1, (by rw [es]; exact k14.s4 : k14 σ σ1).tr g2⟩
theorem c_presses {a1 : Int32} {s N : Nat} (h1 : a1.toInt = s) (hs : s < 8) (σ : sm_S) (hj : jj N (σ 1)) : xC xM j_M_presses [.ref 0, .int a1] σ (sm_I (fun _ σ' => jj N (σ' 1) ∧ k14 σ σ')) :=
  w_M_presses a1 σ _ (l_presses4 h1 hs 96 0 0 _ σ rfl rfl hj)
theorem X_k14 {N : Nat} {σ σ1 σ' : sm_S} {x : Int32} (e1 : σ1 = sm_set σ 0 (upd (σ 0) 0 0)) (hj : jj N (σ' 1)) (hk : k14 σ1 σ') : pubX N 0 σ x σ' := by
  refine ⟨N, hj, Nat.le_refl N, Nat.le_refl N, ?_, ?_, fun k h => ?_⟩
  · rw [hk 5 (by decide) (by decide), e1, s_ne (by decide)]
  · rw [hk 0 (by decide) (by decide), e1, s_at, u_ne (by decide)]
  · rw [hk k (by omega) (by omega), e1, s_ne (by omega)]
theorem c_press {N : Nat} (a1 : Int32) (σ : sm_S) (hj : jj N (σ 1)) : xC xM j_M_press [.ref 0, .int a1] σ (sm_I (pubX N 0 σ)) := by
  refine w_M_press a1 σ _ (fun σ1 e1 => (c_isSpan a1 σ1).int ?_)
  have hj1 : jj N (σ1 1) := by rw [e1, s_ne (by decide)]; exact hj
  rintro x1 σ1 ⟨hx1, rfl⟩
  refine ⟨fun _ => ⟨_, rfl, pub_X (pub_keep hj e1)⟩, fun n1 => ?_⟩
  obtain ⟨-, s, hs, h1⟩ := hx1.resolve_right (fun z => n1 z.1)
  refine (c_spanState h1 hs _).int ?_
  rintro x2 σ1 ⟨-, rfl⟩
  refine ⟨fun _ => ⟨_, rfl, pub_X (pub_keep hj e1)⟩, fun _ => (c_presses h1 hs _ hj1).int ?_⟩
  rintro x3 σ' ⟨g1, g2⟩
  exact ⟨_, rfl, X_k14 e1 g1 g2⟩
