/-! ===== the model: take, free ===== -/
theorem sm_C.det {TB : List (List Int32)} {MS : List sm_M} {SH : List sm_Sh} {j : Nat} {as : List Value} {σ : sm_S} {P : Int32 → sm_S → Prop} (h : sm_C TB MS SH j as σ (sm_I P)) : ∃ x0, sm_C TB MS SH j as σ (sm_I (fun x σ' => x = x0 ∧ P x σ')) := by
  obtain ⟨M, h1, n, r, σ', h2, x, rfl, hx⟩ := h
  exact ⟨x, M, h1, n, _, σ', h2, x, rfl, rfl, hx⟩
def isB (v : Nat → Int32) (b : Nat) : Bool := decide (v (786 + 16 * b + 0) = 1)
/-- counts and the log's number aside, nothing of jj lies below 18 -/
theorem jj_low {v : Nat → Int32} {N i : Nat} {x : Int32} (hi : i < 18) (h5 : i ≠ 5) (hj : jj N v) : jj N (upd v i x) :=
  ⟨fr_cong (fun i h1 h2 => u_ne (by omega)) (fun n k hn hk => u_ne (by omega)) hj.1, jr_cong (ceq_upd (Or.inl (by omega))) hj.2.1, by rw [u_ne (by omega)]; exact hj.2.2⟩
theorem jj_fr {v v' : Nat → Int32} {N : Nat} (hF : fr_ok v') (he : fr_eq v v') (hj : jj N v) : jj N v' :=
  ⟨hF, jr_cong (ceq.fr he) hj.2.1, by rw [he 5 (by omega)]; exact hj.2.2⟩
theorem l_take135 {a1 a2 a3 a4 a5 a6 : Int32} {o fr N : Nat} (h5 : a5.toInt = fr) (hfr : fr < 256) (h3 : a3.toInt = o) (ho : o ≤ 4) (hal : fr % 2 ^ o = 0) : ∀ (d k : Nat) (a7 : Int32) (σ : sm_S), a7.toInt = k → k + d = 2 ^ o → jj N (σ 1) →
    xE xM m_M_take 135 [.ref 0, .int a1, .int a2, .int a3, .int a4, .int a5, .int a6, .int a7] [] σ (sm_I (fun x σ' => ∃ v, σ' = sm_set σ 1 v ∧ jj N v)) := by
  have hp := t_pw (k := o) (by omega)
  have hsp := t_al (k := o) (by omega) hal
  intro d
  induction d with
  | zero =>
    intro k a7 σ h7 hk hj
    refine w_M_take_135 a1 a2 a3 a4 a5 a6 a7 σ _ ⟨fun _ => (c_counts (k := 0) (j := 0) rfl (by omega) 1 σ).void ?_, fun h => absurd ?_ h⟩
    · rintro _ rfl
      exact ⟨_, rfl, _, rfl, jj_low (by omega) (by omega) hj⟩
    · rw [t_le, t_pow h3 (by omega), h7]
      omega
  | succ d ih =>
    intro k a7 σ h7 hk hj
    have h7' : (a7 + 1).toInt = ((k + 1 : Nat) : Int) := by
      rw [t_add h7 (y := 1) rfl (by omega) (by omega)]
      omega
    have hf3 := t_add h5 h7 (by omega) (by omega)
    rw [← Int.natCast_add] at hf3
    refine w_M_take_135 a1 a2 a3 a4 a5 a6 a7 σ _ ⟨fun h => ?_, fun _ => (c_lays' hf3 (by omega) σ hj.1).void ?_⟩
    · rw [t_le, t_pow h3 (by omega), h7] at h
      omega
    · rintro _ ⟨v, rfl, g1, g2, -⟩
      refine (ih (k + 1) (a7 + 1) _ h7' (by omega) (by rw [s_at]; exact jj_fr g1 g2 hj)).mono ?_
      rintro r σ' ⟨x, rfl, w, rfl, hw⟩
      exact ⟨x, rfl, w, s_ss, hw⟩
theorem l_take46 {a1 a2 a3 a4 : Int32} {m o : Nat} (h1 : a1.toInt = m) (hm : m < 6) (h3 : a3.toInt = o) (ho : o ≤ 4) : ∀ (c : Nat) (a5 : Int32) (v6 v7 : Value) (σ : sm_S) (N : Nat), cn (isB (σ 1)) 96 ≤ c → jj N (σ 1) → N + c < 2000000000 → (a5 = -1 ∨ ∃ p : Nat, a5.toInt = p ∧ p < 256 ∧ p % 2 ^ o = 0) →
    xE xM m_M_take 46 [.ref 0, .int a1, .int a2, .int a3, .int a4, .int a5, v6, v7] [] σ (sm_I (fun x σ' => ∃ v N', σ' = sm_set σ 1 v ∧ jj N' v ∧ N ≤ N' ∧ N' ≤ N + c)) := by
  intro c
  induction c with
  | zero =>
    intro a5 v6 v7 σ N hc hj hN h5
    have hcnt : xC xM j_M_counts [.ref 0, .int 1, .int 1] σ (sm_rv False (fun σ' => sm_I (fun x σ' => ∃ v N', σ' = sm_set σ 1 v ∧ jj N' v ∧ N ≤ N' ∧ N' ≤ N + 0) (some (.int (-1))) σ')) := by
      refine (c_counts (k := 1) (j := 1) rfl (by omega) 1 σ).void ?_
      rintro _ rfl
      exact ⟨_, rfl, _, N, rfl, jj_low (by omega) (by omega) hj, Nat.le_refl N, by omega⟩
    have hcome : ∀ (b : Int32) (n p : Nat), b.toInt = n → n < 96 → σ 1 (786 + 16 * n) = 0 → a5.toInt = p → p < 256 → p % 2 ^ o = 0 → xC xM j_M_more [.ref 0, .int 6, .int 1] σ (sm_rv False (fun σ4 => (vp_in (6 : Int32) 2662 ∧ xC xM j_M_comes [.ref 0, .int b, .int a5, .int a3, .int a2, .int a1, .int (σ4 1 ((6 : Int32)).toNatClampNeg)] σ4 (sm_rv False (fun σ5 => xE xM m_M_take 135 [.ref 0, .int a1, .int a2, .int a3, .int a4, .int a5, .int b, .int 0] [] σ5 (sm_I (fun x σ' => ∃ v N', σ' = sm_set σ 1 v ∧ jj N' v ∧ N ≤ N' ∧ N' ≤ N + 0))))))) := by
      intro b n p hb hn h0 hp hp2 hp3
      refine (c_more (k := 6) (j := 6) rfl (by omega) 1 σ).void ?_
      rintro _ rfl
      refine ⟨t_vp (n := 6) rfl (by omega), ?_⟩
      have hj2 : jj N (upd (σ 1) 6 (σ 1 6 + 1)) := jj_low (by omega) (by omega) hj
      refine (c_comes hb hn hp hp2 h3 ho hp3 h1 hm _ (by rw [s_at]; exact hj2) (by rw [s_at, u_ne (by omega)]; exact h0)).void ?_
      rintro _ ⟨v, rfl, hv, -⟩
      rw [s_ss]
      have hpo := t_pw (k := o) (by omega)
      refine (l_take135 hp hp2 h3 ho hp3 (2 ^ o) 0 0 _ rfl (by omega) (by rw [s_at]; exact hv)).mono ?_
      rintro r σ' ⟨x, rfl, w, rfl, hw⟩
      exact ⟨x, rfl, w, N, s_ss, hw, Nat.le_refl N, by omega⟩
    have hend : ∀ (y : Int32), ((y = -1 ∧ ∀ j, j < 96 → σ 1 (786 + 16 * j) ≠ 0) ∨ ∃ j : Nat, y.toInt = j ∧ j < 96 ∧ σ 1 (786 + 16 * j) = 0 ∧ ∀ i, i < j → σ 1 (786 + 16 * i) ≠ 0) → ¬ a5 = -1 → y ≠ -1 → ∃ n p : Nat, y.toInt = n ∧ n < 96 ∧ σ 1 (786 + 16 * n) = 0 ∧ a5.toInt = p ∧ p < 256 ∧ p % 2 ^ o = 0 := by
      intro y hy ha hy1
      obtain ⟨p, g1, g2, g3⟩ := h5.resolve_left ha
      obtain ⟨n, e1, e2, e3, -⟩ := hy.resolve_left (fun z => hy1 z.1)
      exact ⟨n, p, e1, e2, e3, g1, g2, g3⟩
    obtain ⟨x0, hLU⟩ := sm_C.det (c_leastUsed σ)
    refine w_M_take_46 a1 a2 a3 a4 a5 v6 v7 σ _ ⟨fun ha => (c_freeNumber σ).int ?_, fun ha => hLU.int ?_⟩
    · rintro y _ ⟨hy, rfl⟩
      refine ⟨fun z => absurd z ha, fun _ => ⟨fun hy1 => ?_, fun _ => hcnt⟩⟩
      obtain ⟨n, p, g1, g2, g3, g4, g5, g6⟩ := hend y hy ha hy1
      exact hcome y n p g1 g2 g3 g4 g5 g6
    · rintro y σ ⟨rfl, hy, rfl⟩
      refine ⟨fun _ => (c_freeNumber _).int ?_, fun hy1 => hLU.int ?_⟩
      · rintro z _ ⟨hz, rfl⟩
        exact ⟨fun _ => hcnt, fun z => absurd (Classical.not_not.mp ha) z⟩
      · exfalso
        obtain ⟨n, g1, g2, g3, -⟩ := hy.resolve_left hy1
        have := cn_lt (P := isB (σ 1)) (P' := fun _ => false) (j := n) (by simpa [isB] using g3) rfl (N := 96) g2 (fun i _ h => by cases h)
        omega
  | succ c ih =>
    intro a5 v6 v7 σ N hc hj hN h5
    have hcnt : xC xM j_M_counts [.ref 0, .int 1, .int 1] σ (sm_rv False (fun σ' => sm_I (fun x σ' => ∃ v N', σ' = sm_set σ 1 v ∧ jj N' v ∧ N ≤ N' ∧ N' ≤ N + (c + 1)) (some (.int (-1))) σ')) := by
      refine (c_counts (k := 1) (j := 1) rfl (by omega) 1 σ).void ?_
      rintro _ rfl
      exact ⟨_, rfl, _, N, rfl, jj_low (by omega) (by omega) hj, Nat.le_refl N, by omega⟩
    have hcome : ∀ (b : Int32) (n p : Nat), b.toInt = n → n < 96 → σ 1 (786 + 16 * n) = 0 → a5.toInt = p → p < 256 → p % 2 ^ o = 0 → xC xM j_M_more [.ref 0, .int 6, .int 1] σ (sm_rv False (fun σ4 => (vp_in (6 : Int32) 2662 ∧ xC xM j_M_comes [.ref 0, .int b, .int a5, .int a3, .int a2, .int a1, .int (σ4 1 ((6 : Int32)).toNatClampNeg)] σ4 (sm_rv False (fun σ5 => xE xM m_M_take 135 [.ref 0, .int a1, .int a2, .int a3, .int a4, .int a5, .int b, .int 0] [] σ5 (sm_I (fun x σ' => ∃ v N', σ' = sm_set σ 1 v ∧ jj N' v ∧ N ≤ N' ∧ N' ≤ N + (c + 1)))))))) := by
      intro b n p hb hn h0 hp hp2 hp3
      refine (c_more (k := 6) (j := 6) rfl (by omega) 1 σ).void ?_
      rintro _ rfl
      refine ⟨t_vp (n := 6) rfl (by omega), ?_⟩
      have hj2 : jj N (upd (σ 1) 6 (σ 1 6 + 1)) := jj_low (by omega) (by omega) hj
      refine (c_comes hb hn hp hp2 h3 ho hp3 h1 hm _ (by rw [s_at]; exact hj2) (by rw [s_at, u_ne (by omega)]; exact h0)).void ?_
      rintro _ ⟨v, rfl, hv, -⟩
      rw [s_ss]
      have hpo := t_pw (k := o) (by omega)
      refine (l_take135 hp hp2 h3 ho hp3 (2 ^ o) 0 0 _ rfl (by omega) (by rw [s_at]; exact hv)).mono ?_
      rintro r σ' ⟨x, rfl, w, rfl, hw⟩
      exact ⟨x, rfl, w, N, s_ss, hw, Nat.le_refl N, by omega⟩
    have hend : ∀ (y : Int32), ((y = -1 ∧ ∀ j, j < 96 → σ 1 (786 + 16 * j) ≠ 0) ∨ ∃ j : Nat, y.toInt = j ∧ j < 96 ∧ σ 1 (786 + 16 * j) = 0 ∧ ∀ i, i < j → σ 1 (786 + 16 * i) ≠ 0) → ¬ a5 = -1 → y ≠ -1 → ∃ n p : Nat, y.toInt = n ∧ n < 96 ∧ σ 1 (786 + 16 * n) = 0 ∧ a5.toInt = p ∧ p < 256 ∧ p % 2 ^ o = 0 := by
      intro y hy ha hy1
      obtain ⟨p, g1, g2, g3⟩ := h5.resolve_left ha
      obtain ⟨n, e1, e2, e3, -⟩ := hy.resolve_left (fun z => hy1 z.1)
      exact ⟨n, p, e1, e2, e3, g1, g2, g3⟩
    obtain ⟨x0, hLU⟩ := sm_C.det (c_leastUsed σ)
    refine w_M_take_46 a1 a2 a3 a4 a5 v6 v7 σ _ ⟨fun ha => (c_freeNumber σ).int ?_, fun ha => hLU.int ?_⟩
    · rintro y _ ⟨hy, rfl⟩
      refine ⟨fun z => absurd z ha, fun _ => ⟨fun hy1 => ?_, fun _ => hcnt⟩⟩
      obtain ⟨n, p, g1, g2, g3, g4, g5, g6⟩ := hend y hy ha hy1
      exact hcome y n p g1 g2 g3 g4 g5 g6
    · rintro y σ ⟨rfl, hy, rfl⟩
      refine ⟨fun _ => (c_freeNumber _).int ?_, fun hy1 => hLU.int ?_⟩
      · rintro z _ ⟨hz, rfl⟩
        exact ⟨fun _ => hcnt, fun z => absurd (Classical.not_not.mp ha) z⟩
      · rintro z σ ⟨rfl, hz, rfl⟩
        obtain ⟨n, g1, g2, g3, g4, g5⟩ := hz.resolve_left hy1
        obtain ⟨o2, fr2, b1, b2, b3, b4, b5, b6, ⟨q, b7, b8⟩, b9⟩ := hj.2.1.1 n g2
        have h60 : σ 1 (786 + 16 * n + 6) = 0 := by
          apply t_inj
          rw [t_le, b7] at g5
          have g5 : (q : Int) ≤ 0 := g5
          rw [b7]
          show (q : Int) = 0
          omega
        refine (c_drops g1 g2 (by omega) _ hj h60).void ?_
        rintro _ ⟨v, fr, rfl, k1, k2, k3, k4, -⟩
        refine (c_bestPlace h1 hm h3 ho _).int ?_
        rintro y2 _ ⟨hy2, rfl⟩
        have hlt : cn (isB v) 96 < cn (isB (σ 1)) 96 := by
          refine cn_lt (j := n) (by simpa [isB] using g3) (by simp only [isB, k3]; decide) g2 (fun i hi h => ?_)
          by_cases hin : i = n
          · subst hin; simpa [isB] using g3
          · simp only [isB, decide_eq_true_eq] at h ⊢
            rw [← k4 _ (by omega) (by omega) (by omega)]
            exact h
        refine (ih y2 v6 v7 _ (N + 1) (by rw [s_at]; omega) (by rw [s_at]; exact k1) (by omega) hy2).mono ?_
        rintro r σ' ⟨x, rfl, w, N', rfl, hw, l1, l2⟩
        exact ⟨x, rfl, w, N', s_ss, hw, by omega, by omega⟩
theorem c_take {N : Nat} (a1 a2 a3 a4 : Int32) (σ : sm_S) (hj : jj N (σ 1)) (hN : N < 1900000000) : xC xM j_M_take [.ref 0, .int a1, .int a2, .int a3, .int a4] σ (sm_I (fun x σ' => ∃ v N', σ' = sm_set (sm_set σ 0 (upd (σ 0) 0 0)) 1 v ∧ jj N' v ∧ N ≤ N' ∧ N' ≤ N + 96)) := by
  have keep : ∀ σ1 : sm_S, σ1 = sm_set σ 0 (upd (σ 0) 0 0) → ∃ v N', σ1 = sm_set (sm_set σ 0 (upd (σ 0) 0 0)) 1 v ∧ jj N' v ∧ N ≤ N' ∧ N' ≤ N + 96 := by
    rintro _ rfl
    exact ⟨σ 1, N, by rw [show σ 1 = (sm_set σ 0 (upd (σ 0) 0 0)) 1 from (s_ne (by decide)).symm, s_id], hj, Nat.le_refl N, by omega⟩
  refine w_M_take a1 a2 a3 a4 σ _ (fun σ1 e1 => (c_isTask a1 σ1).int ?_)
  have hj1 : jj N (σ1 1) := by rw [e1, s_ne (by decide)]; exact hj
  rintro x1 _ ⟨hx1, rfl⟩
  refine ⟨fun _ => ⟨_, rfl, keep _ e1⟩, fun n1 => (c_isIn a2 0 2 _).int ?_⟩
  rintro x2 _ ⟨hx2, rfl⟩
  refine ⟨fun _ => ⟨_, rfl, keep _ e1⟩, fun n2 => (c_isIn a3 0 4 _).int ?_⟩
  rintro x3 _ ⟨hx3, rfl⟩
  refine ⟨fun n3 => ?_, fun _ => ⟨_, rfl, keep _ e1⟩⟩
  obtain ⟨-, m, hm, h1⟩ := hx1.resolve_right (fun z => n1 z.1)
  obtain ⟨-, h31, h32⟩ := hx3.resolve_right (fun z => n3 z.1)
  have h31 : 0 ≤ a3.toInt := h31
  have h32 : a3.toInt ≤ 4 := h32
  obtain ⟨o, ho⟩ := t_of h31
  refine (c_bestPlace h1 hm ho (by omega) _).int ?_
  rintro y _ ⟨hy, rfl⟩
  refine (l_take46 h1 hm ho (by omega) 96 y _ _ _ N cn_bd hj1 (by omega) hy).mono ?_
  rintro r σ' ⟨x, rfl, w, N', rfl, hw, l1, l2⟩
  exact ⟨x, rfl, w, N', by rw [e1], hw, l1, l2⟩
