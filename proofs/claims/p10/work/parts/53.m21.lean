/-! ===== the model: a block arrives; values are copied ===== -/
theorem mu_one {v v' : Nat → Int32} {n : Nat} (h : ∀ i, i < 18 + 3 * n ∨ 18 + 3 * n + 3 ≤ i → v' i = v i) (hn : n < 256) : mu v' ≤ mu v + 2 := by
  have a1 : cn (isC v') 256 ≤ cn (isC v) 256 + (min 256 (n + 1) - n) := by
    refine cn_ex (fun f hf g => ?_)
    by_cases hfn : f = n
    · exact Or.inr (by omega)
    · refine Or.inl ?_
      rw [isC_t] at g ⊢
      obtain ⟨e1, m, hm, e2, e3⟩ := g
      exact ⟨by rw [← h _ (by omega)]; exact e1, m, hm, by rw [← h _ (by omega)]; exact e2, by rw [← h _ (by omega)]; exact e3⟩
  have a2 : cn (isZ v') 96 ≤ cn (isZ v) 96 := by
    refine cn_le (fun f hf g => ?_)
    rw [isZ_t] at g ⊢
    rw [← h _ (by omega)]; exact g
  unfold mu
  omega
theorem l_arrives {a1 a2 a3 : Int32} {s n o p fr N : Nat} (h1 : a1.toInt = s) (hs : s < 8) (h2 : a2.toInt = n) (hn : n < 96) (h3 : a3.toInt = p) (hp : p < 256) (hpa : p % 2 ^ o = 0) (ho4 : o ≤ 4) (hfr2 : fr < 256) (hfa : fr % 2 ^ o = 0) (hN : N < 2147470000) : ∀ (d k : Nat) (a4 : Int32) (σ : sm_S), a4.toInt = k → k + d = 2 ^ o → jj N (σ 1) → (σ 1 (786 + 16 * n + 2)).toInt = o → (σ 1 (786 + 16 * n + 1)).toInt = fr → σ 1 (786 + 16 * n + 0) = 1 → (σ 1 (2358 + 8 * s + 6)).toInt = ((n + 1 : Nat) : Int) →
    xE xM m_M_arrives 13 [.ref 0, .int a1, .int a2, .int a3, .int a4] [] σ (sm_V (fun σ' => ∃ w N', σ' = sm_set σ 1 w ∧ jj N' w ∧ N ≤ N' ∧ N' ≤ N + 7 ∧ mu w ≤ mu (σ 1) + 4 * d ∧ w (2358 + 8 * s + 6) = 0 ∧ ∀ i, 2358 ≤ i → i < 2422 → i ≠ 2358 + 8 * s + 6 → w i = σ 1 i)) := by
  have hpw := t_pw (k := o) (by omega)
  have hs2 := t_al (k := o) (by omega) hpa
  have hs3 := t_al (k := o) (by omega) hfa
  intro d
  induction d with
  | zero =>
    intro k a4 σ h4 hk hj ho hfr hI hS
    refine w_M_arrives_13 a1 a2 a3 a4 σ _ ((c_longOf h2 hn σ).int ?_)
    rintro _ σ ⟨rfl, rfl⟩
    refine ⟨fun _ => (c_lay (k := 1) (j := 1) h2 rfl (by omega) a3 _).void ?_, fun h => absurd ?_ h⟩
    · rintro _ rfl
      refine (c_lay (k := 6) (j := 6) h2 rfl (by omega) 0 _).void ?_
      rintro _ rfl
      refine (c_lay (k := 7) (j := 7) h2 rfl (by omega) 0 _).void ?_
      rintro _ rfl
      refine (c_spanAt a1 _).int ?_
      rintro _ σ1 ⟨rfl, e1⟩
      obtain ⟨p6, q6⟩ := ixS (k := 6) (j := 6) h1 rfl (by omega)
      rw [q6]
      refine ⟨p6, fun σ2 e2 => ?_⟩
      subst e2 e1
      refine (c_counts (k := 2) (j := 2) rfl (by omega) 1 _).void ?_
      rintro _ rfl
      simp only [s_at, s_ss]
      have hw0 : ∃ u, u = upd (upd (upd (upd (σ 1) (786 + 16 * n + 1) a3) (786 + 16 * n + 6) 0) (786 + 16 * n + 7) 0) (2358 + 8 * s + 6) 0 := ⟨_, rfl⟩
      obtain ⟨u, hu⟩ := hw0
      rw [← hu]
      have hue : ∀ i, i ≠ 786 + 16 * n + 1 → i ≠ 786 + 16 * n + 6 → i ≠ 786 + 16 * n + 7 → i ≠ 2358 + 8 * s + 6 → u i = σ 1 i := fun i g1 g2 g3 g4 => by rw [hu, u_ne g4, u_ne g3, u_ne g2, u_ne g1]
      have hu1 : u (786 + 16 * n + 1) = a3 := by rw [hu, u_ne (by omega), u_ne (by omega), u_ne (by omega), u_at]
      have hu6 : u (786 + 16 * n + 6) = 0 := by rw [hu, u_ne (by omega), u_ne (by omega), u_at]
      have hu7 : u (786 + 16 * n + 7) = 0 := by rw [hu, u_ne (by omega), u_at]
      have huS : u (2358 + 8 * s + 6) = 0 := by rw [hu, u_at]
      refine (c_writes _ _ _ _ (n := N) (by rw [s_at, u_ne (by omega), hue _ (by omega) (by omega) (by omega) (by omega)]; exact hj.2.2)).void ?_
      rintro _ ⟨v, rfl, w1, w2⟩
      rw [s_at] at w1 w2
      rw [s_ss]
      have hvu : ∀ i, 18 ≤ i → i < 2422 → v i = u i := fun i g1 g2 => by rw [w2 i g2 (by omega), u_ne (by omega)]
      have hve : ∀ i, 18 ≤ i → i < 2422 → i ≠ 786 + 16 * n + 1 → i ≠ 786 + 16 * n + 6 → i ≠ 786 + 16 * n + 7 → i ≠ 2358 + 8 * s + 6 → v i = σ 1 i := fun i g1 g2 g3 g4 g5 g6 => by rw [hvu i g1 g2, hue i g3 g4 g5 g6]
      obtain ⟨L, oL, l1, l2, l3, l4⟩ := ln_line (hj.2.1.2.1 n hn)
      have hoo : oL = o := by rw [ho] at l3; omega
      subst hoo
      have hv1 : (v (786 + 16 * n + 1)).toInt = p := by rw [hvu _ (by omega) (by omega), hu1]; exact h3
      have hjb : jj (N + 1) (upd v (786 + 16 * n + 9) 0) := by
        refine ⟨?_, ?_, ?_⟩
        · refine fr_cong (v := upd (σ 1) (786 + 16 * n + 1) a3) (fun i g1 g2 => ?_) (fun b k hb hk => ?_) (fr_frame hI hj.1)
          · rw [u_ne (by omega), hve i g1 (by omega) (by omega) (by omega) (by omega) (by omega), u_ne (by omega)]
          · rw [u_ne (by omega), hvu _ (by omega) (by omega), hu, u_ne (by omega), u_ne (by omega), u_ne (by omega)]
        · refine jr_back (p := p) hn hs hj.2.1 hS ho ?_ hp hpa ?_ ?_ u_at ?_ (fun i g1 g2 g3 g4 g5 g6 g7 => by rw [u_ne g6, hve i (by omega) g2 g3 g4 g5 g7])
          · rw [u_ne (by omega)]; exact hv1
          · rw [u_ne (by omega), hvu _ (by omega) (by omega)]; exact hu6
          · rw [u_ne (by omega), hvu _ (by omega) (by omega)]; exact hu7
          · rw [u_ne (by omega), hvu _ (by omega) (by omega)]; exact huS
        · rw [u_ne (by omega), w1, u_ne (by omega), hue _ (by omega) (by omega) (by omega) (by omega), t_add hj.2.2 (y := 1) rfl (by omega) (by omega)]
          omega
      refine (c_wakes (L := L) (fr := p) (o := oL) (N := N + 1) h2 hn _ (by rw [s_at, hve _ (by omega) (by omega) (by omega) (by omega) (by omega) (by omega)]; exact l1) l2 (by rw [s_at]; exact hv1) (by omega) ?_ (by rw [s_at]; exact hjb) (by omega)).void ?_
      · intro j hjL
        obtain ⟨t, a, g1, g2, g3, g4, g5⟩ := l4 j hjL
        rw [s_at]
        refine ⟨t, a, g1, ?_, ?_, g4, ?_⟩ <;> rw [hve _ (by omega) (by omega) (by omega) (by omega) (by omega) (by omega)] <;> assumption
      · rintro _ ⟨w, N', rfl, hw, k1, k2, ew, es⟩
        rw [s_at] at ew es
        refine ⟨rfl, w, N', s_ss, hw, by omega, by omega, ?_, ?_, fun i g1 g2 g3 => ?_⟩
        · refine Nat.le_trans (mu_cong (v := σ 1) (fun f hf => ?_) (fun b hb => ?_) (fun b hb => ?_)) (Nat.le_add_right _ _)
          · rw [(es f hf).1, (es f hf).2, hve _ (by omega) (by omega) (by omega) (by omega) (by omega) (by omega), hve _ (by omega) (by omega) (by omega) (by omega) (by omega) (by omega)]
            exact ⟨rfl, rfl⟩
          · rw [ew _ (by omega) (by omega) (by omega) (by omega) (by omega) (by omega), hve _ (by omega) (by omega) (by omega) (by omega) (by omega) (by omega)]
          · rw [ew _ (by omega) (by omega) (by omega) (by omega) (by omega) (by omega), hve _ (by omega) (by omega) (by omega) (by omega) (by omega) (by omega)]
        · rw [ew _ (by omega) (by omega) (by omega) (by omega) (by omega) (by omega), hvu _ (by omega) (by omega)]; exact huS
        · rw [ew _ (by omega) (by omega) (by omega) (by omega) (by omega) (by omega), hve _ (by omega) (by omega) (by omega) (by omega) (by omega) (by omega)]
    · rw [t_le, t_pow ho (by omega), h4]
      omega
  | succ d ih =>
    intro k a4 σ h4 hk hj ho hfr hI hS
    have h4' : (a4 + 1).toInt = ((k + 1 : Nat) : Int) := by
      rw [t_add h4 (y := 1) rfl (by omega) (by omega)]
      omega
    have hto := t_add h3 h4 (by omega) (by omega)
    rw [← Int.natCast_add] at hto
    refine w_M_arrives_13 a1 a2 a3 a4 σ _ ((c_longOf h2 hn σ).int ?_)
    rintro _ σ ⟨rfl, rfl⟩
    refine ⟨fun h => ?_, fun _ => (c_frameOf h2 hn _).int ?_⟩
    · rw [t_le, t_pow ho (by omega), h4] at h
      omega
    · rintro x σ ⟨hx, rfl⟩
      have hfo := t_add (a := x) (x := (fr : Int)) (by rw [hx]; exact hfr) h4 (by omega) (by omega)
      rw [← Int.natCast_add] at hfo
      refine (c_leaves' hfo (by omega) _ hj.1).void ?_
      rintro _ ⟨v, rfl, g1, g2, -, g3⟩
      refine (c_has' hto (by omega) h2 hn _ (by rw [s_at]; exact g1) (fun _ => by rw [s_at, g2 _ (by omega)]; exact hI)).void ?_
      rintro _ ⟨v2, rfl, g4, g5, -, -, g6⟩
      rw [s_at] at g5 g6
      have hfe := g2.tr g5
      simp only [s_ss]
      refine (ih (k + 1) (a4 + 1) _ h4' (by omega) (by rw [s_at]; exact jj_fr g4 hfe hj) (by rw [s_at, hfe _ (by omega)]; exact ho) (by rw [s_at, hfe _ (by omega)]; exact hfr) (by rw [s_at, hfe _ (by omega)]; exact hI) (by rw [s_at, hfe _ (by omega)]; exact hS)).mono ?_
      rintro r σ' ⟨rfl, w, N', rfl, hw, k1, k2, k3, k4, ew⟩
      rw [s_at] at ew k3
      have m1 := mu_one g3 (by omega)
      have m2 := mu_one (v := v) (v' := v2) (n := p + k) (fun i hi => g6 i (by omega)) (by omega)
      exact ⟨rfl, w, N', s_ss, hw, k1, k2, by omega, k4, fun i f1 f2 f3 => by rw [ew i f1 f2 f3, hfe i (by omega)]⟩
/-- s has n on its way: what is known of it -/
theorem on_way {v : Nat → Int32} {s N : Nat} (hs : s < 8) (hj : jj N v) (h : v (2358 + 8 * s + 6) ≠ 0) : ∃ n o fr p : Nat, n < 96 ∧ (v (2358 + 8 * s + 6)).toInt = ((n + 1 : Nat) : Int) ∧ (v (786 + 16 * n + 2)).toInt = o ∧ o ≤ 4 ∧ (v (786 + 16 * n + 1)).toInt = fr ∧ fr < 256 ∧ fr % 2 ^ o = 0 ∧ (v (786 + 16 * n + 6)).toInt = ((p + 1 : Nat) : Int) ∧ p < 256 ∧ p % 2 ^ o = 0 ∧ v (786 + 16 * n + 0) = 1 ∧ 0 ≤ (v (786 + 16 * n + 7)).toInt ∧ v (2358 + 8 * s + 0) = 3 := by
  obtain ⟨st, pt, at', q, g1, g2, g3, g4, g5, g6, g7, g8, g9⟩ := hj.2.1.2.2.1 s hs
  rcases g9 with g9 | ⟨b, f1, f2, f3, f4, fr, f5, f6⟩
  · exact absurd (t_inj (by rw [g8, g9]; rfl)) h
  · obtain ⟨o, fr2, b1, b2, b3, b4, b5, b6, ⟨t, b7, b8⟩, b9⟩ := hj.2.1.1 b f1
    have ht1 : 1 ≤ t ∧ t ≤ 256 ∧ (t - 1) % 2 ^ o = 0 := b8.resolve_left (fun z => f4 (t_inj (by rw [b7, z]; rfl)))
    obtain ⟨i1, -⟩ := hj.2.1.2.2.2.1 b f1 f4
    refine ⟨b, o, fr2, t - 1, f1, by rw [g8, f2], b1, b2, b3, b4, b5, by rw [b7]; omega, by omega, ht1.2.2, i1, b9, t_inj (by rw [g1, f3]; rfl)⟩
theorem c_arrives {a1 a2 : Int32} {s n N : Nat} (h1 : a1.toInt = s) (hs : s < 8) (h2 : a2.toInt = n) (hn : n < 96) (hN : N < 2147470000) (σ : sm_S) (hj : jj N (σ 1)) (hS : (σ 1 (2358 + 8 * s + 6)).toInt = ((n + 1 : Nat) : Int)) : xC xM j_M_arrives [.ref 0, .int a1, .int a2] σ (sm_V (fun σ' => ∃ w N', σ' = sm_set σ 1 w ∧ jj N' w ∧ N ≤ N' ∧ N' ≤ N + 7 ∧ mu w ≤ mu (σ 1) + 64 ∧ ∀ i, 2358 ≤ i → i < 2422 → i ≠ 2358 + 8 * s + 6 → w i = σ 1 i)) := by
  obtain ⟨n2, o, fr, p, k1, k2, k3, k4, k5, k6, k7, k8, k9, k10, k11, k12, k13⟩ := on_way hs hj (fun z => by rw [z] at hS; have hS : (0 : Int) = _ := hS; omega)
  have hnn : n2 = n := by omega
  subst hnn
  have hpw := t_pw (k := o) (by omega)
  have hp16 : 2 ^ o ≤ 16 := by
    have := Nat.pow_le_pow_right (n := 2) (by decide) k4
    omega
  refine w_M_arrives a1 a2 σ _ ((c_of (k := 6) (j := 6) h2 rfl (by omega) σ).int ?_)
  rintro y σ ⟨hy, rfl⟩
  have hy1 : (y - 1).toInt = ((p : Nat) : Int) := by
    rw [hy, t_dec k8]
    omega
  refine (l_arrives h1 hs h2 k1 hy1 k9 k10 k4 k6 k7 hN (2 ^ o) 0 0 _ rfl (by omega) hj k3 k5 k11 k2).mono ?_
  rintro r σ' ⟨rfl, w, N', rfl, hw, l1, l2, l3, -, ew⟩
  exact ⟨rfl, w, N', rfl, hw, l1, l2, by omega, ew⟩
/-- jj doesn't speak of how much is copied but that it is no negative number -/
theorem jj_copied {v : Nat → Int32} {n N : Nat} {x : Int32} (hn : n < 96) (hx : 0 ≤ x.toInt) (hj : jj N v) : jj N (upd v (786 + 16 * n + 7) x) := by
  refine ⟨fr_cong (fun i _ _ => u_ne (by omega)) (fun b k hb hk => u_ne (by omega)) hj.1, ?_, by rw [u_ne (by omega)]; exact hj.2.2⟩
  obtain ⟨j1, j2, j3, j4, s, hs, z1, z2⟩ := hj.2.1
  have e : ∀ i, i ≠ 786 + 16 * n + 7 → upd v (786 + 16 * n + 7) x i = v i := fun i hi => u_ne hi
  refine ⟨fun b hb => ?_, fun b hb => ?_, fun s hs => ?_, fun b hb => ?_, s, hs, ?_, ?_⟩
  · by_cases hbn : b = n
    · subst hbn
      obtain ⟨o2, fr, h1, h2, h3, h4, h5, h6', h7, h8⟩ := j1 b hb
      refine ⟨o2, fr, ?_, h2, ?_, h4, h5, ?_, ?_, by rw [u_at]; exact hx⟩ <;> rw [e _ (by omega)] <;> assumption
    · exact bk_cong (fun k hk _ _ _ => e _ (by omega)) (j1 b hb)
  · obtain ⟨L, o2, h1, h2, h3, h4, h5, h6'⟩ := j2 b hb
    refine ⟨L, o2, ?_, h2, ?_, ?_, fun k hk => ?_, fun k m hkm hm => ?_⟩
    · rw [e _ (by omega)]; exact h1
    · rw [e _ (by omega)]; exact h3
    · rw [e _ (by omega)]; exact h4
    · obtain ⟨t, a, g1, g2, g3, g4, g5⟩ := h5 k hk
      refine ⟨t, a, g1, ?_, ?_, ?_, g5⟩ <;> rw [e _ (by omega)] <;> assumption
    · rw [e _ (by omega), e _ (by omega)]; exact h6' k m hkm hm
  · obtain ⟨st, pt, at', q, h1, h2, h3, h4, h5, h6', h7, h8, h9⟩ := j3 s hs
    refine ⟨st, pt, at', q, ?_, h2, ?_, h4, h5, ?_, h7, ?_, ?_⟩
    · rw [e _ (by omega)]; exact h1
    · rw [e _ (by omega)]; exact h3
    · rw [e _ (by omega)]; exact h6'
    · rw [e _ (by omega)]; exact h8
    · rcases h9 with h9 | ⟨b, g1, g2, g3, g4, fr, g5, g6⟩
      · exact Or.inl h9
      · refine Or.inr ⟨b, g1, g2, g3, ?_, fr, ?_, g6⟩ <;> rw [e _ (by omega)] <;> assumption
  · intro hb6
    rw [e _ (by omega)] at hb6
    obtain ⟨h1, fr, h2, h3, h4⟩ := j4 b hb hb6
    refine ⟨?_, fr, ?_, h3, ?_⟩ <;> rw [e _ (by omega)] <;> assumption
  · rw [e _ (by omega)]; exact z1
  · rw [e _ (by omega)]; exact z2
theorem l_copies {a1 a2 a3 : Int32} {s n o fr p N : Nat} (h1 : a1.toInt = s) (hs : s < 8) (h3 : a3.toInt = n) (hn : n < 96) (hN : N < 2147470000) (ho4 : o ≤ 4) (hfr : fr < 256) (hfa : fr % 2 ^ o = 0) (hp : p < 256) (hpa : p % 2 ^ o = 0) : ∀ (d k : Nat) (a4 : Int32) (v5 : Value) (σ : sm_S), (σ 1 (786 + 16 * n + 7)).toInt = k → 2 ^ o ≤ k + d → jj N (σ 1) → (σ 1 (786 + 16 * n + 2)).toInt = o → (σ 1 (786 + 16 * n + 1)).toInt = fr → (σ 1 (786 + 16 * n + 6)).toInt = ((p + 1 : Nat) : Int) → (σ 1 (2358 + 8 * s + 6)).toInt = ((n + 1 : Nat) : Int) →
    xE xM m_M_copies 19 [.ref 0, .int a1, .int a2, .int a3, .int a4, v5] [] σ (sm_I (fun _ σ' => ∃ w N', σ' = sm_set σ 1 w ∧ jj N' w ∧ N ≤ N' ∧ N' ≤ N + 7 ∧ mu w ≤ mu (σ 1) + 64 ∧ ∀ i, 2358 ≤ i → i < 2422 → i ≠ 2358 + 8 * s + 6 → w i = σ 1 i)) := by
  have hpw := t_pw (k := o) (by omega)
  have hs2 := t_al (k := o) (by omega) hpa
  have hs3 := t_al (k := o) (by omega) hfa
  have fin : ∀ (a4 : Int32) (σ : sm_S), jj N (σ 1) → (σ 1 (2358 + 8 * s + 6)).toInt = ((n + 1 : Nat) : Int) → xC xM j_M_of [.ref 0, .int a3, .int 7] σ (sm_ri False (fun x2 σ1 => xC xM j_M_longOf [.ref 0, .int a3] σ1 (sm_ri False (fun x4 σ3 => ((x2 ≠ x4 → (sm_I (fun _ σ' => ∃ w N', σ' = sm_set σ 1 w ∧ jj N' w ∧ N ≤ N' ∧ N' ≤ N + 7 ∧ mu w ≤ mu (σ 1) + 64 ∧ ∀ i, 2358 ≤ i → i < 2422 → i ≠ 2358 + 8 * s + 6 → w i = σ 1 i)) (some (.int a4)) σ3) ∧ (¬ (x2 ≠ x4) → xC xM j_M_arrives [.ref 0, .int a1, .int a3] σ3 (sm_rv False (fun σ5 => (sm_I (fun _ σ' => ∃ w N', σ' = sm_set σ 1 w ∧ jj N' w ∧ N ≤ N' ∧ N' ≤ N + 7 ∧ mu w ≤ mu (σ 1) + 64 ∧ ∀ i, 2358 ≤ i → i < 2422 → i ≠ 2358 + 8 * s + 6 → w i = σ 1 i)) (some (.int a4)) σ5))))))) ) := by
    intro a4 σ hj hS
    refine (c_of (k := 7) (j := 7) h3 rfl (by omega) σ).int ?_
    rintro x2 σ ⟨-, rfl⟩
    refine (c_longOf h3 hn _).int ?_
    rintro x4 σ ⟨-, rfl⟩
    refine ⟨fun _ => ⟨_, rfl, σ 1, N, s_id.symm, hj, Nat.le_refl N, by omega, by omega, fun _ _ _ _ => rfl⟩, fun _ => (c_arrives h1 hs h3 hn hN _ hj hS).void ?_⟩
    rintro _ ⟨w, N', rfl, hw, l1, l2, l3, ew⟩
    exact ⟨_, rfl, w, N', rfl, hw, l1, l2, l3, ew⟩
  intro d
  induction d with
  | zero =>
    intro k a4 v5 σ h7 hk hj ho hf h6 hS
    refine w_M_copies_19 a1 a2 a3 a4 v5 σ _ ⟨fun _ => fin a4 σ hj hS, fun _ => (c_of (k := 7) (j := 7) h3 rfl (by omega) σ).int ?_⟩
    rintro x7 σ ⟨hx7, rfl⟩
    refine (c_longOf h3 hn _).int ?_
    rintro x9 σ ⟨hx9, rfl⟩
    refine ⟨fun _ => fin a4 _ hj hS, fun h => absurd ?_ h⟩
    rw [t_le, hx9, t_pow ho (by omega), hx7, h7]
    omega
  | succ d ih =>
    intro k a4 v5 σ h7 hk hj ho hf h6 hS
    refine w_M_copies_19 a1 a2 a3 a4 v5 σ _ ⟨fun _ => fin a4 σ hj hS, fun _ => (c_of (k := 7) (j := 7) h3 rfl (by omega) σ).int ?_⟩
    rintro x7 σ ⟨hx7, rfl⟩
    refine (c_longOf h3 hn _).int ?_
    rintro x9 σ ⟨hx9, rfl⟩
    refine ⟨fun _ => fin a4 _ hj hS, fun h => ?_⟩
    rw [t_le, hx9, t_pow ho (by omega), hx7, h7] at h
    refine (c_of (k := 7) (j := 7) h3 rfl (by omega) _).int ?_
    rintro x16 σ ⟨hx16, rfl⟩
    have h16 : x16.toInt = k := by rw [hx16]; exact h7
    refine (c_of (k := 6) (j := 6) h3 rfl (by omega) _).int ?_
    rintro x18 σ ⟨hx18, rfl⟩
    refine (c_frameOf h3 hn _).int ?_
    rintro x20 σ ⟨hx20, rfl⟩
    have hfo : (x20 + x16).toInt = ((fr + k : Nat) : Int) := by
      rw [t_add (x := (fr : Int)) (by rw [hx20]; exact hf) h16 (by omega) (by omega)]
      omega
    have hto : (x18 - 1 + x16).toInt = ((p + k : Nat) : Int) := by
      rw [t_add (x := (p : Int)) (by rw [hx18, t_dec h6]; omega) h16 (by omega) (by omega)]
      omega
    refine (c_valueOf hfo (by omega) _).int ?_
    rintro x22 σ ⟨-, rfl⟩
    refine (c_lays' hto (by omega) _ hj.1).void ?_
    rintro _ ⟨v, rfl, g1, g2, g3⟩
    have hj1 := jj_fr g1 g2 hj
    refine (c_lay (k := 7) (j := 7) h3 rfl (by omega) _ _).void ?_
    rintro _ rfl
    refine (c_counts (k := 3) (j := 3) rfl (by omega) 1 _).void ?_
    rintro _ rfl
    simp only [s_at, s_ss]
    have h16' : (x16 + 1).toInt = ((k + 1 : Nat) : Int) := by
      rw [t_add h16 (y := 1) rfl (by omega) (by omega)]
      omega
    have hw0 : ∃ u, u = upd (upd v (786 + 16 * n + 7) (x16 + 1)) (7 + 3) (upd v (786 + 16 * n + 7) (x16 + 1) (7 + 3) + 1) := ⟨_, rfl⟩
    obtain ⟨u, hu⟩ := hw0
    rw [← hu]
    have hue : ∀ i, 786 ≤ i → i ≠ 786 + 16 * n + 7 → u i = σ 1 i := fun i e1 e2 => by rw [hu, u_ne (by omega), u_ne e2, g2 i (Or.inr e1)]
    have hju : jj N u := by
      rw [hu]
      exact jj_low (by omega) (by omega) (jj_copied hn (by rw [h16']; omega) hj1)
    refine (ih (k + 1) _ _ _ (by rw [s_at, hu, u_ne (by omega), u_at]; exact h16') (by omega) (by rw [s_at]; exact hju) ?_ ?_ ?_ ?_).mono ?_
    · rw [s_at, hue _ (by omega) (by omega)]; exact ho
    · rw [s_at, hue _ (by omega) (by omega)]; exact hf
    · rw [s_at, hue _ (by omega) (by omega)]; exact h6
    · rw [s_at, hue _ (by omega) (by omega)]; exact hS
    · rintro r σ' ⟨z, rfl, w, N', rfl, hw, l1, l2, l3, ew⟩
      rw [s_at] at l3 ew
      have hmu : mu u ≤ mu (σ 1) := by
        refine mu_cong (fun f hf => ?_) (fun b hb => hue _ (by omega) (by omega)) (fun b hb => hue _ (by omega) (by omega))
        rw [hu, u_ne (by omega), u_ne (by omega), u_ne (by omega), u_ne (by omega), g3 _ (by omega), g3 _ (by omega)]
        exact ⟨rfl, rfl⟩
      exact ⟨z, rfl, w, N', s_ss, hw, l1, l2, by omega, fun i e1 e2 e3 => by rw [ew i e1 e2 e3, hue i (by omega) (by omega)]⟩
theorem c_copies {a1 a2 : Int32} {s N : Nat} (h1 : a1.toInt = s) (hs : s < 8) (hN : N < 2147470000) (σ : sm_S) (hj : jj N (σ 1)) (h6 : σ 1 (2358 + 8 * s + 6) ≠ 0) : xC xM j_M_copies [.ref 0, .int a1, .int a2] σ (sm_I (fun _ σ' => ∃ w N', σ' = sm_set σ 1 w ∧ jj N' w ∧ N ≤ N' ∧ N' ≤ N + 7 ∧ mu w ≤ mu (σ 1) + 64 ∧ ∀ i, 2358 ≤ i → i < 2422 → i ≠ 2358 + 8 * s + 6 → w i = σ 1 i)) := by
  refine w_M_copies a1 a2 σ _ ((c_spanAt a1 σ).int ?_)
  rintro _ σ ⟨rfl, rfl⟩
  obtain ⟨p6, q6⟩ := ixS (k := 6) (j := 6) h1 rfl (by omega)
  rw [q6]
  obtain ⟨n, o, fr, p, k1, k2, k3, k4, k5, k6, k7, k8, k9, k10, k11, k12, k13⟩ := on_way hs hj h6
  have hb : (σ 1 (2358 + 8 * s + 6) - 1).toInt = n := by
    rw [t_dec k2]
    omega
  obtain ⟨k, hk⟩ := t_of k12
  exact ⟨p6, l_copies h1 hs hb k1 hN k4 k6 k7 k9 k10 (2 ^ o) k _ _ _ hk (by omega) hj k3 k5 k8 k2⟩
