/-! ===== the model: staysBack, fails, giveUp ===== -/
theorem l_staysBack {a1 a2 a3 : Int32} {s n o p N : Nat} (h1 : a1.toInt = s) (hs : s < 8) (h2 : a2.toInt = n) (hn : n < 96) (h3 : a3.toInt = p) (hp : p < 256) (hpa : p % 2 ^ o = 0) (ho4 : o ≤ 4) (hN : N < 2147470000) : ∀ (d k : Nat) (a4 : Int32) (σ : sm_S), a4.toInt = k → k + d = 2 ^ o → jj N (σ 1) → (σ 1 (786 + 16 * n + 2)).toInt = o → (σ 1 (2358 + 8 * s + 6)).toInt = ((n + 1 : Nat) : Int) →
    xE xM m_M_staysBack 35 [.ref 0, .int a1, .int a2, .int a3, .int a4] [] σ (sm_V (fun σ' => ∃ w N', σ' = sm_set σ 1 w ∧ jj N' w ∧ N ≤ N' ∧ N' ≤ N + 6 ∧ w (2358 + 8 * s + 6) = 0 ∧ ∀ i, 2358 ≤ i → i < 2422 → i ≠ 2358 + 8 * s + 6 → w i = σ 1 i)) := by
  have hpw := t_pw (k := o) (by omega)
  have hs2 := t_al (k := o) (by omega) hpa
  intro d
  induction d with
  | zero =>
    intro k a4 σ h4 hk hj ho hS
    refine w_M_staysBack_35 a1 a2 a3 a4 σ _ ((c_longOf h2 hn σ).int ?_)
    rintro _ σ ⟨rfl, rfl⟩
    refine ⟨fun _ => (c_lay (k := 6) (j := 6) h2 rfl (by omega) 0 _).void ?_, fun h => absurd ?_ h⟩
    · rintro _ rfl
      refine (c_lay (k := 7) (j := 7) h2 rfl (by omega) 0 _).void ?_
      rintro _ rfl
      refine (c_spanAt a1 _).int ?_
      rintro _ σ1 ⟨rfl, e1⟩
      obtain ⟨p6, q6⟩ := ixS (k := 6) (j := 6) h1 rfl (by omega)
      rw [q6]
      refine ⟨p6, fun σ2 e2 => ?_⟩
      subst e2 e1
      simp only [s_at, s_ss]
      have hw0 : ∃ v, v = upd (upd (upd (σ 1) (786 + 16 * n + 6) 0) (786 + 16 * n + 7) 0) (2358 + 8 * s + 6) 0 := ⟨_, rfl⟩
      obtain ⟨v, hv⟩ := hw0
      rw [← hv]
      have hve : ∀ i, i ≠ 786 + 16 * n + 6 → i ≠ 786 + 16 * n + 7 → i ≠ 2358 + 8 * s + 6 → v i = σ 1 i := fun i g1 g2 g3 => by rw [hv, u_ne g3, u_ne g2, u_ne g1]
      obtain ⟨L, oL, l1, l2, l3, l4⟩ := ln_line (hj.2.1.2.1 n hn)
      have hoo : oL = o := by rw [ho] at l3; omega
      subst hoo
      obtain ⟨o2, fr, b1, b2, b3, b4, b5, -⟩ := hj.2.1.1 n hn
      have hoo : o2 = oL := by rw [ho] at b1; omega
      subst hoo
      have hal := t_al (k := o2) (by omega) b5
      have hjb : jj N (upd v (786 + 16 * n + 9) 0) := by
        refine ⟨fr_cong (fun i h1 h2 => by rw [u_ne (by omega), hve _ (by omega) (by omega) (by omega)]) (fun b k hb hk => by rw [u_ne (by omega), hve _ (by omega) (by omega) (by omega)]) hj.1, ?_, by rw [u_ne (by omega), hve _ (by omega) (by omega) (by omega)]; exact hj.2.2⟩
        refine jr_back (p := fr) hn hs hj.2.1 hS ho ?_ b4 b5 ?_ ?_ u_at ?_ (fun i g1 g2 g3 g4 g5 g6 g7 => by rw [u_ne g6, hve i g4 g5 g7])
        · rw [u_ne (by omega), hve _ (by omega) (by omega) (by omega)]; exact b3
        · rw [u_ne (by omega), hv, u_ne (by omega), u_ne (by omega), u_at]
        · rw [u_ne (by omega), hv, u_ne (by omega), u_at]
        · rw [u_ne (by omega), hv, u_at]
      refine (c_wakes (L := L) (fr := fr) (o := o2) (N := N) h2 hn _ (by rw [s_at, hve _ (by omega) (by omega) (by omega)]; exact l1) l2 (by rw [s_at, hve _ (by omega) (by omega) (by omega)]; exact b3) (by omega) ?_ (by rw [s_at]; exact hjb) (by omega)).void ?_
      · intro j hjL
        obtain ⟨t, a, g1, g2, g3, g4, g5⟩ := l4 j hjL
        rw [s_at]
        refine ⟨t, a, g1, ?_, ?_, g4, ?_⟩ <;> rw [hve _ (by omega) (by omega) (by omega)] <;> assumption
      · rintro _ ⟨w, N', rfl, hw, k1, k2, ew, -⟩
        rw [s_at] at ew
        refine ⟨rfl, w, N', s_ss, hw, k1, k2, ?_, fun i g1 g2 g3 => ?_⟩
        · rw [ew _ (by omega) (by omega) (by omega) (by omega) (by omega) (by omega), hv, u_at]
        · rw [ew _ (by omega) (by omega) (by omega) (by omega) (by omega) (by omega), hve _ (by omega) (by omega) (by omega)]
    · rw [t_le, t_pow ho (by omega), h4]
      omega
  | succ d ih =>
    intro k a4 σ h4 hk hj ho hS
    have h4' : (a4 + 1).toInt = ((k + 1 : Nat) : Int) := by
      rw [t_add h4 (y := 1) rfl (by omega) (by omega)]
      omega
    have hto := t_add h3 h4 (by omega) (by omega)
    rw [← Int.natCast_add] at hto
    refine w_M_staysBack_35 a1 a2 a3 a4 σ _ ((c_longOf h2 hn σ).int ?_)
    rintro _ σ ⟨rfl, rfl⟩
    refine ⟨fun h => ?_, fun _ => (c_leaves' hto (by omega) _ hj.1).void ?_⟩
    · rw [t_le, t_pow ho (by omega), h4] at h
      omega
    · rintro _ ⟨v, rfl, g1, g2, -⟩
      refine (ih (k + 1) (a4 + 1) _ h4' (by omega) (by rw [s_at]; exact jj_fr g1 g2 hj) (by rw [s_at, g2 _ (by omega)]; exact ho) (by rw [s_at, g2 _ (by omega)]; exact hS)).mono ?_
      rintro r σ' ⟨rfl, w, N', rfl, hw, k1, k2, k3, ew⟩
      rw [s_at] at ew
      exact ⟨rfl, w, N', s_ss, hw, k1, k2, k3, fun i f1 f2 f3 => by rw [ew i f1 f2 f3, g2 i (by omega)]⟩
theorem c_staysBack {a1 : Int32} {s N : Nat} (h1 : a1.toInt = s) (hs : s < 8) (hN : N < 2147470000) (σ : sm_S) (hj : jj N (σ 1)) : xC xM j_M_staysBack [.ref 0, .int a1] σ (sm_V (fun σ' => ∃ w N', σ' = sm_set σ 1 w ∧ jj N' w ∧ N ≤ N' ∧ N' ≤ N + 6 ∧ w (2358 + 8 * s + 6) = 0 ∧ ∀ i, 2358 ≤ i → i < 2422 → i ≠ 2358 + 8 * s + 6 → w i = σ 1 i)) := by
  refine w_M_staysBack a1 σ _ ((c_spanAt a1 σ).int ?_)
  rintro _ σ ⟨rfl, rfl⟩
  obtain ⟨p6, q6⟩ := ixS (k := 6) (j := 6) h1 rfl (by omega)
  rw [q6]
  obtain ⟨st, pt, at', q, g1, g2, g3, g4, g5, g6, g7, g8, g9⟩ := hj.2.1.2.2.1 s hs
  have hq1 : (σ 1 (2358 + 8 * s + 6) - 1).toInt = (q : Int) - 1 := by
    have hqb : q ≤ 96 := by
      rcases g9 with g9 | ⟨b, f1, f2, -⟩ <;> omega
    exact t_sub g8 (y := 1) rfl (by omega) (by omega)
  refine ⟨p6, fun hne => ?_, fun he => ⟨rfl, σ 1, N, s_id.symm, hj, Nat.le_refl N, by omega, ?_, fun _ _ _ _ => rfl⟩⟩
  · rcases g9 with g9 | ⟨b, f1, f2, f3, f4, fr, f5, f6⟩
    · exact absurd (t_inj (by rw [hq1, g9]; rfl)) hne
    · have hb : (σ 1 (2358 + 8 * s + 6) - 1).toInt = b := by rw [hq1]; omega
      obtain ⟨o, fr2, b1, b2, b3, b4, b5, b6, ⟨t, b7, b8⟩, b9⟩ := hj.2.1.1 b f1
      have ht1 : 1 ≤ t ∧ t ≤ 256 ∧ (t - 1) % 2 ^ o = 0 := b8.resolve_left (fun z => f4 (t_inj (by rw [b7, z]; rfl)))
      refine (c_of (k := 6) (j := 6) hb rfl (by omega) _).int ?_
      rintro y σ ⟨hy, rfl⟩
      have hy1 : (y - 1).toInt = ((t - 1 : Nat) : Int) := by
        rw [hy, t_sub b7 (y := 1) rfl (by omega) (by omega)]
        omega
      have hpw := t_pw (k := o) (by omega)
      exact l_staysBack h1 hs hb f1 hy1 (by omega) ht1.2.2 b2 hN (2 ^ o) 0 0 _ rfl (by omega) hj b1 (by rw [g8, f2])
  · have he : σ 1 (2358 + 8 * s + 6) - 1 = -1 := Classical.not_not.mp he
    apply t_inj
    rw [he] at hq1
    have hq1 : (-1 : Int) = (q : Int) - 1 := hq1
    rw [g8]
    show (q : Int) = 0
    omega
theorem c_fails {a1 a2 : Int32} {s N : Nat} (h1 : a1.toInt = s) (hs : s < 8) (hN : N < 2147460000) (σ : sm_S) (hj : jj N (σ 1)) : xC xM j_M_fails [.ref 0, .int a1, .int a2] σ (sm_V (fun σ' => ∃ w N', σ' = sm_set σ 1 w ∧ jj N' w ∧ N ≤ N' ∧ N' ≤ N + 7 ∧ w (2358 + 8 * s) = 1 ∧ ∀ i, 2358 ≤ i → i < 2422 → (i < 2358 + 8 * s ∨ 2358 + 8 * s + 8 ≤ i) → w i = σ 1 i)) := by
  refine w_M_fails a1 a2 σ _ ((c_staysBack h1 hs (by omega) σ hj).void ?_)
  rintro _ ⟨w1, N1, rfl, hw1, a1', a2', a3', a4'⟩
  refine (c_opens h1 hs _ (by rw [s_at]; exact hw1) (by rw [s_at]; exact a3')).void ?_
  rintro _ ⟨w2, rfl, hw2, b1, b2⟩
  rw [s_at] at b2
  refine (c_spanAt a1 _).int ?_
  rintro _ σ1 ⟨rfl, e1⟩
  obtain ⟨p7, q7⟩ := ixS (k := 7) (j := 7) h1 rfl (by omega)
  rw [q7]
  refine ⟨p7, fun σ2 e2 => ?_⟩
  subst e2 e1
  simp only [s_at, s_ss]
  refine (c_counts (k := 7) (j := 7) rfl (by omega) 1 _).void ?_
  rintro _ rfl
  simp only [s_at, s_ss]
  have hj3 := jj_low (i := 7 + 7) (x := upd w2 (2358 + 8 * s + 7) (a2 + 1) (7 + 7) + 1) (by omega) (by omega) (jj_cell (i := 2358 + 8 * s + 7) (x := a2 + 1) (by omega) (Or.inr (Or.inr ⟨s, hs, Or.inr (Or.inr rfl)⟩)) hw2)
  refine (c_writes' _ _ _ _ (by rw [s_at]; exact hj3) (by omega)).void ?_
  rintro _ ⟨w3, rfl, hw3, c1⟩
  rw [s_at] at c1
  refine ⟨rfl, w3, N1 + 1, s_ss, hw3, by omega, by omega, ?_, fun i g1 g2 g3 => ?_⟩
  · rw [c1 _ (by omega) (by omega), u_ne (by omega), u_ne (by omega)]; exact b1
  · rw [c1 _ (by omega) (by omega), u_ne (by omega), u_ne (by omega), b2 i (by omega) (by omega) g3, a4' i g1 g2 (by omega)]
theorem c_giveUp {N : Nat} (a1 : Int32) (σ : sm_S) (hj : jj N (σ 1)) (hN : N < 2147460000) : xC xM j_M_giveUp [.ref 0, .int a1] σ (sm_I (pub N 7 σ)) := by
  refine w_M_giveUp a1 σ _ (fun σ1 e1 => (c_isSpan a1 σ1).int ?_)
  have hj1 : jj N (σ1 1) := by rw [e1, s_ne (by decide)]; exact hj
  rintro x1 σ1 ⟨hx1, rfl⟩
  refine ⟨fun _ => ⟨Or.inl rfl, _, rfl, pub_keep hj e1⟩, fun n1 => ?_⟩
  obtain ⟨-, s, hs, h1⟩ := hx1.resolve_right (fun z => n1 z.1)
  refine (c_isGoing h1 hs _).int ?_
  rintro x2 σ1 ⟨-, rfl⟩
  refine ⟨fun _ => (c_fails h1 hs hN _ hj1).void ?_, fun _ => ⟨Or.inl rfl, _, rfl, pub_keep hj e1⟩⟩
  rintro _ ⟨w, N', rfl, hw, k1, k2, -⟩
  exact ⟨Or.inr rfl, _, rfl, pub_set e1 hw k1 k2⟩
