/-! ===== the model: blocks are moved at once; press, gather ===== -/
/-- behind a public call, as the law needs it -/
def pubX (N D : Nat) (σ : sm_S) (_ : Int32) (σ' : sm_S) : Prop := ∃ N', jj N' (σ' 1) ∧ N ≤ N' ∧ N' ≤ N + D ∧ σ' 5 = σ 5 ∧ σ' 0 6 = σ 0 6 ∧ ∀ k, 5 < k → σ' k = σ k
theorem pub_X {N D : Nat} {σ σ' : sm_S} {x : Int32} (h : pub N D σ x σ') : pubX N D σ x σ' := by
  obtain ⟨v, N', rfl, h1, h2, h3⟩ := h
  refine ⟨N', by rw [s_at]; exact h1, h2, h3, ?_, ?_, fun k hk => ?_⟩
  · rw [s_ne (by decide), s_ne (by decide)]
  · rw [s_ne (by decide), s_at, u_ne (by decide)]
  · rw [s_ne (by omega), s_ne (by omega)]
theorem jr_moved {v : Nat → Int32} {n o p : Nat} {x : Int32} (hn : n < 96) (hj : jr v) (h6 : v (786 + 16 * n + 6) = 0) (ho : (v (786 + 16 * n + 2)).toInt = o) (hx : x.toInt = p) (hp : p < 256) (hal : p % 2 ^ o = 0) : jr (upd v (786 + 16 * n + 1) x) := by
  obtain ⟨j1, j2, j3, j4, s, hs, z1, z2⟩ := hj
  have e : ∀ i, i ≠ 786 + 16 * n + 1 → upd v (786 + 16 * n + 1) x i = v i := fun i hi => u_ne hi
  refine ⟨fun b hb => ?_, fun b hb => ?_, fun s hs => ?_, fun b hb => ?_, s, hs, ?_, ?_⟩
  · by_cases hbn : b = n
    · subst hbn
      obtain ⟨o2, fr, h1, h2, h3, h4, h5, h6', h7, h8⟩ := j1 b hb
      have hoo : o2 = o := by rw [ho] at h1; omega
      subst hoo
      refine ⟨o2, p, ?_, h2, by rw [u_at]; exact hx, hp, hal, ?_, ?_, ?_⟩ <;> rw [e _ (by omega)] <;> assumption
    · exact bk_cong (fun k hk _ _ _ => e _ (by omega)) (j1 b hb)
  · obtain ⟨L, o2, h1, h2, h3, h4, h5, h6'⟩ := j2 b hb
    refine ⟨L, o2, ?_, h2, ?_, ?_, fun k hk => ?_, fun k m hkm hm => ?_⟩
    · rw [e _ (by omega)]; exact h1
    · rw [e _ (by omega)]; exact h3
    · rw [e _ (by omega)]; exact h4
    · obtain ⟨t, a, g1, g2, g3, g4, g5⟩ := h5 k hk
      refine ⟨t, a, g1, ?_, ?_, ?_, g5⟩ <;> rw [e _ (by omega)] <;> assumption
    · rw [e _ (by omega), e _ (by omega)]; exact h6' k m hkm hm
  · obtain ⟨st, pt, at', q, h1, h2, h3, h4, h5, h6', h7, h8, h9⟩ := j3 s hs
    refine ⟨st, pt, at', q, ?_, h2, ?_, h4, h5, ?_, h7, ?_, ?_⟩
    · rw [e _ (by omega)]; exact h1
    · rw [e _ (by omega)]; exact h3
    · rw [e _ (by omega)]; exact h6'
    · rw [e _ (by omega)]; exact h8
    · rcases h9 with h9 | ⟨b, g1, g2, g3, g4, fr, g5, g6⟩
      · exact Or.inl h9
      · have hbn : b ≠ n := fun z => by subst z; exact g4 h6
        refine Or.inr ⟨b, g1, g2, g3, ?_, fr, ?_, g6⟩ <;> rw [e _ (by omega)] <;> assumption
  · intro hb6
    rw [e _ (by omega)] at hb6
    have hbn : b ≠ n := fun z => by subst z; exact hb6 h6
    obtain ⟨h1, fr, h2, h3, h4⟩ := j4 b hb hb6
    refine ⟨?_, fr, ?_, h3, ?_⟩ <;> rw [e _ (by omega)] <;> assumption
  · rw [e _ (by omega)]; exact z1
  · rw [e _ (by omega)]; exact z2
theorem l_movesTo {a1 a2 a3 : Int32} {n o fr p N : Nat} (h1 : a1.toInt = n) (hn : n < 96) (h2 : a2.toInt = p) (hp : p < 256) (hpa : p % 2 ^ o = 0) (h3 : a3.toInt = fr) (hfr : fr < 256) (hal : fr % 2 ^ o = 0) (ho : o ≤ 4) : ∀ (d k : Nat) (a4 : Int32) (σ : sm_S), a4.toInt = k → k + d = 2 ^ o → jj N (σ 1) → (σ 1 (786 + 16 * n + 2)).toInt = o → σ 1 (786 + 16 * n + 6) = 0 → σ 1 (786 + 16 * n + 0) = 1 →
    xE xM m_M_movesTo 9 [.ref 0, .int a1, .int a2, .int a3, .int a4] [] σ (sm_V (fun σ' => ∃ w, σ' = sm_set σ 1 w ∧ jj N w ∧ ∀ i, 786 ≤ i → i ≠ 786 + 16 * n + 1 → w i = σ 1 i)) := by
  have hpw := t_pw (k := o) (by omega)
  have hs1 := t_al (k := o) (by omega) hal
  have hs2 := t_al (k := o) (by omega) hpa
  intro d
  induction d with
  | zero =>
    intro k a4 σ h4 hk hj ho2 h6 hI
    refine w_M_movesTo_9 a1 a2 a3 a4 σ _ ((c_longOf h1 hn σ).int ?_)
    rintro _ σ ⟨rfl, rfl⟩
    refine ⟨fun _ => (c_lay (k := 1) (j := 1) h1 rfl (by omega) a2 _).void ?_, fun h => absurd ?_ h⟩
    · rintro _ rfl
      refine (c_counts (k := 10) (j := 10) rfl (by omega) 1 _).void ?_
      rintro _ rfl
      simp only [s_at, s_ss]
      refine ⟨rfl, _, rfl, jj_low (by omega) (by omega) ⟨fr_frame hI hj.1, jr_moved hn hj.2.1 h6 ho2 h2 hp hpa, by rw [u_ne (by omega)]; exact hj.2.2⟩, fun i hi1 hi2 => ?_⟩
      rw [u_ne (by omega), u_ne hi2]
    · rw [t_le, t_pow ho2 (by omega), h4]
      omega
  | succ d ih =>
    intro k a4 σ h4 hk hj ho2 h6 hI
    have h4' : (a4 + 1).toInt = ((k + 1 : Nat) : Int) := by
      rw [t_add h4 (y := 1) rfl (by omega) (by omega)]
      omega
    have hto := t_add h2 h4 (by omega) (by omega)
    rw [← Int.natCast_add] at hto
    have hfo := t_add h3 h4 (by omega) (by omega)
    rw [← Int.natCast_add] at hfo
    refine w_M_movesTo_9 a1 a2 a3 a4 σ _ ((c_longOf h1 hn σ).int ?_)
    rintro _ σ ⟨rfl, rfl⟩
    refine ⟨fun h => ?_, fun _ => (c_has' hto (by omega) h1 hn _ hj.1 (fun _ => hI)).void ?_⟩
    · rw [t_le, t_pow ho2 (by omega), h4] at h
      omega
    · rintro _ ⟨v1, rfl, g1, g2, -⟩
      refine (c_valueOf hfo (by omega) _).int ?_
      rintro x _ ⟨-, rfl⟩
      refine (c_lays' hto (by omega) _ (by rw [s_at]; exact g1)).void ?_
      rintro _ ⟨v2, rfl, g3, g4, -⟩
      rw [s_at] at g4
      refine (c_leaves' hfo (by omega) _ (by rw [s_at]; exact g3)).void ?_
      rintro _ ⟨v3, rfl, g5, g6, -⟩
      rw [s_at] at g6
      have hfe := (g2.tr g4).tr g6
      simp only [s_ss]
      refine (ih (k + 1) (a4 + 1) _ h4' (by omega) (by rw [s_at]; exact jj_fr g5 hfe hj) (by rw [s_at, hfe _ (by omega)]; exact ho2) (by rw [s_at, hfe _ (by omega)]; exact h6) (by rw [s_at, hfe _ (by omega)]; exact hI)).mono ?_
      rintro r σ' ⟨rfl, w, rfl, hw, ew⟩
      rw [s_at] at ew
      exact ⟨rfl, w, s_ss, hw, fun i hi1 hi2 => by rw [ew i hi1 hi2, hfe i (Or.inr hi1)]⟩
theorem c_movesTo {b x : Int32} {n o p N : Nat} (hb : b.toInt = n) (hn : n < 96) (hx : x.toInt = p) (hp : p < 256) (σ : sm_S) (ho : (σ 1 (786 + 16 * n + 2)).toInt = o) (hpa : p % 2 ^ o = 0) (h6 : σ 1 (786 + 16 * n + 6) = 0) (hI : σ 1 (786 + 16 * n + 0) = 1) (hj : jj N (σ 1)) :
    xC xM j_M_movesTo [.ref 0, .int b, .int x] σ (sm_V (fun σ' => ∃ w, σ' = sm_set σ 1 w ∧ jj N w ∧ ∀ i, 786 ≤ i → i ≠ 786 + 16 * n + 1 → w i = σ 1 i)) := by
  obtain ⟨o2, fr, b1, b2, b3, b4, b5, -⟩ := hj.2.1.1 n hn
  have hoo : o2 = o := by rw [ho] at b1; omega
  subst hoo
  have hpw := t_pw (k := o2) (by omega)
  refine w_M_movesTo b x σ _ ((c_frameOf hb hn σ).int ?_)
  rintro y σ ⟨hy, rfl⟩
  exact l_movesTo hb hn hx hp hpa (by rw [hy]; exact b3) b4 b5 b2 (2 ^ o2) 0 0 _ rfl (by omega) hj b1 h6 hI
theorem c_isLoose {b : Int32} {n : Nat} (hb : b.toInt = n) (hn : n < 96) (σ : sm_S) : xC xM j_M_isLoose [.ref 0, .int b] σ (sm_I (fun x σ' => (x = 0 ∨ (x = 1 ∧ σ 1 (786 + 16 * n + 3) = 0 ∧ σ 1 (786 + 16 * n + 6) ≤ 0)) ∧ σ' = σ)) := by
  refine w_M_isLoose b σ _ ((c_of (k := 3) (j := 3) hb rfl (by omega) σ).int ?_)
  rintro _ σ ⟨rfl, rfl⟩
  refine ⟨fun _ => ⟨Or.inl rfl, _, rfl, Or.inl rfl, rfl⟩, fun h3 => (c_isPinned hb hn _).int ?_⟩
  rintro x2 σ ⟨-, rfl⟩
  refine ⟨fun _ => ⟨Or.inl rfl, _, rfl, Or.inl rfl, rfl⟩, fun _ => (c_isOnWay hb hn _).int ?_⟩
  rintro x3 σ ⟨hx3, rfl⟩
  refine ⟨fun _ => ⟨Or.inl rfl, _, rfl, Or.inl rfl, rfl⟩, fun n3 => ⟨Or.inr rfl, _, rfl, Or.inr ⟨rfl, Classical.not_not.mp h3, ?_⟩, rfl⟩⟩
  exact (hx3.resolve_right (fun z => n3 (by rw [z.1]; decide))).2
/-- the next to press: none, or a loose one of the span that isn't done -/
def toPress (σ : sm_S) (s : Nat) (x : Int32) : Prop := x = -1 ∨ ∃ n : Nat, x.toInt = n ∧ n < 96 ∧ σ 4 n = 0 ∧ σ 1 (786 + 16 * n + 6) ≤ 0 ∧ σ 1 (786 + 16 * n + 0) = 1 ∧ ∃ fr : Nat, (σ 1 (786 + 16 * n + 1)).toInt = fr ∧ fr / 32 = s
theorem l_nextToPress {a1 : Int32} {s N : Nat} (h1 : a1.toInt = s) (σ : sm_S) (hj : jj N (σ 1)) : ∀ (d k : Nat) (a2 a3 : Int32), a3.toInt = k → k + d = 96 → toPress σ s a2 → xE xM m_M_nextToPress 4 [.ref 0, .int a1, .int a2, .int a3] [] σ (sm_I (fun x σ' => toPress σ s x ∧ σ' = σ)) := by
  intro d
  induction d with
  | zero =>
    intro k a2 a3 h3 hk h2
    refine w_M_nextToPress_4 a1 a2 a3 σ _ ⟨fun _ => ⟨_, rfl, h2, rfl⟩, fun h => absurd ?_ h⟩
    rw [t_le, h3]
    show (96 : Int) ≤ _
    omega
  | succ d ih =>
    intro k a2 a3 h3 hk h2
    have h3' : (a3 + 1).toInt = ((k + 1 : Nat) : Int) := by
      rw [t_add h3 (y := 1) rfl (by omega) (by omega)]
      omega
    have go := fun b2 hb => ih (k + 1) b2 (a3 + 1) h3' (by omega) hb
    obtain ⟨o, fr, b1, b2, b3, b4, b5, -⟩ := hj.2.1.1 k (by omega)
    refine w_M_nextToPress_4 a1 a2 a3 σ _ ⟨fun h => ?_, fun _ => (c_isBlock a3 σ).int ?_⟩
    · rw [t_le, h3] at h
      have h : (96 : Int) ≤ k := h
      omega
    · rintro x1 σ ⟨hx1, rfl⟩
      refine ⟨fun _ => go _ h2, fun nI => ⟨t_vp h3 (by omega), fun _ => go _ h2, fun hd => (c_frameOf h3 (by omega) _).int ?_⟩⟩
      rw [t_nat h3] at hd
      rintro x2 σ ⟨hx2, rfl⟩
      have hfr : x2.toInt = fr := by rw [hx2]; exact b3
      refine (c_spanOf hfr _).int ?_
      rintro x3 σ ⟨hx3, rfl⟩
      refine ⟨fun _ => go _ h2, fun hs => (c_isLoose h3 (by omega) _).int ?_⟩
      have hs : x3 = a1 := Classical.not_not.mp hs
      rintro x4 σ ⟨hx4, rfl⟩
      refine ⟨fun _ => go _ h2, fun n4 => ?_⟩
      obtain ⟨-, -, h6⟩ := hx4.resolve_left n4
      have hI : σ 1 (786 + 16 * k + 0) = 1 := by
        obtain ⟨-, k2, -, hk2, hI⟩ := hx1.resolve_right (fun z => nI z.1)
        have : k2 = k := by omega
        subst this
        exact hI
      have hnew := go a3 (Or.inr ⟨k, h3, by omega, Classical.not_not.mp hd, h6, hI, fr, b3, by rw [hs, h1] at hx3; omega⟩)
      refine ⟨fun _ => hnew, fun ha => (c_frameOf h3 (by omega) _).int ?_⟩
      rintro x5 σ ⟨-, rfl⟩
      obtain ⟨n, hn1, hn2, -⟩ := h2.resolve_left ha
      refine (c_frameOf hn1 hn2 _).int ?_
      rintro x6 σ ⟨-, rfl⟩
      exact ⟨fun _ => go _ h2, fun _ => hnew⟩
theorem c_nextToPress {a1 : Int32} {s N : Nat} (h1 : a1.toInt = s) (σ : sm_S) (hj : jj N (σ 1)) : xC xM j_M_nextToPress [.ref 0, .int a1] σ (sm_I (fun x σ' => toPress σ s x ∧ σ' = σ)) :=
  w_M_nextToPress a1 σ _ (l_nextToPress h1 σ hj 96 0 (-1) 0 rfl rfl (Or.inl rfl))
