/-! ===== the model: a span's way ends ===== -/
/-- block n isn't on its way any more (at frame p now), its line is empty, span s has none on its way -/
theorem jr_back {v v' : Nat → Int32} {n s o p : Nat} (hn : n < 96) (hs : s < 8) (hj : jr v) (hq : (v (2358 + 8 * s + 6)).toInt = ((n + 1 : Nat) : Int)) (ho : (v (786 + 16 * n + 2)).toInt = o) (hp1 : (v' (786 + 16 * n + 1)).toInt = p) (hp2 : p < 256) (hp3 : p % 2 ^ o = 0)
    (e6 : v' (786 + 16 * n + 6) = 0) (e7 : v' (786 + 16 * n + 7) = 0) (e9 : v' (786 + 16 * n + 9) = 0) (eS : v' (2358 + 8 * s + 6) = 0)
    (e : ∀ i, 786 ≤ i → i < 2422 → i ≠ 786 + 16 * n + 1 → i ≠ 786 + 16 * n + 6 → i ≠ 786 + 16 * n + 7 → i ≠ 786 + 16 * n + 9 → i ≠ 2358 + 8 * s + 6 → v' i = v i) : jr v' := by
  obtain ⟨j1, j2, j3, j4, s0, hs0, z1, z2⟩ := hj
  have hns : ∃ fr : Nat, (v (786 + 16 * n + 1)).toInt = fr ∧ fr / 32 = s := by
    obtain ⟨st, pt, at', q, -, -, -, -, -, -, -, g8, g9⟩ := j3 s hs
    rw [hq] at g8
    rcases g9 with g9 | ⟨b, f1, f2, -, -, fr, f5, f6⟩
    · omega
    · have : b = n := by omega
      subst this
      exact ⟨fr, f5, f6⟩
  refine ⟨fun b hb => ?_, fun b hb => ?_, fun s2 hs2 => ?_, fun b hb => ?_, s0, hs0, ?_, ?_⟩
  · obtain ⟨o2, fr, h1, h2, h3, h4, h5, h6, h7, h8⟩ := j1 b hb
    by_cases hbn : b = n
    · subst hbn
      have hoo : o2 = o := by rw [ho] at h1; omega
      subst hoo
      refine ⟨o2, p, ?_, h2, hp1, hp2, hp3, ?_, ⟨0, by rw [e6]; rfl, Or.inl rfl⟩, by rw [e7]; decide⟩
      · rw [e _ (by omega) (by omega) (by omega) (by omega) (by omega) (by omega) (by omega)]; exact h1
      · rw [e _ (by omega) (by omega) (by omega) (by omega) (by omega) (by omega) (by omega)]; exact h6
    · exact bk_cong (fun k hk _ _ _ => e _ (by omega) (by omega) (by omega) (by omega) (by omega) (by omega) (by omega)) ⟨o2, fr, h1, h2, h3, h4, h5, h6, h7, h8⟩
  · by_cases hbn : b = n
    · subst hbn
      exact ⟨0, o, by rw [e9]; rfl, by omega, by rw [e _ (by omega) (by omega) (by omega) (by omega) (by omega) (by omega) (by omega)]; exact ho, fun h => by omega, fun k hk => by omega, fun k m _ hm => by omega⟩
    · exact ln_cong (fun k hk _ _ _ => e _ (by omega) (by omega) (by omega) (by omega) (by omega) (by omega) (by omega)) (fun t k ht hk => e _ (by omega) (by omega) (by omega) (by omega) (by omega) (by omega) (by omega)) (j2 b hb)
  · obtain ⟨st, pt, at', q, h1, h2, h3, h4, h5, h6, h7, h8, h9⟩ := j3 s2 hs2
    by_cases hss : s2 = s
    · subst hss
      refine ⟨st, pt, at', 0, ?_, h2, ?_, h4, h5, ?_, h7, by rw [eS]; rfl, Or.inl rfl⟩
      · rw [e _ (by omega) (by omega) (by omega) (by omega) (by omega) (by omega) (by omega)]; exact h1
      · rw [e _ (by omega) (by omega) (by omega) (by omega) (by omega) (by omega) (by omega)]; exact h3
      · rw [e _ (by omega) (by omega) (by omega) (by omega) (by omega) (by omega) (by omega)]; exact h6
    · refine ⟨st, pt, at', q, ?_, h2, ?_, h4, h5, ?_, h7, ?_, ?_⟩
      · rw [e _ (by omega) (by omega) (by omega) (by omega) (by omega) (by omega) (by omega)]; exact h1
      · rw [e _ (by omega) (by omega) (by omega) (by omega) (by omega) (by omega) (by omega)]; exact h3
      · rw [e _ (by omega) (by omega) (by omega) (by omega) (by omega) (by omega) (by omega)]; exact h6
      · rw [e _ (by omega) (by omega) (by omega) (by omega) (by omega) (by omega) (by omega)]; exact h8
      · rcases h9 with h9 | ⟨b, g1, g2, g3, g4, fr, g5, g6⟩
        · exact Or.inl h9
        · have hbn : b ≠ n := fun z => by
            subst z
            obtain ⟨fr2, f1, f2⟩ := hns
            rw [g5] at f1
            have : fr = fr2 := by omega
            subst this
            omega
          refine Or.inr ⟨b, g1, g2, g3, ?_, fr, ?_, g6⟩ <;> rw [e _ (by omega) (by omega) (by omega) (by omega) (by omega) (by omega) (by omega)] <;> assumption
  · intro hb6
    by_cases hbn : b = n
    · subst hbn; exact absurd e6 hb6
    · rw [e _ (by omega) (by omega) (by omega) (by omega) (by omega) (by omega) (by omega)] at hb6
      obtain ⟨h1, fr, h2, h3, h4⟩ := j4 b hb hb6
      have hfs : fr / 32 ≠ s := fun z => by
        rw [z, hq] at h4
        omega
      refine ⟨?_, fr, ?_, h3, ?_⟩ <;> rw [e _ (by omega) (by omega) (by omega) (by omega) (by omega) (by omega) (by omega)] <;> assumption
  · rw [e _ (by omega) (by omega) (by omega) (by omega) (by omega) (by omega) (by omega)]; exact z1
  · rw [e _ (by omega) (by omega) (by omega) (by omega) (by omega) (by omega) (by omega)]; exact z2
/-- who waits, out of ln_ok -/
theorem ln_line {v : Nat → Int32} {n : Nat} (h : ln_ok v n) : ∃ L o : Nat, (v (786 + 16 * n + 9)).toInt = L ∧ L ≤ 6 ∧ (v (786 + 16 * n + 2)).toInt = o ∧ lineOf v n o L := by
  obtain ⟨L, o, h1, h2, h3, -, h5, -⟩ := h
  refine ⟨L, o, h1, h2, h3, fun j hj => ?_⟩
  obtain ⟨t, a, g1, g2, g3, g4, g5⟩ := h5 j hj
  exact ⟨t, a, g1, g2, g4, g5, Or.inl g3⟩
theorem l_opens {a1 a2 : Int32} {s N : Nat} (h1 : a1.toInt = s) (hs : s < 8) : ∀ (d k : Nat) (a3 : Int32) (σ : sm_S), a3.toInt = ((32 * s + k : Nat) : Int) → k + d = 32 → jj N (σ 1) → xE xM m_M_opens 47 [.ref 0, .int a1, .int a2, .int a3] [] σ (sm_V (fun σ' => ∃ w, σ' = sm_set σ 1 w ∧ jj N w ∧ ∀ i, 786 ≤ i → i < 2422 → w i = σ 1 i)) := by
  have hb : ((32 * a1) + 32).toInt = ((32 * s + 32 : Nat) : Int) := by
    rw [t_add (t_32s h1 hs) (y := 32) rfl (by omega) (by omega)]
    omega
  intro d
  induction d with
  | zero =>
    intro k a3 σ h3 hk hj
    refine w_M_opens_47 a1 a2 a3 σ _ ⟨fun _ => ⟨rfl, σ 1, s_id.symm, hj, fun _ _ _ => rfl⟩, fun h => absurd ?_ h⟩
    rw [t_le, hb, h3]
    omega
  | succ d ih =>
    intro k a3 σ h3 hk hj
    have h3' : (a3 + 1).toInt = ((32 * s + (k + 1) : Nat) : Int) := by
      rw [t_add h3 (y := 1) rfl (by omega) (by omega)]
      omega
    refine w_M_opens_47 a1 a2 a3 σ _ ⟨fun h => ?_, fun _ => (c_stateOf h3 (by omega) σ).int ?_⟩
    · rw [t_le, hb, h3] at h
      omega
    · rintro x σ ⟨-, rfl⟩
      refine ⟨fun _ => ih (k + 1) _ _ h3' (by omega) hj, fun _ => (c_frameAt a3 _).int ?_⟩
      rintro _ σ ⟨rfl, rfl⟩
      obtain ⟨p1, q1⟩ := ixF (k := 0) (j := 0) h3 rfl (by omega)
      rw [q1]
      refine ⟨p1, fun σ1 e1 => ?_⟩
      subst e1
      have hj1 : jj N (upd (σ 1) (18 + 3 * (32 * s + k) + 0) 1) := jj_fr (fr_st1 (f := 32 * s + k) rfl (by decide) (by omega) hj.1) (fr_upd (by omega) (by omega)) hj
      refine (ih (k + 1) (a3 + 1) _ h3' (by omega) (by rw [s_at]; exact hj1)).mono ?_
      rintro r σ' ⟨rfl, w, rfl, hw, ew⟩
      rw [s_at] at ew
      exact ⟨rfl, w, s_ss, hw, fun i g1 g2 => by rw [ew i g1 g2, u_ne (by omega)]⟩
theorem c_opens {a1 : Int32} {s N : Nat} (h1 : a1.toInt = s) (hs : s < 8) (σ : sm_S) (hj : jj N (σ 1)) (h6 : σ 1 (2358 + 8 * s + 6) = 0) : xC xM j_M_opens [.ref 0, .int a1] σ (sm_V (fun σ' => ∃ w, σ' = sm_set σ 1 w ∧ jj N w ∧ w (2358 + 8 * s) = 1 ∧ ∀ i, 786 ≤ i → i < 2422 → (i < 2358 + 8 * s ∨ 2358 + 8 * s + 8 ≤ i) → w i = σ 1 i)) := by
  refine w_M_opens a1 σ _ ((c_spanAt a1 σ).int ?_)
  rintro _ σ ⟨rfl, rfl⟩
  obtain ⟨p0, q0⟩ := ixS (k := 0) (j := 0) h1 rfl (by omega)
  obtain ⟨p2, q2⟩ := ixS (k := 2) (j := 2) h1 rfl (by omega)
  obtain ⟨p3, q3⟩ := ixS (k := 3) (j := 3) h1 rfl (by omega)
  obtain ⟨p4, q4⟩ := ixS (k := 4) (j := 4) h1 rfl (by omega)
  rw [q0, q2, q3, q4]
  refine ⟨p0, fun σ1 e1 => ⟨p2, fun σ2 e2 => ⟨p3, fun σ3 e3 => ⟨p4, fun σ4 e4 => ?_⟩⟩⟩⟩
  subst e4 e3 e2 e1
  simp only [s_at, s_ss]
  have hw0 : ∃ v, v = upd (upd (upd (upd (σ 1) (2358 + 8 * s + 0) 1) (2358 + 8 * s + 2) 0) (2358 + 8 * s + 3) 0) (2358 + 8 * s + 4) 0 := ⟨_, rfl⟩
  obtain ⟨v, hv⟩ := hw0
  rw [← hv]
  have hve : ∀ i, i ≠ 2358 + 8 * s + 0 → i ≠ 2358 + 8 * s + 2 → i ≠ 2358 + 8 * s + 3 → i ≠ 2358 + 8 * s + 4 → v i = σ 1 i := fun i h1 h2 h3 h4 => by rw [hv, u_ne h4, u_ne h3, u_ne h2, u_ne h1]
  have hv0 : v (2358 + 8 * s + 0) = 1 := by rw [hv, u_ne (by omega), u_ne (by omega), u_ne (by omega), u_at]
  have hv2 : v (2358 + 8 * s + 2) = 0 := by rw [hv, u_ne (by omega), u_ne (by omega), u_at]
  have hjn : jj N v := by
    refine ⟨fr_cong (fun i h1 h2 => hve _ (by omega) (by omega) (by omega) (by omega)) (fun b k hb hk => hve _ (by omega) (by omega) (by omega) (by omega)) hj.1, ?_, by rw [hve _ (by omega) (by omega) (by omega) (by omega)]; exact hj.2.2⟩
    obtain ⟨st, pt, at', q, g1, g2, g3, g4, g5, g6, g7, g8, g9⟩ := hj.2.1.2.2.1 s hs
    obtain ⟨s2, f1, f2, f3⟩ := hj.2.1.2.2.2.2
    refine jr_span hs hj.2.1 (fun i _ _ h => hve i (by omega) (by omega) (by omega) (by omega)) (hve _ (by omega) (by omega) (by omega) (by omega)) ⟨1, 0, at', 0, by rw [hv0]; rfl, by omega, by rw [hv2]; rfl, by omega, fun _ => by omega, ?_, g7, ?_, Or.inl rfl⟩ ⟨s2, f1, ?_, ?_⟩
    · rw [hve _ (by omega) (by omega) (by omega) (by omega)]; exact g6
    · rw [hve _ (by omega) (by omega) (by omega) (by omega), h6]; rfl
    · by_cases hss : s2 = s
      · subst hss; exact hv0
      · rw [hve _ (by omega) (by omega) (by omega) (by omega)]; exact f2
    · rw [hve _ (by omega) (by omega) (by omega) (by omega)]; exact f3
  refine (l_opens h1 hs 32 0 _ _ (by rw [t_32s h1 hs]; rfl) rfl (by rw [s_at]; exact hjn)).mono ?_
  rintro r σ' ⟨rfl, w, rfl, hw, ew⟩
  rw [s_at] at ew
  exact ⟨rfl, w, s_ss, hw, by rw [ew _ (by omega) (by omega)]; exact hv0, fun i g1 g2 g3 => by rw [ew i g1 g2, hve i (by omega) (by omega) (by omega) (by omega)]⟩
