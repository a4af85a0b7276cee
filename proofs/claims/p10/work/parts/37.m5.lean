/-! ===== the model: blocks go ===== -/
/-- frames are left, or are as they were -/
def fr_lv (v v' : Nat → Int32) : Prop := ∀ g, g < 256 → (v' (18 + 3 * g) = 1 ∨ v' (18 + 3 * g) = 2) ∨ (v' (18 + 3 * g) = v (18 + 3 * g) ∧ v' (18 + 3 * g + 1) = v (18 + 3 * g + 1))
theorem fr_lv.rf {v : Nat → Int32} : fr_lv v v := fun _ _ => Or.inr ⟨rfl, rfl⟩
theorem fr_lv.tr {a b c : Nat → Int32} (h1 : fr_lv a b) (h2 : fr_lv b c) : fr_lv a c := by
  intro g hg
  rcases h2 g hg with h | ⟨h3, h4⟩
  · exact Or.inl h
  · rcases h1 g hg with h5 | ⟨h5, h6⟩
    · rw [h3]; exact Or.inl h5
    · exact Or.inr ⟨h3.trans h5, h4.trans h6⟩
theorem fr_lv.of {v v' : Nat → Int32} {n : Nat} (h1 : v' (18 + 3 * n) = 1 ∨ v' (18 + 3 * n) = 2) (h2 : ∀ i, i < 18 + 3 * n ∨ 18 + 3 * n + 3 ≤ i → v' i = v i) : fr_lv v v' := by
  intro g hg
  by_cases hgn : g = n
  · subst hgn; exact Or.inl h1
  · exact Or.inr ⟨h2 _ (by omega), h2 _ (by omega)⟩
theorem l_goes {a1 : Int32} {n o fr : Nat} (h1 : a1.toInt = n) (hn : n < 96) (ho : o ≤ 4) (hfr : fr < 256) (hal : fr % 2 ^ o = 0) : ∀ (d k : Nat) (a2 : Int32) (σ : sm_S), a2.toInt = k → k + d = 2 ^ o → (σ 1 (786 + 16 * n + 2)).toInt = o → (σ 1 (786 + 16 * n + 1)).toInt = fr → fr_ok (σ 1) →
    xE xM m_M_goes 2 [.ref 0, .int a1, .int a2] [] σ (sm_V (fun σ' => ∃ v, σ' = sm_set σ 1 (upd v (786 + 16 * n + 0) 0) ∧ fr_ok v ∧ fr_eq (σ 1) v ∧ fr_lv (σ 1) v ∧ ∀ j, k ≤ j → j < 2 ^ o → v (18 + 3 * (fr + j)) = 1 ∨ v (18 + 3 * (fr + j)) = 2)) := by
  have hp := t_pw (k := o) (by omega)
  have hsp := t_al (k := o) (by omega) hal
  intro d
  induction d with
  | zero =>
    intro k a2 σ h2 hk ho2 hf2 hF
    refine w_M_goes_2 a1 a2 σ _ ((c_longOf h1 hn σ).int ?_)
    rintro _ _ ⟨rfl, rfl⟩
    refine ⟨fun _ => (c_lay (k := 0) (j := 0) h1 rfl (by omega) 0 _).void ?_, fun h => absurd ?_ h⟩
    · rintro _ rfl
      exact ⟨rfl, _, rfl, hF, fr_eq.rf, fr_lv.rf, fun j h3 h4 => by omega⟩
    · rw [t_le, t_pow ho2 (by omega), h2]
      omega
  | succ d ih =>
    intro k a2 σ h2 hk ho2 hf2 hF
    refine w_M_goes_2 a1 a2 σ _ ((c_longOf h1 hn σ).int ?_)
    rintro _ _ ⟨rfl, rfl⟩
    refine ⟨fun h => ?_, fun _ => (c_frameOf h1 hn _).int ?_⟩
    · rw [t_le, t_pow ho2 (by omega), h2] at h
      omega
    · rintro _ _ ⟨rfl, rfl⟩
      have hf3 := t_add hf2 h2 (by omega) (by omega)
      rw [← Int.natCast_add] at hf3
      refine (c_leaves' hf3 (by omega) _ hF).void ?_
      rintro _ ⟨v, rfl, g1, g2, g3, g4⟩
      have h2' : (a2 + 1).toInt = ((k + 1 : Nat) : Int) := by
        rw [t_add h2 (y := 1) rfl (by omega) (by omega)]
        omega
      refine (ih (k + 1) (a2 + 1) _ h2' (by omega) ?_ ?_ ?_).mono ?_
      · rw [s_at, g2 _ (by omega)]; exact ho2
      · rw [s_at, g2 _ (by omega)]; exact hf2
      · rw [s_at]; exact g1
      · rintro r σ' ⟨rfl, w, rfl, e1, e2, e3, e4⟩
        rw [s_at] at e2 e3
        refine ⟨rfl, w, s_ss, e1, g2.tr e2, (fr_lv.of g3 g4).tr e3, fun j hj1 hj2 => ?_⟩
        rcases Nat.lt_or_ge k j with hlt | hge
        · exact e4 j hlt hj2
        · have hjk : j = k := by omega
          subst hjk
          rcases e3 (fr + j) (by omega) with h | ⟨h, -⟩
          · exact h
          · rw [h]; exact g3
theorem c_goes {b : Int32} {n : Nat} (hb : b.toInt = n) (hn : n < 96) (σ : sm_S) (hB : bk_ok (σ 1) n) (hF : fr_ok (σ 1)) : xC xM j_M_goes [.ref 0, .int b] σ (sm_V (fun σ' => ∃ v fr, σ' = sm_set σ 1 (upd v (786 + 16 * n + 0) 0) ∧ fr_ok v ∧ fr_eq (σ 1) v ∧ fr_lv (σ 1) v ∧ (σ 1 (786 + 16 * n + 1)).toInt = ((fr : Nat) : Int) ∧ fr < 256 ∧ (v (18 + 3 * fr) = 1 ∨ v (18 + 3 * fr) = 2))) := by
  obtain ⟨o, fr, h1, h2, h3, h4, h5, -⟩ := hB
  have hp := t_pw (k := o) (by omega)
  refine w_M_goes b σ _ ((l_goes hb hn h2 h4 h5 (2 ^ o) 0 0 σ rfl (by omega) h1 h3 hF).mono ?_)
  rintro r σ' ⟨rfl, v, rfl, e1, e2, e3, e4⟩
  exact ⟨rfl, v, fr, rfl, e1, e2, e3, h3, h4, e4 0 (Nat.le_refl 0) (by omega)⟩
theorem jr_gone {v : Nat → Int32} {n : Nat} (hn : n < 96) (hj : jr v) (h6 : v (786 + 16 * n + 6) = 0) : jr (upd v (786 + 16 * n + 0) 0) := by
  obtain ⟨j1, j2, j3, j4, s, hs, z1, z2⟩ := hj
  have e : ∀ i, i ≠ 786 + 16 * n + 0 → upd v (786 + 16 * n + 0) 0 i = v i := fun i hi => u_ne hi
  refine ⟨fun b hb => ?_, fun b hb => ?_, fun s hs => ?_, fun b hb => ?_, s, hs, ?_, ?_⟩
  · obtain ⟨o, fr, h1, h2, h3, h4, h5, h6, h7, h8⟩ := j1 b hb
    refine ⟨o, fr, ?_, h2, ?_, h4, h5, ?_, ?_, ?_⟩ <;> rw [e _ (by omega)] <;> assumption
  · obtain ⟨L, o, h1, h2, h3, h4, h5, h6⟩ := j2 b hb
    refine ⟨L, o, ?_, h2, ?_, ?_, fun k hk => ?_, fun k m hkm hm => ?_⟩
    · rw [e _ (by omega)]; exact h1
    · rw [e _ (by omega)]; exact h3
    · rw [e _ (by omega)]; exact h4
    · obtain ⟨t, a, g1, g2, g3, g4, g5⟩ := h5 k hk
      refine ⟨t, a, g1, ?_, ?_, ?_, g5⟩ <;> rw [e _ (by omega)] <;> assumption
    · rw [e _ (by omega), e _ (by omega)]; exact h6 k m hkm hm
  · obtain ⟨st, pt, at', q, h1, h2, h3, h4, h5, h6, h7, h8, h9⟩ := j3 s hs
    refine ⟨st, pt, at', q, ?_, h2, ?_, h4, h5, ?_, h7, ?_, ?_⟩
    · rw [e _ (by omega)]; exact h1
    · rw [e _ (by omega)]; exact h3
    · rw [e _ (by omega)]; exact h6
    · rw [e _ (by omega)]; exact h8
    · rcases h9 with h9 | ⟨b, g1, g2, g3, g4, fr, g5, g6⟩
      · exact Or.inl h9
      · refine Or.inr ⟨b, g1, g2, g3, ?_, fr, ?_, g6⟩ <;> rw [e _ (by omega)] <;> assumption
  · intro hb6
    rw [e _ (by omega)] at hb6
    have hbn : b ≠ n := fun z => by subst z; exact hb6 h6
    obtain ⟨h1, fr, h2, h3, h4⟩ := j4 b hb hb6
    refine ⟨?_, fr, ?_, h3, ?_⟩
    · rw [e _ (by omega)]; exact h1
    · rw [e _ (by omega)]; exact h2
    · rw [e _ (by omega)]; exact h4
  · rw [e _ (by omega)]; exact z1
  · rw [e _ (by omega)]; exact z2
/-- drops: the block goes, a line more in the log -/
theorem c_drops {b : Int32} {n N : Nat} (hb : b.toInt = n) (hn : n < 96) (hN : N < 2000000000) (σ : sm_S) (hj : jj N (σ 1)) (h6 : σ 1 (786 + 16 * n + 6) = 0) : xC xM j_M_drops [.ref 0, .int b] σ (sm_V (fun σ' => ∃ v fr, σ' = sm_set σ 1 v ∧ jj (N + 1) v ∧ fr_lv (σ 1) v ∧ v (786 + 16 * n + 0) = 0 ∧ (∀ i, 786 ≤ i → i < 2422 → i ≠ 786 + 16 * n + 0 → v i = σ 1 i) ∧ (σ 1 (786 + 16 * n + 1)).toInt = ((fr : Nat) : Int) ∧ fr < 256 ∧ (v (18 + 3 * fr) = 1 ∨ v (18 + 3 * fr) = 2))) := by
  obtain ⟨jF, jR, jN⟩ := hj
  refine w_M_drops b σ _ ((c_frameOf hb hn σ).int ?_)
  rintro _ σ ⟨rfl, rfl⟩
  refine (c_writes _ _ _ _ jN).void ?_
  rintro _ ⟨v1, rfl, w1, w2⟩
  refine (c_counts (k := 5) (j := 5) rfl (by omega) 1 _).void ?_
  rintro _ rfl
  rw [s_at, s_ss]
  have hv2 : ∀ i, 18 ≤ i → i < 2422 → upd v1 12 (v1 12 + 1) i = σ 1 i := fun i h1 h2 => by rw [u_ne (by omega), w2 i h2 (by omega)]
  have hF2 : fr_ok (upd v1 12 (v1 12 + 1)) := fr_cong (fun i h1 h2 => hv2 i h1 (by omega)) (fun n k hn hk => hv2 _ (by omega) (by omega)) jF
  have hB2 : bk_ok (upd v1 12 (v1 12 + 1)) n := bk_cong (fun k hk _ _ _ => hv2 _ (by omega) (by omega)) (jR.1 n hn)
  refine (c_goes hb hn _ (by rw [s_at]; exact hB2) (by rw [s_at]; exact hF2)).void ?_
  rintro _ ⟨v, fr, rfl, e1, e2, e3, e4, e5, e6⟩
  rw [s_at] at e2 e3 e4
  have hv3 : ∀ i, 786 ≤ i → i < 2422 → v i = σ 1 i := fun i h1 h2 => (e2 i (Or.inr h1)).trans (hv2 i (by omega) h2)
  have hjr : jr v := jr_cong (ceq.of hv3) jR
  refine ⟨rfl, upd v (786 + 16 * n + 0) 0, fr, s_ss, ⟨fr_gone hn (by rw [e2 _ (Or.inr (by omega))]; exact e4) e6 e1, jr_gone hn hjr (by rw [hv3 _ (by omega) (by omega)]; exact h6), ?_⟩, ?_, u_at, fun i h1 h2 h3 => ?_, ?_, e5, ?_⟩
  · rw [u_ne (by omega), e2 5 (by omega), u_ne (by omega), w1]
    rw [t_add jN (y := 1) rfl (by omega) (by omega)]
    omega
  · intro g hg
    rw [u_ne (by omega), u_ne (by omega)]
    rcases e3 g hg with h | ⟨h, h'⟩
    · exact Or.inl h
    · exact Or.inr ⟨h.trans (hv2 _ (by omega) (by omega)), h'.trans (hv2 _ (by omega) (by omega))⟩
  · rw [u_ne h3, hv3 i h1 h2]
  · rw [← hv2 _ (by omega) (by omega)]; exact e4
  · rw [u_ne (by omega)]; exact e6
