/-! ===== the model: a span is looked through ===== -/
theorem jr_leave {v v' : Nat → Int32} {n s o p fr : Nat} (hn : n < 96) (hs : s < 8) (hj : jr v) (hI : v (786 + 16 * n + 0) = 1) (hfr : (v (786 + 16 * n + 1)).toInt = fr) (hfs : fr / 32 = s) (hst : v (2358 + 8 * s + 0) = 3) (hS : v (2358 + 8 * s + 6) = 0) (ho : (v (786 + 16 * n + 2)).toInt = o) (hp : p < 256) (hpa : p % 2 ^ o = 0)
    (e6 : (v' (786 + 16 * n + 6)).toInt = ((p + 1 : Nat) : Int)) (e7 : v' (786 + 16 * n + 7) = 0) (eS : (v' (2358 + 8 * s + 6)).toInt = ((n + 1 : Nat) : Int)) (e : ∀ i, 786 ≤ i → i < 2422 → i ≠ 786 + 16 * n + 6 → i ≠ 786 + 16 * n + 7 → i ≠ 2358 + 8 * s + 6 → v' i = v i) : jr v' := by
  have h6 := to_0 hj hn hS hfr hfs
  obtain ⟨j1, j2, j3, j4, s0, hs0, z1, z2⟩ := hj
  have e6' : v' (786 + 16 * n + 6) ≠ 0 := fun z => by rw [z] at e6; have e6 : (0 : Int) = _ := e6; omega
  obtain ⟨on, frn, h1n, h2n, h3n, h4n, h5n, h6n, h7n, h8n⟩ := j1 n hn
  have hoo : on = o := by rw [ho] at h1n; omega
  subst hoo
  have hff : frn = fr := by rw [hfr] at h3n; omega
  subst hff
  refine ⟨fun b hb => ?_, fun b hb => ?_, fun s2 hs2 => ?_, fun b hb => ?_, s0, hs0, ?_, ?_⟩
  · by_cases hbn : b = n
    · subst hbn
      refine ⟨on, frn, ?_, h2n, ?_, h4n, h5n, ?_, ⟨p + 1, e6, Or.inr ⟨by omega, by omega, by rw [Nat.add_sub_cancel]; exact hpa⟩⟩, by rw [e7]; decide⟩
      · rw [e _ (by omega) (by omega) (by omega) (by omega) (by omega)]; exact h1n
      · rw [e _ (by omega) (by omega) (by omega) (by omega) (by omega)]; exact h3n
      · rw [e _ (by omega) (by omega) (by omega) (by omega) (by omega)]; exact h6n
    · exact bk_cong (fun k hk _ _ _ => e _ (by omega) (by omega) (by omega) (by omega) (by omega)) (j1 b hb)
  · by_cases hbn : b = n
    · subst hbn
      obtain ⟨L, o2, h1, h2, h3, h4, h5, h6'⟩ := j2 b hb
      refine ⟨L, o2, ?_, h2, ?_, fun _ => e6', fun k hk => ?_, fun k m hkm hm => ?_⟩
      · rw [e _ (by omega) (by omega) (by omega) (by omega) (by omega)]; exact h1
      · rw [e _ (by omega) (by omega) (by omega) (by omega) (by omega)]; exact h3
      · obtain ⟨t, a, g1, g2, g3, g4, g5⟩ := h5 k hk
        refine ⟨t, a, g1, ?_, ?_, ?_, g5⟩ <;> rw [e _ (by omega) (by omega) (by omega) (by omega) (by omega)] <;> assumption
      · rw [e _ (by omega) (by omega) (by omega) (by omega) (by omega), e _ (by omega) (by omega) (by omega) (by omega) (by omega)]; exact h6' k m hkm hm
    · exact ln_cong (fun k hk _ _ _ => e _ (by omega) (by omega) (by omega) (by omega) (by omega)) (fun t k ht hk => e _ (by omega) (by omega) (by omega) (by omega) (by omega)) (j2 b hb)
  · obtain ⟨st, pt, at', q, h1, h2, h3, h4, h5, h6', h7, h8, h9⟩ := j3 s2 hs2
    by_cases hss : s2 = s
    · subst hss
      have hst3 : st = 3 := by
        rw [hst] at h1
        have h1 : (3 : Int) = st := h1
        omega
      refine ⟨st, pt, at', n + 1, ?_, h2, ?_, h4, h5, ?_, h7, eS, Or.inr ⟨n, hn, rfl, hst3, e6', frn, ?_, hfs⟩⟩
      · rw [e _ (by omega) (by omega) (by omega) (by omega) (by omega)]; exact h1
      · rw [e _ (by omega) (by omega) (by omega) (by omega) (by omega)]; exact h3
      · rw [e _ (by omega) (by omega) (by omega) (by omega) (by omega)]; exact h6'
      · rw [e _ (by omega) (by omega) (by omega) (by omega) (by omega)]; exact hfr
    · refine ⟨st, pt, at', q, ?_, h2, ?_, h4, h5, ?_, h7, ?_, ?_⟩
      · rw [e _ (by omega) (by omega) (by omega) (by omega) (by omega)]; exact h1
      · rw [e _ (by omega) (by omega) (by omega) (by omega) (by omega)]; exact h3
      · rw [e _ (by omega) (by omega) (by omega) (by omega) (by omega)]; exact h6'
      · rw [e _ (by omega) (by omega) (by omega) (by omega) (by omega)]; exact h8
      · rcases h9 with h9 | ⟨b, g1, g2, g3, g4, fr2, g5, g6⟩
        · exact Or.inl h9
        · have hbn : b ≠ n := fun z => by subst z; exact g4 h6
          refine Or.inr ⟨b, g1, g2, g3, ?_, fr2, ?_, g6⟩ <;> rw [e _ (by omega) (by omega) (by omega) (by omega) (by omega)] <;> assumption
  · by_cases hbn : b = n
    · subst hbn
      intro _
      refine ⟨?_, frn, ?_, h4n, by rw [hfs]; exact eS⟩
      · rw [e _ (by omega) (by omega) (by omega) (by omega) (by omega)]; exact hI
      · rw [e _ (by omega) (by omega) (by omega) (by omega) (by omega)]; exact hfr
    · intro hb6
      rw [e _ (by omega) (by omega) (by omega) (by omega) (by omega)] at hb6
      obtain ⟨h1, fr2, h2, h3, h4⟩ := j4 b hb hb6
      have hns : fr2 / 32 ≠ s := fun z => by
        rw [z, hS] at h4
        have h4 : (0 : Int) = _ := h4
        omega
      refine ⟨?_, fr2, ?_, h3, ?_⟩ <;> rw [e _ (by omega) (by omega) (by omega) (by omega) (by omega)] <;> assumption
  · rw [e _ (by omega) (by omega) (by omega) (by omega) (by omega)]; exact z1
  · rw [e _ (by omega) (by omega) (by omega) (by omega) (by omega)]; exact z2
theorem l_looks123 {a1 a2 a3 a4 : Int32} {s n o p fr N : Nat} (h1 : a1.toInt = s) (hs : s < 8) (h2 : a2.toInt = ((2358 + 8 * s : Nat) : Int)) (h3 : a3.toInt = n) (hn : n < 96) (h4 : a4.toInt = p) (hp : p < 256) (hpa : p % 2 ^ o = 0) (ho4 : o ≤ 4) (hfa : fr % 2 ^ o = 0) : ∀ (d k : Nat) (a5 : Int32) (σ : sm_S), a5.toInt = k → k + d = 2 ^ o → fr_ok (σ 1) → (∀ v, fr_ok v → fr_eq (σ 1) v → jj N (upd v (2358 + 8 * s + 6) (a3 + 1))) → (σ 1 (786 + 16 * n + 2)).toInt = o → (σ 1 (786 + 16 * n + 1)).toInt = fr →
    xE xM m_M_looks 123 [.ref 0, .int a1, .int a2, .int a3, .int a4, .int a5] [] σ (sm_I (fun x σ' => ∃ w, σ' = sm_set σ 1 w ∧ jj N w ∧ mu w ≤ mu (σ 1) ∧ x = 1 ∧ (w (2358 + 8 * s + 5)).toInt = ((fr % 32 + 2 ^ o : Nat) : Int) ∧ (w (2358 + 8 * s + 6)).toInt = ((n + 1 : Nat) : Int) ∧ ∀ i, 2358 ≤ i → i < 2422 → i ≠ 2358 + 8 * s + 5 → i ≠ 2358 + 8 * s + 6 → w i = σ 1 i)) := by
  have hpw := t_pw (k := o) (by omega)
  have hs2 := t_al (k := o) (by omega) hpa
  have hb1 : (a3 + 1).toInt = ((n + 1 : Nat) : Int) := by
    rw [t_add h3 (y := 1) rfl (by omega) (by omega)]
    omega
  have i6 : (a2 + 6).toInt = ((2358 + 8 * s + 6 : Nat) : Int) := by
    rw [t_add h2 (y := 6) rfl (by omega) (by omega)]
    omega
  intro d
  induction d with
  | zero =>
    intro k a5 σ h5 hk hF hH ho hf
    refine w_M_looks_123 a1 a2 a3 a4 a5 σ _ ((c_longOf h3 hn σ).int ?_)
    rintro _ σ ⟨rfl, rfl⟩
    rw [t_nat i6]
    refine ⟨fun _ => ⟨t_vp i6 (by omega), fun σ3 e3 => ?_⟩, fun h => absurd ?_ h⟩
    · subst e3
      have hj := hH (σ 1) hF fr_eq.rf
      refine (c_isPassed (o := o) (fr := fr) h1 hs h3 hn _ (by rw [s_at]; exact hj) (by rw [s_at, u_ne (by omega)]; exact ho) ho4 (by rw [s_at, u_ne (by omega)]; exact hf) hfa).void ?_
      rintro _ ⟨y, rfl, hy, hjy⟩
      rw [s_at] at hjy ⊢
      refine ⟨Or.inr rfl, _, rfl, _, s_ss, hjy, ?_, rfl, by rw [u_at]; exact hy, by rw [u_ne (by omega), u_at]; exact hb1, fun i g1 g2 g3 g4 => by rw [u_ne g3, u_ne g4]⟩
      refine mu_cong (fun f hf => ?_) (fun b hb => ?_) (fun b hb => ?_)
      · rw [u_ne (by omega), u_ne (by omega), u_ne (by omega), u_ne (by omega)]
        exact ⟨rfl, rfl⟩
      · rw [u_ne (by omega), u_ne (by omega)]
      · rw [u_ne (by omega), u_ne (by omega)]
    · rw [t_le, t_pow ho (by omega), h5]
      omega
  | succ d ih =>
    intro k a5 σ h5 hk hF hH ho hf
    have h5' : (a5 + 1).toInt = ((k + 1 : Nat) : Int) := by
      rw [t_add h5 (y := 1) rfl (by omega) (by omega)]
      omega
    have hto := t_add h4 h5 (by omega) (by omega)
    rw [← Int.natCast_add] at hto
    refine w_M_looks_123 a1 a2 a3 a4 a5 σ _ ((c_longOf h3 hn σ).int ?_)
    rintro _ σ ⟨rfl, rfl⟩
    refine ⟨fun h => ?_, fun _ => (c_has' hto (by omega) h3 hn _ hF (fun z => absurd z (by decide))).void ?_⟩
    · rw [t_le, t_pow ho (by omega), h5] at h
      omega
    · rintro _ ⟨v, rfl, g1, g2, g3, g4, g5⟩
      refine (ih (k + 1) (a5 + 1) _ h5' (by omega) (by rw [s_at]; exact g1) (fun u hu1 hu2 => hH u hu1 (g2.tr (by rw [s_at] at hu2; exact hu2))) (by rw [s_at, g2 _ (by omega)]; exact ho) (by rw [s_at, g2 _ (by omega)]; exact hf)).mono ?_
      rintro r σ' ⟨x, rfl, w, rfl, hw, k1, k2, k3, k4, ew⟩
      rw [s_at] at ew k1
      refine ⟨x, rfl, w, s_ss, hw, Nat.le_trans k1 ?_, k2, k3, k4, fun i f1 f2 f3 f4 => by rw [ew i f1 f2 f3 f4, g2 i (by omega)]⟩
      refine mu_mono (fun f hf h => ?_) (fun b hb => g2 _ (by omega)) (fun b hb => g2 _ (by omega))
      by_cases hfp : f = p + k
      · subst hfp
        rw [g3] at h
        exact absurd h (by decide)
      · rw [g5 _ (by omega)] at h ⊢
        exact ⟨h, rfl⟩
def lkQ (N s at0 : Nat) (v : Nat → Int32) (x : Int32) (w : Nat → Int32) (N' : Nat) : Prop := jj N' w ∧ N ≤ N' ∧ N' + mu w ≤ N + mu v ∧ (∀ i, 2358 ≤ i → i < 2422 → i ≠ 2358 + 8 * s + 5 → i ≠ 2358 + 8 * s + 6 → w i = v i) ∧ ((x = 0 ∧ w (2358 + 8 * s + 6) = 0) ∨ (x = 1 ∧ w (2358 + 8 * s + 6) ≠ 0 ∧ ∃ at1 : Nat, (w (2358 + 8 * s + 5)).toInt = at1 ∧ at0 < at1))
theorem l_looks20 {a1 a2 : Int32} {s : Nat} (h1 : a1.toInt = s) (hs : s < 8) (h2 : a2.toInt = ((2358 + 8 * s : Nat) : Int)) : ∀ (m N at0 : Nat) (a3 : Int32) (v4 v5 : Value) (σ : sm_S), (32 - at0) + mu (σ 1) ≤ m → N + mu (σ 1) < 2000000000 → jj N (σ 1) → σ 1 (2358 + 8 * s + 0) = 3 → σ 1 (2358 + 8 * s + 6) = 0 → (σ 1 (2358 + 8 * s + 5)).toInt = at0 → fbk (σ 1) s at0 a3 →
    xE xM m_M_looks 20 [.ref 0, .int a1, .int a2, .int a3, v4, v5] [] σ (sm_I (fun x σ' => ∃ w N', σ' = sm_set σ 1 w ∧ lkQ N s at0 (σ 1) x w N')) := by
  have i5 : (a2 + 5).toInt = ((2358 + 8 * s + 5 : Nat) : Int) := by
    rw [t_add h2 (y := 5) rfl (by omega) (by omega)]
    omega
  intro m
  induction m with
  | zero =>
    intro N at0 a3 v4 v5 σ hm hN hj hst hS hat hfb
    refine w_M_looks_20 a1 a2 a3 v4 v5 σ _ ⟨fun _ => ⟨Or.inl rfl, _, rfl, σ 1, N, s_id.symm, hj, Nat.le_refl _, Nat.le_refl _, fun _ _ _ _ _ => rfl, Or.inl ⟨rfl, hS⟩⟩, fun h => ?_⟩
    obtain ⟨n, fr, k1, k2, k3, k4, k5, k6, k7, k8, k9⟩ := hfb.resolve_left h
    omega
  | succ m ih =>
    intro N at0 a3 v4 v5 σ hm hN hj hst hS hat hfb
    have again : ∀ (v4 v5 : Value) (w : Nat → Int32) (N1 at1 : Nat), jj N1 w → (∀ i, 2358 ≤ i → i < 2422 → i ≠ 2358 + 8 * s + 5 → w i = σ 1 i) → (w (2358 + 8 * s + 5)).toInt = at1 → at0 ≤ at1 → N ≤ N1 → N1 + mu w ≤ N + mu (σ 1) → (32 - at1) + mu w ≤ m → vp_in (a2 + 5) 2662 ∧ xC xM j_M_firstBlock [.ref 0, .int a1, .int ((sm_set σ 1 w) 1 (a2 + 5).toNatClampNeg)] (sm_set σ 1 w) (sm_ri False (fun x5 σ4 => xE xM m_M_looks 20 [.ref 0, .int a1, .int a2, .int x5, v4, v5] [] σ4 (sm_I (fun x σ' => ∃ w N', σ' = sm_set σ 1 w ∧ lkQ N s at0 (σ 1) x w N')))) := by
      intro v4 v5 w N1 at1 hw ew hat1 hle hN1 hmu hm1
      refine ⟨t_vp i5 (by omega), ?_⟩
      rw [t_nat i5, s_at]
      have h32 : at1 ≤ 32 := by
        obtain ⟨st, pt, at', q, g1, g2, g3, g4, g5, g6, g7, g8, g9⟩ := hw.2.1.2.2.1 s hs
        rw [hat1] at g6
        omega
      refine (c_firstBlock h1 hs hat1 h32 _ (by rw [s_at]; exact hw)).int ?_
      rintro x5 σ4 ⟨hx5, rfl⟩
      rw [s_at] at hx5
      refine (ih N1 at1 x5 v4 v5 _ (by rw [s_at]; exact hm1) (by rw [s_at]; omega) (by rw [s_at]; exact hw) (by rw [s_at, ew _ (by omega) (by omega) (by omega)]; exact hst) (by rw [s_at, ew _ (by omega) (by omega) (by omega)]; exact hS) (by rw [s_at]; exact hat1) (by rw [s_at]; exact hx5)).mono ?_
      rintro r σ' ⟨x, rfl, w2, N2, rfl, q1, q2, q3, q4, q5⟩
      rw [s_at] at q3 q4
      refine ⟨x, rfl, w2, N2, s_ss, q1, by omega, by omega, fun i f1 f2 f3 f4 => by rw [q4 i f1 f2 f3 f4, ew i f1 f2 f3], ?_⟩
      rcases q5 with q5 | ⟨q6, q7, at2, q8, q9⟩
      · exact Or.inl q5
      · exact Or.inr ⟨q6, q7, at2, q8, by omega⟩
    refine w_M_looks_20 a1 a2 a3 v4 v5 σ _ ⟨fun _ => ⟨Or.inl rfl, _, rfl, σ 1, N, s_id.symm, hj, Nat.le_refl _, Nat.le_refl _, fun _ _ _ _ _ => rfl, Or.inl ⟨rfl, hS⟩⟩, fun h => ?_⟩
    obtain ⟨n, fr, k1, k2, k3, k4, k5, k6, k7, k8, k9⟩ := hfb.resolve_left h
    have h6 := to_0 hj.2.1 k2 hS k4 k6
    obtain ⟨o, fr2, b1, b2, b3, b4, b5, ⟨t, b6, b6'⟩, -⟩ := hj.2.1.1 n k2
    have hff : fr2 = fr := by rw [k4] at b3; omega
    subst hff
    have hpw := t_pw (k := o) (by omega)
    have hal := t_al (k := o) (by omega) b5
    have pass : ∀ (v4 v5 : Value), xC xM j_M_isPassed [.ref 0, .int a1, .int a3] σ (sm_rv False (fun σ3 => (vp_in (a2 + 5) 2662 ∧ xC xM j_M_firstBlock [.ref 0, .int a1, .int (σ3 1 ((a2 + 5)).toNatClampNeg)] σ3 (sm_ri False (fun x5 σ4 => xE xM m_M_looks 20 [.ref 0, .int a1, .int a2, .int x5, v4, v5] [] σ4 (sm_I (fun x σ' => ∃ w N', σ' = sm_set σ 1 w ∧ lkQ N s at0 (σ 1) x w N'))))))) := by
      intro v4 v5
      refine (c_isPassed h1 hs k1 k2 _ hj b1 b2 b3 b5).void ?_
      rintro _ ⟨y, rfl, hy, hjy⟩
      have hmu : mu (upd (σ 1) (2358 + 8 * s + 5) y) ≤ mu (σ 1) := by
        refine mu_cong (fun f hf => ?_) (fun b hb => u_ne (by omega)) (fun b hb => u_ne (by omega))
        rw [u_ne (by omega), u_ne (by omega)]
        exact ⟨rfl, rfl⟩
      exact again v4 v5 _ N (fr2 % 32 + 2 ^ o) hjy (fun i _ _ g => u_ne g) (by rw [u_at]; exact hy) (by omega) (Nat.le_refl N) (by omega) (by omega)
    refine (c_of (k := 3) (j := 3) k1 rfl (by omega) σ).int ?_
    rintro x2 σ ⟨hx2, rfl⟩
    refine ⟨fun _ => pass _ _, fun _ => (c_isPinned k1 k2 _).int ?_⟩
    rintro x7 σ ⟨-, rfl⟩
    refine ⟨fun _ => (c_of (k := 3) (j := 3) k1 rfl (by omega) _).int ?_, fun _ => pass _ _⟩
    rintro x9 σ ⟨hx9, rfl⟩
    refine ⟨fun hk2 => (c_of (k := 4) (j := 4) k1 rfl (by omega) _).int ?_, fun hk2 => ?_⟩
    · rintro x11 σ ⟨hx11, rfl⟩
      refine (c_of (k := 3) (j := 3) k1 rfl (by omega) _).int ?_
      rintro x13 σ ⟨-, rfl⟩
      refine (c_of (k := 2) (j := 2) k1 rfl (by omega) _).int ?_
      rintro x15 σ ⟨hx15, rfl⟩
      refine (c_bestPlace (m := t) (o := o) (by rw [hx11]; exact b6) b6' (by rw [hx15]; exact b1) b2 _).int ?_
      rintro x17 σ ⟨hx17, rfl⟩
      refine ⟨fun _ => (c_of (k := 2) (j := 2) k1 rfl (by omega) _).int ?_, fun n17 => ?_⟩
      · rintro x19 σ ⟨hx19, rfl⟩
        refine ⟨fun _ => pass _ _, fun n19 => (c_freeNumber _).int ?_⟩
        rintro x24 σ ⟨hx24, rfl⟩
        refine ⟨fun _ => pass _ _, fun n24 => ?_⟩
        have ho1 : ∃ o1, o = o1 + 1 := by
          rw [t_le, hx19, b1] at n19
          have n19 : ¬ (o : Int) ≤ 0 := n19
          exact ⟨o - 1, by omega⟩
        obtain ⟨o1, rfl⟩ := ho1
        have hfree : ∃ j, j < 96 ∧ σ 1 (786 + 16 * j) = 0 := by
          rcases hx24 with ⟨z, -⟩ | ⟨j, z1, z2, z3, -⟩
          · exact absurd z n24
          · exact ⟨j, z2, z3⟩
        refine (c_splits k1 k2 (by omega) _ hj k3 h6 b1 k4 (by rw [← hx9]; exact hk2) hfree).void ?_
        rintro _ ⟨w, rfl, hw, hmu, ew⟩
        exact again _ _ w (N + 1) at0 hw (fun i g1 g2 _ => ew i g1 g2) (by rw [ew _ (by omega) (by omega)]; exact hat) (Nat.le_refl _) (by omega) (by omega) (by omega)
      · obtain ⟨p, hp1, hp2, hp3⟩ := hx17.resolve_left n17
        refine (c_lay (k := 6) (j := 6) k1 rfl (by omega) _ _).void ?_
        rintro _ rfl
        refine (c_lay (k := 7) (j := 7) k1 rfl (by omega) _ _).void ?_
        rintro _ rfl
        simp only [s_at, s_ss]
        have hp1' : (x17 + 1).toInt = ((p + 1 : Nat) : Int) := by
          rw [t_add hp1 (y := 1) rfl (by omega) (by omega)]
          omega
        have hb1 : (a3 + 1).toInt = ((n + 1 : Nat) : Int) := by
          rw [t_add k1 (y := 1) rfl (by omega) (by omega)]
          omega
        have hw0 : ∃ u, u = upd (upd (σ 1) (786 + 16 * n + 6) (x17 + 1)) (786 + 16 * n + 7) 0 := ⟨_, rfl⟩
        obtain ⟨u, hu⟩ := hw0
        rw [← hu]
        have hue : ∀ i, i ≠ 786 + 16 * n + 6 → i ≠ 786 + 16 * n + 7 → u i = σ 1 i := fun i g1 g2 => by rw [hu, u_ne g2, u_ne g1]
        have hu6 : u (786 + 16 * n + 6) = x17 + 1 := by rw [hu, u_ne (by omega), u_at]
        have hu7 : u (786 + 16 * n + 7) = 0 := by rw [hu, u_at]
        refine (l_looks123 (o := o) (p := p) (fr := fr2) (N := N) h1 hs h2 k1 k2 hp1 hp2 hp3 b2 b5 (2 ^ o) 0 0 _ rfl (by omega) ?_ ?_ ?_ ?_).mono ?_
        · rw [s_at]
          exact fr_cong (fun i _ _ => hue i (by omega) (by omega)) (fun b k hb hk => hue _ (by omega) (by omega)) hj.1
        · intro v hv1 hv2
          rw [s_at] at hv2
          refine ⟨fr_cong (fun i _ _ => u_ne (by omega)) (fun b k hb hk => u_ne (by omega)) hv1, ?_, ?_⟩
          · refine jr_leave k2 hs hj.2.1 k3 k4 k6 hst hS b1 hp2 hp3 ?_ ?_ (by rw [u_at]; exact hb1) (fun i g1 g2 g3 g4 g5 => by rw [u_ne g5, hv2 i (Or.inr g1), hue i g3 g4])
            · rw [u_ne (by omega), hv2 _ (by omega), hu6]; exact hp1'
            · rw [u_ne (by omega), hv2 _ (by omega), hu7]
          · rw [u_ne (by omega), hv2 _ (by omega), hue _ (by omega) (by omega)]; exact hj.2.2
        · rw [s_at, hue _ (by omega) (by omega)]; exact b1
        · rw [s_at, hue _ (by omega) (by omega)]; exact b3
        · rintro r σ' ⟨x, rfl, w, rfl, hw, q1, q2, q3, q4, q5⟩
          rw [s_at] at q1 q5
          have hmu : mu u ≤ mu (σ 1) := by
            refine mu_cong (fun f hf => ?_) (fun b hb => hue _ (by omega) (by omega)) (fun b hb => hue _ (by omega) (by omega))
            rw [hue _ (by omega) (by omega), hue _ (by omega) (by omega)]
            exact ⟨rfl, rfl⟩
          refine ⟨x, rfl, w, N, s_ss, hw, Nat.le_refl N, by omega, fun i f1 f2 f3 f4 => by rw [q5 i f1 f2 f3 f4, hue i (by omega) (by omega)], Or.inr ⟨q2, fun z => ?_, _, q3, by omega⟩⟩
          rw [z] at q4
          have q4 : (0 : Int) = _ := q4
          omega
    · have hk2' : σ 1 (786 + 16 * n + 3) = 2 := by rw [← hx9]; exact Classical.not_not.mp hk2
      refine (c_drops k1 k2 (by omega) _ hj h6).void ?_
      rintro _ ⟨w, fr3, rfl, hw, e1, e2, e3, e4, e5, e6⟩
      have hff : fr3 = fr2 := by rw [b3] at e4; omega
      subst hff
      have hmu := mu_drop k2 e5 e1 e3 k8 k9 hk2' e6
      exact again _ _ w (N + 1) at0 hw (fun i g1 g2 _ => e3 i (by omega) (by omega) (by omega)) (by rw [e3 _ (by omega) (by omega) (by omega)]; exact hat) (Nat.le_refl _) (by omega) (by omega) (by omega)
theorem c_looks {a1 : Int32} {s N at0 : Nat} (h1 : a1.toInt = s) (hs : s < 8) (σ : sm_S) (hN : N + mu (σ 1) < 2000000000) (hj : jj N (σ 1)) (hst : σ 1 (2358 + 8 * s + 0) = 3) (hS : σ 1 (2358 + 8 * s + 6) = 0) (hat : (σ 1 (2358 + 8 * s + 5)).toInt = at0) : xC xM j_M_looks [.ref 0, .int a1] σ (sm_I (fun x σ' => ∃ w N', σ' = sm_set σ 1 w ∧ lkQ N s at0 (σ 1) x w N')) := by
  refine w_M_looks a1 σ _ ((c_spanAt a1 σ).int ?_)
  rintro _ σ ⟨rfl, rfl⟩
  obtain ⟨p5, q5⟩ := ixS (k := 5) (j := 5) h1 rfl (by omega)
  rw [q5]
  have h2 : (2358 + 8 * a1).toInt = ((2358 + 8 * s : Nat) : Int) := by
    rw [t_add (a := 2358) (x := 2358) rfl (t_mul (x := 8) rfl h1 (by omega) (by omega)) (by omega) (by omega)]
    omega
  have h32 : at0 ≤ 32 := by
    obtain ⟨st, pt, at', q, g1, g2, g3, g4, g5, g6, g7, g8, g9⟩ := hj.2.1.2.2.1 s hs
    rw [hat] at g6
    omega
  refine ⟨p5, (c_firstBlock h1 hs hat h32 _ hj).int ?_⟩
  rintro x4 σ ⟨hx4, rfl⟩
  exact l_looks20 h1 hs h2 _ N at0 x4 _ _ _ (Nat.le_refl _) hN hj hst hS hat hx4
