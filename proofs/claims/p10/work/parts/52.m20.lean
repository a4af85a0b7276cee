/-! ===== the model: what gets less as a span is looked through ===== -/
/-- a frame that a cache has -/
def isCP (v : Nat → Int32) (f : Nat) : Prop := v (18 + 3 * f) = 3 ∧ ∃ n, n < 96 ∧ (v (18 + 3 * f + 1)).toInt = ((n + 1 : Nat) : Int) ∧ v (786 + 16 * n + 3) = 2
noncomputable def isC (v : Nat → Int32) (f : Nat) : Bool := @decide (isCP v f) (Classical.propDecidable _)
def isZ (v : Nat → Int32) (b : Nat) : Bool := decide (v (786 + 16 * b + 0) = 0)
noncomputable def mu (v : Nat → Int32) : Nat := 2 * cn (isC v) 256 + cn (isZ v) 96
theorem isC_t {v : Nat → Int32} {f : Nat} : isC v f = true ↔ isCP v f := by
  unfold isC
  exact @decide_eq_true_iff _ (Classical.propDecidable _)
theorem isC_f {v : Nat → Int32} {f : Nat} (h : ¬ isCP v f) : isC v f = false := by
  unfold isC
  exact @decide_eq_false _ (Classical.propDecidable _) h
theorem isZ_t {v : Nat → Int32} {f : Nat} : isZ v f = true ↔ v (786 + 16 * f + 0) = 0 := by
  unfold isZ
  exact decide_eq_true_iff
theorem mu_le {v : Nat → Int32} : mu v ≤ 608 := by
  have h1 := cn_bd (P := isC v) (N := 256)
  have h2 := cn_bd (P := isZ v) (N := 96)
  unfold mu
  omega
theorem cn_ex {P P' : Nat → Bool} {lo hi : Nat} : ∀ {N : Nat}, (∀ i, i < N → P' i = true → P i = true ∨ (lo ≤ i ∧ i < hi)) → cn P' N ≤ cn P N + (min N hi - lo)
  | 0, _ => Nat.zero_le _
  | n + 1, h => by
    have h1 := cn_ex (N := n) (lo := lo) (hi := hi) (fun i g => h i (by omega))
    have h2 := h n (by omega)
    simp only [cn]
    by_cases hp : P' n = true
    · rw [if_pos hp]
      rcases h2 hp with h3 | h3
      · rw [if_pos h3]; omega
      · split <;> omega
    · rw [if_neg hp]
      split <;> omega
/-- nothing more of either kind -/
theorem mu_mono {v v' : Nat → Int32} (h1 : ∀ f, f < 256 → v' (18 + 3 * f) = 3 → v (18 + 3 * f) = 3 ∧ v' (18 + 3 * f + 1) = v (18 + 3 * f + 1)) (h2 : ∀ n, n < 96 → v' (786 + 16 * n + 3) = v (786 + 16 * n + 3)) (h3 : ∀ n, n < 96 → v' (786 + 16 * n + 0) = v (786 + 16 * n + 0)) : mu v' ≤ mu v := by
  have a1 : cn (isC v') 256 ≤ cn (isC v) 256 := by
    refine cn_le (fun f hf h => ?_)
    rw [isC_t] at h ⊢
    obtain ⟨e1, n, hn, e2, e3⟩ := h
    obtain ⟨g1, g2⟩ := h1 f hf e1
    exact ⟨g1, n, hn, by rw [← g2]; exact e2, by rw [← h2 n hn]; exact e3⟩
  have a2 : cn (isZ v') 96 ≤ cn (isZ v) 96 := by
    refine cn_le (fun f hf h => ?_)
    rw [isZ_t] at h ⊢
    rw [← h3 f hf]; exact h
  unfold mu
  omega
theorem mu_cong {v v' : Nat → Int32} (h1 : ∀ f, f < 256 → v' (18 + 3 * f) = v (18 + 3 * f) ∧ v' (18 + 3 * f + 1) = v (18 + 3 * f + 1)) (h2 : ∀ n, n < 96 → v' (786 + 16 * n + 3) = v (786 + 16 * n + 3)) (h3 : ∀ n, n < 96 → v' (786 + 16 * n + 0) = v (786 + 16 * n + 0)) : mu v' ≤ mu v :=
  mu_mono (fun f hf h => ⟨by rw [← (h1 f hf).1]; exact h, (h1 f hf).2⟩) h2 h3
theorem mu_drop {v v' : Nat → Int32} {n fr : Nat} (hn : n < 96) (hfr : fr < 256) (hl : fr_lv v v') (he : ∀ i, 786 ≤ i → i < 2422 → i ≠ 786 + 16 * n + 0 → v' i = v i) (h1 : v (18 + 3 * fr) = 3) (h2 : (v (18 + 3 * fr + 1)).toInt = ((n + 1 : Nat) : Int)) (h3 : v (786 + 16 * n + 3) = 2) (h4 : v' (18 + 3 * fr) = 1 ∨ v' (18 + 3 * fr) = 2) : mu v' + 1 ≤ mu v := by
  have a1 : cn (isC v') 256 < cn (isC v) 256 := by
    refine cn_lt (j := fr) (isC_t.mpr ⟨h1, n, hn, h2, h3⟩) (isC_f (fun z => ?_)) hfr (fun f hf h => ?_)
    · rcases h4 with h4 | h4 <;> (have := z.1; rw [h4] at this; exact absurd this (by decide))
    · rw [isC_t] at h ⊢
      obtain ⟨e1, m, hm, e2, e3⟩ := h
      rcases hl f hf with g | ⟨g1, g2⟩
      · rcases g with g | g <;> (rw [g] at e1; exact absurd e1 (by decide))
      · exact ⟨by rw [← g1]; exact e1, m, hm, by rw [← g2]; exact e2, by rw [← he _ (by omega) (by omega) (by omega)]; exact e3⟩
  have a2 : cn (isZ v') 96 ≤ cn (isZ v) 96 + (min 96 (n + 1) - n) := by
    refine cn_ex (fun b hb h => ?_)
    by_cases hbn : b = n
    · exact Or.inr (by omega)
    · refine Or.inl ?_
      rw [isZ_t] at h ⊢
      rw [← he _ (by omega) (by omega) (by omega)]; exact h
  unfold mu
  omega
/-- a block in a span of which nothing is on its way isn't on its way -/
theorem to_0 {v : Nat → Int32} {n s fr : Nat} (hj : jr v) (hn : n < 96) (h6 : v (2358 + 8 * s + 6) = 0) (hf : (v (786 + 16 * n + 1)).toInt = fr) (hs : fr / 32 = s) : v (786 + 16 * n + 6) = 0 := by
  rcases Classical.em (v (786 + 16 * n + 6) = 0) with h | h
  · exact h
  · obtain ⟨-, fr2, g1, g2, g3⟩ := hj.2.2.2.1 n hn h
    have : fr2 = fr := by rw [hf] at g1; omega
    subst this
    rw [hs, h6] at g3
    have g3 : (0 : Int) = _ := g3
    omega
theorem jr_order {v : Nat → Int32} {n o : Nat} {x : Int32} (hn : n < 96) (hj : jr v) (h6 : v (786 + 16 * n + 6) = 0) (ho : (v (786 + 16 * n + 2)).toInt = ((o + 1 : Nat) : Int)) (hx : x.toInt = o) : jr (upd v (786 + 16 * n + 2) x) := by
  obtain ⟨j1, j2, j3, j4, s, hs, z1, z2⟩ := hj
  have e : ∀ i, i ≠ 786 + 16 * n + 2 → upd v (786 + 16 * n + 2) x i = v i := fun i hi => u_ne hi
  refine ⟨fun b hb => ?_, fun b hb => ?_, fun s hs => ?_, fun b hb => ?_, s, hs, ?_, ?_⟩
  · by_cases hbn : b = n
    · subst hbn
      obtain ⟨o2, fr, h1, h2, h3, h4, h5, h6', h7, h8⟩ := j1 b hb
      have hoo : o2 = o + 1 := by rw [ho] at h1; omega
      subst hoo
      have h5' : fr % 2 ^ o = 0 := by
        have hd : 2 ^ o ∣ fr := Nat.dvd_trans ⟨2, Nat.pow_succ 2 o⟩ (Nat.dvd_of_mod_eq_zero h5)
        exact Nat.mod_eq_zero_of_dvd hd
      refine ⟨o, fr, by rw [u_at]; exact hx, by omega, ?_, h4, h5', ?_, ⟨0, ?_, Or.inl rfl⟩, ?_⟩
      · rw [e _ (by omega)]; exact h3
      · rw [e _ (by omega)]; exact h6'
      · rw [e _ (by omega), h6]; rfl
      · rw [e _ (by omega)]; exact h8
    · exact bk_cong (fun k hk _ _ _ => e _ (by omega)) (j1 b hb)
  · by_cases hbn : b = n
    · subst hbn
      obtain ⟨L, o2, h1, h2, h3, h4, h5, h6'⟩ := j2 b hb
      have hL : L = 0 := by
        rcases Nat.eq_zero_or_pos L with z | z
        · exact z
        · exact absurd h6 (h4 z)
      subst hL
      exact ⟨0, o, by rw [e _ (by omega)]; exact h1, by omega, by rw [u_at]; exact hx, fun z => by omega, fun k hk => by omega, fun k m _ hm => by omega⟩
    · exact ln_cong (fun k hk _ _ _ => e _ (by omega)) (fun t k ht hk => e _ (by omega)) (j2 b hb)
  · obtain ⟨st, pt, at', q, h1, h2, h3, h4, h5, h6', h7, h8, h9⟩ := j3 s hs
    refine ⟨st, pt, at', q, ?_, h2, ?_, h4, h5, ?_, h7, ?_, ?_⟩
    · rw [e _ (by omega)]; exact h1
    · rw [e _ (by omega)]; exact h3
    · rw [e _ (by omega)]; exact h6'
    · rw [e _ (by omega)]; exact h8
    · rcases h9 with h9 | ⟨b, g1, g2, g3, g4, fr, g5, g6⟩
      · exact Or.inl h9
      · refine Or.inr ⟨b, g1, g2, g3, ?_, fr, ?_, g6⟩ <;> rw [e _ (by omega)] <;> assumption
  · intro hb6
    rw [e _ (by omega)] at hb6
    obtain ⟨h1, fr, h2, h3, h4⟩ := j4 b hb hb6
    refine ⟨?_, fr, ?_, h3, ?_⟩ <;> rw [e _ (by omega)] <;> assumption
  · rw [e _ (by omega)]; exact z1
  · rw [e _ (by omega)]; exact z2
theorem c_splits {b : Int32} {n o fr N : Nat} (hb : b.toInt = n) (hn : n < 96) (hN : N < 2147480000) (σ : sm_S) (hj : jj N (σ 1)) (hI : σ 1 (786 + 16 * n + 0) = 1) (h6 : σ 1 (786 + 16 * n + 6) = 0) (ho : (σ 1 (786 + 16 * n + 2)).toInt = ((o + 1 : Nat) : Int)) (hfr : (σ 1 (786 + 16 * n + 1)).toInt = fr) (hk : σ 1 (786 + 16 * n + 3) ≠ 2) (hfree : ∃ j, j < 96 ∧ σ 1 (786 + 16 * j) = 0) :
    xC xM j_M_splits [.ref 0, .int b] σ (sm_V (fun σ' => ∃ w, σ' = sm_set σ 1 w ∧ jj (N + 1) w ∧ mu w + 1 ≤ mu (σ 1) ∧ ∀ i, 2358 ≤ i → i < 2422 → w i = σ 1 i)) := by
  obtain ⟨o2, fr2, b1, b2, b3, b4, b5, ⟨t, b6, b6'⟩, -⟩ := hj.2.1.1 n hn
  have hoo : o2 = o + 1 := by rw [ho] at b1; omega
  subst hoo
  have hff : fr2 = fr := by rw [hfr] at b3; omega
  subst hff
  have hpw := t_pw (k := o) (by omega)
  have hps : 2 ^ (o + 1) = 2 ^ o * 2 := Nat.pow_succ 2 o
  have hal := t_al (k := o + 1) (by omega) b5
  have h5' : fr2 % 2 ^ o = 0 := by
    have hd : 2 ^ o ∣ fr2 := Nat.dvd_trans ⟨2, Nat.pow_succ 2 o⟩ (Nat.dvd_of_mod_eq_zero b5)
    exact Nat.mod_eq_zero_of_dvd hd
  have h5'' : (fr2 + 2 ^ o) % 2 ^ o = 0 := by rw [Nat.add_mod_right]; exact h5'
  refine w_M_splits b σ _ ((c_freeNumber σ).int ?_)
  rintro x2 σ ⟨hx2, rfl⟩
  have hx2' : ∃ m : Nat, x2.toInt = m ∧ m < 96 ∧ σ 1 (786 + 16 * m) = 0 := by
    rcases hx2 with ⟨-, h⟩ | ⟨m, h1, h2, h3, -⟩
    · obtain ⟨j, hj1, hj2⟩ := hfree
      exact absurd hj2 (h j hj1)
    · exact ⟨m, h1, h2, h3⟩
  obtain ⟨m, hm1, hm2, hm3⟩ := hx2'
  have hmn : m ≠ n := fun z => by
    subst z
    rw [show σ 1 (786 + 16 * m) = 1 from hI] at hm3
    exact absurd hm3 (by decide)
  refine (c_of (k := 2) (j := 2) hb rfl (by omega) _).int ?_
  rintro x4 σ ⟨hx4, rfl⟩
  have hx41 : (x4 - 1).toInt = o := by
    rw [hx4, t_dec ho]
    omega
  refine (c_lay (k := 2) (j := 2) hb rfl (by omega) _ _).void ?_
  rintro _ rfl
  have hj1 : jj N (upd (σ 1) (786 + 16 * n + 2) (x4 - 1)) := ⟨fr_cong (fun i _ _ => u_ne (by omega)) (fun c k hc hk => u_ne (by omega)) hj.1, jr_order hn hj.2.1 h6 ho hx41, by rw [u_ne (by omega)]; exact hj.2.2⟩
  refine (c_frameOf hb hn _).int ?_
  rintro x7 σ7 ⟨hx7, e7⟩
  subst e7
  rw [s_at, u_ne (by omega)] at hx7
  refine (c_of (k := 3) (j := 3) hb rfl (by omega) _).int ?_
  rintro x9 σ7 ⟨hx9, e7⟩
  subst e7
  rw [s_at, u_ne (by omega)] at hx9
  refine (c_of (k := 4) (j := 4) hb rfl (by omega) _).int ?_
  rintro x11 σ7 ⟨hx11, e7⟩
  subst e7
  rw [s_at, u_ne (by omega)] at hx11
  refine (c_of (k := 8) (j := 8) hb rfl (by omega) _).int ?_
  rintro x13 σ7 ⟨-, e7⟩
  subst e7
  have hto : (x7 + ((1 : Int32) <<< ((x4 - 1) &&& 31))).toInt = ((fr2 + 2 ^ o : Nat) : Int) := by
    rw [t_add (x := (fr2 : Int)) (by rw [hx7]; exact hfr) (t_pow hx41 (by omega)) (by omega) (by omega)]
    omega
  refine (c_comes (n := m) (o := o) (fr := fr2 + 2 ^ o) (t := t) (N := N) hm1 hm2 hto (by omega) hx41 (by omega) h5'' (by rw [hx11]; exact b6) b6' _ (by rw [s_at]; exact hj1) (by rw [s_at, u_ne (by omega)]; exact hm3)).void ?_
  rintro _ ⟨v, rfl, hv, e1, ⟨r0, r1, r2, r3⟩, e4, e5⟩
  rw [s_at] at e1 e5
  refine (c_counts (k := 4) (j := 4) rfl (by omega) 1 _).void ?_
  rintro _ rfl
  refine (c_writes' (N := N) _ _ _ _ (by rw [s_at, s_at]; exact jj_low (by omega) (by omega) hv) (by omega)).void ?_
  rintro _ ⟨w, rfl, hw, ew⟩
  simp only [s_at, s_ss] at ew ⊢
  have ew' : ∀ i, 18 ≤ i → i < 2422 → w i = v i := fun i h1 h2 => by rw [ew i h2 (by omega), u_ne (by omega)]
  have evo : ∀ i, 786 ≤ i → (i < 786 + 16 * m ∨ 786 + 16 * m + 16 ≤ i) → i ≠ 786 + 16 * n + 2 → v i = σ 1 i := fun i h1 h2 h3 => by rw [e1 i (Or.inr h1) h2, u_ne h3]
  refine ⟨rfl, w, rfl, hw, ?_, fun i h1 h2 => by rw [ew' i (by omega) h2, evo i (by omega) (by omega) (by omega)]⟩
  have a1 : cn (isC w) 256 ≤ cn (isC (σ 1)) 256 := by
    refine cn_le (fun f hf h => ?_)
    rw [isC_t] at h ⊢
    obtain ⟨c1, l, hl, c2, c3⟩ := h
    rw [ew' _ (by omega) (by omega)] at c1 c2 c3
    have hlm : l ≠ m := fun z => by
      subst z
      rw [r3, hx9] at c3
      exact hk c3
    rw [evo _ (by omega) (by omega) (by omega)] at c3
    by_cases hr : fr2 + 2 ^ o ≤ f ∧ f < fr2 + 2 ^ o + 2 ^ o
    · obtain ⟨g1, g2⟩ := e4 (f - (fr2 + 2 ^ o)) (by omega)
      rw [show fr2 + 2 ^ o + (f - (fr2 + 2 ^ o)) = f by omega, c2] at g2
      omega
    · rw [e5 _ (by omega) (by omega) (by omega), u_ne (by omega)] at c1 c2
      exact ⟨c1, l, hl, c2, c3⟩
  have a2 : cn (isZ w) 96 < cn (isZ (σ 1)) 96 := by
    refine cn_lt (j := m) (isZ_t.mpr hm3) ?_ hm2 (fun c hc h => ?_)
    · unfold isZ
      rw [ew' _ (by omega) (by omega), r0]
      decide
    · rw [isZ_t] at h ⊢
      rw [ew' _ (by omega) (by omega)] at h
      by_cases hcm : c = m
      · subst hcm
        rw [r0] at h
        exact absurd h (by decide)
      · rw [evo _ (by omega) (by omega) (by omega)] at h
        exact h
  unfold mu
  omega
