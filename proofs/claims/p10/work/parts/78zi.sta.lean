/-! ===== the simulation: the start ===== -/
def stF (s f : Nat) : Nat → Int32 := fun i => if (i = 2358 ∧ 0 < s) ∨ (i = 2366 ∧ 1 < s) ∨ (18 ≤ i ∧ i < 18 + 3 * f ∧ i % 3 = 0) then 1 else 0
theorem stF_1 {s f i : Nat} (h : (i = 2358 ∧ 0 < s) ∨ (i = 2366 ∧ 1 < s) ∨ (18 ≤ i ∧ i < 18 + 3 * f ∧ i % 3 = 0)) : stF s f i = 1 := if_pos h
theorem stF_0 {s f i : Nat} (h : ¬ ((i = 2358 ∧ 0 < s) ∨ (i = 2366 ∧ 1 < s) ∨ (18 ≤ i ∧ i < 18 + 3 * f ∧ i % 3 = 0))) : stF s f i = 0 := if_neg h
theorem stF_ext {s f s' f' : Nat} {j : Nat} (h1 : (j = 2358 ∧ 0 < s') ∨ (j = 2366 ∧ 1 < s') ∨ (18 ≤ j ∧ j < 18 + 3 * f' ∧ j % 3 = 0)) (h2 : ∀ i, i ≠ j → (((i = 2358 ∧ 0 < s) ∨ (i = 2366 ∧ 1 < s) ∨ (18 ≤ i ∧ i < 18 + 3 * f ∧ i % 3 = 0)) ↔ ((i = 2358 ∧ 0 < s') ∨ (i = 2366 ∧ 1 < s') ∨ (18 ≤ i ∧ i < 18 + 3 * f' ∧ i % 3 = 0)))) : upd (stF s f) j 1 = stF s' f' := by
  funext i
  by_cases q : i = j
  · rw [q, u_at, stF_1 h1]
  · rw [u_ne q]
    by_cases w : (i = 2358 ∧ 0 < s) ∨ (i = 2366 ∧ 1 < s) ∨ (18 ≤ i ∧ i < 18 + 3 * f ∧ i % 3 = 0)
    · rw [stF_1 w, stF_1 ((h2 i q).mp w)]
    · rw [stF_0 w, stF_0 (fun y => w ((h2 i q).mpr y))]
theorem l_beg25 {σ0 : sm_S} {a1 : Int32} {s : Nat} (h1 : a1.toInt = s) (hs : s < 2) {Q : Option Value → sm_S → Prop} (K : ∀ v2 : Value, xE xM m_M_begins 2 [.ref 0, .int (a1 + 1), v2] [] (sm_set σ0 1 (stF (s + 1) (32 * s + 32))) Q) : ∀ (d k : Nat) (a2 : Int32), a2.toInt = k → k + d = 32 * s + 32 → xE xM m_M_begins 25 [.ref 0, .int a1, .int a2] [] (sm_set σ0 1 (stF (s + 1) k)) Q := by
  have hb : (32 * a1 + 32).toInt = ((32 * s + 32 : Nat) : Int) := by
    rw [t_add (t_32s h1 (by omega)) (y := 32) rfl (by omega) (by omega)]
    omega
  intro d
  induction d with
  | zero =>
    intro k a2 h2 hk
    have e : k = 32 * s + 32 := by omega
    rw [e]
    exact w_M_begins_25 a1 a2 _ _ ⟨fun _ => K _, fun h => absurd (by rw [t_le, hb, h2]; omega) h⟩
  | succ d ih =>
    intro k a2 h2 hk
    have h2' : (a2 + 1).toInt = ((k + 1 : Nat) : Int) := by
      rw [t_add h2 (y := 1) rfl (by omega) (by omega)]
      omega
    refine w_M_begins_25 a1 a2 _ _ ⟨fun h => ?_, fun _ => (c_frameAt a2 _).int ?_⟩
    · rw [t_le, hb, h2] at h; omega
    · rintro x2 σ ⟨rfl, rfl⟩
      have hi := t_ix (C := 18) (M := 3) (c := 18) (m := 3) (k := 0) (j := 0) rfl rfl h2 rfl (by omega)
      refine ⟨t_vp hi (by omega), fun σ3 e3 => ?_⟩
      rw [t_nat hi, s_at, s_ss] at e3
      have ee : upd (stF (s + 1) k) (18 + 3 * k + 0) 1 = stF (s + 1) (k + 1) := stF_ext (by omega) (fun i hi => by omega)
      rw [ee] at e3
      rw [e3]
      exact ih (k + 1) (a2 + 1) h2' (by omega)
theorem l_beg2 {σ0 : sm_S} : ∀ (d k : Nat) (a1 : Int32) (v2 : Value), a1.toInt = k → k + d = 2 → xE xM m_M_begins 2 [.ref 0, .int a1, v2] [] (sm_set σ0 1 (stF k (32 * k))) (sm_V (fun σ' => σ' = sm_set σ0 1 (stF 2 64))) := by
  intro d
  induction d with
  | zero =>
    intro k a1 v2 h1 hk
    have e : k = 2 := by omega
    rw [e]
    refine w_M_begins_2 a1 v2 _ _ ⟨fun _ => ⟨rfl, rfl⟩, fun h => absurd ?_ h⟩
    rw [t_le, h1, e]
    decide
  | succ d ih =>
    intro k a1 v2 h1 hk
    have h1' : (a1 + 1).toInt = ((k + 1 : Nat) : Int) := by
      rw [t_add h1 (y := 1) rfl (by omega) (by omega)]
      omega
    refine w_M_begins_2 a1 v2 _ _ ⟨fun h => ?_, fun _ => (c_spanAt a1 _).int ?_⟩
    · rw [t_le, h1] at h
      have h : (2 : Int) ≤ k := h
      omega
    · rintro x2 σ ⟨rfl, rfl⟩
      have hi := t_ix (C := 2358) (M := 8) (c := 2358) (m := 8) (k := 0) (j := 0) rfl rfl h1 rfl (by omega)
      refine ⟨t_vp hi (by omega), fun σ3 e3 => ?_⟩
      rw [t_nat hi, s_at, s_ss] at e3
      have ee : upd (stF k (32 * k)) (2358 + 8 * k + 0) 1 = stF (k + 1) (32 * k) := stF_ext (by omega) (fun i hi => by omega)
      rw [ee] at e3
      rw [e3]
      exact l_beg25 h1 (by omega) (fun v => ih (k + 1) (a1 + 1) v h1' (by omega)) 32 (32 * k) (32 * a1) (t_32s h1 (by omega)) rfl
theorem c_begins2 (σ : sm_S) (h : ∀ i, σ 1 i = 0) : xC xM j_M_begins [.ref 0] σ (sm_V (fun σ' => σ' = sm_set σ 1 (stF 2 64))) := by
  refine w_M_begins σ _ ?_
  have := l_beg2 (σ0 := σ) 2 0 0 .null rfl rfl
  have e : stF 0 (32 * 0) = σ 1 := by
    funext i
    rw [h i]
    exact stF_0 (by omega)
  rw [e, s_id] at this
  exact this
/-- the class at its start -/
def ini (c : sm_S) : Prop := (∀ s, s < 8 → c 2 s = (if s < 2 then -1 else 0) ∧ c 3 s = 0 ∧ c 4 s = 0 ∧ c 5 s = 0) ∧ (∀ f, f < 256 → c 6 f = -1 ∧ c 7 f = 0) ∧ (∀ b, b < 96 → c 9 b = -1) ∧ (∀ s, s < 8 → c 18 s = (if s < 2 then 1 else 0) ∧ c 19 s = (if s < 2 then 0 else -1) ∧ c 20 s = 0 ∧ c 21 s = 0 ∧ c 22 s = 0 ∧ c 23 s = 0 ∧ c 24 s = -1 ∧ c 25 s = -1) ∧ (∀ t, t < 6 → c 27 t = 0 ∧ c 28 t = -1 ∧ c 29 t = 0) ∧ (c 26 7 = 0 ∧ c 34 4 = 0 ∧ c 34 5 = 0 ∧ c 0 7 = 0 ∧ c 8 8 = 0) ∧ (∀ k, k < 60 → c 35 k = 0 ∧ c 36 k = 0 ∧ c 37 k = 0 ∧ c 38 k = 0) ∧ (c 39 0 = 4 ∧ c 39 1 = 3 ∧ c 39 2 = 150 ∧ c 39 3 = 2) ∧ ∀ k, k < 11 → c 40 k = 0
theorem tw_start {c : sm_S} (h : ini c) : tw 0 c (stF 2 64) := by
  obtain ⟨i1, i2, i3, i4, i5, ⟨i6, i7, i8, i9, i10⟩, i11, ⟨i12, i13, i14, i15⟩, i16⟩ := h
  have vb : ∀ b k, b < 96 → k < 16 → stF 2 64 (786 + 16 * b + k) = 0 := fun b k h1 h2 => stF_0 (by omega)
  have vf1 : ∀ f, f < 64 → stF 2 64 (18 + 3 * f) = 1 := fun f hf => stF_1 (by omega)
  have vf0 : ∀ f, f < 256 → ¬ f < 64 → stF 2 64 (18 + 3 * f) = 0 := fun f hf h2 => stF_0 (by omega)
  have vs1 : ∀ s, s < 2 → stF 2 64 (2358 + 8 * s + 0) = 1 := fun s hs => stF_1 (by omega)
  have vs0 : ∀ s, s < 8 → ¬ s < 2 → stF 2 64 (2358 + 8 * s + 0) = 0 := fun s hs h2 => stF_0 (by omega)
  have vsk : ∀ s k, s < 8 → 0 < k → k < 8 → stF 2 64 (2358 + 8 * s + k) = 0 := fun s k h1 h2 h3 => stF_0 (by omega)
  have hbg : bg (stF 2 64) := fun i => by
    by_cases w : (i = 2358 ∧ 0 < 2) ∨ (i = 2366 ∧ 1 < 2) ∨ (18 ≤ i ∧ i < 18 + 3 * 64 ∧ i % 3 = 0)
    · refine Or.inr ⟨stF_1 w, ?_⟩
      rcases w with w | w | w
      · exact Or.inl w.1
      · exact Or.inr (Or.inl w.1)
      · exact Or.inr (Or.inr ⟨(i - 18) / 3, by omega, by omega⟩)
    · exact Or.inl (stF_0 w)
  have hj : jj 0 (stF 2 64) := bg_jj hbg (stF_1 (by omega))
  have fr01 : ∀ f, f < 256 → stF 2 64 (18 + 3 * f) = 0 ∨ stF 2 64 (18 + 3 * f) = 1 := fun f hf => by
    by_cases q : f < 64
    · exact Or.inr (vf1 f q)
    · exact Or.inl (vf0 f hf q)
  have n01 : ∀ f (x : Int32), f < 256 → x ≠ 0 → x ≠ 1 → stF 2 64 (18 + 3 * f) ≠ x := fun f x hf h0 h1 z => by
    rcases fr01 f hf with q | q
    · exact h0 (z.symm.trans q)
    · exact h1 (z.symm.trans q)
  have ow : own (stF 2 64) := by
    refine ⟨fun b fr o hb h0 => ?_, fun b t o hb h0 => ?_, fun f hf h3 => absurd h3 (n01 f 3 hf (by decide) (by decide)), fun f hf h4 => absurd h4 (n01 f 4 hf (by decide) (by decide)), fun f hf _ _ => stF_0 (by omega), fun f hf => ?_⟩
    · rw [vb b 0 hb (by omega)] at h0
      exact absurd h0 (by decide)
    · rw [vb b 0 hb (by omega)] at h0
      exact absurd h0 (by decide)
    · by_cases q : f < 64
      · rw [vf1 f q, vs1 (f / 32) (by omega)]
      · rw [vf0 f hf q, vs0 (f / 32) (by omega) (by omega)]
  have s0 : sim0 c (stF 2 64) := by
    refine ⟨fun f hf => ?_, fun b hb => Or.inl ⟨i3 b hb, vb b 0 hb (by omega)⟩, fun s hs => ?_, fun t ht => ?_, ⟨0, ?_⟩, ?_, ow⟩
    · obtain ⟨a2, a3, a4, a5⟩ := i1 (f / 32) (by omega)
      obtain ⟨a6, a7⟩ := i2 f hf
      unfold sF
      rw [a2, a3, a4, a5, a6, a7]
      refine ⟨(fr01 f hf).elim Or.inl (fun z => Or.inr (Or.inl z)), ?_, ⟨fun z => absurd z bit_0, fun z => absurd z (n01 f 2 hf (by decide) (by decide))⟩, ⟨fun z => absurd z bit_0, fun z => absurd z (n01 f 3 hf (by decide) (by decide))⟩, ⟨fun z => absurd z bit_0, fun z => absurd z (n01 f 4 hf (by decide) (by decide))⟩, ?_, stF_0 (by omega)⟩
      · by_cases q : f < 64
        · rw [if_pos (by omega), vf1 f q]
          exact ⟨fun _ => rfl, fun _ => bit_m1 (by omega)⟩
        · rw [if_neg (by omega), vf0 f hf q]
          exact ⟨fun z => absurd z bit_0, fun z => absurd z (by decide)⟩
      · rw [stF_0 (by omega)]
        decide
    · obtain ⟨a1, a2, a3, a4, a5, a6, a7, a8⟩ := i4 s hs
      unfold sS
      rw [a1, a2, a3, a4, a5, a6, a7, a8, vsk s 1 hs (by omega) (by omega), vsk s 2 hs (by omega) (by omega), vsk s 3 hs (by omega) (by omega), vsk s 4 hs (by omega) (by omega), vsk s 5 hs (by omega) (by omega), vsk s 6 hs (by omega) (by omega), vsk s 7 hs (by omega) (by omega)]
      by_cases q : s < 2
      · rw [if_pos q, if_pos q, vs1 s q]
        decide
      · rw [if_neg q, if_neg q, vs0 s hs q]
        decide
    · obtain ⟨a1, a2, a3⟩ := i5 t ht
      unfold sT
      rw [a1, a2, a3, stF_0 (i := 2322 + 6 * t + 0) (by omega), stF_0 (i := 2322 + 6 * t + 1) (by omega), stF_0 (i := 2322 + 6 * t + 5) (by omega)]
      exact ⟨rfl, by decide, rfl, fun z => absurd rfl z, fun z => absurd rfl z, fun z => absurd rfl z⟩
    · refine ⟨by rw [i6]; rfl, by omega, fun k hk => absurd hk (by omega), List.nodup_nil, fun t ht z => absurd (i5 t ht).2.1 z, fun b hb => ⟨0, by rw [vb b 9 hb (by omega)]; rfl, rfl⟩⟩
    · refine ⟨by rw [i12, stF_0 (by omega)]; rfl, by rw [i13, stF_0 (by omega)]; rfl, by rw [i14, stF_0 (by omega)]; rfl, by rw [i15, stF_0 (by omega)]; rfl, fun k hk => by rw [i16 k hk, stF_0 (by omega)], by rw [i9, stF_0 (by omega)], by rw [i10, stF_0 (by omega)]⟩
  have v5 : stF 2 64 5 = 0 := stF_0 (by omega)
  refine ⟨⟨s0, fun _ => ⟨by rw [i7, v5], ⟨0, by rw [v5]; rfl, by rw [i8]; rfl⟩, fun k hk => ?_⟩, ⟨0, by omega, by rw [i8]; rfl⟩, hj.2.1.1, by rw [v5]; rfl⟩, hj, ?_⟩
  · obtain ⟨a1, a2, a3, a4⟩ := i11 k hk
    rw [a1, a2, a3, a4]
    exact ⟨stF_0 (by omega), stF_0 (by omega), stF_0 (by omega), stF_0 (by omega)⟩
  · refine ⟨fun b hb h0 => ?_, fun b hb h0 => ?_, fun s hs _ => Or.inl (vsk s 1 hs (by omega) (by omega)), ?_, ?_, ?_, ?_⟩
    · rw [vb b 0 hb (by omega)] at h0
      exact absurd h0 (by decide)
    · rw [vb b 0 hb (by omega)] at h0
      exact absurd h0 (by decide)
    · rw [stF_0 (by omega)]
      decide
    · rw [stF_0 (by omega)]
      decide
    · rw [stF_0 (by omega)]
      decide
    · rw [stF_0 (by omega)]
      decide
