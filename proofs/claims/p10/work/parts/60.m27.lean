/-! ===== the model: how it begins ===== -/
def bgS (i : Nat) : Prop := i = 2358 ∨ i = 2366 ∨ ∃ f, f < 256 ∧ i = 18 + 3 * f
def bg (w : Nat → Int32) : Prop := ∀ i, w i = 0 ∨ (w i = 1 ∧ bgS i)
theorem bg0 {w : Nat → Int32} (h : bg w) {i : Nat} (hi : ¬ bgS i) : w i = 0 := (h i).resolve_right (fun z => hi z.2)
theorem bg_up {w : Nat → Int32} (h : bg w) {i : Nat} (hi : bgS i) : bg (upd w i 1) := by
  intro j
  by_cases hj : j = i
  · subst hj; exact Or.inr ⟨u_at, hi⟩
  · rw [u_ne hj]; exact h j
theorem bg_jj {w : Nat → Int32} (h : bg w) (hs : w 2358 = 1) : jj 0 w := by
  have hb : ∀ b k, b < 96 → k < 16 → w (786 + 16 * b + k) = 0 := fun b k hb hk => bg0 h (by
    rintro (z | z | ⟨f, hf, z⟩) <;> omega)
  have z0 : (0 : Int32).toInt = ((0 : Nat) : Int) := rfl
  have h2 : ∀ s k, s < 8 → 0 < k → k < 8 → w (2358 + 8 * s + k) = 0 := fun s k hs hk hk2 => bg0 h (by
    rintro (z | z | ⟨f, hf, z⟩) <;> omega)
  refine ⟨⟨fun f hf => ?_, fun n hn => Or.inr (fun fr hfr _ _ => ?_)⟩, ⟨fun b hb' => ?_, fun b hb' => ?_, fun s hs' => ?_, fun b hb' hne => ?_, 0, by omega, hs, ?_⟩, ?_⟩
  · rw [bg0 h (i := 18 + 3 * f + 1) (by rintro (z | z | ⟨f, hf, z⟩) <;> omega)]
    exact ⟨by decide, by decide⟩
  · rw [bg0 h (i := 18 + 3 * fr + 1) (by rintro (z | z | ⟨f, hf, z⟩) <;> omega), z0]
    omega
  · refine ⟨0, 0, ?_, by omega, ?_, by omega, rfl, ⟨0, ?_, by omega⟩, ⟨0, ?_, Or.inl rfl⟩, ?_⟩
    · rw [hb b 2 hb' (by omega)]; rfl
    · rw [hb b 1 hb' (by omega)]; rfl
    · rw [hb b 4 hb' (by omega)]; rfl
    · rw [hb b 6 hb' (by omega)]; rfl
    · rw [hb b 7 hb' (by omega)]; decide
  · refine ⟨0, 0, ?_, by omega, ?_, fun z => absurd z (by decide), fun n hn => absurd hn (by omega), fun n m h1 h2 => absurd h2 (by omega)⟩
    · rw [hb b 9 hb' (by omega)]; rfl
    · rw [hb b 2 hb' (by omega)]; rfl
  · have hst : ∃ st : Nat, (w (2358 + 8 * s + 0)).toInt = st ∧ st ≤ 1 := by
      rcases h (2358 + 8 * s + 0) with z | ⟨z, -⟩
      · exact ⟨0, by rw [z]; rfl, by omega⟩
      · exact ⟨1, by rw [z]; rfl, by omega⟩
    obtain ⟨st, q1, q2⟩ := hst
    refine ⟨st, 0, 0, 0, q1, by omega, ?_, by omega, fun _ => by omega, ?_, by omega, ?_, Or.inl rfl⟩
    · rw [h2 s 2 hs' (by omega) (by omega)]; rfl
    · rw [h2 s 5 hs' (by omega) (by omega)]; rfl
    · rw [h2 s 6 hs' (by omega) (by omega)]; rfl
  · exact absurd (hb b 6 hb' (by omega)) hne
  · exact h2 0 1 (by omega) (by omega) (by omega)
  · rw [bg0 h (i := 5) (by rintro (z | z | ⟨f, hf, z⟩) <;> omega)]; rfl
theorem l_begins25 {σ0 : sm_S} {a1 : Int32} {s : Nat} (h1 : a1.toInt = s) (hs : s < 2) {Q : Option Value → sm_S → Prop} (K : ∀ (v2 : Value) (w : Nat → Int32), bg w → w 2358 = 1 → xE xM m_M_begins 2 [.ref 0, .int (a1 + 1), v2] [] (sm_set σ0 1 w) Q) : ∀ (d k : Nat) (a2 : Int32) (w : Nat → Int32), a2.toInt = k → k + d = 32 * s + 32 → bg w → w 2358 = 1 → xE xM m_M_begins 25 [.ref 0, .int a1, .int a2] [] (sm_set σ0 1 w) Q := by
  have hb : (32 * a1 + 32).toInt = ((32 * s + 32 : Nat) : Int) := by
    rw [t_add (t_32s h1 (by omega)) (y := 32) rfl (by omega) (by omega)]
    omega
  intro d
  induction d with
  | zero =>
    intro k a2 w h2 hk hb1 hb2
    exact w_M_begins_25 a1 a2 _ _ ⟨fun _ => K _ _ hb1 hb2, fun h => absurd (by rw [t_le, hb, h2]; omega) h⟩
  | succ d ih =>
    intro k a2 w h2 hk hb1 hb2
    have h2' : (a2 + 1).toInt = ((k + 1 : Nat) : Int) := by
      rw [t_add h2 (y := 1) rfl (by omega) (by omega)]
      omega
    refine w_M_begins_25 a1 a2 _ _ ⟨fun h => ?_, fun _ => (c_frameAt a2 _).int ?_⟩
    · rw [t_le, hb, h2] at h; omega
    · rintro x2 σ ⟨rfl, rfl⟩
      have hi := t_ix (C := 18) (M := 3) (c := 18) (m := 3) (k := 0) (j := 0) rfl rfl h2 rfl (by omega)
      refine ⟨t_vp hi (by omega), fun σ3 e3 => ?_⟩
      rw [t_nat hi, s_at, s_ss] at e3
      subst e3
      refine ih (k + 1) (a2 + 1) _ h2' (by omega) ?_ ?_
      · exact bg_up hb1 (Or.inr (Or.inr ⟨k, by omega, by omega⟩))
      · rw [u_ne (by omega)]; exact hb2
theorem l_begins2 {σ0 : sm_S} : ∀ (d k : Nat) (a1 : Int32) (v2 : Value) (w : Nat → Int32), a1.toInt = k → k + d = 2 → bg w → (0 < k → w 2358 = 1) → xE xM m_M_begins 2 [.ref 0, .int a1, v2] [] (sm_set σ0 1 w) (sm_V (fun σ' => ∃ w, σ' = sm_set σ0 1 w ∧ jj 0 w)) := by
  intro d
  induction d with
  | zero =>
    intro k a1 v2 w h1 hk hb hb2
    refine w_M_begins_2 a1 v2 _ _ ⟨fun _ => ⟨rfl, w, rfl, bg_jj hb (hb2 (by omega))⟩, fun h => absurd ?_ h⟩
    rw [t_le, h1]
    show (2 : Int) ≤ _
    omega
  | succ d ih =>
    intro k a1 v2 w h1 hk hb hb2
    have h1' : (a1 + 1).toInt = ((k + 1 : Nat) : Int) := by
      rw [t_add h1 (y := 1) rfl (by omega) (by omega)]
      omega
    refine w_M_begins_2 a1 v2 _ _ ⟨fun h => ?_, fun _ => (c_spanAt a1 _).int ?_⟩
    · rw [t_le, h1] at h
      have h : (2 : Int) ≤ k := h
      omega
    · rintro x2 σ ⟨rfl, rfl⟩
      have hi := t_ix (C := 2358) (M := 8) (c := 2358) (m := 8) (k := 0) (j := 0) rfl rfl h1 rfl (by omega)
      refine ⟨t_vp hi (by omega), fun σ3 e3 => ?_⟩
      rw [t_nat hi, s_at, s_ss] at e3
      subst e3
      refine l_begins25 h1 (by omega) (fun v w hw hw2 => ih (k + 1) (a1 + 1) v w h1' (by omega) hw (fun _ => hw2)) 32 (32 * k) (32 * a1) _ (t_32s h1 (by omega)) rfl ?_ ?_
      · exact bg_up hb (by rcases (show k = 0 ∨ k = 1 by omega) with rfl | rfl; exact Or.inl rfl; exact Or.inr (Or.inl rfl))
      · rcases Nat.eq_zero_or_pos k with hk0 | hk0
        · subst hk0; exact u_at
        · rw [u_ne (by omega)]; exact hb2 hk0
theorem c_begins (σ : sm_S) (h : ∀ i, σ 1 i = 0) : xC xM j_M_begins [.ref 0] σ (sm_V (fun σ' => ∃ w, σ' = sm_set σ 1 w ∧ jj 0 w)) := by
  refine w_M_begins σ _ ?_
  have := l_begins2 (σ0 := σ) 2 0 0 .null (σ 1) rfl rfl (fun i => Or.inl (h i)) (fun z => absurd z (by decide))
  rw [s_id] at this
  exact this
