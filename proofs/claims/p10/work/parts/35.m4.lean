/-! ===== the model: what a block is, and how it comes and goes ===== -/
/-- a block's row: order, first frame, owner, where to, how much is copied -/
def bk_ok (v : Nat → Int32) (b : Nat) : Prop := ∃ o fr : Nat, (v (786 + 16 * b + 2)).toInt = o ∧ o ≤ 4 ∧ (v (786 + 16 * b + 1)).toInt = fr ∧ fr < 256 ∧ fr % 2 ^ o = 0 ∧ (∃ w : Nat, (v (786 + 16 * b + 4)).toInt = w ∧ w < 6) ∧
  (∃ q : Nat, (v (786 + 16 * b + 6)).toInt = q ∧ (q = 0 ∨ (1 ≤ q ∧ q ≤ 256 ∧ (q - 1) % 2 ^ o = 0))) ∧ 0 ≤ (v (786 + 16 * b + 7)).toInt
/-- a block that is none has not its first frame -/
def dn_ok (v : Nat → Int32) (n : Nat) : Prop := v (786 + 16 * n + 0) = 1 ∨ ∀ fr : Nat, fr < 256 → (v (786 + 16 * n + 1)).toInt = fr → v (18 + 3 * fr) = 3 → (v (18 + 3 * fr + 1)).toInt ≠ ((n + 1 : Nat) : Int)
/-- frames: F_BLOCK in 0 .. 96, and dn_ok -/
def fr_ok (v : Nat → Int32) : Prop := (∀ f, f < 256 → 0 ≤ (v (18 + 3 * f + 1)).toInt ∧ (v (18 + 3 * f + 1)).toInt ≤ 96) ∧ ∀ n, n < 96 → dn_ok v n
theorem dn_cong {v v' : Nat → Int32} {n : Nat} (h1 : ∀ i, 18 ≤ i → i < 786 → v' i = v i) (h2 : v' (786 + 16 * n + 0) = v (786 + 16 * n + 0)) (h3 : v' (786 + 16 * n + 1) = v (786 + 16 * n + 1)) (h : dn_ok v n) : dn_ok v' n := by
  rcases h with h | h
  · exact Or.inl (h2.trans h)
  · refine Or.inr (fun fr hf a b => ?_)
    rw [h3] at a
    rw [h1 _ (by omega) (by omega)] at b ⊢
    exact h fr hf a b
theorem fr_cong {v v' : Nat → Int32} (h1 : ∀ i, 18 ≤ i → i < 786 → v' i = v i) (h2 : ∀ n k, n < 96 → k < 2 → v' (786 + 16 * n + k) = v (786 + 16 * n + k)) (h : fr_ok v) : fr_ok v' := by
  refine ⟨fun f hf => ?_, fun n hn => dn_cong h1 (h2 n 0 hn (by omega)) (h2 n 1 hn (by omega)) (h.2 n hn)⟩
  rw [h1 _ (by omega) (by omega)]
  exact h.1 f hf
theorem fr_mono {v v' : Nat → Int32} (h1 : ∀ f, f < 256 → 0 ≤ (v' (18 + 3 * f + 1)).toInt ∧ (v' (18 + 3 * f + 1)).toInt ≤ 96) (h2 : ∀ n k, n < 96 → k < 2 → v' (786 + 16 * n + k) = v (786 + 16 * n + k)) (h3 : ∀ f, f < 256 → v' (18 + 3 * f) = 3 → v (18 + 3 * f) = 3 ∧ v' (18 + 3 * f + 1) = v (18 + 3 * f + 1)) (h : fr_ok v) : fr_ok v' := by
  refine ⟨h1, fun n hn => ?_⟩
  rcases h.2 n hn with g | g
  · exact Or.inl ((h2 n 0 hn (by omega)).trans g)
  · refine Or.inr (fun fr hf a b => ?_)
    rw [h2 n 1 hn (by omega)] at a
    obtain ⟨c1, c2⟩ := h3 fr hf b
    rw [c2]
    exact g fr hf a c1
/-- a frame's state, but to TAKEN -/
theorem fr_st1 {v : Nat → Int32} {i f : Nat} {x : Int32} (hi : i = 18 + 3 * f) (hx : x ≠ 3) (hf : f < 256) (h : fr_ok v) : fr_ok (upd v i x) := by
  subst hi
  refine fr_mono (fun g hg => ?_) (fun n k hn hk => u_ne (by omega)) (fun g hg e => ?_) h
  · rw [u_ne (by omega)]; exact h.1 g hg
  · by_cases hgf : g = f
    · subst hgf
      rw [u_at] at e
      exact absurd e hx
    · rw [u_ne (by omega)] at e
      exact ⟨e, u_ne (by omega)⟩
/-- the block n is none any more -/
theorem fr_gone {v : Nat → Int32} {n fr : Nat} {x : Int32} (hn : n < 96) (h1 : (v (786 + 16 * n + 1)).toInt = fr) (h2 : v (18 + 3 * fr) = 1 ∨ v (18 + 3 * fr) = 2) (h : fr_ok v) : fr_ok (upd v (786 + 16 * n + 0) x) := by
  refine ⟨fun g hg => ?_, fun m hm => ?_⟩
  · rw [u_ne (by omega)]; exact h.1 g hg
  · by_cases hmn : m = n
    · subst hmn
      refine Or.inr (fun fr' hf a b => ?_)
      rw [u_ne (by omega)] at a b
      rw [h1] at a
      have hff : fr = fr' := by omega
      subst hff
      rcases h2 with h2 | h2 <;> (rw [h2] at b; exact absurd b (by decide))
    · rcases h.2 m hm with g | g
      · refine Or.inl ?_
        rw [u_ne (by omega)]; exact g
      · refine Or.inr (fun fr' hf a b => ?_)
        rw [u_ne (by omega)] at a b ⊢
        exact g fr' hf a b
/-- a block that is one, elsewhere -/
theorem fr_frame {v : Nat → Int32} {n : Nat} {x : Int32} (hI : v (786 + 16 * n + 0) = 1) (h : fr_ok v) : fr_ok (upd v (786 + 16 * n + 1) x) := by
  refine ⟨fun g hg => ?_, fun m hm => ?_⟩
  · rw [u_ne (by omega)]; exact h.1 g hg
  · by_cases hmn : m = n
    · subst hmn
      refine Or.inl ?_
      rw [u_ne (by omega)]; exact hI
    · exact dn_cong (fun i h1 h2 => u_ne (by omega)) (u_ne (by omega)) (u_ne (by omega)) (h.2 m hm)
def fr_eq (v v' : Nat → Int32) : Prop := ∀ i, (i < 18 ∨ 786 ≤ i) → v' i = v i
theorem fr_eq.rf {v : Nat → Int32} : fr_eq v v := fun _ _ => rfl
theorem fr_eq.tr {a b c : Nat → Int32} (h1 : fr_eq a b) (h2 : fr_eq b c) : fr_eq a c := fun i hi => (h2 i hi).trans (h1 i hi)
theorem fr_upd {v : Nat → Int32} {i : Nat} {x : Int32} (h : 18 ≤ i) (h2 : i < 786) : fr_eq v (upd v i x) := fun j hj => u_ne (by omega)
/-- leaves: as a change of frames -/
theorem c_leaves' {f : Int32} {n : Nat} (hf : f.toInt = n) (hn : n < 256) (σ : sm_S) (hF : fr_ok (σ 1)) : xC xM j_M_leaves [.ref 0, .int f] σ (sm_V (fun σ' => ∃ v, σ' = sm_set σ 1 v ∧ fr_ok v ∧ fr_eq (σ 1) v ∧ (v (18 + 3 * n) = 1 ∨ v (18 + 3 * n) = 2) ∧ ∀ i, i < 18 + 3 * n ∨ 18 + 3 * n + 3 ≤ i → v i = σ 1 i)) := by
  refine (c_leaves hf hn σ).mono ?_
  rintro r σ' ⟨rfl, s, hs, rfl⟩
  refine ⟨rfl, _, rfl, fr_mono (fun g hg => ?_) (fun m k hm hk => ?_) (fun g hg e => ?_) hF, ?_, ?_, fun i hi => ?_⟩
  · by_cases hgn : g = n
    · subst hgn
      rw [u_ne (by omega), u_at]
      decide
    · rw [u_ne (by omega), u_ne (by omega), u_ne (by omega)]
      exact hF.1 g hg
  · rw [u_ne (by omega), u_ne (by omega), u_ne (by omega)]
  · by_cases hgn : g = n
    · subst hgn
      rw [u_ne (by omega), u_ne (by omega), u_at] at e
      rcases hs with hs | hs <;> (rw [hs] at e; exact absurd e (by decide))
    · rw [u_ne (by omega), u_ne (by omega), u_ne (by omega)] at e ⊢
      exact ⟨e, rfl⟩
  · exact ((fr_upd (by omega) (by omega)).tr (fr_upd (by omega) (by omega))).tr (fr_upd (by omega) (by omega))
  · rw [u_ne (by omega), u_ne (by omega), u_at]
    exact hs
  · rw [u_ne (by omega), u_ne (by omega), u_ne (by omega)]
theorem c_has' {f b s : Int32} {n m : Nat} (hf : f.toInt = n) (hn : n < 256) (hb : b.toInt = m) (hm : m < 96) (σ : sm_S) (hF : fr_ok (σ 1)) (h3 : s = 3 → σ 1 (786 + 16 * m + 0) = 1) : xC xM j_M_has [.ref 0, .int f, .int b, .int s] σ (sm_V (fun σ' => ∃ v, σ' = sm_set σ 1 v ∧ fr_ok v ∧ fr_eq (σ 1) v ∧ v (18 + 3 * n) = s ∧ (v (18 + 3 * n + 1)).toInt = ((m + 1 : Nat) : Int) ∧ ∀ i, i < 18 + 3 * n ∨ 18 + 3 * n + 2 ≤ i → v i = σ 1 i)) := by
  have hb1 : (b + 1).toInt = ((m + 1 : Nat) : Int) := by
    rw [t_add hb (y := 1) rfl (by omega) (by omega)]
    omega
  refine (c_has hf (by omega) b s σ).mono ?_
  rintro r σ' ⟨rfl, rfl⟩
  refine ⟨rfl, _, rfl, ⟨fun g hg => ?_, fun l hl => ?_⟩, ?_, ?_, ?_, fun i hi => ?_⟩
  · by_cases hgn : g = n
    · subst hgn
      rw [u_at, hb1]
      omega
    · rw [u_ne (by omega), u_ne (by omega)]
      exact hF.1 g hg
  · rcases Classical.em (σ 1 (786 + 16 * l + 0) = 1) with e | e
    · refine Or.inl ?_
      rw [u_ne (by omega), u_ne (by omega)]; exact e
    · have e2 := (hF.2 l hl).resolve_left e
      refine Or.inr (fun fr hf a c => ?_)
      rw [u_ne (by omega), u_ne (by omega)] at a
      by_cases hgn : fr = n
      · subst hgn
        rw [u_ne (by omega), u_at] at c
        rw [u_at, hb1]
        intro z
        have hml : m = l := by omega
        subst hml
        exact e (h3 c)
      · rw [u_ne (by omega), u_ne (by omega)] at c ⊢
        exact e2 fr hf a c
  · exact (fr_upd (by omega) (by omega)).tr (fr_upd (by omega) (by omega))
  · rw [u_ne (by omega), u_at]
  · rw [u_at]; exact hb1
  · rw [u_ne (by omega), u_ne (by omega)]
theorem c_lays' {f x : Int32} {n : Nat} (hf : f.toInt = n) (hn : n < 256) (σ : sm_S) (hF : fr_ok (σ 1)) : xC xM j_M_lays [.ref 0, .int f, .int x] σ (sm_V (fun σ' => ∃ v, σ' = sm_set σ 1 v ∧ fr_ok v ∧ fr_eq (σ 1) v ∧ ∀ i, i ≠ 18 + 3 * n + 2 → v i = σ 1 i)) := by
  refine (c_lays hf (by omega) x σ).mono ?_
  rintro r σ' ⟨rfl, rfl⟩
  refine ⟨rfl, _, rfl, fr_mono (fun g hg => ?_) (fun m k hm hk => u_ne (by omega)) (fun g hg e => ?_) hF, fr_upd (by omega) (by omega), fun i hi => u_ne hi⟩
  · rw [u_ne (by omega)]
    exact hF.1 g hg
  · rw [u_ne (by omega)] at e ⊢
    exact ⟨e, rfl⟩
