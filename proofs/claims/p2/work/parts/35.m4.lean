/-! ===== the model: what a block is, and how it comes and goes ===== -/
/-- a block's row: order, first frame, owner, where to, how much is copied -/
def bk_ok (v : Nat → Int32) (b : Nat) : Prop := ∃ o fr : Nat, (v (786 + 16 * b + 2)).toInt = o ∧ o ≤ 4 ∧ (v (786 + 16 * b + 1)).toInt = fr ∧ fr < 256 ∧ fr % 2 ^ o = 0 ∧ (∃ w : Nat, (v (786 + 16 * b + 4)).toInt = w ∧ w < 6) ∧
  (∃ q : Nat, (v (786 + 16 * b + 6)).toInt = q ∧ (q = 0 ∨ (1 ≤ q ∧ q ≤ 256 ∧ (q - 1) % 2 ^ o = 0))) ∧ 0 ≤ (v (786 + 16 * b + 7)).toInt
/-- frames alone differ, and those keep to 'F_BLOCK in 0 .. 96' -/
def fr_ok (v : Nat → Int32) : Prop := ∀ f, f < 256 → 0 ≤ (v (18 + 3 * f + 1)).toInt ∧ (v (18 + 3 * f + 1)).toInt ≤ 96
def fr_eq (v v' : Nat → Int32) : Prop := ∀ i, (i < 18 ∨ 786 ≤ i) → v' i = v i
theorem fr_eq.rf {v : Nat → Int32} : fr_eq v v := fun _ _ => rfl
theorem fr_eq.tr {a b c : Nat → Int32} (h1 : fr_eq a b) (h2 : fr_eq b c) : fr_eq a c := fun i hi => (h2 i hi).trans (h1 i hi)
theorem fr_upd {v : Nat → Int32} {i : Nat} {x : Int32} (h : 18 ≤ i) (h2 : i < 786) : fr_eq v (upd v i x) := fun j hj => u_ne (by omega)
/-- leaves: as a change of frames -/
theorem c_leaves' {f : Int32} {n : Nat} (hf : f.toInt = n) (hn : n < 256) (σ : sm_S) (hF : fr_ok (σ 1)) : xC xM j_M_leaves [.ref 0, .int f] σ (sm_V (fun σ' => ∃ v, σ' = sm_set σ 1 v ∧ fr_ok v ∧ fr_eq (σ 1) v ∧ (v (18 + 3 * n) = 1 ∨ v (18 + 3 * n) = 2) ∧ ∀ i, i < 18 + 3 * n ∨ 18 + 3 * n + 3 ≤ i → v i = σ 1 i)) := by
  refine (c_leaves hf hn σ).mono ?_
  rintro r σ' ⟨rfl, s, hs, rfl⟩
  refine ⟨rfl, _, rfl, fun g hg => ?_, ?_, ?_, fun i hi => ?_⟩
  · by_cases hgn : g = n
    · subst hgn
      rw [u_ne (by omega), u_at]
      decide
    · rw [u_ne (by omega), u_ne (by omega), u_ne (by omega)]
      exact hF g hg
  · exact ((fr_upd (by omega) (by omega)).tr (fr_upd (by omega) (by omega))).tr (fr_upd (by omega) (by omega))
  · rw [u_ne (by omega), u_ne (by omega), u_at]
    exact hs
  · rw [u_ne (by omega), u_ne (by omega), u_ne (by omega)]
theorem c_has' {f b s : Int32} {n m : Nat} (hf : f.toInt = n) (hn : n < 256) (hb : b.toInt = m) (hm : m < 96) (σ : sm_S) (hF : fr_ok (σ 1)) : xC xM j_M_has [.ref 0, .int f, .int b, .int s] σ (sm_V (fun σ' => ∃ v, σ' = sm_set σ 1 v ∧ fr_ok v ∧ fr_eq (σ 1) v ∧ v (18 + 3 * n) = s ∧ (v (18 + 3 * n + 1)).toInt = ((m + 1 : Nat) : Int) ∧ ∀ i, i < 18 + 3 * n ∨ 18 + 3 * n + 2 ≤ i → v i = σ 1 i)) := by
  have hb1 : (b + 1).toInt = ((m + 1 : Nat) : Int) := by
    rw [t_add hb (y := 1) rfl (by omega) (by omega)]
    omega
  refine (c_has hf (by omega) b s σ).mono ?_
  rintro r σ' ⟨rfl, rfl⟩
  refine ⟨rfl, _, rfl, fun g hg => ?_, ?_, ?_, ?_, fun i hi => ?_⟩
  · by_cases hgn : g = n
    · subst hgn
      rw [u_at, hb1]
      omega
    · rw [u_ne (by omega), u_ne (by omega)]
      exact hF g hg
  · exact (fr_upd (by omega) (by omega)).tr (fr_upd (by omega) (by omega))
  · rw [u_ne (by omega), u_at]
  · rw [u_at]; exact hb1
  · rw [u_ne (by omega), u_ne (by omega)]
theorem c_lays' {f x : Int32} {n : Nat} (hf : f.toInt = n) (hn : n < 256) (σ : sm_S) (hF : fr_ok (σ 1)) : xC xM j_M_lays [.ref 0, .int f, .int x] σ (sm_V (fun σ' => ∃ v, σ' = sm_set σ 1 v ∧ fr_ok v ∧ fr_eq (σ 1) v ∧ ∀ i, i ≠ 18 + 3 * n + 2 → v i = σ 1 i)) := by
  refine (c_lays hf (by omega) x σ).mono ?_
  rintro r σ' ⟨rfl, rfl⟩
  refine ⟨rfl, _, rfl, fun g hg => ?_, fr_upd (by omega) (by omega), fun i hi => u_ne hi⟩
  rw [u_ne (by omega)]
  exact hF g hg
