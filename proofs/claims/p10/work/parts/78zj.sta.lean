/-! ===== the simulation: the class at its start ===== -/
theorem ini.cg {c c' : sm_S} (h : ini c) (e : ∀ k, k < 41 → c' k = c k) : ini c' := by
  unfold ini
  rw [e 2 (by omega), e 3 (by omega), e 4 (by omega), e 5 (by omega), e 6 (by omega), e 7 (by omega), e 9 (by omega), e 18 (by omega), e 19 (by omega), e 20 (by omega), e 21 (by omega), e 22 (by omega), e 23 (by omega), e 24 (by omega), e 25 (by omega), e 27 (by omega), e 28 (by omega), e 29 (by omega), e 26 (by omega), e 34 (by omega), e 0 (by omega), e 8 (by omega), e 35 (by omega), e 36 (by omega), e 37 (by omega), e 38 (by omega), e 39 (by omega), e 40 (by omega)]
  exact h
/-- one span more is on -/
def ofX (x : Int32) (τ : sm_S) : sm_S := sm_set (sm_set (sm_set τ 18 (upd (τ 18) x.toNatClampNeg 1)) 19 (upd ((sm_set τ 18 (upd (τ 18) x.toNatClampNeg 1)) 19) x.toNatClampNeg 0)) 2 (upd ((sm_set (sm_set τ 18 (upd (τ 18) x.toNatClampNeg 1)) 19 (upd ((sm_set τ 18 (upd (τ 18) x.toNatClampNeg 1)) 19) x.toNatClampNeg 0)) 2) x.toNatClampNeg (-1))
theorem ofX_o {x : Int32} {τ : sm_S} {k : Nat} (h1 : k ≠ 2) (h2 : k ≠ 18) (h3 : k ≠ 19) : ofX x τ k = τ k := by
  unfold ofX
  rw [s_ne h1, s_ne h3, s_ne h2]
theorem ofX_18 {x : Int32} {τ : sm_S} : ofX x τ 18 = upd (τ 18) x.toNatClampNeg 1 := by
  unfold ofX
  rw [s_ne (by decide), s_ne (by decide), s_at]
theorem ofX_19 {x : Int32} {τ : sm_S} : ofX x τ 19 = upd (τ 19) x.toNatClampNeg 0 := by
  unfold ofX
  rw [s_ne (by decide), s_at, s_ne (by decide)]
theorem ofX_2 {x : Int32} {τ : sm_S} : ofX x τ 2 = upd (τ 2) x.toNatClampNeg (-1) := by
  unfold ofX
  rw [s_at, s_ne (by decide), s_ne (by decide)]
/-- the rest of what a new Memory has -/
def ini0 (σ : sm_S) : Prop := (∀ s, s < 8 → σ 2 s = 0 ∧ σ 3 s = 0 ∧ σ 4 s = 0 ∧ σ 5 s = 0) ∧ (∀ f, f < 256 → σ 7 f = 0) ∧ (∀ s, s < 8 → σ 19 s = -1 ∧ σ 21 s = 0 ∧ σ 22 s = 0 ∧ σ 25 s = -1) ∧ (∀ t, t < 6 → σ 27 t = 0 ∧ σ 29 t = 0) ∧ (σ 34 4 = 0 ∧ σ 0 7 = 0 ∧ σ 8 8 = 0) ∧ (∀ k, k < 60 → σ 35 k = 0 ∧ σ 36 k = 0 ∧ σ 37 k = 0 ∧ σ 38 k = 0) ∧ ∀ k, k < 11 → σ 40 k = 0
theorem two_up {g : Nat → Int32} {s : Nat} {y z : Int32} (h : g s = z) (hs : s < 8) : upd (upd g (0 : Int32).toNatClampNeg y) (0 + 1 : Int32).toNatClampNeg y s = (if s < 2 then y else z) := by
  have e0 : (0 : Int32).toNatClampNeg = 0 := by decide
  have e1 : (0 + 1 : Int32).toNatClampNeg = 1 := by decide
  rw [e0, e1]
  by_cases q1 : s = 1
  · rw [q1, u_at, if_pos (by omega)]
  · rw [u_ne q1]
    by_cases q0 : s = 0
    · rw [q0, u_at, if_pos (by omega)]
    · rw [u_ne q0, if_neg (by omega), h]
theorem ini_of {σ τ : sm_S} {f : Nat → Int32} (j1 : ∀ i, i < 256 → σ 6 i = -1) (j2 : ∀ b, b < 96 → σ 9 b = -1 ∧ σ 14 b = -1 ∧ σ 15 b = 0) (j3 : ∀ s, s < 8 → σ 18 s = 0 ∧ σ 20 s = 0 ∧ σ 23 s = 0 ∧ σ 24 s = -1) (j4 : σ 26 7 = 0 ∧ ∀ t, t < 6 → σ 28 t = -1) (j5 : σ 34 5 = 0) (j6 : ini0 σ) (hf : f 0 = 4 ∧ f 1 = 3 ∧ f 2 = 150 ∧ f 3 = 2) (hof : τ = ofX (0 + 1) (ofX 0 (sm_set σ 39 f))) : ini τ := by
  obtain ⟨k1, k2, k3, k4, ⟨k5, k6, k7⟩, k8, k9⟩ := j6
  have o : ∀ k, k ≠ 2 → k ≠ 18 → k ≠ 19 → k ≠ 39 → τ k = σ k := fun k a b c d => by rw [hof, ofX_o a b c, ofX_o a b c, s_ne d]
  have o39 : τ 39 = f := by rw [hof, ofX_o (by decide) (by decide) (by decide), ofX_o (by decide) (by decide) (by decide), s_at]
  have o2 : τ 2 = upd (upd (σ 2) (0 : Int32).toNatClampNeg (-1)) (0 + 1 : Int32).toNatClampNeg (-1) := by rw [hof, ofX_2, ofX_2, s_ne (by decide)]
  have o18 : τ 18 = upd (upd (σ 18) (0 : Int32).toNatClampNeg 1) (0 + 1 : Int32).toNatClampNeg 1 := by rw [hof, ofX_18, ofX_18, s_ne (by decide)]
  have o19 : τ 19 = upd (upd (σ 19) (0 : Int32).toNatClampNeg 0) (0 + 1 : Int32).toNatClampNeg 0 := by rw [hof, ofX_19, ofX_19, s_ne (by decide)]
  unfold ini
  rw [o2, o18, o19, o39, o 3 (by decide) (by decide) (by decide) (by decide), o 4 (by decide) (by decide) (by decide) (by decide), o 5 (by decide) (by decide) (by decide) (by decide), o 6 (by decide) (by decide) (by decide) (by decide), o 7 (by decide) (by decide) (by decide) (by decide), o 9 (by decide) (by decide) (by decide) (by decide), o 20 (by decide) (by decide) (by decide) (by decide), o 21 (by decide) (by decide) (by decide) (by decide), o 22 (by decide) (by decide) (by decide) (by decide), o 23 (by decide) (by decide) (by decide) (by decide), o 24 (by decide) (by decide) (by decide) (by decide), o 25 (by decide) (by decide) (by decide) (by decide), o 27 (by decide) (by decide) (by decide) (by decide), o 28 (by decide) (by decide) (by decide) (by decide), o 29 (by decide) (by decide) (by decide) (by decide), o 26 (by decide) (by decide) (by decide) (by decide), o 34 (by decide) (by decide) (by decide) (by decide), o 0 (by decide) (by decide) (by decide) (by decide), o 8 (by decide) (by decide) (by decide) (by decide), o 35 (by decide) (by decide) (by decide) (by decide), o 36 (by decide) (by decide) (by decide) (by decide), o 37 (by decide) (by decide) (by decide) (by decide), o 38 (by decide) (by decide) (by decide) (by decide), o 40 (by decide) (by decide) (by decide) (by decide)]
  exact ⟨fun s hs => ⟨two_up (k1 s hs).1 hs, (k1 s hs).2⟩, fun i hi => ⟨j1 i hi, k2 i hi⟩, fun b hb => (j2 b hb).1, fun s hs => ⟨two_up (j3 s hs).1 hs, two_up (k3 s hs).1 hs, (j3 s hs).2.1, (k3 s hs).2.1, (k3 s hs).2.2.1, (j3 s hs).2.2.1, (j3 s hs).2.2.2, (k3 s hs).2.2.2⟩, fun t ht => ⟨(k4 t ht).1, j4.2 t ht, (k4 t ht).2⟩, ⟨j4.1, k5, j5, k6, k7⟩, k8, hf, k9⟩
theorem stF_jj : jj 0 (stF 2 64) := by
  have hbg : bg (stF 2 64) := fun i => by
    by_cases w : (i = 2358 ∧ 0 < 2) ∨ (i = 2366 ∧ 1 < 2) ∨ (18 ≤ i ∧ i < 18 + 3 * 64 ∧ i % 3 = 0)
    · refine Or.inr ⟨stF_1 w, ?_⟩
      rcases w with w | w | w
      · exact Or.inl w.1
      · exact Or.inr (Or.inl w.1)
      · exact Or.inr (Or.inr ⟨(i - 18) / 3, by omega, by omega⟩)
    · exact Or.inl (stF_0 w)
  exact bg_jj hbg (stF_1 (by omega))
