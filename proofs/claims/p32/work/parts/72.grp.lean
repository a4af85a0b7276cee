section
/-! ===== the class: copies ===== -/
def ln (k : Nat) : Nat := if k ≤ 5 then 8 else if k ≤ 7 then 256 else if k ≤ 16 then 96 else if k ≤ 25 then 8 else if k ≤ 33 then 6 else if k ≤ 38 then 60 else if k = 39 then 4 else 11
def cp (D : List Nat) (σ τ : sm_S) : Prop := (∀ k, D.contains k = true → ∀ i, i < ln k → τ k i = σ (41 + k) i) ∧ (∀ k, 41 ≤ k → τ k = σ k) ∧ ∀ k, 34 ≤ k → k ≤ 38 → τ k = σ k
theorem cp.rf {σ : sm_S} : cp [] σ σ := ⟨fun _ h => (by cases h), fun _ _ => rfl, fun _ _ _ => rfl⟩
theorem cp.st {D : List Nat} {σ τ τ' : sm_S} {k : Nat} (h : cp D σ τ) (hk : k < 34 ∨ (38 < k ∧ k < 41)) (hg : ∃ g, τ' = sm_set τ k g ∧ ∀ i, i < ln k → g i = τ (41 + k) i) : cp (k :: D) σ τ' := by
  obtain ⟨g, rfl, hg⟩ := hg
  refine ⟨fun j hj i hi => ?_, fun j hj => ?_, fun j hj hj2 => ?_⟩
  · by_cases hjk : j = k
    · subst hjk
      rw [s_at, hg i hi, h.2.1 _ (by omega)]
    · rw [s_ne hjk]
      refine h.1 j ?_ i hi
      rw [List.contains_cons, Bool.or_eq_true] at hj
      rcases hj with hj | hj
      · exact absurd (beq_iff_eq.mp hj) hjk
      · exact hj
  · rw [s_ne (by omega)]; exact h.2.1 j hj
  · rw [s_ne (by omega)]; exact h.2.2 j hj hj2
theorem cp.ob {D : List Nat} {σ τ : sm_S} {k : Nat} {f : Nat → Int32} (h : cp D σ τ) (hk : k < 34) (hD : D.contains k = false) : cp D σ (sm_set τ k f) := by
  refine ⟨fun j hj i hi => ?_, fun j hj => ?_, fun j hj hj2 => ?_⟩
  · rw [s_ne (fun z => by rw [z, hD] at hj; cases hj)]
    exact h.1 j hj i hi
  · rw [s_ne (by omega)]; exact h.2.1 j hj
  · rw [s_ne (by omega)]; exact h.2.2 j hj hj2
theorem q_copy2 (σ : sm_S) : xC xP j_R_copy [.ref 43, .ref 2] σ (sm_V (fun σ' => ∃ g, σ' = sm_set σ 2 g ∧ ∀ i, i < ln 2 → g i = σ (41 + 2) i)) := p_copy2 σ _ ⟨by decide, fun σ1 e1 => ⟨rfl, _, e1, fun i hi => sb_cpy0 (n := 8) hi⟩⟩
theorem q_copy3 (σ : sm_S) : xC xP j_R_copy [.ref 44, .ref 3] σ (sm_V (fun σ' => ∃ g, σ' = sm_set σ 3 g ∧ ∀ i, i < ln 3 → g i = σ (41 + 3) i)) := p_copy3 σ _ ⟨by decide, fun σ1 e1 => ⟨rfl, _, e1, fun i hi => sb_cpy0 (n := 8) hi⟩⟩
theorem q_copy4 (σ : sm_S) : xC xP j_R_copy [.ref 45, .ref 4] σ (sm_V (fun σ' => ∃ g, σ' = sm_set σ 4 g ∧ ∀ i, i < ln 4 → g i = σ (41 + 4) i)) := p_copy4 σ _ ⟨by decide, fun σ1 e1 => ⟨rfl, _, e1, fun i hi => sb_cpy0 (n := 8) hi⟩⟩
theorem q_copy5 (σ : sm_S) : xC xP j_R_copy [.ref 46, .ref 5] σ (sm_V (fun σ' => ∃ g, σ' = sm_set σ 5 g ∧ ∀ i, i < ln 5 → g i = σ (41 + 5) i)) := p_copy5 σ _ ⟨by decide, fun σ1 e1 => ⟨rfl, _, e1, fun i hi => sb_cpy0 (n := 8) hi⟩⟩
theorem q_copy6 (σ : sm_S) : xC xP j_R_copy [.ref 47, .ref 6] σ (sm_V (fun σ' => ∃ g, σ' = sm_set σ 6 g ∧ ∀ i, i < ln 6 → g i = σ (41 + 6) i)) := p_copy6 σ _ ⟨by decide, fun σ1 e1 => ⟨rfl, _, e1, fun i hi => sb_cpy0 (n := 256) hi⟩⟩
theorem q_copy7 (σ : sm_S) : xC xP j_R_copy [.ref 48, .ref 7] σ (sm_V (fun σ' => ∃ g, σ' = sm_set σ 7 g ∧ ∀ i, i < ln 7 → g i = σ (41 + 7) i)) := p_copy7 σ _ ⟨by decide, fun σ1 e1 => ⟨rfl, _, e1, fun i hi => sb_cpy0 (n := 256) hi⟩⟩
theorem q_copy9 (σ : sm_S) : xC xP j_R_copy [.ref 50, .ref 9] σ (sm_V (fun σ' => ∃ g, σ' = sm_set σ 9 g ∧ ∀ i, i < ln 9 → g i = σ (41 + 9) i)) := p_copy9 σ _ ⟨by decide, fun σ1 e1 => ⟨rfl, _, e1, fun i hi => sb_cpy0 (n := 96) hi⟩⟩
theorem q_copy10 (σ : sm_S) : xC xP j_R_copy [.ref 51, .ref 10] σ (sm_V (fun σ' => ∃ g, σ' = sm_set σ 10 g ∧ ∀ i, i < ln 10 → g i = σ (41 + 10) i)) := p_copy10 σ _ ⟨by decide, fun σ1 e1 => ⟨rfl, _, e1, fun i hi => sb_cpy0 (n := 96) hi⟩⟩
theorem q_copy11 (σ : sm_S) : xC xP j_R_copy [.ref 52, .ref 11] σ (sm_V (fun σ' => ∃ g, σ' = sm_set σ 11 g ∧ ∀ i, i < ln 11 → g i = σ (41 + 11) i)) := p_copy11 σ _ ⟨by decide, fun σ1 e1 => ⟨rfl, _, e1, fun i hi => sb_cpy0 (n := 96) hi⟩⟩
theorem q_copy12 (σ : sm_S) : xC xP j_R_copy [.ref 53, .ref 12] σ (sm_V (fun σ' => ∃ g, σ' = sm_set σ 12 g ∧ ∀ i, i < ln 12 → g i = σ (41 + 12) i)) := p_copy12 σ _ ⟨by decide, fun σ1 e1 => ⟨rfl, _, e1, fun i hi => sb_cpy0 (n := 96) hi⟩⟩
theorem q_copy13 (σ : sm_S) : xC xP j_R_copy [.ref 54, .ref 13] σ (sm_V (fun σ' => ∃ g, σ' = sm_set σ 13 g ∧ ∀ i, i < ln 13 → g i = σ (41 + 13) i)) := p_copy13 σ _ ⟨by decide, fun σ1 e1 => ⟨rfl, _, e1, fun i hi => sb_cpy0 (n := 96) hi⟩⟩
theorem q_copy14 (σ : sm_S) : xC xP j_R_copy [.ref 55, .ref 14] σ (sm_V (fun σ' => ∃ g, σ' = sm_set σ 14 g ∧ ∀ i, i < ln 14 → g i = σ (41 + 14) i)) := p_copy14 σ _ ⟨by decide, fun σ1 e1 => ⟨rfl, _, e1, fun i hi => sb_cpy0 (n := 96) hi⟩⟩
theorem q_copy15 (σ : sm_S) : xC xP j_R_copy [.ref 56, .ref 15] σ (sm_V (fun σ' => ∃ g, σ' = sm_set σ 15 g ∧ ∀ i, i < ln 15 → g i = σ (41 + 15) i)) := p_copy15 σ _ ⟨by decide, fun σ1 e1 => ⟨rfl, _, e1, fun i hi => sb_cpy0 (n := 96) hi⟩⟩
theorem q_copy16 (σ : sm_S) : xC xP j_R_copy [.ref 57, .ref 16] σ (sm_V (fun σ' => ∃ g, σ' = sm_set σ 16 g ∧ ∀ i, i < ln 16 → g i = σ (41 + 16) i)) := p_copy16 σ _ ⟨by decide, fun σ1 e1 => ⟨rfl, _, e1, fun i hi => sb_cpy0 (n := 96) hi⟩⟩
theorem q_copy18 (σ : sm_S) : xC xP j_R_copy [.ref 59, .ref 18] σ (sm_V (fun σ' => ∃ g, σ' = sm_set σ 18 g ∧ ∀ i, i < ln 18 → g i = σ (41 + 18) i)) := p_copy18 σ _ ⟨by decide, fun σ1 e1 => ⟨rfl, _, e1, fun i hi => sb_cpy0 (n := 8) hi⟩⟩
theorem q_copy19 (σ : sm_S) : xC xP j_R_copy [.ref 60, .ref 19] σ (sm_V (fun σ' => ∃ g, σ' = sm_set σ 19 g ∧ ∀ i, i < ln 19 → g i = σ (41 + 19) i)) := p_copy19 σ _ ⟨by decide, fun σ1 e1 => ⟨rfl, _, e1, fun i hi => sb_cpy0 (n := 8) hi⟩⟩
theorem q_copy20 (σ : sm_S) : xC xP j_R_copy [.ref 61, .ref 20] σ (sm_V (fun σ' => ∃ g, σ' = sm_set σ 20 g ∧ ∀ i, i < ln 20 → g i = σ (41 + 20) i)) := p_copy20 σ _ ⟨by decide, fun σ1 e1 => ⟨rfl, _, e1, fun i hi => sb_cpy0 (n := 8) hi⟩⟩
theorem q_copy21 (σ : sm_S) : xC xP j_R_copy [.ref 62, .ref 21] σ (sm_V (fun σ' => ∃ g, σ' = sm_set σ 21 g ∧ ∀ i, i < ln 21 → g i = σ (41 + 21) i)) := p_copy21 σ _ ⟨by decide, fun σ1 e1 => ⟨rfl, _, e1, fun i hi => sb_cpy0 (n := 8) hi⟩⟩
theorem q_copy22 (σ : sm_S) : xC xP j_R_copy [.ref 63, .ref 22] σ (sm_V (fun σ' => ∃ g, σ' = sm_set σ 22 g ∧ ∀ i, i < ln 22 → g i = σ (41 + 22) i)) := p_copy22 σ _ ⟨by decide, fun σ1 e1 => ⟨rfl, _, e1, fun i hi => sb_cpy0 (n := 8) hi⟩⟩
theorem q_copy23 (σ : sm_S) : xC xP j_R_copy [.ref 64, .ref 23] σ (sm_V (fun σ' => ∃ g, σ' = sm_set σ 23 g ∧ ∀ i, i < ln 23 → g i = σ (41 + 23) i)) := p_copy23 σ _ ⟨by decide, fun σ1 e1 => ⟨rfl, _, e1, fun i hi => sb_cpy0 (n := 8) hi⟩⟩
theorem q_copy24 (σ : sm_S) : xC xP j_R_copy [.ref 65, .ref 24] σ (sm_V (fun σ' => ∃ g, σ' = sm_set σ 24 g ∧ ∀ i, i < ln 24 → g i = σ (41 + 24) i)) := p_copy24 σ _ ⟨by decide, fun σ1 e1 => ⟨rfl, _, e1, fun i hi => sb_cpy0 (n := 8) hi⟩⟩
theorem q_copy25 (σ : sm_S) : xC xP j_R_copy [.ref 66, .ref 25] σ (sm_V (fun σ' => ∃ g, σ' = sm_set σ 25 g ∧ ∀ i, i < ln 25 → g i = σ (41 + 25) i)) := p_copy25 σ _ ⟨by decide, fun σ1 e1 => ⟨rfl, _, e1, fun i hi => sb_cpy0 (n := 8) hi⟩⟩
theorem q_copy27 (σ : sm_S) : xC xP j_R_copy [.ref 68, .ref 27] σ (sm_V (fun σ' => ∃ g, σ' = sm_set σ 27 g ∧ ∀ i, i < ln 27 → g i = σ (41 + 27) i)) := p_copy27 σ _ ⟨by decide, fun σ1 e1 => ⟨rfl, _, e1, fun i hi => sb_cpy0 (n := 6) hi⟩⟩
theorem q_copy28 (σ : sm_S) : xC xP j_R_copy [.ref 69, .ref 28] σ (sm_V (fun σ' => ∃ g, σ' = sm_set σ 28 g ∧ ∀ i, i < ln 28 → g i = σ (41 + 28) i)) := p_copy28 σ _ ⟨by decide, fun σ1 e1 => ⟨rfl, _, e1, fun i hi => sb_cpy0 (n := 6) hi⟩⟩
theorem q_copy29 (σ : sm_S) : xC xP j_R_copy [.ref 70, .ref 29] σ (sm_V (fun σ' => ∃ g, σ' = sm_set σ 29 g ∧ ∀ i, i < ln 29 → g i = σ (41 + 29) i)) := p_copy29 σ _ ⟨by decide, fun σ1 e1 => ⟨rfl, _, e1, fun i hi => sb_cpy0 (n := 6) hi⟩⟩
theorem q_copy30 (σ : sm_S) : xC xP j_R_copy [.ref 71, .ref 30] σ (sm_V (fun σ' => ∃ g, σ' = sm_set σ 30 g ∧ ∀ i, i < ln 30 → g i = σ (41 + 30) i)) := p_copy30 σ _ ⟨by decide, fun σ1 e1 => ⟨rfl, _, e1, fun i hi => sb_cpy0 (n := 6) hi⟩⟩
theorem q_copy31 (σ : sm_S) : xC xP j_R_copy [.ref 72, .ref 31] σ (sm_V (fun σ' => ∃ g, σ' = sm_set σ 31 g ∧ ∀ i, i < ln 31 → g i = σ (41 + 31) i)) := p_copy31 σ _ ⟨by decide, fun σ1 e1 => ⟨rfl, _, e1, fun i hi => sb_cpy0 (n := 6) hi⟩⟩
theorem q_copy32 (σ : sm_S) : xC xP j_R_copy [.ref 73, .ref 32] σ (sm_V (fun σ' => ∃ g, σ' = sm_set σ 32 g ∧ ∀ i, i < ln 32 → g i = σ (41 + 32) i)) := p_copy32 σ _ ⟨by decide, fun σ1 e1 => ⟨rfl, _, e1, fun i hi => sb_cpy0 (n := 6) hi⟩⟩
theorem q_copy33 (σ : sm_S) : xC xP j_R_copy [.ref 74, .ref 33] σ (sm_V (fun σ' => ∃ g, σ' = sm_set σ 33 g ∧ ∀ i, i < ln 33 → g i = σ (41 + 33) i)) := p_copy33 σ _ ⟨by decide, fun σ1 e1 => ⟨rfl, _, e1, fun i hi => sb_cpy0 (n := 6) hi⟩⟩
theorem q_copy35 (σ : sm_S) : xC xP j_R_copy [.ref 76, .ref 35] σ (sm_V (fun σ' => ∃ g, σ' = sm_set σ 35 g ∧ ∀ i, i < ln 35 → g i = σ (41 + 35) i)) := p_copy35 σ _ ⟨by decide, fun σ1 e1 => ⟨rfl, _, e1, fun i hi => sb_cpy0 (n := 60) hi⟩⟩
theorem q_copy36 (σ : sm_S) : xC xP j_R_copy [.ref 77, .ref 36] σ (sm_V (fun σ' => ∃ g, σ' = sm_set σ 36 g ∧ ∀ i, i < ln 36 → g i = σ (41 + 36) i)) := p_copy36 σ _ ⟨by decide, fun σ1 e1 => ⟨rfl, _, e1, fun i hi => sb_cpy0 (n := 60) hi⟩⟩
theorem q_copy37 (σ : sm_S) : xC xP j_R_copy [.ref 78, .ref 37] σ (sm_V (fun σ' => ∃ g, σ' = sm_set σ 37 g ∧ ∀ i, i < ln 37 → g i = σ (41 + 37) i)) := p_copy37 σ _ ⟨by decide, fun σ1 e1 => ⟨rfl, _, e1, fun i hi => sb_cpy0 (n := 60) hi⟩⟩
theorem q_copy38 (σ : sm_S) : xC xP j_R_copy [.ref 79, .ref 38] σ (sm_V (fun σ' => ∃ g, σ' = sm_set σ 38 g ∧ ∀ i, i < ln 38 → g i = σ (41 + 38) i)) := p_copy38 σ _ ⟨by decide, fun σ1 e1 => ⟨rfl, _, e1, fun i hi => sb_cpy0 (n := 60) hi⟩⟩
theorem q_copy39 (σ : sm_S) : xC xP j_R_copy [.ref 80, .ref 39] σ (sm_V (fun σ' => ∃ g, σ' = sm_set σ 39 g ∧ ∀ i, i < ln 39 → g i = σ (41 + 39) i)) := p_copy39 σ _ ⟨by decide, fun σ1 e1 => ⟨rfl, _, e1, fun i hi => sb_cpy0 (n := 4) hi⟩⟩
theorem q_copy40 (σ : sm_S) : xC xP j_R_copy [.ref 81, .ref 40] σ (sm_V (fun σ' => ∃ g, σ' = sm_set σ 40 g ∧ ∀ i, i < ln 40 → g i = σ (41 + 40) i)) := p_copy40 σ _ ⟨by decide, fun σ1 e1 => ⟨rfl, _, e1, fun i hi => sb_cpy0 (n := 11) hi⟩⟩
theorem q_F {D : List Nat} {σ0 : sm_S} (σ : sm_S) (h : cp D σ0 σ) : xC xP j_F_copyFrom [.ref 1, .ref 42] σ (sm_V (fun σ' => cp (7 :: 6 :: 5 :: 4 :: 3 :: 2 :: D) σ0 σ' ∧ ∀ k, k < 2 ∨ 7 < k → σ' k = σ k)) := by
  refine p_F_copyFrom σ _ ?_
  refine (q_copy2 _).void ?_
  intro σ1 g1
  have h1 := h.st (k := 2) (by omega) g1
  refine (q_copy3 _).void ?_
  intro σ2 g2
  have h2 := h1.st (k := 3) (by omega) g2
  refine (q_copy4 _).void ?_
  intro σ3 g3
  have h3 := h2.st (k := 4) (by omega) g3
  refine (q_copy5 _).void ?_
  intro σ4 g4
  have h4 := h3.st (k := 5) (by omega) g4
  refine (q_copy6 _).void ?_
  intro σ5 g5
  have h5 := h4.st (k := 6) (by omega) g5
  refine (q_copy7 _).void ?_
  intro σ6 g6
  have h6 := h5.st (k := 7) (by omega) g6
  refine ⟨rfl, h6, fun k hk => ?_⟩
  obtain ⟨w6, rfl, -⟩ := g6
  obtain ⟨w5, rfl, -⟩ := g5
  obtain ⟨w4, rfl, -⟩ := g4
  obtain ⟨w3, rfl, -⟩ := g3
  obtain ⟨w2, rfl, -⟩ := g2
  obtain ⟨w1, rfl, -⟩ := g1
  rw [s_ne (by omega), s_ne (by omega), s_ne (by omega), s_ne (by omega), s_ne (by omega), s_ne (by omega)]
theorem q_S {D : List Nat} {σ0 : sm_S} (σ : sm_S) (h : cp D σ0 σ) : xC xP j_S_copyFrom [.ref 17, .ref 58] σ (sm_V (fun σ' => cp (25 :: 24 :: 23 :: 22 :: 21 :: 20 :: 19 :: 18 :: D) σ0 σ' ∧ ∀ k, k < 18 ∨ 25 < k → σ' k = σ k)) := by
  refine p_S_copyFrom σ _ ?_
  refine (q_copy18 _).void ?_
  intro σ1 g1
  have h1 := h.st (k := 18) (by omega) g1
  refine (q_copy19 _).void ?_
  intro σ2 g2
  have h2 := h1.st (k := 19) (by omega) g2
  refine (q_copy20 _).void ?_
  intro σ3 g3
  have h3 := h2.st (k := 20) (by omega) g3
  refine (q_copy21 _).void ?_
  intro σ4 g4
  have h4 := h3.st (k := 21) (by omega) g4
  refine (q_copy22 _).void ?_
  intro σ5 g5
  have h5 := h4.st (k := 22) (by omega) g5
  refine (q_copy23 _).void ?_
  intro σ6 g6
  have h6 := h5.st (k := 23) (by omega) g6
  refine (q_copy24 _).void ?_
  intro σ7 g7
  have h7 := h6.st (k := 24) (by omega) g7
  refine (q_copy25 _).void ?_
  intro σ8 g8
  have h8 := h7.st (k := 25) (by omega) g8
  refine ⟨rfl, h8, fun k hk => ?_⟩
  obtain ⟨w8, rfl, -⟩ := g8
  obtain ⟨w7, rfl, -⟩ := g7
  obtain ⟨w6, rfl, -⟩ := g6
  obtain ⟨w5, rfl, -⟩ := g5
  obtain ⟨w4, rfl, -⟩ := g4
  obtain ⟨w3, rfl, -⟩ := g3
  obtain ⟨w2, rfl, -⟩ := g2
  obtain ⟨w1, rfl, -⟩ := g1
  rw [s_ne (by omega), s_ne (by omega), s_ne (by omega), s_ne (by omega), s_ne (by omega), s_ne (by omega), s_ne (by omega), s_ne (by omega)]
theorem q_B {D : List Nat} {σ0 : sm_S} (σ : sm_S) (h : cp D σ0 σ) (hD : D.contains 8 = false) : xC xP j_B_copyFrom [.ref 8, .ref 49] σ (sm_V (fun σ' => cp (16 :: 15 :: 14 :: 13 :: 12 :: 11 :: 10 :: 9 :: D) σ0 σ' ∧ σ' 8 8 = σ0 49 8 ∧ ∀ k, k < 8 ∨ 16 < k → σ' k = σ k)) := by
  refine p_B_copyFrom σ _ ?_
  refine (q_copy9 _).void ?_
  intro σ1 g1
  have h1 := h.st (k := 9) (by omega) g1
  refine (q_copy10 _).void ?_
  intro σ2 g2
  have h2 := h1.st (k := 10) (by omega) g2
  refine (q_copy11 _).void ?_
  intro σ3 g3
  have h3 := h2.st (k := 11) (by omega) g3
  refine (q_copy12 _).void ?_
  intro σ4 g4
  have h4 := h3.st (k := 12) (by omega) g4
  refine (q_copy13 _).void ?_
  intro σ5 g5
  have h5 := h4.st (k := 13) (by omega) g5
  refine (q_copy14 _).void ?_
  intro σ6 g6
  have h6 := h5.st (k := 14) (by omega) g6
  refine (q_copy15 _).void ?_
  intro σ7 g7
  have h7 := h6.st (k := 15) (by omega) g7
  refine (q_copy16 _).void ?_
  intro σ8 g8
  have h8 := h7.st (k := 16) (by omega) g8
  intro σe ee
  subst ee
  refine ⟨rfl, h8.ob (by omega) ?_, ?_, fun k hk => ?_⟩
  · simp only [List.contains_cons, hD]
    rfl
  · rw [s_at, u_at, h8.2.1 49 (by omega)]
  · rw [s_ne (by omega)]
    obtain ⟨w8, rfl, -⟩ := g8
    obtain ⟨w7, rfl, -⟩ := g7
    obtain ⟨w6, rfl, -⟩ := g6
    obtain ⟨w5, rfl, -⟩ := g5
    obtain ⟨w4, rfl, -⟩ := g4
    obtain ⟨w3, rfl, -⟩ := g3
    obtain ⟨w2, rfl, -⟩ := g2
    obtain ⟨w1, rfl, -⟩ := g1
    rw [s_ne (by omega), s_ne (by omega), s_ne (by omega), s_ne (by omega), s_ne (by omega), s_ne (by omega), s_ne (by omega), s_ne (by omega)]
theorem q_K {D : List Nat} {σ0 : sm_S} (σ : sm_S) (h : cp D σ0 σ) (hD : D.contains 26 = false) : xC xP j_K_copyFrom [.ref 26, .ref 67] σ (sm_V (fun σ' => cp (33 :: 32 :: 31 :: 30 :: 29 :: 28 :: 27 :: D) σ0 σ' ∧ σ' 26 7 = σ0 67 7 ∧ ∀ k, k < 26 ∨ 33 < k → σ' k = σ k)) := by
  refine p_K_copyFrom σ _ ?_
  refine (q_copy27 _).void ?_
  intro σ1 g1
  have h1 := h.st (k := 27) (by omega) g1
  refine (q_copy28 _).void ?_
  intro σ2 g2
  have h2 := h1.st (k := 28) (by omega) g2
  refine (q_copy29 _).void ?_
  intro σ3 g3
  have h3 := h2.st (k := 29) (by omega) g3
  refine (q_copy30 _).void ?_
  intro σ4 g4
  have h4 := h3.st (k := 30) (by omega) g4
  refine (q_copy31 _).void ?_
  intro σ5 g5
  have h5 := h4.st (k := 31) (by omega) g5
  refine (q_copy32 _).void ?_
  intro σ6 g6
  have h6 := h5.st (k := 32) (by omega) g6
  refine (q_copy33 _).void ?_
  intro σ7 g7
  have h7 := h6.st (k := 33) (by omega) g7
  intro σe ee
  subst ee
  refine ⟨rfl, h7.ob (by omega) ?_, ?_, fun k hk => ?_⟩
  · simp only [List.contains_cons, hD]
    rfl
  · rw [s_at, u_at, h7.2.1 67 (by omega)]
  · rw [s_ne (by omega)]
    obtain ⟨w7, rfl, -⟩ := g7
    obtain ⟨w6, rfl, -⟩ := g6
    obtain ⟨w5, rfl, -⟩ := g5
    obtain ⟨w4, rfl, -⟩ := g4
    obtain ⟨w3, rfl, -⟩ := g3
    obtain ⟨w2, rfl, -⟩ := g2
    obtain ⟨w1, rfl, -⟩ := g1
    rw [s_ne (by omega), s_ne (by omega), s_ne (by omega), s_ne (by omega), s_ne (by omega), s_ne (by omega), s_ne (by omega)]
def cpL : List Nat := [40, 39, 33, 32, 31, 30, 29, 28, 27, 25, 24, 23, 22, 21, 20, 19, 18, 16, 15, 14, 13, 12, 11, 10, 9, 7, 6, 5, 4, 3, 2]
theorem q_Y (σ : sm_S) : xC xP j_Y_copyFrom [.ref 0, .ref 41] σ (sm_V (fun σ' => cp cpL σ σ' ∧ σ' 26 7 = σ 67 7)) := by
  refine p_Y_copyFrom σ _ ((q_F σ cp.rf).void ?_)
  rintro σ1 ⟨h1, -⟩
  refine (q_B σ1 h1 rfl).void ?_
  rintro σ2 ⟨h2, -, -⟩
  refine (q_S σ2 h2).void ?_
  rintro σ3 ⟨h3, -⟩
  refine (q_K σ3 h3 rfl).void ?_
  rintro σ4 ⟨h4, e4, -⟩
  refine (q_copy39 _).void ?_
  intro σ5 g5
  have h5 := h4.st (k := 39) (by omega) g5
  refine (q_copy40 _).void ?_
  intro σ6 g6
  have h6 := h5.st (k := 40) (by omega) g6
  intro σ7 e7
  subst e7
  refine ⟨rfl, h6.ob (by omega) rfl, ?_⟩
  obtain ⟨w6, rfl, -⟩ := g6
  obtain ⟨w5, rfl, -⟩ := g5
  rw [s_ne (by decide), s_ne (by decide), s_ne (by decide)]
  exact e4
theorem q_L (σ : sm_S) : xC xP j_L_copyFrom [.ref 34, .ref 75] σ (sm_V (fun σ' => σ' 34 5 = σ 75 5 ∧ ∀ k, k < 34 ∨ 38 < k → σ' k = σ k)) := by
  refine p_L_copyFrom σ _ ((q_copy35 _).void ?_)
  rintro σ1 ⟨w1, rfl, -⟩
  refine (q_copy36 _).void ?_
  rintro σ2 ⟨w2, rfl, -⟩
  refine (q_copy37 _).void ?_
  rintro σ3 ⟨w3, rfl, -⟩
  refine (q_copy38 _).void ?_
  rintro σ4 ⟨w4, rfl, -⟩
  intro σ5 e5 σ6 e6
  subst e5 e6
  refine ⟨rfl, ?_, fun k hk => ?_⟩
  · rw [s_at, u_at, s_ne (by decide), s_ne (by decide), s_ne (by decide), s_ne (by decide), s_ne (by decide)]
  · rw [s_ne (by omega), s_ne (by omega), s_ne (by omega), s_ne (by omega), s_ne (by omega), s_ne (by omega)]
/-- what is copied is as what it was copied from -/
theorem cp_keR {σ σ' : sm_S} (h : cp cpL σ σ') (h26 : σ' 26 7 = σ 67 7) : keR (bs 41 σ) σ' :=
  ⟨fun f hf => h.1 6 rfl f hf, fun b hb => ⟨h.1 9 rfl b hb, h.1 10 rfl b hb, h.1 12 rfl b hb, h.1 14 rfl b hb, h.1 15 rfl b hb⟩, fun s hs => ⟨h.1 18 rfl s hs, h.1 20 rfl s hs, h.1 23 rfl s hs, h.1 24 rfl s hs⟩, fun t ht => ⟨h.1 28 rfl t ht, h.1 31 rfl t ht, h.1 33 rfl t ht⟩, h26, h.1 39 rfl 0 (by decide)⟩
theorem stP {ρ : Nat → Nat} {τ σ' : sm_S} (h : sm_stR ρ xP τ σ') : keR τ (sh ρ σ') ∧ (sh ρ σ') 34 5 = τ 34 5 := by
  have arr : ∀ (k : Nat) (q : Nat × Nat), xP[k]? = some (.inl q) → (sh ρ σ') k = τ k := fun k q hk => h.1 k q hk
  refine ⟨⟨fun f _ => by rw [arr 6 (0, 256) rfl], fun b _ => ⟨by rw [arr 9 (0, 96) rfl], by rw [arr 10 (0, 96) rfl], by rw [arr 12 (0, 96) rfl], by rw [arr 14 (0, 96) rfl], by rw [arr 15 (0, 96) rfl]⟩, fun s _ => ⟨by rw [arr 18 (0, 8) rfl], by rw [arr 20 (0, 8) rfl], by rw [arr 23 (0, 8) rfl], by rw [arr 24 (0, 8) rfl]⟩, fun t _ => ⟨by rw [arr 28 (0, 6) rfl], by rw [arr 31 (0, 6) rfl], by rw [arr 33 (0, 6) rfl]⟩, ?_, by rw [arr 39 (0, 4) rfl]⟩, ?_⟩
  · exact h.2 26 6 _ 7 0 rfl rfl (by omega)
  · exact h.2 34 3 _ 5 0 rfl rfl (by omega)
theorem keR.tr {a b c : sm_S} (h1 : keR a b) (h2 : keR b c) : keR a c :=
  ⟨fun f hf => (h2.1 f hf).trans (h1.1 f hf), fun x hx => ⟨(h2.2.1 x hx).1.trans (h1.2.1 x hx).1, (h2.2.1 x hx).2.1.trans (h1.2.1 x hx).2.1, (h2.2.1 x hx).2.2.1.trans (h1.2.1 x hx).2.2.1, (h2.2.1 x hx).2.2.2.1.trans (h1.2.1 x hx).2.2.2.1, (h2.2.1 x hx).2.2.2.2.trans (h1.2.1 x hx).2.2.2.2⟩, fun x hx => ⟨(h2.2.2.1 x hx).1.trans (h1.2.2.1 x hx).1, (h2.2.2.1 x hx).2.1.trans (h1.2.2.1 x hx).2.1, (h2.2.2.1 x hx).2.2.1.trans (h1.2.2.1 x hx).2.2.1, (h2.2.2.1 x hx).2.2.2.trans (h1.2.2.1 x hx).2.2.2⟩, fun x hx => ⟨(h2.2.2.2.1 x hx).1.trans (h1.2.2.2.1 x hx).1, (h2.2.2.2.1 x hx).2.1.trans (h1.2.2.2.1 x hx).2.1, (h2.2.2.2.1 x hx).2.2.trans (h1.2.2.2.1 x hx).2.2⟩, h2.2.2.2.2.1.trans h1.2.2.2.2.1, h2.2.2.2.2.2.trans h1.2.2.2.2.2⟩
theorem r2_lo {a b k : Nat} (h : k < 41) : r2 a b k = a + k := if_pos h
theorem r2_hi {a b k : Nat} (h : k < 41) : r2 a b (41 + k) = b + k := by
  unfold r2
  rw [if_neg (by omega), if_pos (by omega)]
  omega
/-- outside of what is copied to nothing changes -/
theorem P_out {a b : Nat} {σ τ σ' : sm_S} (hs : sm_stR (r2 a b) xP τ σ') (ho : sm_off (r2 a b) xP σ σ') (hτ : ∀ k, 41 ≤ k → τ k = (sh (r2 a b) σ) k) {c : Nat} (hc : c < a ∨ a + 41 ≤ c) : σ' c = σ c := by
  funext i
  by_cases hv : sm_vis (r2 a b) xP c i
  · obtain ⟨k, hk, hv⟩ := hv
    have hk41 : 41 ≤ k := by
      rcases Nat.lt_or_ge k 41 with h | h
      · rw [r2_lo h] at hk; omega
      · exact h
    rcases hv with ⟨q, hq⟩ | ⟨ci, fl, t, f1, f2, f3⟩
    · have := congrFun (hs.1 k q hq) i
      rw [hτ k hk41] at this
      show σ' c i = σ c i
      rw [← hk]
      exact this
    · have := hs.2 k ci fl i t f1 f2 f3
      rw [hτ k hk41] at this
      rw [← hk]
      exact this
  · exact ho c i hv
/-- a Memory is copied -/
theorem x_cpy {a b : Nat} (hR : sm_shR (r2 a b) xP xF) (σ : sm_S) : xC xF j_Y_copyFrom [.ref a, .ref b] σ (sm_V (fun σ' => (∀ c, c < a ∨ a + 41 ≤ c → σ' c = σ c) ∧ keR (bs b σ) (bs a σ') ∧ σ' (a + 34) 5 = σ (a + 34) 5)) := by
  have e : ([.ref 0, .ref 41] : List Value).map (sm_cv (r2 a b)) = [.ref a, .ref b] := by
    show [Value.ref (r2 a b 0), Value.ref (r2 a b (41 + 0))] = _
    rw [r2_lo (by omega), r2_hi (by omega)]
    rfl
  rw [← e]
  refine (x_up hR (q_Y (sh (r2 a b) σ))).mono ?_
  rintro r σ' ⟨r1, τ, rfl, ⟨rfl, h1, h2⟩, hs, ho⟩
  refine ⟨rfl, fun c hc => P_out hs ho (fun k hk => h1.2.1 k hk) hc, ?_, ?_⟩
  · refine keR.tr (b := sh (r2 a b) σ') (keR.tr (keR.tr ?_ (cp_keR h1 h2)) (stP hs).1) ?_
    · exact keR_of (fun k hk => by show σ (r2 a b (41 + k)) = σ (b + k); rw [r2_hi hk])
    · exact keR_of (fun k hk => by show σ' (a + k) = σ' (r2 a b k); rw [r2_lo hk])
  · have := (stP hs).2
    rw [h1.2.2 34 (by omega) (by omega)] at this
    have : σ' (r2 a b 34) 5 = σ (r2 a b 34) 5 := this
    rw [r2_lo (by omega)] at this
    exact this
/-- a Log is copied -/
theorem x_cpyL {a b : Nat} (hR : sm_shR (r2 a b) xP xF) (σ : sm_S) : xC xF j_L_copyFrom [.ref (a + 34), .ref (b + 34)] σ (sm_V (fun σ' => (∀ c, c < a ∨ a + 41 ≤ c → σ' c = σ c) ∧ keR (bs a σ) (bs a σ') ∧ σ' (a + 34) 5 = σ (b + 34) 5)) := by
  have e : ([.ref 34, .ref 75] : List Value).map (sm_cv (r2 a b)) = [.ref (a + 34), .ref (b + 34)] := by
    show [Value.ref (r2 a b 34), Value.ref (r2 a b (41 + 34))] = _
    rw [r2_lo (by omega), r2_hi (by omega)]
  rw [← e]
  refine (x_up hR (q_L (sh (r2 a b) σ))).mono ?_
  rintro r σ' ⟨r1, τ, rfl, ⟨rfl, h1, h2⟩, hs, ho⟩
  refine ⟨rfl, fun c hc => P_out hs ho (fun k hk => h2 k (by omega)) hc, ?_, ?_⟩
  · refine keR.tr (b := sh (r2 a b) σ') (keR.tr (keR.tr (b := sh (r2 a b) σ) ?_ ?_) (stP hs).1) ?_
    · exact keR_of (fun k hk => by show σ (r2 a b k) = σ (a + k); rw [r2_lo hk])
    · exact ⟨fun f _ => by rw [h2 6 (by omega)], fun x _ => ⟨by rw [h2 9 (by omega)], by rw [h2 10 (by omega)], by rw [h2 12 (by omega)], by rw [h2 14 (by omega)], by rw [h2 15 (by omega)]⟩, fun s _ => ⟨by rw [h2 18 (by omega)], by rw [h2 20 (by omega)], by rw [h2 23 (by omega)], by rw [h2 24 (by omega)]⟩, fun t _ => ⟨by rw [h2 28 (by omega)], by rw [h2 31 (by omega)], by rw [h2 33 (by omega)]⟩, by rw [h2 26 (by omega)], by rw [h2 39 (by omega)]⟩
    · exact keR_of (fun k hk => by show σ' (a + k) = σ' (r2 a b k); rw [r2_lo hk])
  · have := (stP hs).2
    rw [h1] at this
    have : σ' (r2 a b 34) 5 = σ (r2 a b (41 + 34)) 5 := this
    rw [r2_lo (by omega), r2_hi (by omega)] at this
    exact this
end
section
/-! ===== the class: what would be ===== -/
theorem kk_bs0 {σ : sm_S} (h : kk σ) : kk (bs 0 σ) := kk_of (fun k _ => by show σ (0 + k) = σ k; rw [Nat.zero_add]) h
theorem bs0_kk {σ : sm_S} (h : kk (bs 0 σ)) : kk σ := kk_of (fun k _ => by show σ k = σ (0 + k); rw [Nat.zero_add]) h
theorem l_canGoT {a1 : Int32} {n : Nat} (σ : sm_S) (hon : σ 104 n = 1) : ∀ (d k : Nat) (a2 : Int32), a2.toInt = k → k + d = 8 → xE xF m_S_canGo 14 [.ref 103, .int a1, .int a2] [] σ (sm_I (fun x σ' => (x = 0 ∨ (x = 1 ∧ σ 104 n = 1)) ∧ σ' = σ)) := by
  intro d
  induction d with
  | zero =>
    intro k a2 h2 hk
    refine f_S_canGo_t_14 a1 a2 σ _ ⟨fun _ => ⟨Or.inl rfl, _, rfl, Or.inl rfl, rfl⟩, fun h => absurd ?_ h⟩
    rw [t_le, h2]
    show (8 : Int) ≤ _
    omega
  | succ d ih =>
    intro k a2 h2 hk
    have h2' : (a2 + 1).toInt = ((k + 1 : Nat) : Int) := by
      rw [t_add h2 (y := 1) rfl (by omega) (by omega)]
      omega
    have next := ih (k + 1) (a2 + 1) h2' (by omega)
    have v := t_vp (N := 8) h2 (by omega)
    exact f_S_canGo_t_14 a1 a2 σ _ ⟨fun _ => ⟨Or.inl rfl, _, rfl, Or.inl rfl, rfl⟩, fun _ => ⟨fun _ => next, fun _ => ⟨v, fun _ => next, fun _ => ⟨v, fun _ => next, fun _ => ⟨Or.inr rfl, _, rfl, Or.inr ⟨rfl, hon⟩, rfl⟩⟩⟩⟩⟩
theorem g_canGo_t {a1 : Int32} {n : Nat} (h1 : a1.toInt = n) (hn : n < 8) (σ : sm_S) : xC xF j_S_canGo [.ref 103, .int a1] σ (sm_I (fun x σ' => (x = 0 ∨ (x = 1 ∧ σ 104 n = 1)) ∧ σ' = σ)) := by
  refine f_S_canGo_t a1 σ _ ⟨t_vp h1 hn, fun h => l_canGoT σ ?_ 8 0 0 rfl rfl, fun _ => ⟨Or.inl rfl, _, rfl, Or.inl rfl, rfl⟩⟩
  rw [t_nat h1] at h
  exact h
theorem g_canGo_n {a1 : Int32} {n : Nat} (h1 : a1.toInt = n) (hn : n < 8) (σ : sm_S) : xC xF j_S_canGo [.ref 17, .int a1] σ (sm_I (fun x σ' => (x = 0 ∨ (x = 1 ∧ σ 18 n = 1)) ∧ σ' = σ)) := nw0 (e_canGo h1 hn σ)
/-- the trial's cells and Thought alone -/
def th (σ σ' : sm_S) : Prop := ∀ a, a < 43 ∨ 86 ≤ a → σ' a = σ a
theorem th.tr {a b c : sm_S} (h1 : th a b) (h2 : th b c) : th a c := fun k hk => (h2 k hk).trans (h1 k hk)
theorem th.of {σ σ' : sm_S} (h : ∀ a, a < 43 ∨ 85 ≤ a → σ' a = σ a) : th σ σ' := fun a ha => h a (by omega)
theorem l_tryOut_n {a2 : Int32} {s : Nat} (h2 : a2.toInt = s) (hs : s < 8) : ∀ (d k : Nat) (a3 : Int32) (σ : sm_S), a3.toInt = k → k + d = 500 → kk (bs 43 σ) → xE xF m_H_tryOut 18 [.ref 85, .ref 0, .int a2, .int a3] [] σ (sm_I (fun _ σ' => th σ σ' ∧ kk (bs 43 σ'))) := by
  have v := t_vp h2 hs
  have stop : ∀ (a3 : Int32) (σ : sm_S), kk (bs 43 σ) → ∀ σ1, σ1 = sm_set σ 85 (upd (σ 85) 3 a3) → (vp_in a2 8 ∧ (((σ1 61 (a2).toNatClampNeg) ≠ 0 → (((0 : Int32) = 0 ∨ (0 : Int32) = 1) ∧ (sm_I (fun _ σ' => th σ σ' ∧ kk (bs 43 σ'))) (some (.int 0)) σ1)) ∧ (¬ ((σ1 61 (a2).toNatClampNeg) ≠ 0) → (((1 : Int32) = 0 ∨ (1 : Int32) = 1) ∧ (sm_I (fun _ σ' => th σ σ' ∧ kk (bs 43 σ'))) (some (.int 1)) σ1)))) := by
    intro a3 σ hk σ1 e1
    have h1 : th σ σ1 := fun a ha => by rw [e1, s_ne (by omega)]
    have h3 : kk (bs 43 σ1) := kk_of (fun k hk => by show σ1 (43 + k) = σ (43 + k); rw [e1, s_ne (by omega)]) hk
    exact ⟨v, fun _ => ⟨Or.inl rfl, _, rfl, h1, h3⟩, fun _ => ⟨Or.inr rfl, _, rfl, h1, h3⟩⟩
  intro d
  induction d with
  | zero =>
    intro k a3 σ h3 hk hkk
    refine f_H_tryOut_n_18 a2 a3 σ _ ⟨fun _ => stop a3 σ hkk, fun h => absurd ?_ h⟩
    rw [t_le, h3]
    show (500 : Int) ≤ _
    omega
  | succ d ih =>
    intro k a3 σ h3 hk hkk
    have h3' : (a3 + 1).toInt = ((k + 1 : Nat) : Int) := by
      rw [t_add h3 (y := 1) rfl (by omega) (by omega)]
      omega
    refine f_H_tryOut_n_18 a2 a3 σ _ ⟨fun _ => stop a3 σ hkk, fun _ => (x_up0 shTF (as := [.ref 17, .int a2]) rfl (e_isGoing h2 hs (sh rT σ))).int ?_⟩
    rintro x3 σ ⟨-, rfl⟩
    refine ⟨fun _ => stop a3 σ hkk, fun _ => (trV (as := [.ref 41]) rfl (fun _ h => h) (e_oneTick (sh rT σ) (kk_tr hkk))).void ?_⟩
    rintro σ5 ⟨k5, o5⟩
    refine (ih (k + 1) _ σ5 h3' (by omega) k5).mono ?_
    rintro r σ' ⟨x, rfl, g1, g2⟩
    exact ⟨x, rfl, (th.of o5).tr g1, g2⟩
theorem g_tryOut_n {a2 : Int32} {s : Nat} (h2 : a2.toInt = s) (hs : s < 8) (σ : sm_S) (hk : kk σ) (hl : kl (bs 43 σ)) (hon : σ 18 s = 1) : xC xF j_H_tryOut [.ref 85, .ref 0, .int a2] σ (sm_I (fun _ σ' => th σ σ' ∧ kk (bs 43 σ'))) := by
  refine f_H_tryOut_n a2 σ _ ((x_cpy shP1 σ).void ?_)
  rintro σ1 ⟨o1, e1, n1⟩
  have k1 : kk (bs 43 σ1) := kk_eqr e1 (kl_of (σ := bs 43 σ) n1 hl) (kk_bs0 hk)
  have h18 : (sh rT σ1) 18 s ≠ 3 := by
    have g1 : (bs 43 σ1) 18 s = (bs 0 σ) 18 s := (e1.2.2.1 s hs).1
    have g2 : (bs 0 σ) 18 s = 1 := hon
    rw [rT_bs 18 (by omega), g1, g2]
    decide
  refine (trV (as := [.ref 41, .int a2]) rfl (fun _ h => h) (e_Gbegin h2 hs (sh rT σ1) (kk_tr k1) h18)).void ?_
  rintro σ2 ⟨k2, o2⟩
  obtain ⟨d, hd⟩ : ∃ d, d = 500 := ⟨_, rfl⟩
  refine (l_tryOut_n h2 hs d 0 0 σ2 rfl (by omega) k2).mono ?_
  rintro r σ' ⟨x, rfl, g1, g2⟩
  exact ⟨x, rfl, ((th.of (fun a ha => o1 a (by omega))).tr (th.of o2)).tr g1, g2⟩
theorem l_findEasiest_n (σ : sm_S) (hk : kk σ) : ∀ (d k : Nat) (a2 a3 : Int32) (τ : sm_S), a3.toInt = k → k + d = 8 → th σ τ → kl (bs 43 τ) → (a2 = -1 ∨ ∃ s : Nat, s < 8 ∧ a2.toInt = s ∧ σ 18 s = 1) → xE xF m_H_findEasiest 4 [.ref 85, .ref 0, .int a2, .int a3] [] τ (sm_I (fun x σ' => th σ σ' ∧ kl (bs 43 σ') ∧ (x = -1 ∨ ∃ s : Nat, s < 8 ∧ x.toInt = s ∧ σ 18 s = 1))) := by
  intro d
  induction d with
  | zero =>
    intro k a2 a3 τ h3 hkd ht hl hb
    refine f_H_findEasiest_n_4 a2 a3 τ _ ⟨fun _ => ⟨_, rfl, ht, hl, hb⟩, fun h => absurd ?_ h⟩
    rw [t_le, h3]
    show (8 : Int) ≤ _
    omega
  | succ d ih =>
    intro k a2 a3 τ h3 hkd ht hl hb
    have h3' : (a3 + 1).toInt = ((k + 1 : Nat) : Int) := by
      rw [t_add h3 (y := 1) rfl (by omega) (by omega)]
      omega
    refine f_H_findEasiest_n_4 a2 a3 τ _ ⟨fun _ => ⟨_, rfl, ht, hl, hb⟩, fun _ => (g_canGo_n h3 (by omega) τ).int ?_⟩
    rintro x2 τ ⟨hx2, rfl⟩
    refine ⟨fun _ => ih (k + 1) _ _ τ h3' (by omega) ht hl hb, fun n2 => ?_⟩
    obtain ⟨-, hon⟩ := hx2.resolve_left n2
    have hkτ : kk τ := kk_of (fun k hk => ht k (by omega)) hk
    refine (g_tryOut_n h3 (by omega) τ hkτ hl hon).int ?_
    rintro x4 σ3 ⟨t3, k3⟩
    have hon' : σ 18 k = 1 := by rw [← ht 18 (by omega)]; exact hon
    have new : a3 = -1 ∨ ∃ s : Nat, s < 8 ∧ a3.toInt = s ∧ σ 18 s = 1 := Or.inr ⟨k, by omega, h3, hon'⟩
    have mk : ∀ (y : Int32) (σ5 : sm_S), σ5 = sm_set σ3 85 (upd (σ3 85) 4 y) → th σ σ5 ∧ kl (bs 43 σ5) := fun y σ5 e5 => ⟨(ht.tr t3).tr (fun a ha => by rw [e5, s_ne (by omega)]), kl_of (by show σ5 77 5 = σ3 77 5; rw [e5, s_ne (by decide)]) k3.2.2.2.2.1⟩
    refine ⟨fun _ => ih (k + 1) _ _ σ3 h3' (by omega) (ht.tr t3) k3.2.2.2.2.1 hb, fun _ => ⟨fun _ σ5 e5 => ih (k + 1) _ _ σ5 h3' (by omega) (mk _ σ5 e5).1 (mk _ σ5 e5).2 new, fun _ => ⟨fun _ => ih (k + 1) _ _ σ3 h3' (by omega) (ht.tr t3) k3.2.2.2.2.1 hb, fun _ σ5 e5 => ih (k + 1) _ _ σ5 h3' (by omega) (mk _ σ5 e5).1 (mk _ σ5 e5).2 new⟩⟩⟩
theorem g_findEasiest_n (σ : sm_S) (hk : kk σ) (hl : kl (bs 43 σ)) : xC xF j_H_findEasiest [.ref 85, .ref 0] σ (sm_I (fun x σ' => th σ σ' ∧ kl (bs 43 σ') ∧ (x = -1 ∨ ∃ s : Nat, s < 8 ∧ x.toInt = s ∧ σ 18 s = 1))) :=
  f_H_findEasiest_n σ _ (l_findEasiest_n σ hk 8 0 (-1) 0 σ rfl rfl (fun _ _ => rfl) hl (Or.inl rfl))
theorem l_tryOut_t {a2 : Int32} {s : Nat} (h2 : a2.toInt = s) (hs : s < 8) : ∀ (d k : Nat) (a3 : Int32) (σ : sm_S), a3.toInt = k → k + d = 500 → kk (bs 43 σ) → xE xF m_H_tryOut 18 [.ref 85, .ref 86, .int a2, .int a3] [] σ (sm_I (fun _ σ' => th σ σ' ∧ kk (bs 43 σ'))) := by
  have v := t_vp h2 hs
  have stop : ∀ (a3 : Int32) (σ : sm_S), kk (bs 43 σ) → ∀ σ1, σ1 = sm_set σ 85 (upd (σ 85) 3 a3) → (vp_in a2 8 ∧ (((σ1 61 (a2).toNatClampNeg) ≠ 0 → (((0 : Int32) = 0 ∨ (0 : Int32) = 1) ∧ (sm_I (fun _ σ' => th σ σ' ∧ kk (bs 43 σ'))) (some (.int 0)) σ1)) ∧ (¬ ((σ1 61 (a2).toNatClampNeg) ≠ 0) → (((1 : Int32) = 0 ∨ (1 : Int32) = 1) ∧ (sm_I (fun _ σ' => th σ σ' ∧ kk (bs 43 σ'))) (some (.int 1)) σ1)))) := by
    intro a3 σ hk σ1 e1
    have h1 : th σ σ1 := fun a ha => by rw [e1, s_ne (by omega)]
    have h3 : kk (bs 43 σ1) := kk_of (fun k hk => by show σ1 (43 + k) = σ (43 + k); rw [e1, s_ne (by omega)]) hk
    exact ⟨v, fun _ => ⟨Or.inl rfl, _, rfl, h1, h3⟩, fun _ => ⟨Or.inr rfl, _, rfl, h1, h3⟩⟩
  intro d
  induction d with
  | zero =>
    intro k a3 σ h3 hk hkk
    refine f_H_tryOut_t_18 a2 a3 σ _ ⟨fun _ => stop a3 σ hkk, fun h => absurd ?_ h⟩
    rw [t_le, h3]
    show (500 : Int) ≤ _
    omega
  | succ d ih =>
    intro k a3 σ h3 hk hkk
    have h3' : (a3 + 1).toInt = ((k + 1 : Nat) : Int) := by
      rw [t_add h3 (y := 1) rfl (by omega) (by omega)]
      omega
    refine f_H_tryOut_t_18 a2 a3 σ _ ⟨fun _ => stop a3 σ hkk, fun _ => (x_up0 shTF (as := [.ref 17, .int a2]) rfl (e_isGoing h2 hs (sh rT σ))).int ?_⟩
    rintro x3 σ ⟨-, rfl⟩
    refine ⟨fun _ => stop a3 σ hkk, fun _ => (trV (as := [.ref 41]) rfl (fun _ h => h) (e_oneTick (sh rT σ) (kk_tr hkk))).void ?_⟩
    rintro σ5 ⟨k5, o5⟩
    refine (ih (k + 1) _ σ5 h3' (by omega) k5).mono ?_
    rintro r σ' ⟨x, rfl, g1, g2⟩
    exact ⟨x, rfl, (th.of o5).tr g1, g2⟩
theorem g_tryOut_t {a2 : Int32} {s : Nat} (h2 : a2.toInt = s) (hs : s < 8) (σ : sm_S) (hk : kk (bs 86 σ)) (hl : kl (bs 43 σ)) (hon : σ 104 s = 1) : xC xF j_H_tryOut [.ref 85, .ref 86, .int a2] σ (sm_I (fun _ σ' => th σ σ' ∧ kk (bs 43 σ'))) := by
  refine f_H_tryOut_t a2 σ _ ((x_cpy shP2 σ).void ?_)
  rintro σ1 ⟨o1, e1, n1⟩
  have k1 : kk (bs 43 σ1) := kk_eqr e1 (kl_of (σ := bs 43 σ) n1 hl) (hk)
  have h18 : (sh rT σ1) 18 s ≠ 3 := by
    have g1 : (bs 43 σ1) 18 s = (bs 86 σ) 18 s := (e1.2.2.1 s hs).1
    have g2 : (bs 86 σ) 18 s = 1 := hon
    rw [rT_bs 18 (by omega), g1, g2]
    decide
  refine (trV (as := [.ref 41, .int a2]) rfl (fun _ h => h) (e_Gbegin h2 hs (sh rT σ1) (kk_tr k1) h18)).void ?_
  rintro σ2 ⟨k2, o2⟩
  obtain ⟨d, hd⟩ : ∃ d, d = 500 := ⟨_, rfl⟩
  refine (l_tryOut_t h2 hs d 0 0 σ2 rfl (by omega) k2).mono ?_
  rintro r σ' ⟨x, rfl, g1, g2⟩
  exact ⟨x, rfl, ((th.of (fun a ha => o1 a (by omega))).tr (th.of o2)).tr g1, g2⟩
theorem l_findEasiest_t (σ : sm_S) (hk : kk (bs 86 σ)) : ∀ (d k : Nat) (a2 a3 : Int32) (τ : sm_S), a3.toInt = k → k + d = 8 → th σ τ → kl (bs 43 τ) → (a2 = -1 ∨ ∃ s : Nat, s < 8 ∧ a2.toInt = s ∧ σ 104 s = 1) → xE xF m_H_findEasiest 4 [.ref 85, .ref 86, .int a2, .int a3] [] τ (sm_I (fun x σ' => th σ σ' ∧ kl (bs 43 σ') ∧ (x = -1 ∨ ∃ s : Nat, s < 8 ∧ x.toInt = s ∧ σ 104 s = 1))) := by
  intro d
  induction d with
  | zero =>
    intro k a2 a3 τ h3 hkd ht hl hb
    refine f_H_findEasiest_t_4 a2 a3 τ _ ⟨fun _ => ⟨_, rfl, ht, hl, hb⟩, fun h => absurd ?_ h⟩
    rw [t_le, h3]
    show (8 : Int) ≤ _
    omega
  | succ d ih =>
    intro k a2 a3 τ h3 hkd ht hl hb
    have h3' : (a3 + 1).toInt = ((k + 1 : Nat) : Int) := by
      rw [t_add h3 (y := 1) rfl (by omega) (by omega)]
      omega
    refine f_H_findEasiest_t_4 a2 a3 τ _ ⟨fun _ => ⟨_, rfl, ht, hl, hb⟩, fun _ => (g_canGo_t h3 (by omega) τ).int ?_⟩
    rintro x2 τ ⟨hx2, rfl⟩
    refine ⟨fun _ => ih (k + 1) _ _ τ h3' (by omega) ht hl hb, fun n2 => ?_⟩
    obtain ⟨-, hon⟩ := hx2.resolve_left n2
    have hkτ : kk (bs 86 τ) := kk_of (fun k hk => by show τ (86 + k) = σ (86 + k); exact ht _ (by omega)) hk
    refine (g_tryOut_t h3 (by omega) τ hkτ hl hon).int ?_
    rintro x4 σ3 ⟨t3, k3⟩
    have hon' : σ 104 k = 1 := by rw [← ht 104 (by omega)]; exact hon
    have new : a3 = -1 ∨ ∃ s : Nat, s < 8 ∧ a3.toInt = s ∧ σ 104 s = 1 := Or.inr ⟨k, by omega, h3, hon'⟩
    have mk : ∀ (y : Int32) (σ5 : sm_S), σ5 = sm_set σ3 85 (upd (σ3 85) 4 y) → th σ σ5 ∧ kl (bs 43 σ5) := fun y σ5 e5 => ⟨(ht.tr t3).tr (fun a ha => by rw [e5, s_ne (by omega)]), kl_of (by show σ5 77 5 = σ3 77 5; rw [e5, s_ne (by decide)]) k3.2.2.2.2.1⟩
    refine ⟨fun _ => ih (k + 1) _ _ σ3 h3' (by omega) (ht.tr t3) k3.2.2.2.2.1 hb, fun _ => ⟨fun _ σ5 e5 => ih (k + 1) _ _ σ5 h3' (by omega) (mk _ σ5 e5).1 (mk _ σ5 e5).2 new, fun _ => ⟨fun _ => ih (k + 1) _ _ σ3 h3' (by omega) (ht.tr t3) k3.2.2.2.2.1 hb, fun _ σ5 e5 => ih (k + 1) _ _ σ5 h3' (by omega) (mk _ σ5 e5).1 (mk _ σ5 e5).2 new⟩⟩⟩
theorem g_findEasiest_t (σ : sm_S) (hk : kk (bs 86 σ)) (hl : kl (bs 43 σ)) : xC xF j_H_findEasiest [.ref 85, .ref 86] σ (sm_I (fun x σ' => th σ σ' ∧ kl (bs 43 σ') ∧ (x = -1 ∨ ∃ s : Nat, s < 8 ∧ x.toInt = s ∧ σ 104 s = 1))) :=
  f_H_findEasiest_t σ _ (l_findEasiest_t σ hk 8 0 (-1) 0 σ rfl rfl (fun _ _ => rfl) hl (Or.inl rfl))
theorem g_widestPacked {a2 : Int32} {s : Nat} (h2 : a2.toInt = s) (hs : s < 8) (σ : sm_S) (hk : kk σ) (hl : kl (bs 43 σ)) : xC xF j_H_widestPacked [.ref 85, .ref 0, .int a2] σ (sm_I (fun _ σ' => th σ σ' ∧ kl (bs 43 σ'))) := by
  refine f_H_widestPacked a2 σ _ ((x_cpy shP1 σ).void ?_)
  rintro σ1 ⟨o1, e1, n1⟩
  have k1 : kk (bs 43 σ1) := kk_eqr e1 (kl_of (σ := bs 43 σ) n1 hl) (kk_bs0 hk)
  refine (trK (as := [.ref 0, .int a2]) rfl (fun _ _ h => h) (e_pack h2 hs (sh rT σ1) (kk_tr k1))).int ?_
  rintro x3 σ2 ⟨k2, o2⟩
  refine ⟨t_vp h2 hs, (nw1 (c_widest _ σ2)).int ?_⟩
  rintro x5 σ2 rfl
  exact ⟨_, rfl, (th.of (fun a ha => o1 a (by omega))).tr (th.of o2), k2.2.2.2.2.1⟩
theorem g_grownSince {a2 : Int32} {n : Nat} (h2 : a2.toInt = n) (hn : n < 11) (σ : sm_S) : xC xF j_H_grownSince [.ref 85, .ref 0, .int a2] σ (sm_I (fun _ σ' => σ' = σ)) :=
  f_H_grownSince a2 σ _ ⟨t_vp h2 hn, t_vp h2 hn, _, rfl, rfl⟩
end
section
/-! ===== the class: every call keeps what holds ===== -/
def WW (σ : sm_S) : Prop := kk σ ∧ kl (bs 43 σ) ∧ kl (bs 86 σ) ∧ (σ 42 4 = 0 ∨ σ 42 4 = 1) ∧ (σ 42 4 ≠ 0 → kk (bs 127 σ))
def AQ (σ σ' : sm_S) : Prop := WW σ' ∧ (∀ a, 168 ≤ a → σ' a = σ a) ∧ σ' 42 4 = σ 42 4
theorem AQ.rf {σ : sm_S} (h : WW σ) : AQ σ σ := ⟨h, fun _ _ => rfl, rfl⟩
theorem AQ.now {σ σ' : sm_S} (h : WW σ) (hk : kk σ') (ho : ∀ a, 42 ≤ a → σ' a = σ a) : AQ σ σ' := by
  obtain ⟨-, h2, h3, h4, h5⟩ := h
  refine ⟨⟨hk, kl_of (σ := bs 43 σ) (by show σ' 77 5 = σ 77 5; rw [ho 77 (by omega)]) h2, kl_of (σ := bs 86 σ) (by show σ' 120 5 = σ 120 5; rw [ho 120 (by omega)]) h3, by rw [ho 42 (by omega)]; exact h4, fun hn => ?_⟩, fun a ha => ho a (by omega), by rw [ho 42 (by omega)]⟩
  rw [ho 42 (by omega)] at hn
  exact kk_of (fun k hk => by show σ' (127 + k) = σ (127 + k); exact ho _ (by omega)) (h5 hn)
theorem AQ.th {σ σ' : sm_S} (h : WW σ) (ht : th σ σ') (hl : kl (bs 43 σ')) : AQ σ σ' := by
  obtain ⟨h1, h2, h3, h4, h5⟩ := h
  refine ⟨⟨kk_of (fun k hk => ht k (by omega)) h1, hl, kl_of (σ := bs 86 σ) (by show σ' 120 5 = σ 120 5; rw [ht 120 (by omega)]) h3, by rw [ht 42 (by omega)]; exact h4, fun hn => ?_⟩, fun a ha => ht a (by omega), by rw [ht 42 (by omega)]⟩
  rw [ht 42 (by omega)] at hn
  exact kk_of (fun k hk => by show σ' (127 + k) = σ (127 + k); exact ht _ (by omega)) (h5 hn)
theorem AQ.tr {a b c : sm_S} (h1 : AQ a b) (h2 : AQ b c) : AQ a c := ⟨h2.1, fun k hk => (h2.2.1 k hk).trans (h1.2.1 k hk), h2.2.2.trans h1.2.2⟩
theorem kk_tld {σ σ1 : sm_S} {n : Nat} {x : Int32} (e : σ1 = sm_set σ 39 (upd (σ 39) n x)) (hx : 0 ≤ x.toInt) (h : kk σ) : kk σ1 := by
  subst e
  obtain ⟨k1, k2, k3, k4, k5, k6⟩ := h
  refine ⟨k1, k2, k3, k4, k5, ?_⟩
  rw [s_at]
  by_cases hn : 0 = n
  · subst hn; rw [u_at]; exact hx
  · rw [u_ne hn]; exact k6
theorem a_set (a1 a2 : Int32) (σ : sm_S) (h : WW σ) : xC xF j_A_set [.ref 42, .int a1, .int a2] σ (sm_I (fun x σ' => isYes (ansSet a1 a2) x ∧ AQ σ σ')) := by
  have no : ¬ ansSet a1 a2 → ((0 : Int32) = 0 ∨ (0 : Int32) = 1) ∧ sm_I (fun x σ' => isYes (ansSet a1 a2) x ∧ AQ σ σ') (some (.int 0)) σ := fun hn => ⟨Or.inl rfl, _, rfl, Or.inr ⟨rfl, hn⟩, AQ.rf h⟩
  refine f_A_set a1 a2 σ _ ⟨fun h1 => no ?_, fun h1 => ⟨fun h2 => no ?_, fun h2 => ?_⟩⟩
  · rintro (⟨rfl, -⟩ | ⟨rfl, -⟩ | ⟨rfl, -⟩ | ⟨rfl, -⟩) <;> revert h1 <;> decide
  · rintro (⟨rfl, -⟩ | ⟨rfl, -⟩ | ⟨rfl, -⟩ | ⟨rfl, -⟩) <;> revert h2 <;> decide
  · rw [t_lt] at h1
    rw [t_le] at h2
    have h1 : ¬ a1.toInt < (0 : Int) := h1
    have h2 : ¬ (4 : Int) ≤ a1.toInt := h2
    obtain ⟨n, hn⟩ := t_of (x := a1) (by omega)
    have stp : ∀ (lo hi : Int32), 0 ≤ lo.toInt → (ansSet a1 a2 ↔ lo.toInt ≤ a2.toInt ∧ a2.toInt ≤ hi.toInt) → (xT 0).getD n 0 = lo → (xT 1).getD n 0 = hi → (vp_in a1 (xT 0).length ∧ ((a2 < ((xT 0).getD (a1).toNatClampNeg 0) → (((0 : Int32) = 0 ∨ (0 : Int32) = 1) ∧ sm_I (fun x σ' => isYes (ansSet a1 a2) x ∧ AQ σ σ') (some (.int 0)) σ)) ∧ (¬ (a2 < ((xT 0).getD (a1).toNatClampNeg 0)) → (vp_in a1 (xT 1).length ∧ ((a2 ≤ ((xT 1).getD (a1).toNatClampNeg 0) → (vp_in a1 4 ∧ ∀ σ1, σ1 = sm_set σ 39 (upd (σ 39) (a1).toNatClampNeg a2) → (((1 : Int32) = 0 ∨ (1 : Int32) = 1) ∧ sm_I (fun x σ' => isYes (ansSet a1 a2) x ∧ AQ σ σ') (some (.int 1)) σ1))) ∧ (¬ (a2 ≤ ((xT 1).getD (a1).toNatClampNeg 0)) → (((0 : Int32) = 0 ∨ (0 : Int32) = 1) ∧ sm_I (fun x σ' => isYes (ansSet a1 a2) x ∧ AQ σ σ') (some (.int 0)) σ))))))) := by
      intro lo hi h0 hiff elo ehi
      rw [t_nat hn, elo, ehi]
      refine ⟨t_vp hn (show n < 4 by omega), fun g => no ?_, fun g => ⟨t_vp hn (show n < 4 by omega), fun g2 => ⟨t_vp hn (by omega), fun σ1 e1 => ⟨Or.inr rfl, _, rfl, Or.inl ⟨rfl, ?_⟩, ?_⟩⟩, fun g2 => no ?_⟩⟩
      · rw [t_lt] at g
        rw [hiff]
        omega
      · rw [t_lt] at g
        rw [t_le] at g2
        rw [hiff]
        omega
      · rw [t_lt] at g
        refine AQ.now h ?_ (fun a ha => by rw [e1, s_ne (by omega)])
        exact kk_tld e1 (by omega) h.1
      · rw [t_le] at g2
        rw [hiff]
        omega
    rcases (show n = 0 ∨ n = 1 ∨ n = 2 ∨ n = 3 by omega) with rfl | rfl | rfl | rfl
    · have e : a1 = 0 := t_inj hn
      refine stp 1 16 (by decide) ?_ rfl rfl
      rw [e]
      exact ⟨fun z => z.elim (fun z => z.2) (fun z => by rcases z with ⟨z, -⟩ | ⟨z, -⟩ | ⟨z, -⟩ <;> exact absurd z (by decide)), fun z => Or.inl ⟨rfl, z⟩⟩
    · have e : a1 = 1 := t_inj hn
      refine stp 1 9 (by decide) ?_ rfl rfl
      rw [e]
      exact ⟨fun z => by rcases z with ⟨z, -⟩ | ⟨-, z⟩ | ⟨z, -⟩ | ⟨z, -⟩ <;> first | exact z | exact absurd z (by decide), fun z => Or.inr (Or.inl ⟨rfl, z⟩)⟩
    · have e : a1 = 2 := t_inj hn
      refine stp 0 400 (by decide) ?_ rfl rfl
      rw [e]
      exact ⟨fun z => by rcases z with ⟨z, -⟩ | ⟨z, -⟩ | ⟨-, z⟩ | ⟨z, -⟩ <;> first | exact z | exact absurd z (by decide), fun z => Or.inr (Or.inr (Or.inl ⟨rfl, z⟩))⟩
    · have e : a1 = 3 := t_inj hn
      refine stp 1 20 (by decide) ?_ rfl rfl
      rw [e]
      exact ⟨fun z => by rcases z with ⟨z, -⟩ | ⟨z, -⟩ | ⟨z, -⟩ | ⟨-, z⟩ <;> first | exact z | exact absurd z (by decide), fun z => Or.inr (Or.inr (Or.inr ⟨rfl, z⟩))⟩
theorem e_isTaskX (a : Int32) (σ : sm_S) : xC xD j_A_isTask [.int a] σ (sm_I (fun x σ' => isYes (0 ≤ a.toInt ∧ a.toInt < 6) x ∧ σ' = σ)) := by
  refine d_A_isTask a σ _ ⟨fun h => ⟨Or.inl rfl, _, rfl, Or.inr ⟨rfl, fun z => ?_⟩, rfl⟩, fun h => ⟨fun h2 => ⟨Or.inl rfl, _, rfl, Or.inr ⟨rfl, fun z => ?_⟩, rfl⟩, fun h2 => ⟨Or.inr rfl, _, rfl, Or.inl ⟨rfl, ?_⟩, rfl⟩⟩⟩
  · rw [t_lt] at h
    have h : a.toInt < (0 : Int) := h
    omega
  · rw [t_le] at h2
    have h2 : (6 : Int) ≤ a.toInt := h2
    omega
  · rw [t_lt] at h
    rw [t_le] at h2
    have h : ¬ a.toInt < (0 : Int) := h
    have h2 : ¬ (6 : Int) ≤ a.toInt := h2
    omega
theorem e_isNodeX (a : Int32) (σ : sm_S) : xC xD j_A_isNode [.int a] σ (sm_I (fun x σ' => isYes (0 ≤ a.toInt ∧ a.toInt < 2) x ∧ σ' = σ)) := by
  refine d_A_isNode a σ _ ⟨fun h => ⟨Or.inl rfl, _, rfl, Or.inr ⟨rfl, fun z => ?_⟩, rfl⟩, fun h => ⟨fun h2 => ⟨Or.inl rfl, _, rfl, Or.inr ⟨rfl, fun z => ?_⟩, rfl⟩, fun h2 => ⟨Or.inr rfl, _, rfl, Or.inl ⟨rfl, ?_⟩, rfl⟩⟩⟩
  · rw [t_lt] at h
    have h : a.toInt < (0 : Int) := h
    omega
  · rw [t_le] at h2
    have h2 : (2 : Int) ≤ a.toInt := h2
    omega
  · rw [t_lt] at h
    rw [t_le] at h2
    have h : ¬ a.toInt < (0 : Int) := h
    have h2 : ¬ (2 : Int) ≤ a.toInt := h2
    omega
theorem a_home (a1 a2 : Int32) (σ : sm_S) (h : WW σ) : xC xF j_A_home [.ref 42, .int a1, .int a2] σ (sm_I (fun x σ' => isYes (ansHome a1 a2) x ∧ AQ σ σ')) := by
  refine f_A_home a1 a2 σ _ ((nw0 (e_isTaskX a1 σ)).int ?_)
  rintro x2 σ ⟨hx2, rfl⟩
  refine ⟨fun z2 => ⟨Or.inl rfl, _, rfl, Or.inr ⟨rfl, fun z => ?_⟩, AQ.rf h⟩, fun n2 => ?_⟩
  · rcases hx2 with ⟨g, -⟩ | ⟨-, g⟩
    · rw [g] at z2; exact absurd z2 (by decide)
    · exact g ⟨z.1, z.2.1⟩
  · obtain ⟨-, g1, g2⟩ := hx2.resolve_right (fun z => n2 z.1)
    obtain ⟨t, ht⟩ := t_of g1
    refine (nw0 (e_isNodeX a2 σ)).int ?_
    rintro x4 σ ⟨hx4, rfl⟩
    refine ⟨fun n4 => ⟨t_vp ht (by omega), fun σ5 e5 => ⟨Or.inr rfl, _, rfl, Or.inl ⟨rfl, ?_⟩, AQ.now h (kk_id (by rw [e5]; exact kx.rf.set rfl) h.1) (fun a ha => by rw [e5, s_ne (by omega)])⟩⟩, fun z4 => ⟨Or.inl rfl, _, rfl, Or.inr ⟨rfl, fun z => ?_⟩, AQ.rf h⟩⟩
    · obtain ⟨-, g3, g4⟩ := hx4.resolve_right (fun z => n4 z.1)
      exact ⟨g1, g2, g3, by omega⟩
    · rcases hx4 with ⟨g, -⟩ | ⟨-, g⟩
      · exact z4 (by rw [g]; decide)
      · obtain ⟨-, -, q1, q2⟩ := z
        exact g ⟨q1, by omega⟩
theorem kp {σ : sm_S} (h : WW σ) (y : Int32) : sm_I (fun _ σ' => AQ σ σ') (some (.int y)) σ := ⟨y, rfl, AQ.rf h⟩
theorem kpb {σ : sm_S} (h : WW σ) : ((0 : Int32) = 0 ∨ (0 : Int32) = 1) ∧ sm_I (fun _ σ' => AQ σ σ') (some (.int 0)) σ := ⟨Or.inl rfl, kp h 0⟩
theorem a_take (a1 a2 a3 a4 : Int32) (σ : sm_S) (h : WW σ) : xC xF j_A_take [.ref 42, .int a1, .int a2, .int a3, .int a4] σ (sm_I (fun _ σ' => AQ σ σ')) := by
  refine f_A_take a1 a2 a3 a4 σ _ ((nw0 (e_isTask a1 σ)).int ?_)
  rintro x2 σ ⟨hx2, rfl⟩
  refine ⟨fun _ => kp h _, fun n2 => (nw0 (e_isKind a2 σ)).int ?_⟩
  obtain ⟨-, t, ht, h1⟩ := hx2.resolve_right n2
  rintro x4 σ ⟨-, rfl⟩
  refine ⟨fun _ => kp h _, fun n4 => (nw0 (e_isBlockOrder a3 σ)).int ?_⟩
  rintro x6 σ ⟨hx6, rfl⟩
  refine ⟨fun n6 => ?_, fun _ => kp h _⟩
  obtain ⟨-, o, ho, h3⟩ := hx6.resolve_right n6
  refine (nwK (fun _ _ h => h) (e_bring h1 ht h3 (by omega) a2 a4 σ h.1)).int ?_
  rintro x8 σ7 ⟨k7, o7⟩
  exact ⟨_, rfl, AQ.now h k7 o7⟩
theorem a_free (a1 : Int32) (σ : sm_S) (h : WW σ) : xC xF j_A_free [.ref 42, .int a1] σ (sm_I (fun _ σ' => AQ σ σ')) := by
  refine f_A_free a1 σ _ ((nw0 (e_has a1 σ)).int ?_)
  rintro x2 σ ⟨hx2, rfl⟩
  refine ⟨fun _ => kpb h, fun n2 => ?_⟩
  obtain ⟨-, b, hb, hb2, h9⟩ := hx2.resolve_right n2
  obtain ⟨f, o, w, he⟩ := kb_has (h.1.1 b hb) h9
  refine (nw0 (e_isLoose hb2 hb σ)).int ?_
  rintro x4 σ ⟨hx4, rfl⟩
  refine ⟨fun n4 => ?_, fun _ => kpb h⟩
  obtain ⟨-, -, h14⟩ := hx4.resolve_right n4
  refine (nwV (fun τ g => kk_rem hb g.1 g.2 h.1 h14) (e_remove hb2 hb σ he)).void ?_
  rintro σ5 ⟨k5, o5⟩
  exact ⟨Or.inr rfl, _, rfl, AQ.now h k5 o5⟩
theorem nwW {a1 : Int32} {t b f o w a : Nat} (h1 : a1.toInt = t) (ht : t < 6) (a2 a3 a4 : Int32) (σ : sm_S) (hk : kk σ) (he : eb σ b f o w) (h28 : σ 28 t = -1) (h3 : a3.toInt = a) : xC xF j_K_wants [.ref 26, .int a1, .int a2, .int a3, .int a4] σ (sm_V (fun σ' => kk σ' ∧ (∀ a, 42 ≤ a → σ' a = σ a) ∧ eb σ' b f o w ∧ (σ' 31 t).toInt = a)) := by
  refine sm_C.mono (sm_cv_ids _ ▸ x_up shDF (e_wants h1 ht a2 a3 a4 σ)) ?_
  rintro r σ' ⟨r1, τ, rfl, ⟨rfl, x, e⟩, hs, ho⟩
  have g9 : σ' 9 = τ 9 := hs.1 9 (0, 96) rfl
  have g10 : σ' 10 = τ 10 := hs.1 10 (0, 96) rfl
  have g12 : σ' 12 = τ 12 := hs.1 12 (0, 96) rfl
  have g31 : σ' 31 = τ 31 := hs.1 31 (0, 6) rfl
  refine ⟨rfl, stD_kk hs (kk_wnt x e hk h28), fun a ha => off_out (n := 42) rfl ho (fun k hk z => by have z : k = a := z; omega), eb_cong (by rw [g9, x.1 9 rfl rfl]) (by rw [g10, x.1 10 rfl rfl]) (by rw [g12, x.1 12 rfl rfl]) he, ?_⟩
  rw [g31, e, u_at]
  exact h3
theorem a_touch (a1 a2 a3 a4 a5 : Int32) (σ : sm_S) (h : WW σ) : xC xF j_A_touch [.ref 42, .int a1, .int a2, .int a3, .int a4, .int a5] σ (sm_I (fun _ σ' => AQ σ σ')) := by
  refine f_A_touch a1 a2 a3 a4 a5 σ _ ((nw0 (e_isTask a1 σ)).int ?_)
  rintro x2 σ ⟨hx2, rfl⟩
  refine ⟨fun _ => kp h _, fun n2 => (nw0 (e_has a2 σ)).int ?_⟩
  obtain ⟨-, t, ht, h1⟩ := hx2.resolve_right n2
  rintro x4 σ ⟨hx4, rfl⟩
  refine ⟨fun _ => kp h _, fun n4 => ?_⟩
  obtain ⟨-, b, hb, hb2, h9⟩ := hx4.resolve_right n4
  obtain ⟨f, o, w, he⟩ := kb_has (h.1.1 b hb) h9
  rw [t_nat h1]
  refine ⟨t_vp h1 ht, fun h28 => ⟨fun _ => kp h _, fun n0 => (nw0 (e_size hb2 hb σ)).int ?_⟩, fun _ => kp h _⟩
  rintro x6 σ ⟨rfl, rfl⟩
  refine ⟨fun hlt => ?_, fun _ => kp h _⟩
  rw [t_lt] at n0
  rw [t_lt, t_sz he] at hlt
  have n0 : ¬ a4.toInt < (0 : Int) := n0
  obtain ⟨a, ha⟩ := t_of (x := a4) (by omega)
  refine (nwW h1 ht a3 a4 a5 σ h.1 he h28 ha).void ?_
  rintro σ7 ⟨k7, o7, e7, f7⟩
  refine (nwK (fun _ _ h => h) (e_doOrWait h1 ht hb2 hb σ7 k7 e7 f7 (by omega))).int ?_
  rintro x9 σ8 ⟨k8, o8⟩
  exact ⟨_, rfl, AQ.now h k8 (fun a ha => (o8 a ha).trans (o7 a ha))⟩
theorem a_read (a1 a2 a3 : Int32) (σ : sm_S) (h : WW σ) : xC xF j_A_read [.ref 42, .int a1, .int a2, .int a3] σ (sm_I (fun _ σ' => AQ σ σ')) :=
  f_A_read a1 a2 a3 σ _ ((a_touch _ _ _ _ _ σ h).int (fun x σ' hq => ⟨x, rfl, hq⟩))
theorem a_write (a1 a2 a3 a4 : Int32) (σ : sm_S) (h : WW σ) : xC xF j_A_write [.ref 42, .int a1, .int a2, .int a3, .int a4] σ (sm_I (fun _ σ' => AQ σ σ')) :=
  f_A_write a1 a2 a3 a4 σ _ ((a_touch _ _ _ _ _ σ h).int (fun x σ' hq => ⟨x, rfl, hq⟩))
theorem a_hasPin (a1 a2 : Int32) (σ : sm_S) : xC xF j_A_hasPin [.ref 42, .int a1, .int a2] σ (sm_I (fun x σ' => (x = 0 ∨ (x = 1 ∧ ∃ b : Nat, b < 96 ∧ a2.toInt = b)) ∧ σ' = σ)) := by
  refine f_A_hasPin a1 a2 σ _ ((nw0 (e_isTask a1 σ)).int ?_)
  rintro x2 σ ⟨-, rfl⟩
  refine ⟨fun _ => ⟨Or.inl rfl, _, rfl, Or.inl rfl, rfl⟩, fun _ => (nw0 (e_has a2 σ)).int ?_⟩
  rintro x4 σ ⟨hx4, rfl⟩
  refine ⟨fun _ => ⟨Or.inl rfl, _, rfl, Or.inl rfl, rfl⟩, fun n4 => ?_⟩
  obtain ⟨-, b, hb, hb2, -⟩ := hx4.resolve_right n4
  exact ⟨t_vp hb2 hb, fun _ => ⟨Or.inl rfl, _, rfl, Or.inl rfl, rfl⟩, fun _ => ⟨Or.inr rfl, _, rfl, Or.inr ⟨rfl, b, hb, hb2⟩, rfl⟩⟩
theorem a_pin (a1 a2 : Int32) (σ : sm_S) (h : WW σ) : xC xF j_A_pin [.ref 42, .int a1, .int a2] σ (sm_I (fun _ σ' => AQ σ σ')) := by
  refine f_A_pin a1 a2 σ _ ((a_hasPin a1 a2 σ).int ?_)
  rintro x2 σ ⟨-, rfl⟩
  exact ⟨fun _ => (a_touch _ _ _ _ _ σ h).int (fun x σ' hq => ⟨x, rfl, hq⟩), fun _ => kp h _⟩
theorem a_unpin (a1 a2 : Int32) (σ : sm_S) (h : WW σ) : xC xF j_A_unpin [.ref 42, .int a1, .int a2] σ (sm_I (fun _ σ' => AQ σ σ')) := by
  refine f_A_unpin a1 a2 σ _ ((a_hasPin a1 a2 σ).int ?_)
  rintro x2 σ ⟨hx2, rfl⟩
  refine ⟨fun n2 => ?_, fun _ => kpb h⟩
  obtain ⟨-, b, hb, hb2⟩ := hx2.resolve_left n2
  refine ⟨t_vp hb2 hb, t_vp hb2 hb, fun σ3 e3 => ⟨Or.inr rfl, _, rfl, AQ.now h (kk_id (by rw [e3]; exact kx.rf.set rfl) h.1) (fun a ha => by rw [e3, s_ne (by omega)])⟩⟩
theorem a_come (a1 a2 : Int32) (σ : sm_S) (h : WW σ) : xC xF j_A_come [.ref 42, .int a1, .int a2] σ (sm_I (fun _ σ' => AQ σ σ')) := by
  refine f_A_come a1 a2 σ _ ((nw0 (e_isSpan a1 σ)).int ?_)
  rintro x2 σ ⟨hx2, rfl⟩
  refine ⟨fun _ => kp h _, fun n2 => ⟨fun _ => kp h _, fun _ => ⟨fun _ => kp h _, fun _ => ?_⟩⟩⟩
  obtain ⟨-, s, hs, h1⟩ := hx2.resolve_right n2
  rw [t_nat h1]
  refine ⟨t_vp h1 hs, fun h18 => ⟨fun _ => (nwV (fun _ h => h) (e_open h1 hs _ σ h.1 (by rw [h18]; decide))).void ?_, fun _ => (nw0 (e_zoneByRatio σ)).int ?_⟩, fun _ => kp h _⟩
  · rintro σ3 ⟨k3, o3⟩
    exact ⟨_, rfl, AQ.now h k3 o3⟩
  · rintro x5 σ ⟨-, rfl⟩
    refine (nwV (fun _ h => h) (e_open h1 hs _ σ h.1 (by rw [h18]; decide))).void ?_
    rintro σ3 ⟨k3, o3⟩
    exact ⟨_, rfl, AQ.now h k3 o3⟩
theorem l_byTurnsA {a1 : Int32} {n : Nat} (h1 : a1.toInt = n) (hn : n ≤ 8) (σ0 : sm_S) : ∀ (d k : Nat) (a2 a3 : Int32) (v4 : Value) (σ : sm_S), a3.toInt = k → k + d = n → AQ σ0 σ → xE xF m_A_byTurns 17 [.ref 42, .int a1, .int a2, .int a3, v4] [] σ (sm_I (fun _ σ' => AQ σ0 σ')) := by
  intro d
  induction d with
  | zero =>
    intro k a2 a3 v4 σ h3 hk hq
    exact f_A_byTurns_17 a1 a2 a3 v4 σ _ ⟨fun _ => ⟨_, rfl, hq⟩, fun h => absurd (by rw [t_le, h1, h3]; omega) h⟩
  | succ d ih =>
    intro k a2 a3 v4 σ h3 hk hq
    have h3' : (a3 + 1).toInt = ((k + 1 : Nat) : Int) := by
      rw [t_add h3 (y := 1) rfl (by omega) (by omega)]
      omega
    refine f_A_byTurns_17 a1 a2 a3 v4 σ _ ⟨fun _ => ⟨_, rfl, hq⟩, fun _ => (nw0 (e_nextByTurns σ)).int ?_⟩
    rintro x2 σ ⟨hx2, rfl⟩
    refine ⟨fun n2 => (nw0 (e_zoneByRatio σ)).int ?_, fun _ => ⟨_, rfl, hq⟩⟩
    obtain ⟨s, hs, hs2, h18⟩ := hx2.resolve_left n2
    rintro x4 σ ⟨-, rfl⟩
    refine (nwV (fun _ h => h) (e_open hs2 hs _ σ hq.1.1 (by rw [h18]; decide))).void ?_
    rintro σ5 ⟨k5, o5⟩
    exact ih (k + 1) _ _ _ σ5 h3' (by omega) (hq.tr (AQ.now hq.1 k5 o5))
theorem a_byTurns (a1 : Int32) (σ : sm_S) (h : WW σ) : xC xF j_A_byTurns [.ref 42, .int a1] σ (sm_I (fun _ σ' => AQ σ σ')) := by
  refine f_A_byTurns a1 σ _ ⟨fun _ => kp h _, fun h1 => ⟨fun h8 => ?_, fun _ => kp h _⟩⟩
  rw [t_lt] at h1
  rw [t_le] at h8
  have h1 : ¬ a1.toInt < (1 : Int) := h1
  have h8 : a1.toInt ≤ (8 : Int) := h8
  obtain ⟨n, hn⟩ := t_of (x := a1) (by omega)
  exact l_byTurnsA hn (by omega) σ n 0 _ 0 _ σ rfl (by omega) (AQ.rf h)
theorem a_press (a1 : Int32) (σ : sm_S) (h : WW σ) : xC xF j_A_press [.ref 42, .int a1] σ (sm_I (fun _ σ' => AQ σ σ')) := by
  refine f_A_press a1 σ _ ((nw0 (e_isSpan a1 σ)).int ?_)
  rintro x2 σ ⟨hx2, rfl⟩
  refine ⟨fun _ => kp h _, fun n2 => ?_⟩
  obtain ⟨-, s, hs, h1⟩ := hx2.resolve_right n2
  refine ⟨t_vp h1 hs, fun _ => (nwK (fun _ _ h => h) (e_pack h1 hs σ h.1)).int ?_, fun _ => kp h _⟩
  rintro x4 σ3 ⟨k3, o3⟩
  exact ⟨_, rfl, AQ.now h k3 o3⟩
theorem a_gather (a1 : Int32) (σ : sm_S) (h : WW σ) : xC xF j_A_gather [.ref 42, .int a1] σ (sm_I (fun _ σ' => AQ σ σ')) := by
  refine f_A_gather a1 σ _ ((nw0 (e_isTask a1 σ)).int ?_)
  rintro x2 σ ⟨hx2, rfl⟩
  refine ⟨fun _ => (nwK (fun _ _ h => h) (e_bringNearer a1 σ h.1)).int ?_, fun _ => kp h _⟩
  rintro x4 σ3 ⟨k3, o3⟩
  exact ⟨_, rfl, AQ.now h k3 o3⟩
theorem a_go (a1 : Int32) (σ : sm_S) (h : WW σ) : xC xF j_A_go [.ref 42, .int a1] σ (sm_I (fun _ σ' => AQ σ σ')) := by
  refine f_A_go a1 σ _ ((nw0 (e_isSpan a1 σ)).int ?_)
  rintro x2 σ ⟨hx2, rfl⟩
  refine ⟨fun _ => kpb h, fun n2 => ?_⟩
  obtain ⟨-, s, hs, h1⟩ := hx2.resolve_right n2
  refine (nw0 (e_canGo h1 hs σ)).int ?_
  rintro x4 σ ⟨hx4, rfl⟩
  refine ⟨fun n4 => ?_, fun _ => kpb h⟩
  obtain ⟨-, hon⟩ := hx4.resolve_left n4
  refine (nwV (fun _ h => h) (e_Gbegin h1 hs σ h.1 (by rw [hon]; decide))).void ?_
  rintro σ5 ⟨k5, o5⟩
  exact ⟨Or.inr rfl, _, rfl, AQ.now h k5 o5⟩
theorem a_giveUp (a1 : Int32) (σ : sm_S) (h : WW σ) : xC xF j_A_giveUp [.ref 42, .int a1] σ (sm_I (fun _ σ' => AQ σ σ')) := by
  refine f_A_giveUp a1 σ _ ((nw0 (e_isSpan a1 σ)).int ?_)
  rintro x2 σ ⟨hx2, rfl⟩
  refine ⟨fun _ => kpb h, fun n2 => ?_⟩
  obtain ⟨-, s, hs, h1⟩ := hx2.resolve_right n2
  refine (nw0 (e_isGoing h1 hs σ)).int ?_
  rintro x4 σ ⟨-, rfl⟩
  refine ⟨fun n4 => (nwV (fun _ h => h) (e_callOff h1 hs σ h.1)).void ?_, fun _ => kpb h⟩
  rintro σ5 ⟨k5, o5⟩
  exact ⟨Or.inr rfl, _, rfl, AQ.now h k5 o5⟩
theorem l_tickA {a1 : Int32} {n : Nat} (h1 : a1.toInt = n) (hn : n ≤ 60) (σ0 : sm_S) : ∀ (d k : Nat) (a2 : Int32) (σ : sm_S), a2.toInt = k → k + d = n → AQ σ0 σ → xE xF m_A_tick 30 [.ref 42, .int a1, .int a2] [] σ (sm_I (fun _ σ' => AQ σ0 σ')) := by
  intro d
  induction d with
  | zero =>
    intro k a2 σ h2 hk hq
    exact f_A_tick_30 a1 a2 σ _ ⟨fun _ => ⟨_, rfl, hq⟩, fun h => absurd (by rw [t_le, h1, h2]; omega) h⟩
  | succ d ih =>
    intro k a2 σ h2 hk hq
    have h2' : (a2 + 1).toInt = ((k + 1 : Nat) : Int) := by
      rw [t_add h2 (y := 1) rfl (by omega) (by omega)]
      omega
    refine f_A_tick_30 a1 a2 σ _ ⟨fun _ => ⟨_, rfl, hq⟩, fun _ => (nwV (fun _ h => h) (e_oneTick σ hq.1.1)).void ?_⟩
    rintro σ1 ⟨k1, o1⟩
    exact ih (k + 1) _ σ1 h2' (by omega) (hq.tr (AQ.now hq.1 k1 o1))
theorem a_tick (a1 : Int32) (σ : sm_S) (h : WW σ) : xC xF j_A_tick [.ref 42, .int a1] σ (sm_I (fun _ σ' => AQ σ σ')) := by
  refine f_A_tick a1 σ _ ⟨fun _ => kp h _, fun h1 => ⟨fun _ => kp h _, fun h60 => ⟨fun _ => ?_, fun _ => kp h _⟩⟩⟩
  rw [t_lt] at h1 h60
  have h1 : ¬ a1.toInt < (1 : Int) := h1
  have h60 : ¬ (60 : Int) < a1.toInt := h60
  obtain ⟨n, hn⟩ := t_of (x := a1) (by omega)
  exact l_tickA hn (by omega) σ n 0 0 σ rfl (by omega) (AQ.rf h)
end
section
/-! ===== the class: every call keeps what holds (2) ===== -/
theorem rg_n {a : Int32} (h1 : ¬ a < 0) : ∃ n : Nat, a.toInt = n := by
  rw [t_lt] at h1
  have h1 : ¬ a.toInt < (0 : Int) := h1
  exact t_of (by omega)
theorem kp1 {σ : sm_S} (h : WW σ) {j : Nat} {as : List Value} (hc : xC xD j as σ (sm_I (fun _ σ' => σ' = σ))) : xC xF j as σ (sm_ri False (fun x σ' => sm_I (fun _ σ' => AQ σ σ') (some (.int x)) σ')) := (nw1 hc).int (fun x σ' e => by rw [e]; exact kp h x)
theorem kp0 {σ : sm_S} (h : WW σ) {j : Nat} {as : List Value} {P : Int32 → Prop} (hc : xC xD j as σ (sm_I (fun x σ' => P x ∧ σ' = σ))) : xC xF j as σ (sm_ri False (fun x σ' => sm_I (fun _ σ' => AQ σ σ') (some (.int x)) σ')) := (nw0 hc).int (fun x σ' e => by rw [e.2]; exact kp h x)
theorem a_frame (a1 a2 : Int32) (σ : sm_S) (h : WW σ) : xC xF j_A_frame [.ref 42, .int a1, .int a2] σ (sm_I (fun _ σ' => AQ σ σ')) := by
  refine f_A_frame a1 a2 σ _ ⟨fun _ => kp h _, fun h1 => ⟨fun h2 => ?_, fun _ => kp h _⟩⟩
  obtain ⟨n, hn⟩ := rg_n h1
  rw [t_lt, hn] at h2
  have h2 : (n : Int) < 256 := h2
  have v := t_vp (N := 256) hn (by omega)
  exact ⟨fun _ => kp1 h (e_stateOf hn (by omega) σ), fun _ => ⟨fun _ => ⟨v, kp h _⟩, fun _ => ⟨fun _ => ⟨v, kp h _⟩, fun _ => kp h _⟩⟩⟩
theorem a_block (a1 a2 : Int32) (σ : sm_S) (h : WW σ) : xC xF j_A_block [.ref 42, .int a1, .int a2] σ (sm_I (fun _ σ' => AQ σ σ')) := by
  refine f_A_block a1 a2 σ _ ((nw0 (e_has a1 σ)).int ?_)
  rintro x2 σ ⟨hx2, rfl⟩
  refine ⟨fun n2 => ?_, fun _ => kp h _⟩
  obtain ⟨-, b, hb, hb2, -⟩ := hx2.resolve_right n2
  have v := t_vp hb2 hb
  exact ⟨fun _ => ⟨v, kp h _⟩, fun _ => ⟨fun _ => ⟨v, kp h _⟩, fun _ => ⟨fun _ => ⟨v, kp h _⟩, fun _ => ⟨fun _ => ⟨v, kp h _⟩, fun _ => ⟨fun _ => ⟨v, kp h _⟩, fun _ => ⟨fun _ => ⟨v, kp h _⟩, fun _ => ⟨fun _ => ⟨v, kp h _⟩, fun _ => ⟨fun _ => ⟨v, kp h _⟩, fun _ => ⟨fun _ => kp1 h (e_lineOf a1 σ), fun _ => kp h _⟩⟩⟩⟩⟩⟩⟩⟩⟩
theorem a_span (a1 a2 : Int32) (σ : sm_S) (h : WW σ) : xC xF j_A_span [.ref 42, .int a1, .int a2] σ (sm_I (fun _ σ' => AQ σ σ')) := by
  refine f_A_span a1 a2 σ _ ((nw0 (e_isSpan a1 σ)).int ?_)
  rintro x2 σ ⟨hx2, rfl⟩
  refine ⟨fun n2 => ?_, fun _ => kp h _⟩
  obtain ⟨-, s, hs, h1⟩ := hx2.resolve_right n2
  have v := t_vp h1 hs
  exact ⟨fun _ => ⟨v, kp h _⟩, fun _ => ⟨fun _ => ⟨v, kp h _⟩, fun _ => ⟨fun _ => ⟨v, kp1 h (c_bitCount _ σ)⟩, fun _ => ⟨fun _ => ⟨v, kp1 h (c_bitCount _ σ)⟩, fun _ => ⟨fun _ => ⟨v, kp1 h (c_bitCount _ σ)⟩, fun _ => ⟨fun _ => ⟨v, kp1 h (c_bitCount _ σ)⟩, fun _ => ⟨fun _ => ⟨v, kp h _⟩, fun _ => ⟨fun _ => ⟨v, kp h _⟩, fun _ => ⟨fun _ => ⟨v, kp h _⟩, fun _ => ⟨fun _ => ⟨v, kp h _⟩, fun _ => ⟨fun _ => ⟨v, kp h _⟩, fun _ => kp h _⟩⟩⟩⟩⟩⟩⟩⟩⟩⟩⟩
theorem a_task (a1 a2 : Int32) (σ : sm_S) (h : WW σ) : xC xF j_A_task [.ref 42, .int a1, .int a2] σ (sm_I (fun _ σ' => AQ σ σ')) := by
  refine f_A_task a1 a2 σ _ ((nw0 (e_isTask a1 σ)).int ?_)
  rintro x2 σ ⟨hx2, rfl⟩
  refine ⟨fun n2 => ?_, fun _ => kp h _⟩
  obtain ⟨-, s, hs, h1⟩ := hx2.resolve_right n2
  have v := t_vp h1 hs
  exact ⟨fun _ => ⟨v, kp h _⟩, fun _ => ⟨fun _ => ⟨v, fun _ => kp h _, fun _ => kp h _⟩, fun _ => ⟨fun _ => ⟨v, kp h _⟩, fun _ => ⟨fun _ => ⟨v, kp h _⟩, fun _ => ⟨fun _ => kp1 h (e_ownedBy a1 σ), fun _ => ⟨fun _ => kp1 h (e_pinnedBy a1 σ), fun _ => kp h _⟩⟩⟩⟩⟩⟩
theorem a_zone (a1 a2 : Int32) (σ : sm_S) (h : WW σ) : xC xF j_A_zone [.ref 42, .int a1, .int a2] σ (sm_I (fun _ σ' => AQ σ σ')) := by
  refine f_A_zone a1 a2 σ _ ((nw0 (e_isZone a1 σ)).int ?_)
  rintro x2 σ ⟨-, rfl⟩
  exact ⟨fun _ => ⟨fun _ => kp0 h (e_inZone a1 σ), fun _ => ⟨fun _ => kp1 h (e_freeInZone a1 σ), fun _ => ⟨fun _ => kp1 h (e_widestInZone a1 σ), fun _ => kp h _⟩⟩⟩, fun _ => kp h _⟩
theorem l_looseA {a2 : Int32} {o : Nat} (h2 : a2.toInt = o) (ho : o ≤ 5) (a1 : Int32) (σ : sm_S) (hw : WW σ) : ∀ (d k : Nat) (a3 a4 : Int32) (v5 v6 : Value), a4.toInt = k → k + d = 8 → xE xF m_A_loose 23 [.ref 42, .int a1, .int a2, .int a3, .int a4, v5, v6] [] σ (sm_I (fun _ σ' => AQ σ σ')) := by
  intro d
  induction d with
  | zero =>
    intro k a3 a4 v5 v6 h4 hk
    refine f_A_loose_23 a1 a2 a3 a4 v5 v6 σ _ ⟨fun _ => kp hw _, fun h => absurd ?_ h⟩
    rw [t_le, h4]
    show (8 : Int) ≤ _
    omega
  | succ d ih =>
    intro k a3 a4 v5 v6 h4 hk
    have h4' : (a4 + 1).toInt = ((k + 1 : Nat) : Int) := by
      rw [t_add h4 (y := 1) rfl (by omega) (by omega)]
      omega
    have v := t_vp (N := 8) h4 (by omega)
    refine f_A_loose_23 a1 a2 a3 a4 v5 v6 σ _ ⟨fun _ => kp hw _, fun _ => ⟨v, fun _ => ih (k + 1) _ _ _ _ h4' (by omega), fun _ => ⟨v, (nw0 (c_starts h2 ho _ σ)).int ?_⟩⟩⟩
    rintro x2 σ ⟨-, rfl⟩
    refine (nw1 (c_bitCount _ σ)).int ?_
    rintro x4 σ rfl
    refine (nw1 (c_bitCount _ σ)).int ?_
    rintro x6 σ rfl
    exact ih (k + 1) _ _ _ _ h4' (by omega)
theorem a_loose (a1 a2 : Int32) (σ : sm_S) (h : WW σ) : xC xF j_A_loose [.ref 42, .int a1, .int a2] σ (sm_I (fun _ σ' => AQ σ σ')) := by
  refine f_A_loose a1 a2 σ _ ((nw0 (e_isZone a1 σ)).int ?_)
  rintro x2 σ ⟨-, rfl⟩
  refine ⟨fun _ => kp h _, fun _ => ⟨fun _ => kp h _, fun h0 => ⟨fun h5 => ?_, fun _ => kp h _⟩⟩⟩
  obtain ⟨n, hn⟩ := rg_n h0
  rw [t_le, hn] at h5
  have h5 : (n : Int) ≤ 5 := h5
  exact l_looseA hn (by omega) a1 σ h 8 0 _ 0 _ _ rfl rfl
theorem a_place (a1 a2 a3 : Int32) (σ : sm_S) (h : WW σ) : xC xF j_A_place [.ref 42, .int a1, .int a2, .int a3] σ (sm_I (fun _ σ' => AQ σ σ')) := by
  refine f_A_place a1 a2 a3 σ _ ((nw0 (e_isTask a1 σ)).int ?_)
  rintro x2 σ ⟨hx2, rfl⟩
  refine ⟨fun _ => kp h _, fun n2 => (nw0 (e_isKind a2 σ)).int ?_⟩
  obtain ⟨-, t, ht, h1⟩ := hx2.resolve_right n2
  rintro x4 σ ⟨-, rfl⟩
  refine ⟨fun _ => kp h _, fun n4 => (nw0 (e_isBlockOrder a3 σ)).int ?_⟩
  rintro x6 σ ⟨hx6, rfl⟩
  refine ⟨fun n6 => ?_, fun _ => kp h _⟩
  obtain ⟨-, o, ho, h3⟩ := hx6.resolve_right n6
  exact kp0 h (e_bestPlace h1 ht h3 (by omega) σ)
theorem a_hole (a1 : Int32) (σ : sm_S) (h : WW σ) : xC xF j_A_hole [.ref 42, .int a1] σ (sm_I (fun _ σ' => AQ σ σ')) := by
  refine f_A_hole a1 σ _ ⟨fun _ => kp h _, fun h1 => ⟨fun h2 => ?_, fun _ => kp h _⟩⟩
  obtain ⟨n, hn⟩ := rg_n h1
  rw [t_lt, hn] at h2
  have h2 : (n : Int) < 256 := h2
  exact ⟨by decide, t_vp (t_d32 hn) (by omega), by decide, kp1 h (c_holeRound _ _ σ)⟩
theorem a_keeps (a1 a2 a3 : Int32) (σ : sm_S) (h : WW σ) : xC xF j_A_keeps [.ref 42, .int a1, .int a2, .int a3] σ (sm_I (fun _ σ' => AQ σ σ')) := by
  refine f_A_keeps a1 a2 a3 σ _ ((nw0 (e_isSpan a1 σ)).int ?_)
  rintro x2 σ ⟨hx2, rfl⟩
  refine ⟨fun _ => kp h _, fun n2 => ⟨fun _ => kp h _, fun _ => ⟨fun _ => ?_, fun _ => kp h _⟩⟩⟩
  obtain ⟨-, s, hs, h1⟩ := hx2.resolve_right n2
  refine ⟨fun _ => (nw0 (e_keeper h1 hs a2 σ h.1)).int ?_, fun _ => kp1 h (e_keepers h1 hs σ h.1)⟩
  rintro x4 σ ⟨hx4, rfl⟩
  refine ⟨fun n4 => ?_, fun _ => kp h _⟩
  obtain ⟨b, f, o, w, hb, hb2, he⟩ := hx4.resolve_left n4
  have v := t_vp hb2 hb
  exact ⟨fun _ => kp h _, fun _ => ⟨fun _ => kp1 h (e_whyKeeps hb2 hb σ he), fun _ => ⟨fun _ => ⟨v, kp h _⟩, fun _ => ⟨v, kp h _⟩⟩⟩⟩
theorem a_holders (a1 : Int32) (σ : sm_S) (h : WW σ) : xC xF j_A_holders [.ref 42, .int a1] σ (sm_I (fun _ σ' => AQ σ σ')) := by
  refine f_A_holders a1 σ _ ((nw0 (e_isSpan a1 σ)).int ?_)
  rintro x2 σ ⟨hx2, rfl⟩
  refine ⟨fun n2 => ?_, fun _ => kp h _⟩
  obtain ⟨-, s, hs, h1⟩ := hx2.resolve_right n2
  exact kp1 h (e_holdersOf h1 hs σ h.1)
theorem a_pressed (a1 : Int32) (σ : sm_S) (h : WW σ) : xC xF j_A_pressed [.ref 42, .int a1] σ (sm_I (fun _ σ' => AQ σ σ')) := by
  refine f_A_pressed a1 σ _ ((nw0 (e_isSpan a1 σ)).int ?_)
  rintro x2 σ ⟨hx2, rfl⟩
  refine ⟨fun _ => kp h _, fun n2 => ?_⟩
  obtain ⟨-, s, hs, h1⟩ := hx2.resolve_right n2
  refine ⟨t_vp h1 hs, fun _ => (g_widestPacked h1 hs σ h.1 h.2.1).int ?_, fun _ => kp h _⟩
  rintro x4 σ3 ⟨t3, l3⟩
  exact ⟨_, rfl, AQ.th h t3 l3⟩
theorem a_at (a1 a2 : Int32) (σ : sm_S) (h : WW σ) : xC xF j_A_at [.ref 42, .int a1, .int a2] σ (sm_I (fun _ σ' => AQ σ σ')) := by
  refine f_A_at a1 a2 σ _ ((nw0 (e_isTask a1 σ)).int ?_)
  rintro x2 σ ⟨-, rfl⟩
  refine ⟨fun _ => kp h _, fun n2 => (nw0 (e_isNode a2 σ)).int ?_⟩
  rintro x4 σ ⟨-, rfl⟩
  exact ⟨fun _ => kp1 h (e_framesAt a1 a2 σ), fun _ => kp h _⟩
theorem l_movableA (a1 a2 a3 : Int32) (σ : sm_S) (hw : WW σ) : ∀ (d : Nat) (a4 : Int32), 0 ≤ a4.toInt → a3.toInt ≤ a4.toInt + d → xE xF m_A_movable 34 [.ref 42, .int a1, .int a2, .int a3, .int a4] [] σ (sm_I (fun _ σ' => AQ σ σ')) := by
  have b3 := t_bd a3
  intro d
  induction d with
  | zero =>
    intro a4 h4 hd
    exact f_A_movable_34 a1 a2 a3 a4 σ _ ⟨fun _ => kp hw _, fun h => absurd (by rw [t_le]; omega) h⟩
  | succ d ih =>
    intro a4 h4 hd
    refine f_A_movable_34 a1 a2 a3 a4 σ _ ⟨fun _ => kp hw _, fun h => (nw0 (e_staysInRatio _ _ σ)).int ?_⟩
    rw [t_le] at h
    have h4' : (a4 + 1).toInt = a4.toInt + 1 := t_add (x := a4.toInt) rfl (y := 1) rfl (by omega) (by omega)
    rintro x2 σ ⟨-, rfl⟩
    exact ⟨fun _ => kp hw _, fun _ => ih _ (by omega) (by omega)⟩
theorem a_movable (σ : sm_S) (h : WW σ) : xC xF j_A_movable [.ref 42] σ (sm_I (fun _ σ' => AQ σ σ')) := by
  refine f_A_movable σ _ ((nw0 (e_inZone 0 σ)).int ?_)
  rintro x2 σ ⟨⟨g1, g2⟩, rfl⟩
  refine (nw0 (e_inZone 1 σ)).int ?_
  rintro x4 σ ⟨⟨g3, g4⟩, rfl⟩
  have e1 := t_sub (a := 8) (b := x2) (x := 8) (y := x2.toInt) rfl rfl (by omega) (by omega)
  have e2 := t_sub e1 (b := x4) (y := x4.toInt) rfl (by omega) (by omega)
  exact l_movableA _ _ _ σ h 8 0 (by decide) (by rw [e2]; show _ ≤ (0 : Int) + _; omega)
theorem a_would (a1 a2 : Int32) (σ : sm_S) (h : WW σ) : xC xF j_A_would [.ref 42, .int a1, .int a2] σ (sm_I (fun _ σ' => AQ σ σ')) := by
  refine f_A_would a1 a2 σ _ ⟨fun _ => kp h _, fun _ => ⟨fun _ => kp h _, fun _ => (nw0 (e_isSpan a1 σ)).int ?_⟩⟩
  rintro x2 σ ⟨hx2, rfl⟩
  refine ⟨fun _ => kp h _, fun n2 => ?_⟩
  obtain ⟨-, s, hs, h1⟩ := hx2.resolve_right n2
  refine (nw0 (e_canGo h1 hs σ)).int ?_
  rintro x4 σ ⟨hx4, rfl⟩
  refine ⟨fun n4 => ?_, fun _ => kp h _⟩
  obtain ⟨-, hon⟩ := hx4.resolve_left n4
  refine (g_tryOut_n h1 hs σ h.1 h.2.1 hon).int ?_
  rintro x6 σ5 ⟨t5, k5⟩
  have q : AQ σ σ5 := AQ.th h t5 k5.2.2.2.2.1
  have gs : ∀ (c : Int32) (n : Nat), c.toInt = n → n < 11 → xC xF j_H_grownSince [.ref 85, .ref 0, .int c] σ5 (sm_ri False (fun x σ' => sm_I (fun _ σ' => AQ σ σ') (some (.int x)) σ')) := fun c n hc hn => (g_grownSince hc hn σ5).int (fun x σ' e => by rw [e]; exact ⟨x, rfl, q⟩)
  exact ⟨fun _ => ⟨fun _ => ⟨_, rfl, q⟩, fun _ => ⟨_, rfl, q⟩⟩, fun _ => ⟨fun _ => ⟨_, rfl, q⟩, fun _ => ⟨fun _ => gs 3 3 rfl (by omega), fun _ => ⟨fun _ => gs 4 4 rfl (by omega), fun _ => gs 5 5 rfl (by omega)⟩⟩⟩⟩
theorem a_easiest (a1 : Int32) (σ : sm_S) (h : WW σ) : xC xF j_A_easiest [.ref 42, .int a1] σ (sm_I (fun _ σ' => AQ σ σ')) := by
  refine f_A_easiest a1 σ _ ⟨fun _ => kp h _, fun _ => ⟨fun _ => (g_findEasiest_n σ h.1 h.2.1).int ?_, fun _ => kp h _⟩⟩
  rintro x2 σ1 ⟨t1, l1, -⟩
  have q : AQ σ σ1 := AQ.th h t1 l1
  exact ⟨fun _ => ⟨_, rfl, q⟩, fun _ => ⟨fun _ => ⟨_, rfl, q⟩, fun _ => ⟨_, rfl, q⟩⟩⟩
/-- then and the trial alone -/
theorem AQ.t2 {σ σ' : sm_S} (h : WW σ) (ht : ∀ a, a < 43 ∨ 127 ≤ a → σ' a = σ a) (hl : kl (bs 43 σ')) (hl2 : kl (bs 86 σ')) : AQ σ σ' := by
  obtain ⟨h1, h2, h3, h4, h5⟩ := h
  refine ⟨⟨kk_of (fun k hk => ht k (by omega)) h1, hl, hl2, by rw [ht 42 (by omega)]; exact h4, fun hn => ?_⟩, fun a ha => ht a (by omega), by rw [ht 42 (by omega)]⟩
  rw [ht 42 (by omega)] at hn
  exact kk_of (fun k hk => by show σ' (127 + k) = σ (127 + k); exact ht _ (by omega)) (h5 hn)
theorem l_givenBackA (σ0 : sm_S) (hw : WW σ0) : ∀ (d k : Nat) (a2 : Int32) (v3 : Value) (σ : sm_S), a2.toInt = k → k + d = 8 → (∀ a, a < 43 ∨ 127 ≤ a → σ a = σ0 a) → kl (bs 43 σ) → kk (bs 86 σ) → xE xF m_A_givenBack 18 [.ref 42, .ref 86, .int a2, v3] [] σ (sm_I (fun _ σ' => AQ σ0 σ')) := by
  intro d
  induction d with
  | zero =>
    intro k a2 v3 σ h2 hk ht hl hk2
    refine f_A_givenBack_18 a2 v3 σ _ ⟨fun _ => ⟨_, rfl, AQ.t2 hw ht hl hk2.2.2.2.2.1⟩, fun h => absurd ?_ h⟩
    rw [t_le, h2]
    show (8 : Int) ≤ _
    omega
  | succ d ih =>
    intro k a2 v3 σ h2 hk ht hl hk2
    have h2' : (a2 + 1).toInt = ((k + 1 : Nat) : Int) := by
      rw [t_add h2 (y := 1) rfl (by omega) (by omega)]
      omega
    refine f_A_givenBack_18 a2 v3 σ _ ⟨fun _ => ⟨_, rfl, AQ.t2 hw ht hl hk2.2.2.2.2.1⟩, fun _ => (g_findEasiest_t σ hk2 hl).int ?_⟩
    rintro x2 σ1 ⟨t1, l1, hx2⟩
    have k1 : kk (bs 86 σ1) := kk_of (fun k hk => by show σ1 (86 + k) = σ (86 + k); exact t1 _ (by omega)) hk2
    have r1 : ∀ a, a < 43 ∨ 127 ≤ a → σ1 a = σ0 a := fun a ha => (t1 a (by omega)).trans (ht a ha)
    refine ⟨fun n2 => ?_, fun _ => ⟨_, rfl, AQ.t2 hw r1 l1 k1.2.2.2.2.1⟩⟩
    obtain ⟨s, hs, hs2, hon⟩ := hx2.resolve_left n2
    refine (g_tryOut_t hs2 hs σ1 k1 l1 (by rw [t1 104 (by omega)]; exact hon)).int ?_
    rintro x4 σ3 ⟨t3, k3⟩
    refine (x_cpy shP4 σ3).void ?_
    rintro σ5 ⟨o5, e5, n5⟩
    have k3' : kk (bs 86 σ3) := kk_of (fun k hk => by show σ3 (86 + k) = σ1 (86 + k); exact t3 _ (by omega)) k1
    refine ih (k + 1) _ _ σ5 h2' (by omega) (fun a ha => (o5 a (by omega)).trans ((t3 a (by omega)).trans (r1 a ha))) ?_ ?_
    · exact kl_of (σ := bs 43 σ3) (by show σ5 77 5 = σ3 77 5; rw [o5 77 (by omega)]) k3.2.2.2.2.1
    · exact kk_eqr e5 (kl_of (σ := bs 86 σ3) n5 k3'.2.2.2.2.1) k3
theorem a_givenBack (σ : sm_S) (h : WW σ) : xC xF j_A_givenBack [.ref 42] σ (sm_I (fun _ σ' => AQ σ σ')) := by
  refine f_A_givenBack σ _ ((x_cpy shP3 σ).void ?_)
  rintro σ1 ⟨o1, e1, n1⟩
  refine l_givenBackA σ h 8 0 0 _ σ1 rfl rfl (fun a ha => o1 a (by omega)) ?_ ?_
  · exact kl_of (σ := bs 43 σ) (by show σ1 77 5 = σ 77 5; rw [o1 77 (by omega)]) h.2.1
  · exact kk_eqr e1 (kl_of (σ := bs 86 σ) n1 h.2.2.1) (kk_bs0 h.1)
theorem a_log (a1 a2 : Int32) (σ : sm_S) (h : WW σ) : xC xF j_A_log [.ref 42, .int a1, .int a2] σ (sm_I (fun _ σ' => AQ σ σ')) :=
  f_A_log a1 a2 σ _ (kp1 h (e_cell a1 a2 σ h.1.2.2.2.2.1))
theorem a_count (a1 : Int32) (σ : sm_S) (h : WW σ) : xC xF j_A_count [.ref 42, .int a1] σ (sm_I (fun _ σ' => AQ σ σ')) := by
  refine f_A_count a1 σ _ ⟨fun _ => kp h _, fun h1 => ⟨fun h2 => ?_, fun _ => kp h _⟩⟩
  obtain ⟨n, hn⟩ := rg_n h1
  rw [t_lt, hn] at h2
  have h2 : (n : Int) < 11 := h2
  exact ⟨t_vp hn (by omega), kp h _⟩
theorem a_image (a1 : Int32) (σ : sm_S) (h : WW σ) : xC xF j_A_image [.ref 42, .int a1] σ (sm_I (fun x σ' => isYes (a1 ≠ 0 ∨ σ 42 4 ≠ 0) x ∧ WW σ' ∧ (∀ a, 168 ≤ a → σ' a = σ a) ∧ (σ' 42 4 ≠ 0 ↔ (a1 ≠ 0 ∨ σ 42 4 ≠ 0)))) := by
  obtain ⟨h1, h2, h3, h4, h5⟩ := h
  refine f_A_image a1 σ _ ⟨fun z1 => ⟨fun z4 => ⟨h4, _, rfl, Or.inr ⟨z4, fun h => h.elim (fun h => h z1) (fun h => h z4)⟩, ⟨h1, h2, h3, h4, h5⟩, fun _ _ => rfl, Or.inr, fun h => h.elim (fun h => absurd z1 h) id⟩, fun n4 => (x_cpy shP5 σ).void ?_⟩, fun n1 => (x_cpy shP6 σ).void ?_⟩
  · rintro σ1 ⟨o1, e1, n1⟩
    refine (x_cpyL shP5 σ1).void ?_
    rintro σ2 ⟨o2, e2, n2⟩
    have kK := h5 n4
    have oo : ∀ c, 41 ≤ c → σ2 c = σ c := fun c hc => (o2 c (by omega)).trans (o1 c (by omega))
    have n34 : (bs 0 σ2) 34 5 = (bs 127 σ) 34 5 := by
      show σ2 (0 + 34) 5 = σ (127 + 34) 5
      rw [n2, o1 (127 + 34) (by omega)]
    have k2 : kk σ2 := bs0_kk (kk_eqr (e1.tr e2) (kl_of n34 kK.2.2.2.2.1) kK)
    refine ⟨by rw [oo 42 (by omega)]; exact h4, _, rfl, Or.inl ⟨by rw [oo 42 (by omega)]; exact h4.resolve_left n4, Or.inr n4⟩, ⟨k2, kl_of (σ := bs 43 σ) (by show σ2 77 5 = σ 77 5; rw [oo 77 (by omega)]) h2, kl_of (σ := bs 86 σ) (by show σ2 120 5 = σ 120 5; rw [oo 120 (by omega)]) h3, by rw [oo 42 (by omega)]; exact h4, fun _ => kk_of (fun k hk => by show σ2 (127 + k) = σ (127 + k); exact oo _ (by omega)) kK⟩, fun a ha => oo a (by omega), fun _ => Or.inr n4, fun _ => by rw [oo 42 (by omega)]; exact n4⟩
  · rintro σ3 ⟨o3, e3, n3⟩
    refine (x_cpyL shP6 σ3).void ?_
    rintro σ4 ⟨o4, e4, n4⟩
    have oo : ∀ c, c < 127 ∨ 168 ≤ c → σ4 c = σ c := fun c hc => (o4 c (by omega)).trans (o3 c (by omega))
    have n34 : (bs 127 σ4) 34 5 = (bs 0 σ) 34 5 := by
      show σ4 (127 + 34) 5 = σ (0 + 34) 5
      rw [n4, o3 (0 + 34) (by omega)]
    have k4 : kk (bs 127 σ4) := kk_eqr (e3.tr e4) (kl_of n34 h1.2.2.2.2.1) (kk_bs0 h1)
    refine ⟨Or.inr rfl, fun σ5 e5 => ?_⟩
    have f5 : σ5 42 4 = 1 := by rw [e5, s_at, u_at]
    have g5 : ∀ c, c ≠ 42 → σ5 c = σ4 c := fun c hc => by rw [e5, s_ne hc]
    refine ⟨Or.inr f5, _, rfl, Or.inl ⟨f5, Or.inl n1⟩, ⟨kk_of (fun k hk => (g5 k (by omega)).trans (oo k (by omega))) h1, kl_of (σ := bs 43 σ) (by show σ5 77 5 = σ 77 5; rw [g5 77 (by omega), oo 77 (by omega)]) h2, kl_of (σ := bs 86 σ) (by show σ5 120 5 = σ 120 5; rw [g5 120 (by omega), oo 120 (by omega)]) h3, Or.inr f5, fun _ => kk_of (fun k hk => by show σ5 (127 + k) = σ4 (127 + k); exact g5 _ (by omega)) k4⟩, fun a ha => (g5 a (by omega)).trans (oo a (by omega)), fun _ => Or.inl n1, fun _ => by rw [f5]; decide⟩
theorem a_movableByNormal (σ : sm_S) (h : WW σ) : xC xF j_A_movableByNormal [.ref 42] σ (sm_ri False (fun x σ' => sm_I (fun _ σ' => AQ σ σ') (some (.int x)) σ')) := by
  refine f_A_movableByNormal σ _ ((nw0 (e_inZone 0 σ)).int ?_)
  rintro x2 σ ⟨-, rfl⟩
  refine ⟨fun n2 => (nw0 (e_inZone 1 σ)).int ?_, fun _ => kp h _⟩
  rintro x4 σ ⟨-, rfl⟩
  exact ⟨n2, kp h _⟩
theorem l_bitsIn2 (σ : sm_S) (hw : WW σ) : ∀ (d k : Nat) (a1 a4 : Int32) (v5 : Value), a4.toInt = k → k + d = 8 → xE xF m_R_bitsIn 10 [.ref 2, .int a1, .ref 2, .int (Int32.ofNat 8), .int a4, v5] [] σ (sm_I (fun _ σ' => AQ σ σ')) := by
  intro d
  induction d with
  | zero =>
    intro k a1 a4 v5 h4 hk
    refine f_R_bitsIn2_10 a1 _ a4 v5 σ _ ⟨fun _ => kp hw _, fun h => absurd ?_ h⟩
    rw [t_le, h4]
    show (8 : Int) ≤ _
    omega
  | succ d ih =>
    intro k a1 a4 v5 h4 hk
    have h4' : (a4 + 1).toInt = ((k + 1 : Nat) : Int) := by
      rw [t_add h4 (y := 1) rfl (by omega) (by omega)]
      omega
    refine f_R_bitsIn2_10 a1 _ a4 v5 σ _ ⟨fun _ => kp hw _, fun _ => ⟨t_vp h4 (by omega), (nw1 (c_bitCount _ σ)).int ?_⟩⟩
    rintro x2 σ rfl
    exact ih (k + 1) _ _ _ h4' (by omega)
theorem a_bitsIn2 (σ : sm_S) (h : WW σ) : xC xF j_R_bitsIn [.ref 2] σ (sm_ri False (fun x σ' => sm_I (fun _ σ' => AQ σ σ') (some (.int x)) σ')) :=
  sm_C.int (P := fun _ σ' => AQ σ σ') (f_R_bitsIn2 σ _ (l_bitsIn2 σ h 8 0 _ 0 _ rfl rfl)) (fun x σ' q => ⟨x, rfl, q⟩)
theorem l_bitsIn3 (σ : sm_S) (hw : WW σ) : ∀ (d k : Nat) (a1 a4 : Int32) (v5 : Value), a4.toInt = k → k + d = 8 → xE xF m_R_bitsIn 10 [.ref 3, .int a1, .ref 3, .int (Int32.ofNat 8), .int a4, v5] [] σ (sm_I (fun _ σ' => AQ σ σ')) := by
  intro d
  induction d with
  | zero =>
    intro k a1 a4 v5 h4 hk
    refine f_R_bitsIn3_10 a1 _ a4 v5 σ _ ⟨fun _ => kp hw _, fun h => absurd ?_ h⟩
    rw [t_le, h4]
    show (8 : Int) ≤ _
    omega
  | succ d ih =>
    intro k a1 a4 v5 h4 hk
    have h4' : (a4 + 1).toInt = ((k + 1 : Nat) : Int) := by
      rw [t_add h4 (y := 1) rfl (by omega) (by omega)]
      omega
    refine f_R_bitsIn3_10 a1 _ a4 v5 σ _ ⟨fun _ => kp hw _, fun _ => ⟨t_vp h4 (by omega), (nw1 (c_bitCount _ σ)).int ?_⟩⟩
    rintro x2 σ rfl
    exact ih (k + 1) _ _ _ h4' (by omega)
theorem a_bitsIn3 (σ : sm_S) (h : WW σ) : xC xF j_R_bitsIn [.ref 3] σ (sm_ri False (fun x σ' => sm_I (fun _ σ' => AQ σ σ') (some (.int x)) σ')) :=
  sm_C.int (P := fun _ σ' => AQ σ σ') (f_R_bitsIn3 σ _ (l_bitsIn3 σ h 8 0 _ 0 _ rfl rfl)) (fun x σ' q => ⟨x, rfl, q⟩)
theorem l_bitsIn4 (σ : sm_S) (hw : WW σ) : ∀ (d k : Nat) (a1 a4 : Int32) (v5 : Value), a4.toInt = k → k + d = 8 → xE xF m_R_bitsIn 10 [.ref 4, .int a1, .ref 4, .int (Int32.ofNat 8), .int a4, v5] [] σ (sm_I (fun _ σ' => AQ σ σ')) := by
  intro d
  induction d with
  | zero =>
    intro k a1 a4 v5 h4 hk
    refine f_R_bitsIn4_10 a1 _ a4 v5 σ _ ⟨fun _ => kp hw _, fun h => absurd ?_ h⟩
    rw [t_le, h4]
    show (8 : Int) ≤ _
    omega
  | succ d ih =>
    intro k a1 a4 v5 h4 hk
    have h4' : (a4 + 1).toInt = ((k + 1 : Nat) : Int) := by
      rw [t_add h4 (y := 1) rfl (by omega) (by omega)]
      omega
    refine f_R_bitsIn4_10 a1 _ a4 v5 σ _ ⟨fun _ => kp hw _, fun _ => ⟨t_vp h4 (by omega), (nw1 (c_bitCount _ σ)).int ?_⟩⟩
    rintro x2 σ rfl
    exact ih (k + 1) _ _ _ h4' (by omega)
theorem a_bitsIn4 (σ : sm_S) (h : WW σ) : xC xF j_R_bitsIn [.ref 4] σ (sm_ri False (fun x σ' => sm_I (fun _ σ' => AQ σ σ') (some (.int x)) σ')) :=
  sm_C.int (P := fun _ σ' => AQ σ σ') (f_R_bitsIn4 σ _ (l_bitsIn4 σ h 8 0 _ 0 _ rfl rfl)) (fun x σ' q => ⟨x, rfl, q⟩)
theorem l_bitsIn5 (σ : sm_S) (hw : WW σ) : ∀ (d k : Nat) (a1 a4 : Int32) (v5 : Value), a4.toInt = k → k + d = 8 → xE xF m_R_bitsIn 10 [.ref 5, .int a1, .ref 5, .int (Int32.ofNat 8), .int a4, v5] [] σ (sm_I (fun _ σ' => AQ σ σ')) := by
  intro d
  induction d with
  | zero =>
    intro k a1 a4 v5 h4 hk
    refine f_R_bitsIn5_10 a1 _ a4 v5 σ _ ⟨fun _ => kp hw _, fun h => absurd ?_ h⟩
    rw [t_le, h4]
    show (8 : Int) ≤ _
    omega
  | succ d ih =>
    intro k a1 a4 v5 h4 hk
    have h4' : (a4 + 1).toInt = ((k + 1 : Nat) : Int) := by
      rw [t_add h4 (y := 1) rfl (by omega) (by omega)]
      omega
    refine f_R_bitsIn5_10 a1 _ a4 v5 σ _ ⟨fun _ => kp hw _, fun _ => ⟨t_vp h4 (by omega), (nw1 (c_bitCount _ σ)).int ?_⟩⟩
    rintro x2 σ rfl
    exact ih (k + 1) _ _ _ h4' (by omega)
theorem a_bitsIn5 (σ : sm_S) (h : WW σ) : xC xF j_R_bitsIn [.ref 5] σ (sm_ri False (fun x σ' => sm_I (fun _ σ' => AQ σ σ') (some (.int x)) σ')) :=
  sm_C.int (P := fun _ σ' => AQ σ σ') (f_R_bitsIn5 σ _ (l_bitsIn5 σ h 8 0 _ 0 _ rfl rfl)) (fun x σ' q => ⟨x, rfl, q⟩)
theorem a_look (a1 : Int32) (σ : sm_S) (h : WW σ) : xC xF j_A_look [.ref 42, .int a1] σ (sm_I (fun _ σ' => AQ σ σ')) := by
  have z6 : xC xF j_S_inZone [.ref 17, .int 0] σ (sm_ri False (fun x16 σ15 => xC xF j_S_inZone [.ref 17, .int 1] σ15 (sm_ri False (fun x18 σ17 => sm_I (fun _ σ' => AQ σ σ') (some (.int (x16 + x18))) σ17)))) := by
    refine (nw0 (e_inZone 0 σ)).int ?_
    rintro x2 σ ⟨-, rfl⟩
    refine (nw0 (e_inZone 1 σ)).int ?_
    rintro x4 σ ⟨-, rfl⟩
    exact kp h _
  refine f_A_look a1 σ _ ⟨fun _ => ?_, fun h0 => ⟨fun _ => ?_, fun h4 => ?_⟩⟩
  · exact ⟨fun _ => kp h _, fun _ => ⟨fun _ => kp1 h (e_howMany σ), fun _ => ⟨fun _ => z6, fun _ => ⟨fun _ => a_bitsIn2 σ h, fun _ => ⟨fun _ => a_bitsIn3 σ h, fun _ => ⟨fun _ => a_bitsIn4 σ h, fun _ => ⟨fun _ => a_bitsIn5 σ h, fun _ => ⟨fun _ => kp1 h (e_waitingSet σ), fun _ => ⟨fun _ => kp1 h (e_goingSet σ), fun _ => ⟨fun _ => kp h _, fun _ => ⟨fun _ => a_movableByNormal σ h, fun _ => kp h _⟩⟩⟩⟩⟩⟩⟩⟩⟩⟩⟩
  · exact ⟨fun _ => kp h _, fun _ => ⟨fun _ => kp1 h (e_howMany σ), fun _ => ⟨fun _ => z6, fun _ => ⟨fun _ => a_bitsIn2 σ h, fun _ => ⟨fun _ => a_bitsIn3 σ h, fun _ => ⟨fun _ => a_bitsIn4 σ h, fun _ => ⟨fun _ => a_bitsIn5 σ h, fun _ => ⟨fun _ => kp1 h (e_waitingSet σ), fun _ => ⟨fun _ => kp1 h (e_goingSet σ), fun _ => ⟨fun _ => kp h _, fun _ => ⟨fun _ => a_movableByNormal σ h, fun _ => kp h _⟩⟩⟩⟩⟩⟩⟩⟩⟩⟩⟩
  · obtain ⟨n, hn⟩ := rg_n h0
    rw [t_le, hn] at h4
    have h4 : ¬ (4 : Int) ≤ n := h4
    exact ⟨t_vp hn (by omega), kp h _⟩
end
section
/-! ===== the model in the world of all ===== -/
def mQ (B : Nat) (σ σ' : sm_S) : Prop := lw B (bs 168 σ') ∧ (∀ a, a < 168 ∨ 174 ≤ a → σ' a = σ a) ∧ σ' 168 6 = σ 168 6
theorem lw.up {B B' : Nat} {σ : sm_S} (h : lw B σ) (hB : B ≤ B') : lw B' σ := by
  obtain ⟨⟨N, h1, h2⟩, h3⟩ := h
  exact ⟨⟨N, by omega, h2⟩, fun z => by
    obtain ⟨M, m1, m2⟩ := h3 z
    exact ⟨M, by omega, m2⟩⟩
theorem rM_out {a : Nat} (h : a < 168 ∨ 174 ≤ a) : ∀ k, k < 6 → rM k ≠ a := by
  intro k hk
  unfold rM
  rw [if_pos hk]
  omega
theorem lw_bs {B : Nat} {σ : sm_S} (h : lw B (bs 168 σ)) : lw B (sh rM σ) := h
theorem bs_lw {B : Nat} {σ : sm_S} (h : lw B (sh rM σ)) : lw B (bs 168 σ) := h
theorem stM {τ σ' : sm_S} {B : Nat} (h : sm_stR rM xM τ σ') (hl : lw B τ) : lw B (bs 168 σ') := by
  have e1 : σ' 169 = τ 1 := h.1 1 (0, 2662) rfl
  have e5 : σ' 173 = τ 5 := h.1 5 (0, 2662) rfl
  have e6 : σ' 168 6 = τ 0 6 := h.2 0 9 _ 6 1 rfl rfl (by omega)
  obtain ⟨⟨N, h1, h2⟩, h3⟩ := hl
  refine ⟨⟨N, h1, ?_⟩, fun z => ?_⟩
  · show jj N (σ' 169)
    rw [e1]; exact h2
  · have z : σ' 168 6 ≠ 0 := z
    rw [e6] at z
    obtain ⟨M, m1, m2⟩ := h3 z
    exact ⟨M, m1, by show jj M (σ' 173); rw [e5]; exact m2⟩
theorem stN {τ σ' : sm_S} {B : Nat} (h : sm_stR rM xN τ σ') (hl : lw B τ) : lw B (bs 168 σ') := by
  have e1 : σ' 169 = τ 1 := h.1 1 (0, 2662) rfl
  have e5 : σ' 173 = τ 5 := h.1 5 (0, 2662) rfl
  have e6 : σ' 168 6 = τ 0 6 := h.2 0 9 _ 6 1 rfl rfl (by omega)
  obtain ⟨⟨N, h1, h2⟩, h3⟩ := hl
  refine ⟨⟨N, h1, ?_⟩, fun z => ?_⟩
  · show jj N (σ' 169)
    rw [e1]; exact h2
  · have z : σ' 168 6 ≠ 0 := z
    rw [e6] at z
    obtain ⟨M, m1, m2⟩ := h3 z
    exact ⟨M, m1, by show jj M (σ' 173); rw [e5]; exact m2⟩
theorem pub6 {N D : Nat} {σ τ : sm_S} {x : Int32} (h : pubX N D (sh rM σ) x τ) : τ 0 6 = σ 168 6 := by
  obtain ⟨N', h1, h2, h3, h4, h5, -⟩ := h
  exact h5
theorem mUx {j B : Nat} {as as' : List Value} {σ : sm_S} {P : Int32 → Prop} {R : Int32 → sm_S → Prop} (ha : as.map (sm_cv rM) = as') (hR : ∀ x τ, R x τ → P x ∧ lw B τ ∧ τ 0 6 = σ 168 6) (h : xC xM j as (sh rM σ) (sm_I R)) : xC xF j as' σ (sm_I (fun x σ' => P x ∧ mQ B σ σ')) := by
  subst ha
  refine (x_up shMF h).mono ?_
  rintro r σ' ⟨r1, τ, rfl, ⟨x, rfl, hx⟩, hs, ho⟩
  exact ⟨x, rfl, (hR x τ hx).1, stM hs (hR x τ hx).2.1, fun a ha => off_out (n := 6) rfl ho (rM_out ha), (hs.2 0 9 _ 6 1 rfl rfl (by omega) : σ' 168 6 = τ 0 6).trans (hR x τ hx).2.2⟩
theorem mU {j B D N : Nat} {as as' : List Value} {σ : sm_S} (ha : as.map (sm_cv rM) = as') (hl : lw B (bs 168 σ)) (hN : N ≤ B) (hD : D ≤ 1488000) (h : xC xM j as (sh rM σ) (sm_I (pubX N D (sh rM σ)))) : xC xF j as' σ (sm_I (fun _ σ' => mQ (B + 1488000) σ σ')) := by
  refine (mUx (B := B + 1488000) (P := fun _ => True) ha (fun x τ hx => ⟨trivial, (lw.pub (lw_bs hl) hN hx).up (by omega), pub6 hx⟩) h).mono ?_
  rintro r σ' ⟨x, rfl, -, q⟩
  exact ⟨x, rfl, q⟩
theorem mUN {j B D N : Nat} {as as' : List Value} {σ : sm_S} (ha : as.map (sm_cv rM) = as') (hl : lw B (bs 168 σ)) (hN : N ≤ B) (hD : D ≤ 1488000) (h : xC xN j as (sh rM σ) (sm_I (pubX N D (sh rM σ)))) : xC xF j as' σ (sm_I (fun _ σ' => mQ (B + 1488000) σ σ')) := by
  subst ha
  refine (x_up shNF h).mono ?_
  rintro r σ' ⟨r1, τ, rfl, ⟨x, rfl, hx⟩, hs, ho⟩
  exact ⟨x, rfl, stN hs ((lw.pub (lw_bs hl) hN hx).up (by omega)), fun a ha => off_out (n := 6) rfl ho (rM_out ha), (hs.2 0 9 _ 6 1 rfl rfl (by omega) : σ' 168 6 = τ 0 6).trans (pub6 hx)⟩
theorem m_take {B : Nat} (a1 a2 a3 a4 : Int32) (σ : sm_S) (hB : B < 1500000000) (hl : lw B (bs 168 σ)) : xC xF j_M_take [.ref 168, .int a1, .int a2, .int a3, .int a4] σ (sm_I (fun _ σ' => mQ (B + 1488000) σ σ')) := by
  obtain ⟨N, hN, hj⟩ := (lw_bs hl).1
  exact mU (as := [.ref 0, .int a1, .int a2, .int a3, .int a4]) (D := 96) rfl hl hN (by omega) ((c_take a1 a2 a3 a4 (sh rM σ) hj (by omega)).mono (by rintro r σ' ⟨x, rfl, q⟩; exact ⟨x, rfl, pub_X (x := x) q⟩))
theorem m_free {B : Nat} (a1 : Int32) (σ : sm_S) (hB : B < 1500000000) (hl : lw B (bs 168 σ)) : xC xF j_M_free [.ref 168, .int a1] σ (sm_I (fun _ σ' => mQ (B + 1488000) σ σ')) := by
  obtain ⟨N, hN, hj⟩ := (lw_bs hl).1
  exact mU (as := [.ref 0, .int a1]) (D := 0) rfl hl hN (by omega) ((c_free a1 (sh rM σ) hj).mono (by rintro r σ' ⟨x, rfl, q⟩; exact ⟨x, rfl, pub_X q⟩))
theorem m_read {B : Nat} (a1 a2 a3 : Int32) (σ : sm_S) (hB : B < 1500000000) (hl : lw B (bs 168 σ)) : xC xF j_M_read [.ref 168, .int a1, .int a2, .int a3] σ (sm_I (fun _ σ' => mQ (B + 1488000) σ σ')) := by
  obtain ⟨N, hN, hj⟩ := (lw_bs hl).1
  exact mU (as := [.ref 0, .int a1, .int a2, .int a3]) (D := 1) rfl hl hN (by omega) ((c_read a1 a2 a3 (sh rM σ) hj (by omega)).mono (by rintro r σ' ⟨x, rfl, q⟩; exact ⟨x, rfl, pub_X q⟩))
theorem m_write {B : Nat} (a1 a2 a3 a4 : Int32) (σ : sm_S) (hB : B < 1500000000) (hl : lw B (bs 168 σ)) : xC xF j_M_write [.ref 168, .int a1, .int a2, .int a3, .int a4] σ (sm_I (fun _ σ' => mQ (B + 1488000) σ σ')) := by
  obtain ⟨N, hN, hj⟩ := (lw_bs hl).1
  exact mU (as := [.ref 0, .int a1, .int a2, .int a3, .int a4]) (D := 1) rfl hl hN (by omega) ((c_write a1 a2 a3 a4 (sh rM σ) hj (by omega)).mono (by rintro r σ' ⟨x, rfl, q⟩; exact ⟨x, rfl, pub_X q⟩))
theorem m_pin {B : Nat} (a1 a2 : Int32) (σ : sm_S) (hB : B < 1500000000) (hl : lw B (bs 168 σ)) : xC xF j_M_pin [.ref 168, .int a1, .int a2] σ (sm_I (fun _ σ' => mQ (B + 1488000) σ σ')) := by
  obtain ⟨N, hN, hj⟩ := (lw_bs hl).1
  exact mU (as := [.ref 0, .int a1, .int a2]) (D := 1) rfl hl hN (by omega) ((c_pin a1 a2 (sh rM σ) hj (by omega)).mono (by rintro r σ' ⟨x, rfl, q⟩; exact ⟨x, rfl, pub_X q⟩))
theorem m_unpin {B : Nat} (a1 a2 : Int32) (σ : sm_S) (hB : B < 1500000000) (hl : lw B (bs 168 σ)) : xC xF j_M_unpin [.ref 168, .int a1, .int a2] σ (sm_I (fun _ σ' => mQ (B + 1488000) σ σ')) := by
  obtain ⟨N, hN, hj⟩ := (lw_bs hl).1
  exact mU (as := [.ref 0, .int a1, .int a2]) (D := 0) rfl hl hN (by omega) ((c_unpin a1 a2 (sh rM σ) hj).mono (by rintro r σ' ⟨x, rfl, q⟩; exact ⟨x, rfl, pub_X q⟩))
theorem m_come {B : Nat} (a1 a2 : Int32) (σ : sm_S) (hB : B < 1500000000) (hl : lw B (bs 168 σ)) : xC xF j_M_come [.ref 168, .int a1, .int a2] σ (sm_I (fun _ σ' => mQ (B + 1488000) σ σ')) := by
  obtain ⟨N, hN, hj⟩ := (lw_bs hl).1
  exact mU (as := [.ref 0, .int a1, .int a2]) (D := 1) rfl hl hN (by omega) ((c_come a1 a2 (sh rM σ) hj (by omega)).mono (by rintro r σ' ⟨x, rfl, q⟩; exact ⟨x, rfl, pub_X q⟩))
theorem m_byTurns {B : Nat} (a1 : Int32) (σ : sm_S) (hB : B < 1500000000) (hl : lw B (bs 168 σ)) : xC xF j_M_byTurns [.ref 168, .int a1] σ (sm_I (fun _ σ' => mQ (B + 1488000) σ σ')) := by
  obtain ⟨N, hN, hj⟩ := (lw_bs hl).1
  exact mU (as := [.ref 0, .int a1]) (D := 8) rfl hl hN (by omega) ((c_byTurns a1 (sh rM σ) hj (by omega)).mono (by rintro r σ' ⟨x, rfl, q⟩; exact ⟨x, rfl, pub_X q⟩))
theorem m_press {B : Nat} (a1 : Int32) (σ : sm_S) (hB : B < 1500000000) (hl : lw B (bs 168 σ)) : xC xF j_M_press [.ref 168, .int a1] σ (sm_I (fun _ σ' => mQ (B + 1488000) σ σ')) := by
  obtain ⟨N, hN, hj⟩ := (lw_bs hl).1
  exact mU (as := [.ref 0, .int a1]) (D := 0) rfl hl hN (by omega) (c_press a1 (sh rM σ) hj)
theorem m_gather {B : Nat} (a1 : Int32) (σ : sm_S) (hB : B < 1500000000) (hl : lw B (bs 168 σ)) : xC xF j_M_gather [.ref 168, .int a1] σ (sm_I (fun _ σ' => mQ (B + 1488000) σ σ')) := by
  obtain ⟨N, hN, hj⟩ := (lw_bs hl).1
  exact mU (as := [.ref 0, .int a1]) (D := 0) rfl hl hN (by omega) (c_gather a1 (sh rM σ) hj)
theorem m_go {B : Nat} (a1 : Int32) (σ : sm_S) (hB : B < 1500000000) (hl : lw B (bs 168 σ)) : xC xF j_M_go [.ref 168, .int a1] σ (sm_I (fun _ σ' => mQ (B + 1488000) σ σ')) := by
  obtain ⟨N, hN, hj⟩ := (lw_bs hl).1
  exact mU (as := [.ref 0, .int a1]) (D := 1) rfl hl hN (by omega) ((c_go a1 (sh rM σ) hj (by omega)).mono (by rintro r σ' ⟨x, rfl, q⟩; exact ⟨x, rfl, pub_X q⟩))
theorem m_giveUp {B : Nat} (a1 : Int32) (σ : sm_S) (hB : B < 1500000000) (hl : lw B (bs 168 σ)) : xC xF j_M_giveUp [.ref 168, .int a1] σ (sm_I (fun _ σ' => mQ (B + 1488000) σ σ')) := by
  obtain ⟨N, hN, hj⟩ := (lw_bs hl).1
  exact mU (as := [.ref 0, .int a1]) (D := 7) rfl hl hN (by omega) ((c_giveUp a1 (sh rM σ) hj (by omega)).mono (by rintro r σ' ⟨x, rfl, q⟩; exact ⟨x, rfl, pub_X q⟩))
theorem m_tick {B : Nat} (a1 : Int32) (σ : sm_S) (hB : B < 1500000000) (hl : lw B (bs 168 σ)) : xC xF j_M_tick [.ref 168, .int a1] σ (sm_I (fun _ σ' => mQ (B + 1488000) σ σ')) := by
  obtain ⟨N, hN, hj⟩ := (lw_bs hl).1
  exact mU (as := [.ref 0, .int a1]) (D := 1488000) rfl hl hN (by omega) (c_tick (N := N) a1 (by omega) (sh rM σ) hj)
theorem m_frame {B : Nat} (a1 a2 : Int32) (σ : sm_S) (hB : B < 1500000000) (hl : lw B (bs 168 σ)) : xC xF j_M_frame [.ref 168, .int a1, .int a2] σ (sm_I (fun _ σ' => mQ (B + 1488000) σ σ')) := by
  obtain ⟨N, hN, hj⟩ := (lw_bs hl).1
  exact mU (as := [.ref 0, .int a1, .int a2]) (D := 0) rfl hl hN (by omega) (c_frame a1 a2 (sh rM σ) hj)
theorem m_block {B : Nat} (a1 a2 : Int32) (σ : sm_S) (hB : B < 1500000000) (hl : lw B (bs 168 σ)) : xC xF j_M_block [.ref 168, .int a1, .int a2] σ (sm_I (fun _ σ' => mQ (B + 1488000) σ σ')) := by
  obtain ⟨N, hN, hj⟩ := (lw_bs hl).1
  exact mU (as := [.ref 0, .int a1, .int a2]) (D := 0) rfl hl hN (by omega) (c_block a1 a2 (sh rM σ) hj)
theorem m_span {B : Nat} (a1 a2 : Int32) (σ : sm_S) (hB : B < 1500000000) (hl : lw B (bs 168 σ)) : xC xF j_M_span [.ref 168, .int a1, .int a2] σ (sm_I (fun _ σ' => mQ (B + 1488000) σ σ')) := by
  obtain ⟨N, hN, hj⟩ := (lw_bs hl).1
  exact mU (as := [.ref 0, .int a1, .int a2]) (D := 0) rfl hl hN (by omega) (c_span a1 a2 (sh rM σ) hj)
theorem m_task {B : Nat} (a1 a2 : Int32) (σ : sm_S) (hB : B < 1500000000) (hl : lw B (bs 168 σ)) : xC xF j_M_task [.ref 168, .int a1, .int a2] σ (sm_I (fun _ σ' => mQ (B + 1488000) σ σ')) := by
  obtain ⟨N, hN, hj⟩ := (lw_bs hl).1
  exact mU (as := [.ref 0, .int a1, .int a2]) (D := 0) rfl hl hN (by omega) (c_task a1 a2 (sh rM σ) hj)
theorem m_zone {B : Nat} (a1 a2 : Int32) (σ : sm_S) (hB : B < 1500000000) (hl : lw B (bs 168 σ)) : xC xF j_M_zone [.ref 168, .int a1, .int a2] σ (sm_I (fun _ σ' => mQ (B + 1488000) σ σ')) := by
  obtain ⟨N, hN, hj⟩ := (lw_bs hl).1
  exact mU (as := [.ref 0, .int a1, .int a2]) (D := 0) rfl hl hN (by omega) (c_zone a1 a2 (sh rM σ) hj)
theorem m_loose {B : Nat} (a1 a2 : Int32) (σ : sm_S) (hB : B < 1500000000) (hl : lw B (bs 168 σ)) : xC xF j_M_loose [.ref 168, .int a1, .int a2] σ (sm_I (fun _ σ' => mQ (B + 1488000) σ σ')) := by
  obtain ⟨N, hN, hj⟩ := (lw_bs hl).1
  exact mU (as := [.ref 0, .int a1, .int a2]) (D := 0) rfl hl hN (by omega) (c_loose a1 a2 (sh rM σ) hj)
theorem m_place {B : Nat} (a1 a2 a3 : Int32) (σ : sm_S) (hB : B < 1500000000) (hl : lw B (bs 168 σ)) : xC xF j_M_place [.ref 168, .int a1, .int a2, .int a3] σ (sm_I (fun _ σ' => mQ (B + 1488000) σ σ')) := by
  obtain ⟨N, hN, hj⟩ := (lw_bs hl).1
  exact mU (as := [.ref 0, .int a1, .int a2, .int a3]) (D := 0) rfl hl hN (by omega) (c_place a1 a2 a3 (sh rM σ) hj)
theorem m_hole {B : Nat} (a1 : Int32) (σ : sm_S) (hB : B < 1500000000) (hl : lw B (bs 168 σ)) : xC xF j_M_hole [.ref 168, .int a1] σ (sm_I (fun _ σ' => mQ (B + 1488000) σ σ')) := by
  obtain ⟨N, hN, hj⟩ := (lw_bs hl).1
  exact mU (as := [.ref 0, .int a1]) (D := 0) rfl hl hN (by omega) (c_hole a1 (sh rM σ) hj)
theorem m_keeps {B : Nat} (a1 a2 a3 : Int32) (σ : sm_S) (hB : B < 1500000000) (hl : lw B (bs 168 σ)) : xC xF j_M_keeps [.ref 168, .int a1, .int a2, .int a3] σ (sm_I (fun _ σ' => mQ (B + 1488000) σ σ')) := by
  obtain ⟨N, hN, hj⟩ := (lw_bs hl).1
  exact mU (as := [.ref 0, .int a1, .int a2, .int a3]) (D := 0) rfl hl hN (by omega) (c_keeps a1 a2 a3 (sh rM σ) hj)
theorem m_holders {B : Nat} (a1 : Int32) (σ : sm_S) (hB : B < 1500000000) (hl : lw B (bs 168 σ)) : xC xF j_M_holders [.ref 168, .int a1] σ (sm_I (fun _ σ' => mQ (B + 1488000) σ σ')) := by
  obtain ⟨N, hN, hj⟩ := (lw_bs hl).1
  exact mU (as := [.ref 0, .int a1]) (D := 0) rfl hl hN (by omega) (c_holders a1 (sh rM σ) hj)
theorem m_pressed {B : Nat} (a1 : Int32) (σ : sm_S) (hB : B < 1500000000) (hl : lw B (bs 168 σ)) : xC xF j_M_pressed [.ref 168, .int a1] σ (sm_I (fun _ σ' => mQ (B + 1488000) σ σ')) := by
  obtain ⟨N, hN, hj⟩ := (lw_bs hl).1
  exact mU (as := [.ref 0, .int a1]) (D := 0) rfl hl hN (by omega) (c_pressed a1 (sh rM σ) hj)
theorem m_at {B : Nat} (a1 a2 : Int32) (σ : sm_S) (hB : B < 1500000000) (hl : lw B (bs 168 σ)) : xC xF j_M_at [.ref 168, .int a1, .int a2] σ (sm_I (fun _ σ' => mQ (B + 1488000) σ σ')) := by
  obtain ⟨N, hN, hj⟩ := (lw_bs hl).1
  exact mU (as := [.ref 0, .int a1, .int a2]) (D := 0) rfl hl hN (by omega) (c_at a1 a2 (sh rM σ) hj)
theorem m_movable {B : Nat} (σ : sm_S) (hB : B < 1500000000) (hl : lw B (bs 168 σ)) : xC xF j_M_movable [.ref 168] σ (sm_I (fun _ σ' => mQ (B + 1488000) σ σ')) := by
  obtain ⟨N, hN, hj⟩ := (lw_bs hl).1
  exact mU (as := [.ref 0]) (D := 0) rfl hl hN (by omega) (c_movable (N := N)  (by omega) (sh rM σ) hj)
theorem m_would {B : Nat} (a1 a2 : Int32) (σ : sm_S) (hB : B < 1500000000) (hl : lw B (bs 168 σ)) : xC xF j_M_would [.ref 168, .int a1, .int a2] σ (sm_I (fun _ σ' => mQ (B + 1488000) σ σ')) := by
  obtain ⟨N, hN, hj⟩ := (lw_bs hl).1
  exact mU (as := [.ref 0, .int a1, .int a2]) (D := 0) rfl hl hN (by omega) (c_would (N := N) a1 a2 (by omega) (sh rM σ) hj)
theorem m_easiest {B : Nat} (a1 : Int32) (σ : sm_S) (hB : B < 1500000000) (hl : lw B (bs 168 σ)) : xC xF j_M_easiest [.ref 168, .int a1] σ (sm_I (fun _ σ' => mQ (B + 1488000) σ σ')) := by
  obtain ⟨N, hN, hj⟩ := (lw_bs hl).1
  exact mUN (as := [.ref 0, .int a1]) (D := 0) rfl hl hN (by omega) (n_easiest (N := N) a1 (by omega) (sh rM σ) hj)
theorem m_givenBack {B : Nat} (σ : sm_S) (hB : B < 1500000000) (hl : lw B (bs 168 σ)) : xC xF j_M_givenBack [.ref 168] σ (sm_I (fun _ σ' => mQ (B + 1488000) σ σ')) := by
  obtain ⟨N, hN, hj⟩ := (lw_bs hl).1
  exact mUN (as := [.ref 0]) (D := 0) rfl hl hN (by omega) (n_givenBack (N := N)  (by omega) (sh rM σ) hj)
theorem m_log {B : Nat} (a1 a2 : Int32) (σ : sm_S) (hB : B < 1500000000) (hl : lw B (bs 168 σ)) : xC xF j_M_log [.ref 168, .int a1, .int a2] σ (sm_I (fun _ σ' => mQ (B + 1488000) σ σ')) := by
  obtain ⟨N, hN, hj⟩ := (lw_bs hl).1
  exact mU (as := [.ref 0, .int a1, .int a2]) (D := 0) rfl hl hN (by omega) (c_log a1 a2 (sh rM σ) hj)
theorem m_count {B : Nat} (a1 : Int32) (σ : sm_S) (hB : B < 1500000000) (hl : lw B (bs 168 σ)) : xC xF j_M_count [.ref 168, .int a1] σ (sm_I (fun _ σ' => mQ (B + 1488000) σ σ')) := by
  obtain ⟨N, hN, hj⟩ := (lw_bs hl).1
  exact mU (as := [.ref 0, .int a1]) (D := 0) rfl hl hN (by omega) (c_count a1 (sh rM σ) hj)
theorem m_look {B : Nat} (a1 : Int32) (σ : sm_S) (hB : B < 1500000000) (hl : lw B (bs 168 σ)) : xC xF j_M_look [.ref 168, .int a1] σ (sm_I (fun _ σ' => mQ (B + 1488000) σ σ')) := by
  obtain ⟨N, hN, hj⟩ := (lw_bs hl).1
  exact mU (as := [.ref 0, .int a1]) (D := 0) rfl hl hN (by omega) (c_look a1 (sh rM σ) hj)
theorem m_set {B : Nat} (a1 a2 : Int32) (σ : sm_S) (hl : lw B (bs 168 σ)) : xC xF j_M_set [.ref 168, .int a1, .int a2] σ (sm_I (fun x σ' => isYes (ansSet a1 a2) x ∧ mQ (B + 1488000) σ σ')) := by
  obtain ⟨N, hN, hj⟩ := (lw_bs hl).1
  exact mUx (as := [.ref 0, .int a1, .int a2]) (P := isYes (ansSet a1 a2)) rfl (fun x τ hx => ⟨hx.1, (lw.pub (lw_bs hl) hN (pub_X hx.2)).up (by omega), pub6 (pub_X hx.2)⟩) (c_set a1 a2 (sh rM σ) hj)
theorem m_home {B : Nat} (a1 a2 : Int32) (σ : sm_S) (hl : lw B (bs 168 σ)) : xC xF j_M_home [.ref 168, .int a1, .int a2] σ (sm_I (fun x σ' => isYes (ansHome a1 a2) x ∧ mQ (B + 1488000) σ σ')) := by
  obtain ⟨N, hN, hj⟩ := (lw_bs hl).1
  exact mUx (as := [.ref 0, .int a1, .int a2]) (P := isYes (ansHome a1 a2)) rfl (fun x τ hx => ⟨hx.1, (lw.pub (lw_bs hl) hN (pub_X hx.2)).up (by omega), pub6 (pub_X hx.2)⟩) (c_home a1 a2 (sh rM σ) hj)
theorem l_imageA {a1 : Int32} : ∀ (d k : Nat) (a2 : Int32) (σ : sm_S), a2.toInt = k → k + d = 2662 → xE xM m_M_image 25 [.ref 0, .int a1, .int a2] [] σ (sm_I (fun x σ' => x = 1 ∧ σ' 0 = σ 0)) := by
  intro d
  induction d with
  | zero =>
    intro k a2 σ h2 hk
    refine w_M_image_25 a1 a2 σ _ ⟨fun _ => ⟨Or.inr rfl, _, rfl, rfl, rfl⟩, fun h => absurd ?_ h⟩
    rw [t_le, h2]
    show (2662 : Int) ≤ _
    omega
  | succ d ih =>
    intro k a2 σ h2 hk
    have h2' : (a2 + 1).toInt = ((k + 1 : Nat) : Int) := by
      rw [t_add h2 (y := 1) rfl (by omega) (by omega)]
      omega
    refine w_M_image_25 a1 a2 σ _ ⟨fun h => ?_, fun _ => ⟨fun _ => ⟨t_vp h2 (by omega), t_vp h2 (by omega), fun σ1 e1 => ?_⟩, fun _ => ⟨t_vp h2 (by omega), t_vp h2 (by omega), fun σ1 e1 => ?_⟩⟩⟩
    · rw [t_le, h2] at h
      have h : (2662 : Int) ≤ k := h
      omega
    · refine (ih (k + 1) (a2 + 1) σ1 h2' (by omega)).mono ?_
      rintro r σ' ⟨x, rfl, hx, e⟩
      exact ⟨x, rfl, hx, by rw [e, e1, s_ne (by decide)]⟩
    · refine (ih (k + 1) (a2 + 1) σ1 h2' (by omega)).mono ?_
      rintro r σ' ⟨x, rfl, hx, e⟩
      exact ⟨x, rfl, hx, by rw [e, e1, s_ne (by decide)]⟩
theorem c_imageA (a1 : Int32) (σ : sm_S) : xC xM j_M_image [.ref 0, .int a1] σ (sm_I (fun x σ' => isYes (a1 ≠ 0 ∨ σ 0 6 ≠ 0) x ∧ (σ' 0 6 ≠ 0 ↔ (a1 ≠ 0 ∨ σ 0 6 ≠ 0)))) := by
  refine w_M_image a1 σ _ (fun σ1 e1 => ⟨fun n1 => ⟨Or.inr rfl, fun σ2 e2 => ?_⟩, fun n1 => ⟨fun n6 => ⟨Or.inr rfl, fun σ2 e2 => ?_⟩, fun n6 => ⟨Or.inl rfl, _, rfl, ?_⟩⟩⟩)
  · refine (l_imageA 2662 0 0 σ2 rfl (Nat.zero_add _)).mono ?_
    rintro r σ' ⟨x, rfl, hx, e⟩
    refine ⟨x, rfl, Or.inl ⟨hx, Or.inl n1⟩, fun _ => Or.inl n1, fun _ => ?_⟩
    rw [e, e2, s_at, u_at]; decide
  · have n6' : σ 0 6 ≠ 0 := by rw [e1, s_at, u_ne (by decide)] at n6; exact n6
    refine (l_imageA 2662 0 0 σ2 rfl (Nat.zero_add _)).mono ?_
    rintro r σ' ⟨x, rfl, hx, e⟩
    refine ⟨x, rfl, Or.inl ⟨hx, Or.inr n6'⟩, fun _ => Or.inr n6', fun _ => ?_⟩
    rw [e, e2, s_at, u_at]; decide
  · have e6 : σ1 0 6 = σ 0 6 := by rw [e1, s_at, u_ne (by decide)]
    have z6 : ¬ (a1 ≠ 0 ∨ σ 0 6 ≠ 0) := fun h => h.elim n1 (fun h => n6 (by rw [e6]; exact h))
    exact ⟨Or.inr ⟨rfl, z6⟩, fun h => absurd h n6, fun h => absurd h z6⟩
theorem m_image {B : Nat} (a1 : Int32) (σ : sm_S) (hl : lw B (bs 168 σ)) : xC xF j_M_image [.ref 168, .int a1] σ (sm_I (fun x σ' => isYes (a1 ≠ 0 ∨ σ 168 6 ≠ 0) x ∧ lw (B + 1488000) (bs 168 σ') ∧ (∀ a, a < 168 ∨ 174 ≤ a → σ' a = σ a) ∧ (σ' 168 6 ≠ 0 ↔ (a1 ≠ 0 ∨ σ 168 6 ≠ 0)))) := by
  refine (x_up shMF (as := [.ref 0, .int a1]) (σ := σ) ((c_image a1 (sh rM σ) (lw_bs hl)).and (c_imageA a1 (sh rM σ)))).mono ?_
  rintro r σ' ⟨r1, τ, rfl, ⟨⟨x, rfl, hx⟩, ⟨y, hy, hi, h6⟩⟩, hs, ho⟩
  cases hy
  have e6 : σ' 168 6 = τ 0 6 := hs.2 0 9 _ 6 1 rfl rfl (by omega)
  exact ⟨x, rfl, hi, (stM hs hx.1).up (by omega), fun a ha => off_out (n := 6) rfl ho (rM_out ha), by rw [e6]; exact h6⟩
/-- what holds between the law's rounds -/
def LQ (B : Nat) (σ : sm_S) : Prop := WW σ ∧ lw B (bs 168 σ) ∧ (σ 42 4 ≠ 0 ↔ σ 168 6 ≠ 0)
theorem lw_off {B : Nat} {σ σ' : sm_S} (h : lw B (bs 168 σ)) (q : ∀ a, 168 ≤ a → σ' a = σ a) : lw B (bs 168 σ') := by
  obtain ⟨⟨N, h1, h2⟩, h3⟩ := h
  refine ⟨⟨N, h1, by show jj N (σ' 169); rw [q 169 (by omega)]; exact h2⟩, fun z => ?_⟩
  have z : σ' 168 6 ≠ 0 := z
  rw [q 168 (by omega)] at z
  obtain ⟨M, m1, m2⟩ := h3 z
  exact ⟨M, m1, by show jj M (σ' 173); rw [q 173 (by omega)]; exact m2⟩
theorem WW_off {σ σ' : sm_S} (h : WW σ) (q : ∀ a, a < 168 → σ' a = σ a) : WW σ' := by
  obtain ⟨h1, h2, h3, h4, h5⟩ := h
  refine ⟨kk_of (fun k hk => q k (by omega)) h1, kl_of (σ := bs 43 σ) (by show σ' 77 5 = σ 77 5; rw [q 77 (by omega)]) h2, kl_of (σ := bs 86 σ) (by show σ' 120 5 = σ 120 5; rw [q 120 (by omega)]) h3, by rw [q 42 (by omega)]; exact h4, fun hn => ?_⟩
  rw [q 42 (by omega)] at hn
  exact kk_of (fun k hk => by show σ' (127 + k) = σ (127 + k); exact q _ (by omega)) (h5 hn)
theorem LQ.a {B : Nat} {σ σ' : sm_S} (h : LQ B σ) (q : AQ σ σ') : LQ B σ' := ⟨q.1, lw_off h.2.1 q.2.1, by rw [q.2.2, q.2.1 168 (by omega)]; exact h.2.2⟩
theorem LQ.m {B B' : Nat} {σ σ' : sm_S} (h : LQ B σ) (q : mQ B' σ σ') : LQ B' σ' := ⟨WW_off h.1 (fun a ha => q.2.1 a (Or.inl ha)), q.1, by rw [q.2.1 42 (by omega), q.2.2]; exact h.2.2⟩
end
