/-! ===== the class: copies ===== -/
def ln (k : Nat) : Nat := if k ≤ 5 then 8 else if k ≤ 7 then 256 else if k ≤ 16 then 96 else if k ≤ 25 then 8 else if k ≤ 33 then 6 else if k ≤ 38 then 60 else if k = 39 then 4 else 11
def cp (D : List Nat) (σ τ : sm_S) : Prop := (∀ k, D.contains k = true → ∀ i, i < ln k → τ k i = σ (41 + k) i) ∧ (∀ k, 41 ≤ k → τ k = σ k) ∧ ∀ k, 34 ≤ k → k ≤ 38 → τ k = σ k
theorem cp.rf {σ : sm_S} : cp [] σ σ := ⟨fun _ h => (by cases h), fun _ _ => rfl, fun _ _ _ => rfl⟩
theorem cp.st {D : List Nat} {σ τ τ' : sm_S} {k : Nat} (h : cp D σ τ) (hk : k < 34 ∨ (38 < k ∧ k < 41)) (hg : ∃ g, τ' = sm_set τ k g ∧ ∀ i, i < ln k → g i = τ (41 + k) i) : cp (k :: D) σ τ' := by
  obtain ⟨g, rfl, hg⟩ := hg
  refine ⟨fun j hj i hi => ?_, fun j hj => ?_, fun j hj hj2 => ?_⟩
  · by_cases hjk : j = k
    · subst hjk
      rw [s_at, hg i hi, h.2.1 _ (by omega)]
    · rw [s_ne hjk]
      refine h.1 j ?_ i hi
      rw [List.contains_cons, Bool.or_eq_true] at hj
      rcases hj with hj | hj
      · exact absurd (beq_iff_eq.mp hj) hjk
      · exact hj
  · rw [s_ne (by omega)]; exact h.2.1 j hj
  · rw [s_ne (by omega)]; exact h.2.2 j hj hj2
theorem cp.ob {D : List Nat} {σ τ : sm_S} {k : Nat} {f : Nat → Int32} (h : cp D σ τ) (hk : k < 34) (hD : D.contains k = false) : cp D σ (sm_set τ k f) := by
  refine ⟨fun j hj i hi => ?_, fun j hj => ?_, fun j hj hj2 => ?_⟩
  · rw [s_ne (fun z => by rw [z, hD] at hj; cases hj)]
    exact h.1 j hj i hi
  · rw [s_ne (by omega)]; exact h.2.1 j hj
  · rw [s_ne (by omega)]; exact h.2.2 j hj hj2
theorem q_copy2 (σ : sm_S) : xC xP j_R_copy [.ref 43, .ref 2] σ (sm_V (fun σ' => ∃ g, σ' = sm_set σ 2 g ∧ ∀ i, i < ln 2 → g i = σ (41 + 2) i)) := p_copy2 σ _ ⟨by decide, fun σ1 e1 => ⟨rfl, _, e1, fun i hi => sb_cpy0 (n := 8) hi⟩⟩
theorem q_copy3 (σ : sm_S) : xC xP j_R_copy [.ref 44, .ref 3] σ (sm_V (fun σ' => ∃ g, σ' = sm_set σ 3 g ∧ ∀ i, i < ln 3 → g i = σ (41 + 3) i)) := p_copy3 σ _ ⟨by decide, fun σ1 e1 => ⟨rfl, _, e1, fun i hi => sb_cpy0 (n := 8) hi⟩⟩
theorem q_copy4 (σ : sm_S) : xC xP j_R_copy [.ref 45, .ref 4] σ (sm_V (fun σ' => ∃ g, σ' = sm_set σ 4 g ∧ ∀ i, i < ln 4 → g i = σ (41 + 4) i)) := p_copy4 σ _ ⟨by decide, fun σ1 e1 => ⟨rfl, _, e1, fun i hi => sb_cpy0 (n := 8) hi⟩⟩
theorem q_copy5 (σ : sm_S) : xC xP j_R_copy [.ref 46, .ref 5] σ (sm_V (fun σ' => ∃ g, σ' = sm_set σ 5 g ∧ ∀ i, i < ln 5 → g i = σ (41 + 5) i)) := p_copy5 σ _ ⟨by decide, fun σ1 e1 => ⟨rfl, _, e1, fun i hi => sb_cpy0 (n := 8) hi⟩⟩
theorem q_copy6 (σ : sm_S) : xC xP j_R_copy [.ref 47, .ref 6] σ (sm_V (fun σ' => ∃ g, σ' = sm_set σ 6 g ∧ ∀ i, i < ln 6 → g i = σ (41 + 6) i)) := p_copy6 σ _ ⟨by decide, fun σ1 e1 => ⟨rfl, _, e1, fun i hi => sb_cpy0 (n := 256) hi⟩⟩
theorem q_copy7 (σ : sm_S) : xC xP j_R_copy [.ref 48, .ref 7] σ (sm_V (fun σ' => ∃ g, σ' = sm_set σ 7 g ∧ ∀ i, i < ln 7 → g i = σ (41 + 7) i)) := p_copy7 σ _ ⟨by decide, fun σ1 e1 => ⟨rfl, _, e1, fun i hi => sb_cpy0 (n := 256) hi⟩⟩
theorem q_copy9 (σ : sm_S) : xC xP j_R_copy [.ref 50, .ref 9] σ (sm_V (fun σ' => ∃ g, σ' = sm_set σ 9 g ∧ ∀ i, i < ln 9 → g i = σ (41 + 9) i)) := p_copy9 σ _ ⟨by decide, fun σ1 e1 => ⟨rfl, _, e1, fun i hi => sb_cpy0 (n := 96) hi⟩⟩
theorem q_copy10 (σ : sm_S) : xC xP j_R_copy [.ref 51, .ref 10] σ (sm_V (fun σ' => ∃ g, σ' = sm_set σ 10 g ∧ ∀ i, i < ln 10 → g i = σ (41 + 10) i)) := p_copy10 σ _ ⟨by decide, fun σ1 e1 => ⟨rfl, _, e1, fun i hi => sb_cpy0 (n := 96) hi⟩⟩
theorem q_copy11 (σ : sm_S) : xC xP j_R_copy [.ref 52, .ref 11] σ (sm_V (fun σ' => ∃ g, σ' = sm_set σ 11 g ∧ ∀ i, i < ln 11 → g i = σ (41 + 11) i)) := p_copy11 σ _ ⟨by decide, fun σ1 e1 => ⟨rfl, _, e1, fun i hi => sb_cpy0 (n := 96) hi⟩⟩
theorem q_copy12 (σ : sm_S) : xC xP j_R_copy [.ref 53, .ref 12] σ (sm_V (fun σ' => ∃ g, σ' = sm_set σ 12 g ∧ ∀ i, i < ln 12 → g i = σ (41 + 12) i)) := p_copy12 σ _ ⟨by decide, fun σ1 e1 => ⟨rfl, _, e1, fun i hi => sb_cpy0 (n := 96) hi⟩⟩
theorem q_copy13 (σ : sm_S) : xC xP j_R_copy [.ref 54, .ref 13] σ (sm_V (fun σ' => ∃ g, σ' = sm_set σ 13 g ∧ ∀ i, i < ln 13 → g i = σ (41 + 13) i)) := p_copy13 σ _ ⟨by decide, fun σ1 e1 => ⟨rfl, _, e1, fun i hi => sb_cpy0 (n := 96) hi⟩⟩
theorem q_copy14 (σ : sm_S) : xC xP j_R_copy [.ref 55, .ref 14] σ (sm_V (fun σ' => ∃ g, σ' = sm_set σ 14 g ∧ ∀ i, i < ln 14 → g i = σ (41 + 14) i)) := p_copy14 σ _ ⟨by decide, fun σ1 e1 => ⟨rfl, _, e1, fun i hi => sb_cpy0 (n := 96) hi⟩⟩
theorem q_copy15 (σ : sm_S) : xC xP j_R_copy [.ref 56, .ref 15] σ (sm_V (fun σ' => ∃ g, σ' = sm_set σ 15 g ∧ ∀ i, i < ln 15 → g i = σ (41 + 15) i)) := p_copy15 σ _ ⟨by decide, fun σ1 e1 => ⟨rfl, _, e1, fun i hi => sb_cpy0 (n := 96) hi⟩⟩
theorem q_copy16 (σ : sm_S) : xC xP j_R_copy [.ref 57, .ref 16] σ (sm_V (fun σ' => ∃ g, σ' = sm_set σ 16 g ∧ ∀ i, i < ln 16 → g i = σ (41 + 16) i)) := p_copy16 σ _ ⟨by decide, fun σ1 e1 => ⟨rfl, _, e1, fun i hi => sb_cpy0 (n := 96) hi⟩⟩
theorem q_copy18 (σ : sm_S) : xC xP j_R_copy [.ref 59, .ref 18] σ (sm_V (fun σ' => ∃ g, σ' = sm_set σ 18 g ∧ ∀ i, i < ln 18 → g i = σ (41 + 18) i)) := p_copy18 σ _ ⟨by decide, fun σ1 e1 => ⟨rfl, _, e1, fun i hi => sb_cpy0 (n := 8) hi⟩⟩
theorem q_copy19 (σ : sm_S) : xC xP j_R_copy [.ref 60, .ref 19] σ (sm_V (fun σ' => ∃ g, σ' = sm_set σ 19 g ∧ ∀ i, i < ln 19 → g i = σ (41 + 19) i)) := p_copy19 σ _ ⟨by decide, fun σ1 e1 => ⟨rfl, _, e1, fun i hi => sb_cpy0 (n := 8) hi⟩⟩
theorem q_copy20 (σ : sm_S) : xC xP j_R_copy [.ref 61, .ref 20] σ (sm_V (fun σ' => ∃ g, σ' = sm_set σ 20 g ∧ ∀ i, i < ln 20 → g i = σ (41 + 20) i)) := p_copy20 σ _ ⟨by decide, fun σ1 e1 => ⟨rfl, _, e1, fun i hi => sb_cpy0 (n := 8) hi⟩⟩
theorem q_copy21 (σ : sm_S) : xC xP j_R_copy [.ref 62, .ref 21] σ (sm_V (fun σ' => ∃ g, σ' = sm_set σ 21 g ∧ ∀ i, i < ln 21 → g i = σ (41 + 21) i)) := p_copy21 σ _ ⟨by decide, fun σ1 e1 => ⟨rfl, _, e1, fun i hi => sb_cpy0 (n := 8) hi⟩⟩
theorem q_copy22 (σ : sm_S) : xC xP j_R_copy [.ref 63, .ref 22] σ (sm_V (fun σ' => ∃ g, σ' = sm_set σ 22 g ∧ ∀ i, i < ln 22 → g i = σ (41 + 22) i)) := p_copy22 σ _ ⟨by decide, fun σ1 e1 => ⟨rfl, _, e1, fun i hi => sb_cpy0 (n := 8) hi⟩⟩
theorem q_copy23 (σ : sm_S) : xC xP j_R_copy [.ref 64, .ref 23] σ (sm_V (fun σ' => ∃ g, σ' = sm_set σ 23 g ∧ ∀ i, i < ln 23 → g i = σ (41 + 23) i)) := p_copy23 σ _ ⟨by decide, fun σ1 e1 => ⟨rfl, _, e1, fun i hi => sb_cpy0 (n := 8) hi⟩⟩
theorem q_copy24 (σ : sm_S) : xC xP j_R_copy [.ref 65, .ref 24] σ (sm_V (fun σ' => ∃ g, σ' = sm_set σ 24 g ∧ ∀ i, i < ln 24 → g i = σ (41 + 24) i)) := p_copy24 σ _ ⟨by decide, fun σ1 e1 => ⟨rfl, _, e1, fun i hi => sb_cpy0 (n := 8) hi⟩⟩
theorem q_copy25 (σ : sm_S) : xC xP j_R_copy [.ref 66, .ref 25] σ (sm_V (fun σ' => ∃ g, σ' = sm_set σ 25 g ∧ ∀ i, i < ln 25 → g i = σ (41 + 25) i)) := p_copy25 σ _ ⟨by decide, fun σ1 e1 => ⟨rfl, _, e1, fun i hi => sb_cpy0 (n := 8) hi⟩⟩
theorem q_copy27 (σ : sm_S) : xC xP j_R_copy [.ref 68, .ref 27] σ (sm_V (fun σ' => ∃ g, σ' = sm_set σ 27 g ∧ ∀ i, i < ln 27 → g i = σ (41 + 27) i)) := p_copy27 σ _ ⟨by decide, fun σ1 e1 => ⟨rfl, _, e1, fun i hi => sb_cpy0 (n := 6) hi⟩⟩
theorem q_copy28 (σ : sm_S) : xC xP j_R_copy [.ref 69, .ref 28] σ (sm_V (fun σ' => ∃ g, σ' = sm_set σ 28 g ∧ ∀ i, i < ln 28 → g i = σ (41 + 28) i)) := p_copy28 σ _ ⟨by decide, fun σ1 e1 => ⟨rfl, _, e1, fun i hi => sb_cpy0 (n := 6) hi⟩⟩
theorem q_copy29 (σ : sm_S) : xC xP j_R_copy [.ref 70, .ref 29] σ (sm_V (fun σ' => ∃ g, σ' = sm_set σ 29 g ∧ ∀ i, i < ln 29 → g i = σ (41 + 29) i)) := p_copy29 σ _ ⟨by decide, fun σ1 e1 => ⟨rfl, _, e1, fun i hi => sb_cpy0 (n := 6) hi⟩⟩
theorem q_copy30 (σ : sm_S) : xC xP j_R_copy [.ref 71, .ref 30] σ (sm_V (fun σ' => ∃ g, σ' = sm_set σ 30 g ∧ ∀ i, i < ln 30 → g i = σ (41 + 30) i)) := p_copy30 σ _ ⟨by decide, fun σ1 e1 => ⟨rfl, _, e1, fun i hi => sb_cpy0 (n := 6) hi⟩⟩
theorem q_copy31 (σ : sm_S) : xC xP j_R_copy [.ref 72, .ref 31] σ (sm_V (fun σ' => ∃ g, σ' = sm_set σ 31 g ∧ ∀ i, i < ln 31 → g i = σ (41 + 31) i)) := p_copy31 σ _ ⟨by decide, fun σ1 e1 => ⟨rfl, _, e1, fun i hi => sb_cpy0 (n := 6) hi⟩⟩
theorem q_copy32 (σ : sm_S) : xC xP j_R_copy [.ref 73, .ref 32] σ (sm_V (fun σ' => ∃ g, σ' = sm_set σ 32 g ∧ ∀ i, i < ln 32 → g i = σ (41 + 32) i)) := p_copy32 σ _ ⟨by decide, fun σ1 e1 => ⟨rfl, _, e1, fun i hi => sb_cpy0 (n := 6) hi⟩⟩
theorem q_copy33 (σ : sm_S) : xC xP j_R_copy [.ref 74, .ref 33] σ (sm_V (fun σ' => ∃ g, σ' = sm_set σ 33 g ∧ ∀ i, i < ln 33 → g i = σ (41 + 33) i)) := p_copy33 σ _ ⟨by decide, fun σ1 e1 => ⟨rfl, _, e1, fun i hi => sb_cpy0 (n := 6) hi⟩⟩
theorem q_copy35 (σ : sm_S) : xC xP j_R_copy [.ref 76, .ref 35] σ (sm_V (fun σ' => ∃ g, σ' = sm_set σ 35 g ∧ ∀ i, i < ln 35 → g i = σ (41 + 35) i)) := p_copy35 σ _ ⟨by decide, fun σ1 e1 => ⟨rfl, _, e1, fun i hi => sb_cpy0 (n := 60) hi⟩⟩
theorem q_copy36 (σ : sm_S) : xC xP j_R_copy [.ref 77, .ref 36] σ (sm_V (fun σ' => ∃ g, σ' = sm_set σ 36 g ∧ ∀ i, i < ln 36 → g i = σ (41 + 36) i)) := p_copy36 σ _ ⟨by decide, fun σ1 e1 => ⟨rfl, _, e1, fun i hi => sb_cpy0 (n := 60) hi⟩⟩
theorem q_copy37 (σ : sm_S) : xC xP j_R_copy [.ref 78, .ref 37] σ (sm_V (fun σ' => ∃ g, σ' = sm_set σ 37 g ∧ ∀ i, i < ln 37 → g i = σ (41 + 37) i)) := p_copy37 σ _ ⟨by decide, fun σ1 e1 => ⟨rfl, _, e1, fun i hi => sb_cpy0 (n := 60) hi⟩⟩
theorem q_copy38 (σ : sm_S) : xC xP j_R_copy [.ref 79, .ref 38] σ (sm_V (fun σ' => ∃ g, σ' = sm_set σ 38 g ∧ ∀ i, i < ln 38 → g i = σ (41 + 38) i)) := p_copy38 σ _ ⟨by decide, fun σ1 e1 => ⟨rfl, _, e1, fun i hi => sb_cpy0 (n := 60) hi⟩⟩
theorem q_copy39 (σ : sm_S) : xC xP j_R_copy [.ref 80, .ref 39] σ (sm_V (fun σ' => ∃ g, σ' = sm_set σ 39 g ∧ ∀ i, i < ln 39 → g i = σ (41 + 39) i)) := p_copy39 σ _ ⟨by decide, fun σ1 e1 => ⟨rfl, _, e1, fun i hi => sb_cpy0 (n := 4) hi⟩⟩
theorem q_copy40 (σ : sm_S) : xC xP j_R_copy [.ref 81, .ref 40] σ (sm_V (fun σ' => ∃ g, σ' = sm_set σ 40 g ∧ ∀ i, i < ln 40 → g i = σ (41 + 40) i)) := p_copy40 σ _ ⟨by decide, fun σ1 e1 => ⟨rfl, _, e1, fun i hi => sb_cpy0 (n := 11) hi⟩⟩
theorem q_F {D : List Nat} {σ0 : sm_S} (σ : sm_S) (h : cp D σ0 σ) : xC xP j_F_copyFrom [.ref 1, .ref 42] σ (sm_V (fun σ' => cp (7 :: 6 :: 5 :: 4 :: 3 :: 2 :: D) σ0 σ' ∧ ∀ k, k < 2 ∨ 7 < k → σ' k = σ k)) := by
  refine p_F_copyFrom σ _ ?_
  refine (q_copy2 _).void ?_
  intro σ1 g1
  have h1 := h.st (k := 2) (by omega) g1
  refine (q_copy3 _).void ?_
  intro σ2 g2
  have h2 := h1.st (k := 3) (by omega) g2
  refine (q_copy4 _).void ?_
  intro σ3 g3
  have h3 := h2.st (k := 4) (by omega) g3
  refine (q_copy5 _).void ?_
  intro σ4 g4
  have h4 := h3.st (k := 5) (by omega) g4
  refine (q_copy6 _).void ?_
  intro σ5 g5
  have h5 := h4.st (k := 6) (by omega) g5
  refine (q_copy7 _).void ?_
  intro σ6 g6
  have h6 := h5.st (k := 7) (by omega) g6
  refine ⟨rfl, h6, fun k hk => ?_⟩
  obtain ⟨w6, rfl, -⟩ := g6
  obtain ⟨w5, rfl, -⟩ := g5
  obtain ⟨w4, rfl, -⟩ := g4
  obtain ⟨w3, rfl, -⟩ := g3
  obtain ⟨w2, rfl, -⟩ := g2
  obtain ⟨w1, rfl, -⟩ := g1
  rw [s_ne (by omega), s_ne (by omega), s_ne (by omega), s_ne (by omega), s_ne (by omega), s_ne (by omega)]
theorem q_S {D : List Nat} {σ0 : sm_S} (σ : sm_S) (h : cp D σ0 σ) : xC xP j_S_copyFrom [.ref 17, .ref 58] σ (sm_V (fun σ' => cp (25 :: 24 :: 23 :: 22 :: 21 :: 20 :: 19 :: 18 :: D) σ0 σ' ∧ ∀ k, k < 18 ∨ 25 < k → σ' k = σ k)) := by
  refine p_S_copyFrom σ _ ?_
  refine (q_copy18 _).void ?_
  intro σ1 g1
  have h1 := h.st (k := 18) (by omega) g1
  refine (q_copy19 _).void ?_
  intro σ2 g2
  have h2 := h1.st (k := 19) (by omega) g2
  refine (q_copy20 _).void ?_
  intro σ3 g3
  have h3 := h2.st (k := 20) (by omega) g3
  refine (q_copy21 _).void ?_
  intro σ4 g4
  have h4 := h3.st (k := 21) (by omega) g4
  refine (q_copy22 _).void ?_
  intro σ5 g5
  have h5 := h4.st (k := 22) (by omega) g5
  refine (q_copy23 _).void ?_
  intro σ6 g6
  have h6 := h5.st (k := 23) (by omega) g6
  refine (q_copy24 _).void ?_
  intro σ7 g7
  have h7 := h6.st (k := 24) (by omega) g7
  refine (q_copy25 _).void ?_
  intro σ8 g8
  have h8 := h7.st (k := 25) (by omega) g8
  refine ⟨rfl, h8, fun k hk => ?_⟩
  obtain ⟨w8, rfl, -⟩ := g8
  obtain ⟨w7, rfl, -⟩ := g7
  obtain ⟨w6, rfl, -⟩ := g6
  obtain ⟨w5, rfl, -⟩ := g5
  obtain ⟨w4, rfl, -⟩ := g4
  obtain ⟨w3, rfl, -⟩ := g3
  obtain ⟨w2, rfl, -⟩ := g2
  obtain ⟨w1, rfl, -⟩ := g1
  rw [s_ne (by omega), s_ne (by omega), s_ne (by omega), s_ne (by omega), s_ne (by omega), s_ne (by omega), s_ne (by omega), s_ne (by omega)]
theorem q_B {D : List Nat} {σ0 : sm_S} (σ : sm_S) (h : cp D σ0 σ) (hD : D.contains 8 = false) : xC xP j_B_copyFrom [.ref 8, .ref 49] σ (sm_V (fun σ' => cp (16 :: 15 :: 14 :: 13 :: 12 :: 11 :: 10 :: 9 :: D) σ0 σ' ∧ σ' 8 8 = σ0 49 8 ∧ ∀ k, k < 8 ∨ 16 < k → σ' k = σ k)) := by
  refine p_B_copyFrom σ _ ?_
  refine (q_copy9 _).void ?_
  intro σ1 g1
  have h1 := h.st (k := 9) (by omega) g1
  refine (q_copy10 _).void ?_
  intro σ2 g2
  have h2 := h1.st (k := 10) (by omega) g2
  refine (q_copy11 _).void ?_
  intro σ3 g3
  have h3 := h2.st (k := 11) (by omega) g3
  refine (q_copy12 _).void ?_
  intro σ4 g4
  have h4 := h3.st (k := 12) (by omega) g4
  refine (q_copy13 _).void ?_
  intro σ5 g5
  have h5 := h4.st (k := 13) (by omega) g5
  refine (q_copy14 _).void ?_
  intro σ6 g6
  have h6 := h5.st (k := 14) (by omega) g6
  refine (q_copy15 _).void ?_
  intro σ7 g7
  have h7 := h6.st (k := 15) (by omega) g7
  refine (q_copy16 _).void ?_
  intro σ8 g8
  have h8 := h7.st (k := 16) (by omega) g8
  intro σe ee
  subst ee
  refine ⟨rfl, h8.ob (by omega) ?_, ?_, fun k hk => ?_⟩
  · simp only [List.contains_cons, hD]
    rfl
  · rw [s_at, u_at, h8.2.1 49 (by omega)]
  · rw [s_ne (by omega)]
    obtain ⟨w8, rfl, -⟩ := g8
    obtain ⟨w7, rfl, -⟩ := g7
    obtain ⟨w6, rfl, -⟩ := g6
    obtain ⟨w5, rfl, -⟩ := g5
    obtain ⟨w4, rfl, -⟩ := g4
    obtain ⟨w3, rfl, -⟩ := g3
    obtain ⟨w2, rfl, -⟩ := g2
    obtain ⟨w1, rfl, -⟩ := g1
    rw [s_ne (by omega), s_ne (by omega), s_ne (by omega), s_ne (by omega), s_ne (by omega), s_ne (by omega), s_ne (by omega), s_ne (by omega)]
theorem q_K {D : List Nat} {σ0 : sm_S} (σ : sm_S) (h : cp D σ0 σ) (hD : D.contains 26 = false) : xC xP j_K_copyFrom [.ref 26, .ref 67] σ (sm_V (fun σ' => cp (33 :: 32 :: 31 :: 30 :: 29 :: 28 :: 27 :: D) σ0 σ' ∧ σ' 26 7 = σ0 67 7 ∧ ∀ k, k < 26 ∨ 33 < k → σ' k = σ k)) := by
  refine p_K_copyFrom σ _ ?_
  refine (q_copy27 _).void ?_
  intro σ1 g1
  have h1 := h.st (k := 27) (by omega) g1
  refine (q_copy28 _).void ?_
  intro σ2 g2
  have h2 := h1.st (k := 28) (by omega) g2
  refine (q_copy29 _).void ?_
  intro σ3 g3
  have h3 := h2.st (k := 29) (by omega) g3
  refine (q_copy30 _).void ?_
  intro σ4 g4
  have h4 := h3.st (k := 30) (by omega) g4
  refine (q_copy31 _).void ?_
  intro σ5 g5
  have h5 := h4.st (k := 31) (by omega) g5
  refine (q_copy32 _).void ?_
  intro σ6 g6
  have h6 := h5.st (k := 32) (by omega) g6
  refine (q_copy33 _).void ?_
  intro σ7 g7
  have h7 := h6.st (k := 33) (by omega) g7
  intro σe ee
  subst ee
  refine ⟨rfl, h7.ob (by omega) ?_, ?_, fun k hk => ?_⟩
  · simp only [List.contains_cons, hD]
    rfl
  · rw [s_at, u_at, h7.2.1 67 (by omega)]
  · rw [s_ne (by omega)]
    obtain ⟨w7, rfl, -⟩ := g7
    obtain ⟨w6, rfl, -⟩ := g6
    obtain ⟨w5, rfl, -⟩ := g5
    obtain ⟨w4, rfl, -⟩ := g4
    obtain ⟨w3, rfl, -⟩ := g3
    obtain ⟨w2, rfl, -⟩ := g2
    obtain ⟨w1, rfl, -⟩ := g1
    rw [s_ne (by omega), s_ne (by omega), s_ne (by omega), s_ne (by omega), s_ne (by omega), s_ne (by omega), s_ne (by omega)]
def cpL : List Nat := [40, 39, 33, 32, 31, 30, 29, 28, 27, 25, 24, 23, 22, 21, 20, 19, 18, 16, 15, 14, 13, 12, 11, 10, 9, 7, 6, 5, 4, 3, 2]
theorem q_Y (σ : sm_S) : xC xP j_Y_copyFrom [.ref 0, .ref 41] σ (sm_V (fun σ' => cp cpL σ σ' ∧ σ' 26 7 = σ 67 7)) := by
  refine p_Y_copyFrom σ _ ((q_F σ cp.rf).void ?_)
  rintro σ1 ⟨h1, -⟩
  refine (q_B σ1 h1 rfl).void ?_
  rintro σ2 ⟨h2, -, -⟩
  refine (q_S σ2 h2).void ?_
  rintro σ3 ⟨h3, -⟩
  refine (q_K σ3 h3 rfl).void ?_
  rintro σ4 ⟨h4, e4, -⟩
  refine (q_copy39 _).void ?_
  intro σ5 g5
  have h5 := h4.st (k := 39) (by omega) g5
  refine (q_copy40 _).void ?_
  intro σ6 g6
  have h6 := h5.st (k := 40) (by omega) g6
  intro σ7 e7
  subst e7
  refine ⟨rfl, h6.ob (by omega) rfl, ?_⟩
  obtain ⟨w6, rfl, -⟩ := g6
  obtain ⟨w5, rfl, -⟩ := g5
  rw [s_ne (by decide), s_ne (by decide), s_ne (by decide)]
  exact e4
theorem q_L (σ : sm_S) : xC xP j_L_copyFrom [.ref 34, .ref 75] σ (sm_V (fun σ' => σ' 34 5 = σ 75 5 ∧ ∀ k, k < 34 ∨ 38 < k → σ' k = σ k)) := by
  refine p_L_copyFrom σ _ ((q_copy35 _).void ?_)
  rintro σ1 ⟨w1, rfl, -⟩
  refine (q_copy36 _).void ?_
  rintro σ2 ⟨w2, rfl, -⟩
  refine (q_copy37 _).void ?_
  rintro σ3 ⟨w3, rfl, -⟩
  refine (q_copy38 _).void ?_
  rintro σ4 ⟨w4, rfl, -⟩
  intro σ5 e5 σ6 e6
  subst e5 e6
  refine ⟨rfl, ?_, fun k hk => ?_⟩
  · rw [s_at, u_at, s_ne (by decide), s_ne (by decide), s_ne (by decide), s_ne (by decide), s_ne (by decide)]
  · rw [s_ne (by omega), s_ne (by omega), s_ne (by omega), s_ne (by omega), s_ne (by omega), s_ne (by omega)]
/-- what is copied is as what it was copied from -/
theorem cp_keR {σ σ' : sm_S} (h : cp cpL σ σ') (h26 : σ' 26 7 = σ 67 7) : keR (bs 41 σ) σ' :=
  ⟨fun f hf => h.1 6 rfl f hf, fun b hb => ⟨h.1 9 rfl b hb, h.1 10 rfl b hb, h.1 12 rfl b hb, h.1 14 rfl b hb, h.1 15 rfl b hb⟩, fun s hs => ⟨h.1 18 rfl s hs, h.1 20 rfl s hs, h.1 23 rfl s hs, h.1 24 rfl s hs⟩, fun t ht => ⟨h.1 28 rfl t ht, h.1 31 rfl t ht, h.1 33 rfl t ht⟩, h26, h.1 39 rfl 0 (by decide)⟩
theorem stP {ρ : Nat → Nat} {τ σ' : sm_S} (h : sm_stR ρ xP τ σ') : keR τ (sh ρ σ') ∧ (sh ρ σ') 34 5 = τ 34 5 := by
  have arr : ∀ (k : Nat) (q : Nat × Nat), xP[k]? = some (.inl q) → (sh ρ σ') k = τ k := fun k q hk => h.1 k q hk
  refine ⟨⟨fun f _ => by rw [arr 6 (0, 256) rfl], fun b _ => ⟨by rw [arr 9 (0, 96) rfl], by rw [arr 10 (0, 96) rfl], by rw [arr 12 (0, 96) rfl], by rw [arr 14 (0, 96) rfl], by rw [arr 15 (0, 96) rfl]⟩, fun s _ => ⟨by rw [arr 18 (0, 8) rfl], by rw [arr 20 (0, 8) rfl], by rw [arr 23 (0, 8) rfl], by rw [arr 24 (0, 8) rfl]⟩, fun t _ => ⟨by rw [arr 28 (0, 6) rfl], by rw [arr 31 (0, 6) rfl], by rw [arr 33 (0, 6) rfl]⟩, ?_, by rw [arr 39 (0, 4) rfl]⟩, ?_⟩
  · exact h.2 26 6 _ 7 0 rfl rfl (by omega)
  · exact h.2 34 3 _ 5 0 rfl rfl (by omega)
theorem keR.tr {a b c : sm_S} (h1 : keR a b) (h2 : keR b c) : keR a c :=
  ⟨fun f hf => (h2.1 f hf).trans (h1.1 f hf), fun x hx => ⟨(h2.2.1 x hx).1.trans (h1.2.1 x hx).1, (h2.2.1 x hx).2.1.trans (h1.2.1 x hx).2.1, (h2.2.1 x hx).2.2.1.trans (h1.2.1 x hx).2.2.1, (h2.2.1 x hx).2.2.2.1.trans (h1.2.1 x hx).2.2.2.1, (h2.2.1 x hx).2.2.2.2.trans (h1.2.1 x hx).2.2.2.2⟩, fun x hx => ⟨(h2.2.2.1 x hx).1.trans (h1.2.2.1 x hx).1, (h2.2.2.1 x hx).2.1.trans (h1.2.2.1 x hx).2.1, (h2.2.2.1 x hx).2.2.1.trans (h1.2.2.1 x hx).2.2.1, (h2.2.2.1 x hx).2.2.2.trans (h1.2.2.1 x hx).2.2.2⟩, fun x hx => ⟨(h2.2.2.2.1 x hx).1.trans (h1.2.2.2.1 x hx).1, (h2.2.2.2.1 x hx).2.1.trans (h1.2.2.2.1 x hx).2.1, (h2.2.2.2.1 x hx).2.2.trans (h1.2.2.2.1 x hx).2.2⟩, h2.2.2.2.2.1.trans h1.2.2.2.2.1, h2.2.2.2.2.2.trans h1.2.2.2.2.2⟩
theorem r2_lo {a b k : Nat} (h : k < 41) : r2 a b k = a + k := if_pos h
theorem r2_hi {a b k : Nat} (h : k < 41) : r2 a b (41 + k) = b + k := by
  unfold r2
  rw [if_neg (by omega), if_pos (by omega)]
  omega
/-- outside of what is copied to nothing changes -/
theorem P_out {a b : Nat} {σ τ σ' : sm_S} (hs : sm_stR (r2 a b) xP τ σ') (ho : sm_off (r2 a b) xP σ σ') (hτ : ∀ k, 41 ≤ k → τ k = (sh (r2 a b) σ) k) {c : Nat} (hc : c < a ∨ a + 41 ≤ c) : σ' c = σ c := by
  funext i
  by_cases hv : sm_vis (r2 a b) xP c i
  · obtain ⟨k, hk, hv⟩ := hv
    have hk41 : 41 ≤ k := by
      rcases Nat.lt_or_ge k 41 with h | h
      · rw [r2_lo h] at hk; omega
      · exact h
    rcases hv with ⟨q, hq⟩ | ⟨ci, fl, t, f1, f2, f3⟩
    · have := congrFun (hs.1 k q hq) i
      rw [hτ k hk41] at this
      show σ' c i = σ c i
      rw [← hk]
      exact this
    · have := hs.2 k ci fl i t f1 f2 f3
      rw [hτ k hk41] at this
      rw [← hk]
      exact this
  · exact ho c i hv
/-- a Memory is copied -/
theorem x_cpy {a b : Nat} (hR : sm_shR (r2 a b) xP xF) (σ : sm_S) : xC xF j_Y_copyFrom [.ref a, .ref b] σ (sm_V (fun σ' => (∀ c, c < a ∨ a + 41 ≤ c → σ' c = σ c) ∧ keR (bs b σ) (bs a σ') ∧ σ' (a + 34) 5 = σ (a + 34) 5)) := by
  have e : ([.ref 0, .ref 41] : List Value).map (sm_cv (r2 a b)) = [.ref a, .ref b] := by
    show [Value.ref (r2 a b 0), Value.ref (r2 a b (41 + 0))] = _
    rw [r2_lo (by omega), r2_hi (by omega)]
    rfl
  rw [← e]
  refine (x_up hR (q_Y (sh (r2 a b) σ))).mono ?_
  rintro r σ' ⟨r1, τ, rfl, ⟨rfl, h1, h2⟩, hs, ho⟩
  refine ⟨rfl, fun c hc => P_out hs ho (fun k hk => h1.2.1 k hk) hc, ?_, ?_⟩
  · refine keR.tr (b := sh (r2 a b) σ') (keR.tr (keR.tr ?_ (cp_keR h1 h2)) (stP hs).1) ?_
    · exact keR_of (fun k hk => by show σ (r2 a b (41 + k)) = σ (b + k); rw [r2_hi hk])
    · exact keR_of (fun k hk => by show σ' (a + k) = σ' (r2 a b k); rw [r2_lo hk])
  · have := (stP hs).2
    rw [h1.2.2 34 (by omega) (by omega)] at this
    have : σ' (r2 a b 34) 5 = σ (r2 a b 34) 5 := this
    rw [r2_lo (by omega)] at this
    exact this
/-- a Log is copied -/
theorem x_cpyL {a b : Nat} (hR : sm_shR (r2 a b) xP xF) (σ : sm_S) : xC xF j_L_copyFrom [.ref (a + 34), .ref (b + 34)] σ (sm_V (fun σ' => (∀ c, c < a ∨ a + 41 ≤ c → σ' c = σ c) ∧ keR (bs a σ) (bs a σ') ∧ σ' (a + 34) 5 = σ (b + 34) 5)) := by
  have e : ([.ref 34, .ref 75] : List Value).map (sm_cv (r2 a b)) = [.ref (a + 34), .ref (b + 34)] := by
    show [Value.ref (r2 a b 34), Value.ref (r2 a b (41 + 34))] = _
    rw [r2_lo (by omega), r2_hi (by omega)]
  rw [← e]
  refine (x_up hR (q_L (sh (r2 a b) σ))).mono ?_
  rintro r σ' ⟨r1, τ, rfl, ⟨rfl, h1, h2⟩, hs, ho⟩
  refine ⟨rfl, fun c hc => P_out hs ho (fun k hk => h2 k (by omega)) hc, ?_, ?_⟩
  · refine keR.tr (b := sh (r2 a b) σ') (keR.tr (keR.tr (b := sh (r2 a b) σ) ?_ ?_) (stP hs).1) ?_
    · exact keR_of (fun k hk => by show σ (r2 a b k) = σ (a + k); rw [r2_lo hk])
    · exact ⟨fun f _ => by rw [h2 6 (by omega)], fun x _ => ⟨by rw [h2 9 (by omega)], by rw [h2 10 (by omega)], by rw [h2 12 (by omega)], by rw [h2 14 (by omega)], by rw [h2 15 (by omega)]⟩, fun s _ => ⟨by rw [h2 18 (by omega)], by rw [h2 20 (by omega)], by rw [h2 23 (by omega)], by rw [h2 24 (by omega)]⟩, fun t _ => ⟨by rw [h2 28 (by omega)], by rw [h2 31 (by omega)], by rw [h2 33 (by omega)]⟩, by rw [h2 26 (by omega)], by rw [h2 39 (by omega)]⟩
    · exact keR_of (fun k hk => by show σ' (a + k) = σ' (r2 a b k); rw [r2_lo hk])
  · have := (stP hs).2
    rw [h1] at this
    have : σ' (r2 a b 34) 5 = σ (r2 a b (41 + 34)) 5 := this
    rw [r2_lo (by omega), r2_hi (by omega)] at this
    exact this
