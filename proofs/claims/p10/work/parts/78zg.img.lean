/-! ===== the simulation: the image ===== -/
theorem q_Y2 (σ : sm_S) : xC xP j_Y_copyFrom [.ref 0, .ref 41] σ (sm_V (fun σ' => cp cpL σ σ' ∧ σ' 26 7 = σ 67 7 ∧ σ' 8 8 = σ 49 8 ∧ σ' 0 7 = σ 41 7)) := by
  refine p_Y_copyFrom σ _ ((q_F σ cp.rf).void ?_)
  rintro σ1 ⟨h1, -⟩
  refine (q_B σ1 h1 rfl).void ?_
  rintro σ2 ⟨h2, e2, -⟩
  refine (q_S σ2 h2).void ?_
  rintro σ3 ⟨h3, o3⟩
  refine (q_K σ3 h3 rfl).void ?_
  rintro σ4 ⟨h4, e4, o4⟩
  refine (q_copy39 _).void ?_
  intro σ5 g5
  have h5 := h4.st (k := 39) (by omega) g5
  refine (q_copy40 _).void ?_
  intro σ6 g6
  have h6 := h5.st (k := 40) (by omega) g6
  intro σ7 e7
  subst e7
  refine ⟨rfl, h6.ob (by omega) rfl, ?_, ?_, ?_⟩
  · obtain ⟨w6, rfl, -⟩ := g6
    obtain ⟨w5, rfl, -⟩ := g5
    rw [s_ne (by decide), s_ne (by decide), s_ne (by decide)]
    exact e4
  · obtain ⟨w6, rfl, -⟩ := g6
    obtain ⟨w5, rfl, -⟩ := g5
    rw [s_ne (by decide), s_ne (by decide), s_ne (by decide), o4 8 (by omega), o3 8 (by omega)]
    exact e2
  · rw [s_at, u_at, h6.2.1 41 (by omega)]
theorem q_L2 (σ : sm_S) : xC xP j_L_copyFrom [.ref 34, .ref 75] σ (sm_V (fun σ' => (∀ k, 35 ≤ k → k ≤ 38 → ∀ i, i < 60 → σ' k i = σ (41 + k) i) ∧ σ' 34 4 = σ 75 4 ∧ σ' 34 5 = σ 75 5 ∧ ∀ k, k < 34 ∨ 38 < k → σ' k = σ k)) := by
  refine p_L_copyFrom σ _ ((q_copy35 _).void ?_)
  rintro σ1 ⟨w1, rfl, g1⟩
  refine (q_copy36 _).void ?_
  rintro σ2 ⟨w2, rfl, g2⟩
  refine (q_copy37 _).void ?_
  rintro σ3 ⟨w3, rfl, g3⟩
  refine (q_copy38 _).void ?_
  rintro σ4 ⟨w4, rfl, g4⟩
  intro σ5 e5 σ6 e6
  subst e5 e6
  refine ⟨rfl, fun k k1 k2 i hi => ?_, ?_, ?_, fun k hk => ?_⟩
  · rcases (show k = 35 ∨ k = 36 ∨ k = 37 ∨ k = 38 by omega) with q | q | q | q
    · subst q
      rw [s_ne (by decide), s_ne (by decide), s_ne (by decide), s_ne (by decide), s_ne (by decide), s_at, g1 i hi]
    · subst q
      rw [s_ne (by decide), s_ne (by decide), s_ne (by decide), s_ne (by decide), s_at, g2 i hi, s_ne (by decide)]
    · subst q
      rw [s_ne (by decide), s_ne (by decide), s_ne (by decide), s_at, g3 i hi, s_ne (by decide), s_ne (by decide)]
    · subst q
      rw [s_ne (by decide), s_ne (by decide), s_at, g4 i hi, s_ne (by decide), s_ne (by decide), s_ne (by decide)]
  · rw [s_at, u_ne (by decide), s_at, u_at, s_ne (by decide), s_ne (by decide), s_ne (by decide), s_ne (by decide)]
  · rw [s_at, u_at, s_ne (by decide), s_ne (by decide), s_ne (by decide), s_ne (by decide), s_ne (by decide)]
  · rw [s_ne (by omega), s_ne (by omega), s_ne (by omega), s_ne (by omega), s_ne (by omega), s_ne (by omega)]
theorem arP {k : Nat} (h : arK k) : ∃ q : Nat × Nat, xP[k]? = some (.inl q) := by
  obtain ⟨h1, h2, h3, h4, h5, h6, h7⟩ := h
  have dec : ∀ k, k < 41 → (k ≠ 0 ∧ k ≠ 1 ∧ k ≠ 8 ∧ k ≠ 17 ∧ k ≠ 26 ∧ k ≠ 34) → (match xP[k]? with | some (.inl _) => true | _ => false) = true := by decide +kernel
  have := dec k h1 ⟨h2, h3, h4, h5, h6, h7⟩
  revert this
  split
  · rename_i q hq
    exact fun _ => ⟨q, hq⟩
  · exact fun z => absurd z (by decide)
theorem arL {k : Nat} (h : arK k) (h2 : k < 34 ∨ 38 < k) : cpL.contains k = true := by
  obtain ⟨h1, h2, h3, h4, h5, h6, h7⟩ := h
  have dec : ∀ k, k < 41 → (k ≠ 0 ∧ k ≠ 1 ∧ k ≠ 8 ∧ k ≠ 17 ∧ k ≠ 26 ∧ k ≠ 34) → (k < 34 ∨ 38 < k) → cpL.contains k = true := by decide +kernel
  exact dec k h1 ⟨h2, h3, h4, h5, h6, h7⟩ (by omega)
theorem x_cpy2 {a b : Nat} (hR : sm_shR (r2 a b) xP xF) (σ : sm_S) : xC xF j_Y_copyFrom [.ref a, .ref b] σ (sm_V (fun σ' => (∀ c, c < a ∨ a + 41 ≤ c → σ' c = σ c) ∧ (∀ k, arK k → (k < 34 ∨ 38 < k) → ∀ i, i < ln k → σ' (a + k) i = σ (b + k) i) ∧ σ' (a + 26) 7 = σ (b + 26) 7 ∧ σ' (a + 8) 8 = σ (b + 8) 8 ∧ σ' (a + 0) 7 = σ (b + 0) 7)) := by
  have e : ([.ref 0, .ref 41] : List Value).map (sm_cv (r2 a b)) = [.ref a, .ref b] := by
    show [Value.ref (r2 a b 0), Value.ref (r2 a b (41 + 0))] = _
    rw [r2_lo (by omega), r2_hi (by omega)]
    rfl
  rw [← e]
  refine (x_up hR (q_Y2 (sh (r2 a b) σ))).mono ?_
  rintro r σ' ⟨r1, τ, rfl, ⟨rfl, h1, h26, h8, h0⟩, hs, ho⟩
  refine ⟨rfl, fun c hc => P_out hs ho (fun k hk => h1.2.1 k hk) hc, fun k hk hk2 i hi => ?_, ?_, ?_, ?_⟩
  · obtain ⟨q, hq⟩ := arP hk
    have e1 : σ' (r2 a b k) = τ k := hs.1 k q hq
    rw [r2_lo hk.1] at e1
    have e2 : τ k i = σ (r2 a b (41 + k)) i := h1.1 k (arL hk hk2) i hi
    rw [r2_hi hk.1] at e2
    rw [e1, e2]
  · have e1 : σ' (r2 a b 26) 7 = τ 26 7 := hs.2 26 6 _ 7 0 rfl rfl (by omega)
    have e2 : τ 26 7 = σ (r2 a b (41 + 26)) 7 := h26
    rw [r2_lo (by omega)] at e1
    rw [r2_hi (by omega)] at e2
    rw [e1, e2]
  · have e1 : σ' (r2 a b 8) 8 = τ 8 8 := hs.2 8 0 _ 8 0 rfl rfl (by omega)
    have e2 : τ 8 8 = σ (r2 a b (41 + 8)) 8 := h8
    rw [r2_lo (by omega)] at e1
    rw [r2_hi (by omega)] at e2
    rw [e1, e2]
  · have e1 : σ' (r2 a b 0) 7 = τ 0 7 := hs.2 0 4 _ 7 0 rfl rfl (by omega)
    have e2 : τ 0 7 = σ (r2 a b (41 + 0)) 7 := h0
    rw [r2_lo (by omega)] at e1
    rw [r2_hi (by omega)] at e2
    rw [e1, e2]
theorem x_cpyL2 {a b : Nat} (hR : sm_shR (r2 a b) xP xF) (σ : sm_S) : xC xF j_L_copyFrom [.ref (a + 34), .ref (b + 34)] σ (sm_V (fun σ' => (∀ c, c < a ∨ a + 41 ≤ c → σ' c = σ c) ∧ (∀ k, 35 ≤ k → k ≤ 38 → ∀ i, i < 60 → σ' (a + k) i = σ (b + k) i) ∧ σ' (a + 34) 4 = σ (b + 34) 4 ∧ σ' (a + 34) 5 = σ (b + 34) 5 ∧ (∀ k, arK k → (k < 34 ∨ 38 < k) → σ' (a + k) = σ (a + k)) ∧ σ' (a + 26) 7 = σ (a + 26) 7 ∧ σ' (a + 8) 8 = σ (a + 8) 8 ∧ σ' (a + 0) 7 = σ (a + 0) 7)) := by
  have e : ([.ref 34, .ref 75] : List Value).map (sm_cv (r2 a b)) = [.ref (a + 34), .ref (b + 34)] := by
    show [Value.ref (r2 a b 34), Value.ref (r2 a b (41 + 34))] = _
    rw [r2_lo (by omega), r2_hi (by omega)]
  rw [← e]
  refine (x_up hR (q_L2 (sh (r2 a b) σ))).mono ?_
  rintro r σ' ⟨r1, τ, rfl, ⟨rfl, h1, h4, h5, h2⟩, hs, ho⟩
  refine ⟨rfl, fun c hc => P_out hs ho (fun k hk => h2 k (by omega)) hc, fun k k1 k2 i hi => ?_, ?_, ?_, fun k hk hk2 => ?_, ?_, ?_, ?_⟩
  · obtain ⟨q, hq⟩ := arP (k := k) (by unfold arK; omega)
    have e1 : σ' (r2 a b k) = τ k := hs.1 k q hq
    rw [r2_lo (by omega)] at e1
    have e2 : τ k i = σ (r2 a b (41 + k)) i := h1 k k1 k2 i hi
    rw [r2_hi (by omega)] at e2
    rw [e1, e2]
  · have e1 : σ' (r2 a b 34) 4 = τ 34 4 := hs.2 34 3 _ 4 0 rfl rfl (by omega)
    have e2 : τ 34 4 = σ (r2 a b (41 + 34)) 4 := h4
    rw [r2_lo (by omega)] at e1
    rw [r2_hi (by omega)] at e2
    rw [e1, e2]
  · have e1 : σ' (r2 a b 34) 5 = τ 34 5 := hs.2 34 3 _ 5 0 rfl rfl (by omega)
    have e2 : τ 34 5 = σ (r2 a b (41 + 34)) 5 := h5
    rw [r2_lo (by omega)] at e1
    rw [r2_hi (by omega)] at e2
    rw [e1, e2]
  · obtain ⟨q, hq⟩ := arP hk
    have e1 : σ' (r2 a b k) = τ k := hs.1 k q hq
    have e2 : τ k = σ (r2 a b k) := h2 k hk2
    rw [r2_lo hk.1] at e1 e2
    rw [e1, e2]
  · have e1 : σ' (r2 a b 26) 7 = τ 26 7 := hs.2 26 6 _ 7 0 rfl rfl (by omega)
    have e2 : τ 26 = σ (r2 a b 26) := h2 26 (by omega)
    rw [r2_lo (by omega)] at e1 e2
    rw [e1, e2]
  · have e1 : σ' (r2 a b 8) 8 = τ 8 8 := hs.2 8 0 _ 8 0 rfl rfl (by omega)
    have e2 : τ 8 = σ (r2 a b 8) := h2 8 (by omega)
    rw [r2_lo (by omega)] at e1 e2
    rw [e1, e2]
  · have e1 : σ' (r2 a b 0) 7 = τ 0 7 := hs.2 0 4 _ 7 0 rfl rfl (by omega)
    have e2 : τ 0 = σ (r2 a b 0) := h2 0 (by omega)
    rw [r2_lo (by omega)] at e1 e2
    rw [e1, e2]
/-- the Memory and its Log are copied -/
theorem x_both {a b : Nat} (hR : sm_shR (r2 a b) xP xF) (hab : b + 41 ≤ a ∨ a + 41 ≤ b) (σ : sm_S) {Q : sm_S → Prop} (k : ∀ σ', (∀ c, c < a ∨ a + 41 ≤ c → σ' c = σ c) → eqT (bs b σ) (bs a σ') → Q σ') : xC xF j_Y_copyFrom [.ref a, .ref b] σ (sm_rv False (fun σ1 => xC xF j_L_copyFrom [.ref (a + 34), .ref (b + 34)] σ1 (sm_rv False Q))) := by
  refine (x_cpy2 hR σ).void ?_
  rintro σ1 ⟨o1, f1, f2, f3, f4⟩
  refine (x_cpyL2 hR σ1).void ?_
  rintro σ2 ⟨o2, g1, g2, g3, g4, g5, g6, g7⟩
  refine k σ2 (fun c hc => (o2 c hc).trans (o1 c hc)) ⟨fun j hj i hi => ?_, g7.trans f4, g6.trans f3, g5.trans f2, ?_, ?_⟩
  · show σ2 (a + j) i = σ (b + j) i
    by_cases q : j < 34 ∨ 38 < j
    · rw [g4 j hj q, f1 j hj q i hi]
    · have hj2 := hj
      unfold arK at hj2
      have l60 : ln j = 60 := by
        rcases (show j = 35 ∨ j = 36 ∨ j = 37 ∨ j = 38 by omega) with w | w | w | w <;> subst w <;> rfl
      rw [g1 j (by omega) (by omega) i (by omega), o1 _ (by omega)]
  · show σ2 (a + 34) 4 = σ (b + 34) 4
    rw [g2, o1 _ (by omega)]
  · show σ2 (a + 34) 5 = σ (b + 34) 5
    rw [g3, o1 _ (by omega)]
