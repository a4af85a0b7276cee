/-! ===== the simulation: image on both sides ===== -/
theorem bs_0 (σ : sm_S) : bs 0 σ = σ := by
  funext k
  show σ (0 + k) = σ k
  rw [Nat.zero_add]
theorem a_imageT (a1 : Int32) (σ : sm_S) (h : WW σ) : xC xF j_A_image [.ref 42, .int a1] σ (sm_I (fun _ σ' => (a1 ≠ 0 → eqT σ (bs 127 σ') ∧ ∀ c, c < 127 ∨ 168 ≤ c → c ≠ 42 → σ' c = σ c) ∧ (a1 = 0 → σ 42 4 ≠ 0 → eqT (bs 127 σ) σ' ∧ ∀ c, 41 ≤ c → σ' c = σ c) ∧ (a1 = 0 → σ 42 4 = 0 → σ' = σ))) := by
  have h4 := h.2.2.2.1
  refine f_A_image a1 σ _ ⟨fun z1 => ⟨fun z4 => ⟨h4, _, rfl, fun q => absurd z1 q, fun _ q => absurd z4 q, fun _ _ => rfl⟩, fun n4 => x_both shP5 (by omega) σ (fun σ2 o e => ?_)⟩, fun n1 => x_both shP6 (by omega) σ (fun σ2 o e => ?_)⟩
  · rw [bs_0] at e
    refine ⟨by rw [o 42 (by omega)]; exact h4, _, rfl, fun q => absurd z1 q, fun _ _ => ⟨e, fun c hc => o c (by omega)⟩, fun _ q => absurd q n4⟩
  · rw [bs_0] at e
    refine ⟨Or.inr rfl, fun σ5 e5 => ?_⟩
    have f5 : σ5 42 4 = 1 := by rw [e5, s_at, u_at]
    have g5 : ∀ c, c ≠ 42 → σ5 c = σ2 c := fun c hc => by rw [e5, s_ne hc]
    refine ⟨Or.inr f5, _, rfl, fun _ => ⟨?_, fun c hc hc2 => (g5 c hc2).trans (o c (by omega))⟩, fun q => absurd q n1, fun q => absurd q n1⟩
    have e6 : ∀ k, k < 41 → bs 127 σ5 k = bs 127 σ2 k := fun k hk => g5 (127 + k) (by omega)
    refine ⟨fun k hk i hi => by rw [e6 k hk.1]; exact e.1 k hk i hi, by rw [e6 0 (by omega)]; exact e.2.1, by rw [e6 8 (by omega)]; exact e.2.2.1, by rw [e6 26 (by omega)]; exact e.2.2.2.1, by rw [e6 34 (by omega)]; exact e.2.2.2.2.1, by rw [e6 34 (by omega)]; exact e.2.2.2.2.2⟩
theorem c_imageT (a1 : Int32) (σ : sm_S) : xC xM j_M_image [.ref 0, .int a1] σ (sm_I (fun _ σ' => (a1 ≠ 0 → (∀ i, i < 2662 → σ' 5 i = σ 1 i) ∧ σ' 1 = σ 1) ∧ (a1 = 0 → σ 0 6 ≠ 0 → (∀ i, i < 2662 → σ' 1 i = σ 5 i) ∧ σ' 5 = σ 5) ∧ (a1 = 0 → σ 0 6 = 0 → σ' 1 = σ 1 ∧ σ' 5 = σ 5))) := by
  refine w_M_image a1 σ _ (fun σ1 e1 => ⟨fun n1 => ⟨Or.inr rfl, fun σ2 e2 => ?_⟩, fun n1 => ⟨fun n6 => ⟨Or.inr rfl, fun σ2 e2 => ?_⟩, fun n6 => ⟨Or.inl rfl, _, rfl, ?_⟩⟩⟩)
  · refine (l_imageT n1 2662 0 0 σ2 rfl (Nat.zero_add _)).mono ?_
    rintro r σ' ⟨x, rfl, f, rfl, g1, -⟩
    have e21 : σ2 1 = σ 1 := by rw [e2, s_ne (by decide), e1, s_ne (by decide)]
    refine ⟨x, rfl, fun _ => ⟨fun i hi => by rw [s_at, g1 i (Nat.zero_le i) hi, e21], by rw [s_ne (by decide), e21]⟩, fun q => absurd q n1, fun q => absurd q n1⟩
  · refine (l_imageF n1 2662 0 0 σ2 rfl (Nat.zero_add _)).mono ?_
    rintro r σ' ⟨x, rfl, f, rfl, g1, -⟩
    have e25 : σ2 5 = σ 5 := by rw [e2, s_ne (by decide), e1, s_ne (by decide)]
    rw [e1, s_at, u_ne (by decide)] at n6
    refine ⟨x, rfl, fun q => absurd q n1, fun _ _ => ⟨fun i hi => by rw [s_at, g1 i (Nat.zero_le i) hi, e25], by rw [s_ne (by decide), e25]⟩, fun _ q => absurd q n6⟩
  · rw [e1, s_at, u_ne (by decide)] at n6
    exact ⟨fun q => absurd q n1, fun _ q => absurd q n6, fun _ _ => ⟨by rw [e1, s_ne (by decide)], by rw [e1, s_ne (by decide)]⟩⟩
theorem m_imageT (a1 : Int32) (σ : sm_S) : xC xF j_M_image [.ref 168, .int a1] σ (sm_I (fun _ σ' => (a1 ≠ 0 → (∀ i, i < 2662 → σ' 173 i = σ 169 i) ∧ σ' 169 = σ 169) ∧ (a1 = 0 → σ 168 6 ≠ 0 → (∀ i, i < 2662 → σ' 169 i = σ 173 i) ∧ σ' 173 = σ 173) ∧ (a1 = 0 → σ 168 6 = 0 → σ' 169 = σ 169 ∧ σ' 173 = σ 173))) := by
  have ha : ([.ref 0, .int a1] : List Value).map (sm_cv rM) = [.ref 168, .int a1] := rfl
  rw [← ha]
  refine (x_up shMF (c_imageT a1 (sh rM σ))).mono ?_
  rintro r σ' ⟨r1, τ, rfl, ⟨x, rfl, h1, h2, h3⟩, hs, ho⟩
  have e1 : σ' 169 = τ 1 := hs.1 1 (0, 2662) rfl
  have e5 : σ' 173 = τ 5 := hs.1 5 (0, 2662) rfl
  refine ⟨x, rfl, ?_⟩
  show (a1 ≠ 0 → (∀ i, i < 2662 → σ' 173 i = σ 169 i) ∧ σ' 169 = σ 169) ∧ (a1 = 0 → σ 168 6 ≠ 0 → (∀ i, i < 2662 → σ' 169 i = σ 173 i) ∧ σ' 173 = σ 173) ∧ (a1 = 0 → σ 168 6 = 0 → σ' 169 = σ 169 ∧ σ' 173 = σ 173)
  rw [e1, e5]
  exact ⟨h1, h2, h3⟩
theorem yesE {P : Prop} {x y : Int32} (h1 : isYes P x) (h2 : isYes P y) : x = y := by
  rcases h1 with ⟨e1, h1⟩ | ⟨e1, h1⟩ <;> rcases h2 with ⟨e2, h2⟩ | ⟨e2, h2⟩
  · rw [e1, e2]
  · exact absurd h1 h2
  · exact absurd h2 h1
  · rw [e1, e2]
theorem cl_image {B : Nat} (u : Int32) (σ : sm_S) (h : LR B σ) : two (fun x y => x = y) j_A_image j_M_image [.ref 42, .int u] [.ref 168, .int u] B σ := by
  obtain ⟨hL, ⟨N, hN, ht⟩, him⟩ := h
  refine ((a_image u σ hL.1).and (a_imageT u σ hL.1)).mono ?_
  rintro r0 σ1 ⟨⟨x, e0, hx, hw1, ho1, h42⟩, x2, -, t1, t2, t3⟩
  refine ⟨x, e0, ?_⟩
  have hl1 := lw_off hL.2.1 ho1
  refine ((m_image u σ1 hl1).and (m_imageT u σ1)).mono ?_
  rintro r3 σ2 ⟨⟨y, e3, hy, hl2, ho2, h168⟩, y2, -, s1, s2, s3⟩
  have e168 : σ1 168 6 = σ 168 6 := by rw [ho1 168 (by omega)]
  rw [e168] at h168 hy s2 s3
  have hQ2 : LQ (B + 1488000) σ2 := ⟨WW_off hw1 (fun a ha => ho2 a (Or.inl ha)), hl2, by rw [ho2 42 (by omega), h42, h168, hL.2.2]⟩
  have e169 : σ1 169 = σ 169 := ho1 169 (by omega)
  have e173 : σ1 173 = σ 173 := ho1 173 (by omega)
  rw [e169] at s1 s3
  rw [e173] at s2 s3
  refine ⟨y, e3, yesE hx (by rw [hL.2.2]; exact hy), hQ2, ?_, fun z => ?_⟩
  · by_cases q : u = 0
    · by_cases q4 : σ 42 4 = 0
      · refine ⟨N, by omega, ?_⟩
        rw [(s3 q (Classical.byContradiction (fun w => hL.2.2.mpr w q4))).1]
        refine ht.eq (eqT.of (fun k hk => ?_)) (fun _ _ => rfl)
        rw [ho2 k (by omega), t3 q q4]
      · obtain ⟨N2, hN2, ht2⟩ := him q4
        refine ⟨N2, by omega, ?_⟩
        have w := (s2 q (hL.2.2.mp q4)).1
        refine (ht2.eq (t2 q q4).1 (fun _ _ => rfl)).eq (eqT.of (fun k hk => ho2 k (by omega))) (fun i hi => w i hi)
    · refine ⟨N, by omega, ?_⟩
      rw [(s1 q).2]
      refine ht.eq (eqT.of (fun k hk => ?_)) (fun _ _ => rfl)
      rw [ho2 k (by omega), (t1 q).2 k (by omega) (by omega)]
  · by_cases q : u = 0
    · by_cases q4 : σ 42 4 = 0
      · rw [ho2 42 (by omega), t3 q q4] at z
        exact absurd q4 z
      · obtain ⟨N2, hN2, ht2⟩ := him q4
        refine ⟨N2, by omega, ?_⟩
        rw [(s2 q (hL.2.2.mp q4)).2]
        refine ht2.eq (eqT.of (fun k hk => ?_)) (fun _ _ => rfl)
        show σ2 (127 + k) = σ (127 + k)
        rw [ho2 _ (by omega), (t2 q q4).2 _ (by omega)]
    · refine ⟨N, by omega, ?_⟩
      have w := (s1 q).1
      refine (ht.eq (t1 q).1 (fun _ _ => rfl)).eq (eqT.of (fun k hk => ?_)) (fun i hi => w i hi)
      show σ2 (127 + k) = σ1 (127 + k)
      exact ho2 _ (by omega)
