/-! ===== the class: what a call may change ===== -/
def kC : List Nat := [9, 10, 11, 12, 14, 15, 18, 20, 23, 24, 28, 31, 33]
def kx (E : List Nat) (σ σ' : sm_S) : Prop := (∀ k, kC.contains k = true → E.contains k = false → σ' k = σ k) ∧ (E.contains 26 = false → σ' 26 7 = σ 26 7) ∧ σ' 39 0 = σ 39 0 ∧ (kf σ → kf σ') ∧ (kl σ → kl σ')
def okc (E : List Nat) (k : Nat) : Bool := (!(kC.contains k) || E.contains k) && (!(Nat.beq k 6) && (!(Nat.beq k 26) && (!(Nat.beq k 34) && !(Nat.beq k 39))))
theorem kx.rf {E : List Nat} {σ : sm_S} : kx E σ σ := ⟨fun _ _ _ => rfl, fun _ => rfl, rfl, id, id⟩
theorem kx.tr {E : List Nat} {a b c : sm_S} (h1 : kx E a b) (h2 : kx E b c) : kx E a c :=
  ⟨fun k g1 g2 => (h2.1 k g1 g2).trans (h1.1 k g1 g2), fun g => (h2.2.1 g).trans (h1.2.1 g), h2.2.2.1.trans h1.2.2.1, fun h => h2.2.2.2.1 (h1.2.2.2.1 h), fun h => h2.2.2.2.2 (h1.2.2.2.2 h)⟩
theorem kx.up {E E' : List Nat} {a b : sm_S} (h : kx E a b) (hE : ∀ k, E'.contains k = false → E.contains k = false) : kx E' a b :=
  ⟨fun k g1 g2 => h.1 k g1 (hE k g2), fun g => h.2.1 (hE 26 g), h.2.2⟩
theorem kx.o0 {E : List Nat} {a b : sm_S} (h : kx [] a b) : kx E a b := h.up (fun _ _ => rfl)
theorem beq_ne {k j : Nat} (h : (!(Nat.beq k j)) = true) : k ≠ j := by
  rintro rfl
  rw [Nat.beq_refl] at h
  cases h
theorem kx.set {E : List Nat} {σ τ : sm_S} {k : Nat} {f : Nat → Int32} (h : kx E σ τ) (hk : okc E k = true) : kx E σ (sm_set τ k f) := by
  unfold okc at hk
  simp only [Bool.and_eq_true] at hk
  obtain ⟨h1, h6, h26, h34, h39⟩ := hk
  have n6 : 6 ≠ k := (beq_ne h6).symm
  have n26 : 26 ≠ k := (beq_ne h26).symm
  have n34 : 34 ≠ k := (beq_ne h34).symm
  have n39 : 39 ≠ k := (beq_ne h39).symm
  refine ⟨fun j g1 g2 => ?_, fun g => ?_, ?_, fun g => ?_, fun g => ?_⟩
  · by_cases hj : j = k
    · subst hj
      rw [g1, g2] at h1
      cases h1
    · rw [s_ne hj]; exact h.1 j g1 g2
  · rw [s_ne n26]; exact h.2.1 g
  · rw [s_ne n39]; exact h.2.2.1
  · intro f hf
    rw [s_ne n6]
    exact h.2.2.2.1 g f hf
  · obtain ⟨n, q1, q2⟩ := h.2.2.2.2 g
    exact ⟨n, q1, by rw [s_ne n34]; exact q2⟩
theorem kf_upd {σ : sm_S} {k m : Nat} {x : Int32} (h : kf σ) (hm : m ≤ 96) (hx : x.toInt = (m : Int) - 1) : kf (sm_set σ 6 (upd (σ 6) k x)) := by
  intro f hf
  rw [s_at]
  by_cases hfk : f = k
  · subst hfk; exact ⟨m, hm, by rw [u_at]; exact hx⟩
  · rw [u_ne hfk]; exact h f hf
theorem kx.s6 {E : List Nat} {σ τ : sm_S} {k m : Nat} {x : Int32} (h : kx E σ τ) (hE : E.contains 6 = false) (hm : m ≤ 96) (hx : x.toInt = (m : Int) - 1) : kx E σ (sm_set τ 6 (upd (τ 6) k x)) := by
  refine ⟨fun j g1 g2 => ?_, fun g => ?_, ?_, fun g => kf_upd (h.2.2.2.1 g) hm hx, fun g => ?_⟩
  · have hj : j ≠ 6 := by rintro rfl; cases g1
    rw [s_ne hj]; exact h.1 j g1 g2
  · rw [s_ne (by decide)]; exact h.2.1 g
  · rw [s_ne (by decide)]; exact h.2.2.1
  · obtain ⟨n, q1, q2⟩ := h.2.2.2.2 g
    exact ⟨n, q1, by rw [s_ne (by decide)]; exact q2⟩
theorem kx.s34 {E : List Nat} {σ τ : sm_S} {f : Nat → Int32} (h : kx E σ τ) (hf : ∃ n : Nat, n < 60 ∧ (f 5).toInt = n) : kx E σ (sm_set τ 34 f) := by
  refine ⟨fun j g1 g2 => ?_, fun g => ?_, ?_, fun g => ?_, fun g => ?_⟩
  · have hj : j ≠ 34 := by rintro rfl; cases g1
    rw [s_ne hj]; exact h.1 j g1 g2
  · rw [s_ne (by decide)]; exact h.2.1 g
  · rw [s_ne (by decide)]; exact h.2.2.1
  · intro f hf
    rw [s_ne (by decide)]
    exact h.2.2.2.1 g f hf
  · obtain ⟨n, q1, q2⟩ := hf
    exact ⟨n, q1, by rw [s_at]; exact q2⟩
theorem kx.s26 {E : List Nat} {σ τ : sm_S} {f : Nat → Int32} (h : kx E σ τ) (hE : E.contains 26 = true) : kx E σ (sm_set τ 26 f) := by
  refine ⟨fun j g1 g2 => ?_, fun g => ?_, ?_, fun g => ?_, fun g => ?_⟩
  · have hj : j ≠ 26 := by rintro rfl; cases g1
    rw [s_ne hj]; exact h.1 j g1 g2
  · rw [hE] at g; cases g
  · rw [s_ne (by decide)]; exact h.2.2.1
  · intro f hf
    rw [s_ne (by decide)]
    exact h.2.2.2.1 g f hf
  · obtain ⟨n, q1, q2⟩ := h.2.2.2.2 g
    exact ⟨n, q1, by rw [s_ne (by decide)]; exact q2⟩
theorem eb_cong {σ σ' : sm_S} {b f o w : Nat} (h9 : σ' 9 b = σ 9 b) (h10 : σ' 10 b = σ 10 b) (h12 : σ' 12 b = σ 12 b) (h : eb σ b f o w) : eb σ' b f o w := by
  unfold eb
  rw [h9, h10, h12]
  exact h
theorem kb_cong {σ σ' : sm_S} {b : Nat} (h9 : σ' 9 b = σ 9 b) (h10 : σ' 10 b = σ 10 b) (_h11 : σ' 11 b = σ 11 b) (h12 : σ' 12 b = σ 12 b) (h14 : σ' 14 b = σ 14 b) (h15 : σ' 15 b = σ 15 b) (h24 : ∀ s, (σ 24 s).toInt = b → σ' 24 s = σ 24 s) (h : kb σ b) : kb σ' b := by
  rcases h with ⟨g1, g2, g3⟩ | ⟨f, o, w, he, g⟩
  · exact Or.inl ⟨h9.trans g1, h14.trans g2, h15.trans g3⟩
  · refine Or.inr ⟨f, o, w, eb_cong h9 h10 h12 he, ?_⟩
    rcases g with ⟨g1, g2⟩ | ⟨t, c, q1, q2, q3, q4, q5⟩
    · exact Or.inl ⟨h14.trans g1, h15.trans g2⟩
    · exact Or.inr ⟨t, c, by rw [h14]; exact q1, q2, by rw [h15]; exact q3, q4, by rw [h24 _ q5]; exact q5⟩
theorem ks_cong {σ σ' : sm_S} {s : Nat} (h18 : σ' 18 s = σ 18 s) (h20 : σ' 20 s = σ 20 s) (h23 : σ' 23 s = σ 23 s) (h24 : σ' 24 s = σ 24 s) (hb : ∀ b : Nat, b < 96 → (σ 24 s).toInt = b → σ 14 b ≠ -1 → σ' 14 b ≠ -1 ∧ σ' 9 b = σ 9 b) (h : ks σ s) : ks σ' s := by
  obtain ⟨sh, r, g1, g2, g3, g4, g5, g6⟩ := h
  refine ⟨sh, r, by rw [h20]; exact g1, g2, by rw [h18]; exact g3, by rw [h23]; exact g4, g5, ?_⟩
  rcases g6 with g6 | ⟨b, f, q1, q2, q3, q4, q5, q6⟩
  · exact Or.inl (h24.trans g6)
  · obtain ⟨p1, p2⟩ := hb b q1 q2 q4
    exact Or.inr ⟨b, f, q1, by rw [h24]; exact q2, h18.trans q3, p1, by rw [p2]; exact q5, q6⟩
/-- as kt; for block c the way may be over -/
def ktx (c : Nat) (σ : sm_S) : Prop := ∃ L : Nat, (σ 26 7).toInt = L ∧ L ≤ 6 ∧ (∀ k, k < L → ∃ t : Nat, t < 6 ∧ (σ 33 k).toInt = t) ∧ ∀ t, t < 6 → σ 28 t = -1 ∨ ((∃ k, k < L ∧ (σ 33 k).toInt = t) ∧ ∃ b o a : Nat, b < 96 ∧ (σ 28 t).toInt = b ∧ (b = c ∨ σ 14 b ≠ -1) ∧ (σ 10 b).toInt = o ∧ (σ 31 t).toInt = a ∧ a < 2 ^ o)
theorem kt.x {σ : sm_S} {c : Nat} (h : kt σ) : ktx c σ := by
  obtain ⟨L, h1, h2, h3, h4⟩ := h
  refine ⟨L, h1, h2, h3, fun t ht => ?_⟩
  rcases h4 t ht with g | ⟨g1, b, o, a, q1, q2, q3, q4⟩
  · exact Or.inl g
  · exact Or.inr ⟨g1, b, o, a, q1, q2, Or.inr q3, q4⟩
theorem ktx.t {σ : sm_S} {c : Nat} (h : ktx c σ) (hc : ∀ t, t < 6 → (σ 28 t).toInt ≠ c) : kt σ := by
  obtain ⟨L, h1, h2, h3, h4⟩ := h
  refine ⟨L, h1, h2, h3, fun t ht => ?_⟩
  rcases h4 t ht with g | ⟨g1, b, o, a, q1, q2, q3, q4⟩
  · exact Or.inl g
  · exact Or.inr ⟨g1, b, o, a, q1, q2, q3.resolve_left (fun z => hc t ht (by rw [q2, z])), q4⟩
theorem ktx_cong {σ σ' : sm_S} {c c' : Nat} (h26 : σ' 26 7 = σ 26 7) (h28 : σ' 28 = σ 28) (h31 : ∀ t, σ 28 t ≠ -1 → σ' 31 t = σ 31 t) (h33 : σ' 33 = σ 33) (hb : ∀ b, b < 96 → (b = c ∨ σ 14 b ≠ -1) → (b = c' ∨ σ' 14 b ≠ -1) ∧ σ' 10 b = σ 10 b) (h : ktx c σ) : ktx c' σ' := by
  obtain ⟨L, h1, h2, h3, h4⟩ := h
  refine ⟨L, by rw [h26]; exact h1, h2, by rw [h33]; exact h3, fun t ht => ?_⟩
  rw [h28, h33]
  rcases h4 t ht with g | ⟨g1, b, o, a, q1, q2, q3, q4, q5, q6⟩
  · exact Or.inl g
  · obtain ⟨p1, p2⟩ := hb b q1 q3
    exact Or.inr ⟨g1, b, o, a, q1, q2, p1, by rw [p2]; exact q4, by rw [h31 t (ne_m1 q2)]; exact q5, q6⟩
theorem kt_cong {σ σ' : sm_S} (h26 : σ' 26 7 = σ 26 7) (h28 : σ' 28 = σ 28) (h31 : ∀ t, σ 28 t ≠ -1 → σ' 31 t = σ 31 t) (h33 : σ' 33 = σ 33) (hb : ∀ b, b < 96 → σ 14 b ≠ -1 → σ' 14 b ≠ -1 ∧ σ' 10 b = σ 10 b) (h : kt σ) : kt σ' := by
  obtain ⟨L, h1, h2, h3, h4⟩ := h
  refine ⟨L, by rw [h26]; exact h1, h2, by rw [h33]; exact h3, fun t ht => ?_⟩
  rw [h28, h33]
  rcases h4 t ht with g | ⟨g1, b, o, a, q1, q2, q3, q4, q5, q6⟩
  · exact Or.inl g
  · obtain ⟨p1, p2⟩ := hb b q1 q3
    exact Or.inr ⟨g1, b, o, a, q1, q2, p1, by rw [p2]; exact q4, by rw [h31 t (ne_m1 q2)]; exact q5, q6⟩
/-- all but the line -/
def kj (σ : sm_S) : Prop := (∀ b, b < 96 → kb σ b) ∧ (∀ s, s < 8 → ks σ s) ∧ kf σ ∧ kl σ ∧ 0 ≤ (σ 39 0).toInt
theorem kk.j {σ : sm_S} (h : kk σ) : kj σ := ⟨h.1, h.2.1, h.2.2.2⟩
theorem kj.k {σ : sm_S} (h : kj σ) (ht : kt σ) : kk σ := ⟨h.1, h.2.1, ht, h.2.2⟩
theorem kj_id {E : List Nat} {σ σ' : sm_S} (h : kx E σ σ') (hE : E.contains 9 = false ∧ E.contains 10 = false ∧ E.contains 11 = false ∧ E.contains 12 = false ∧ E.contains 14 = false ∧ E.contains 15 = false ∧ E.contains 18 = false ∧ E.contains 20 = false ∧ E.contains 23 = false ∧ E.contains 24 = false) (hk : kj σ) : kj σ' := by
  obtain ⟨e9, e10, e11, e12, e14, e15, e18, e20, e23, e24⟩ := hE
  have g9 := h.1 9 rfl e9
  have g10 := h.1 10 rfl e10
  have g11 := h.1 11 rfl e11
  have g12 := h.1 12 rfl e12
  have g14 := h.1 14 rfl e14
  have g15 := h.1 15 rfl e15
  have g18 := h.1 18 rfl e18
  have g20 := h.1 20 rfl e20
  have g23 := h.1 23 rfl e23
  have g24 := h.1 24 rfl e24
  refine ⟨fun b hb => kb_cong (by rw [g9]) (by rw [g10]) (by rw [g11]) (by rw [g12]) (by rw [g14]) (by rw [g15]) (fun s _ => by rw [g24]) (hk.1 b hb), fun s hs => ks_cong (by rw [g18]) (by rw [g20]) (by rw [g23]) (by rw [g24]) (fun b _ _ hn => ⟨by rw [g14]; exact hn, by rw [g9]⟩) (hk.2.1 s hs), h.2.2.2.1 hk.2.2.1, h.2.2.2.2 hk.2.2.2.1, by rw [h.2.2.1]; exact hk.2.2.2.2⟩
theorem kk_id {σ σ' : sm_S} (h : kx [] σ σ') (hk : kk σ) : kk σ' :=
  (kj_id h ⟨rfl, rfl, rfl, rfl, rfl, rfl, rfl, rfl, rfl, rfl⟩ hk.j).k (kt_cong (h.2.1 rfl) (h.1 28 rfl rfl) (fun _ _ => by rw [h.1 31 rfl rfl]) (h.1 33 rfl rfl) (fun b _ hn => ⟨by rw [h.1 14 rfl rfl]; exact hn, by rw [h.1 10 rfl rfl]⟩) hk.2.2.1)
/-- block b is changed, that isn't on its way, nor is it behind -/
theorem kk_blk {σ σ' : sm_S} {b : Nat} (h : kx [9, 10, 11, 12, 14, 15] σ σ') (hk : kk σ) (h14 : σ 14 b = -1) (ne : ∀ c k, c ≠ b → (k = 9 ∨ k = 10 ∨ k = 11 ∨ k = 12 ∨ k = 14 ∨ k = 15) → σ' k c = σ k c) (hb : b < 96 → kb σ' b) (h14' : σ' 14 b = -1) : kk σ' := by
  have g18 := h.1 18 rfl rfl
  have g20 := h.1 20 rfl rfl
  have g23 := h.1 23 rfl rfl
  have g24 := h.1 24 rfl rfl
  have n14 : ∀ c, σ 14 c ≠ -1 → c ≠ b := fun c hc z => hc (by rw [z]; exact h14)
  refine ⟨fun c hc => ?_, fun s hs => ks_cong (by rw [g18]) (by rw [g20]) (by rw [g23]) (by rw [g24]) (fun c _ _ hn => ⟨by rw [ne c 14 (n14 c hn) (by omega)]; exact hn, ne c 9 (n14 c hn) (by omega)⟩) (hk.2.1 s hs), ?_, h.2.2.2.1 hk.2.2.2.1, h.2.2.2.2 hk.2.2.2.2.1, by rw [h.2.2.1]; exact hk.2.2.2.2.2⟩
  · by_cases hcb : c = b
    · subst hcb; exact hb hc
    · exact kb_cong (ne c 9 hcb (by omega)) (ne c 10 hcb (by omega)) (ne c 11 hcb (by omega)) (ne c 12 hcb (by omega)) (ne c 14 hcb (by omega)) (ne c 15 hcb (by omega)) (fun s _ => by rw [g24]) (hk.1 c hc)
  · exact kt_cong (h.2.1 rfl) (h.1 28 rfl rfl) (fun _ _ => by rw [h.1 31 rfl rfl]) (h.1 33 rfl rfl) (fun c _ hn => ⟨by rw [ne c 14 (n14 c hn) (by omega)]; exact hn, ne c 10 (n14 c hn) (by omega)⟩) hk.2.2.1
theorem kb_c0 {σ : sm_S} {b : Nat} (h : kb σ b) (h14 : σ 14 b = -1) : σ 15 b = 0 := by
  rcases h with g | ⟨f, o, w, -, g | ⟨t, c, q1, -⟩⟩
  · exact g.2.2
  · exact g.2
  · exact absurd h14 (ne_m1 q1)
theorem kk_rem {σ σ' : sm_S} {b : Nat} (hb : b < 96) (h : kx [9] σ σ') (e : σ' 9 = upd (σ 9) b (-1)) (hk : kk σ) (h14 : σ 14 b = -1) : kk σ' := by
  refine kk_blk (h.up (fun k hk => ?_)) hk h14 (fun c k hc hk => ?_) (fun _ => Or.inl ⟨by rw [e, u_at], by rw [h.1 14 rfl rfl]; exact h14, by rw [h.1 15 rfl rfl]; exact kb_c0 (hk.1 b hb) h14⟩) (by rw [h.1 14 rfl rfl]; exact h14)
  · simp only [List.contains_cons, Bool.or_eq_false_iff] at hk ⊢
    exact ⟨hk.1, rfl⟩
  · rcases hk with rfl | rfl | rfl | rfl | rfl | rfl
    · rw [e, u_ne hc]
    · rw [h.1 10 rfl rfl]
    · rw [h.1 11 rfl rfl]
    · rw [h.1 12 rfl rfl]
    · rw [h.1 14 rfl rfl]
    · rw [h.1 15 rfl rfl]
theorem kk_mov {σ σ' : sm_S} {b f o w p : Nat} {x : Int32} (hb : b < 96) (h : kx [9] σ σ') (e : σ' 9 = upd (σ 9) b x) (hx : x.toInt = p) (hp : p + 2 ^ o ≤ 256) (he : eb σ b f o w) (hk : kk σ) (h14 : σ 14 b = -1) : kk σ' := by
  refine kk_blk (h.up (fun k hk => ?_)) hk h14 (fun c k hc hk => ?_) (fun _ => Or.inr ⟨p, o, w, ⟨by rw [e, u_at]; exact hx, by rw [h.1 10 rfl rfl]; exact he.2.1, he.2.2.1, hp, by rw [h.1 12 rfl rfl]; exact he.2.2.2.2.1, he.2.2.2.2.2⟩, Or.inl ⟨by rw [h.1 14 rfl rfl]; exact h14, by rw [h.1 15 rfl rfl]; exact kb_c0 (hk.1 b hb) h14⟩⟩) (by rw [h.1 14 rfl rfl]; exact h14)
  · simp only [List.contains_cons, Bool.or_eq_false_iff] at hk ⊢
    exact ⟨hk.1, rfl⟩
  · rcases hk with rfl | rfl | rfl | rfl | rfl | rfl
    · rw [e, u_ne hc]
    · rw [h.1 10 rfl rfl]
    · rw [h.1 11 rfl rfl]
    · rw [h.1 12 rfl rfl]
    · rw [h.1 14 rfl rfl]
    · rw [h.1 15 rfl rfl]
theorem kk_ord {σ σ' : sm_S} {b f o w q : Nat} {x : Int32} (hb : b < 96) (h : kx [10] σ σ') (e : σ' 10 = upd (σ 10) b x) (hx : x.toInt = q) (hq : q ≤ o) (he : eb σ b f o w) (hk : kk σ) (h14 : σ 14 b = -1) : kk σ' := by
  have hpq := Nat.pow_le_pow_right (n := 2) (by decide) hq
  refine kk_blk (h.up (fun k hk => ?_)) hk h14 (fun c k hc hk => ?_) (fun _ => Or.inr ⟨f, q, w, ⟨by rw [h.1 9 rfl rfl]; exact he.1, by rw [e, u_at]; exact hx, by have := he.2.2.1; omega, by have := he.2.2.2.1; omega, by rw [h.1 12 rfl rfl]; exact he.2.2.2.2.1, he.2.2.2.2.2⟩, Or.inl ⟨by rw [h.1 14 rfl rfl]; exact h14, by rw [h.1 15 rfl rfl]; exact kb_c0 (hk.1 b hb) h14⟩⟩) (by rw [h.1 14 rfl rfl]; exact h14)
  · simp only [List.contains_cons, Bool.or_eq_false_iff] at hk ⊢
    exact ⟨hk.2.1, rfl⟩
  · rcases hk with rfl | rfl | rfl | rfl | rfl | rfl
    · rw [h.1 9 rfl rfl]
    · rw [e, u_ne hc]
    · rw [h.1 11 rfl rfl]
    · rw [h.1 12 rfl rfl]
    · rw [h.1 14 rfl rfl]
    · rw [h.1 15 rfl rfl]
theorem kb_none {σ : sm_S} {b : Nat} (h : kb σ b) (h9 : σ 9 b = -1) : σ 14 b = -1 := by
  rcases h with g | ⟨f, o, w, ⟨e, -⟩, -⟩
  · exact g.2.1
  · exact absurd h9 (ne_m1 e)
/-- a block begins -/
def bgn (b : Nat) (x2 x3 x4 x5 : Int32) (σ σ' : sm_S) : Prop := kx [9, 10, 11, 12, 14, 15] σ σ' ∧ σ' 9 = upd (σ 9) b x2 ∧ σ' 10 = upd (σ 10) b x3 ∧ σ' 11 = upd (σ 11) b x4 ∧ σ' 12 = upd (σ 12) b x5 ∧ σ' 14 = upd (σ 14) b (-1) ∧ σ' 15 = upd (σ 15) b 0
theorem kk_bgn {σ σ' : sm_S} {b p o w : Nat} {x2 x3 x4 x5 : Int32} (hb : b < 96) (h : bgn b x2 x3 x4 x5 σ σ') (h2 : x2.toInt = p) (h3 : x3.toInt = o) (ho : o ≤ 4) (hp : p + 2 ^ o ≤ 256) (h5 : x5.toInt = w) (hw : w < 6) (hk : kk σ) (h9 : σ 9 b = -1) : kk σ' := by
  obtain ⟨h, e9, e10, e11, e12, e14, e15⟩ := h
  refine kk_blk h hk (kb_none (hk.1 b hb) h9) (fun c k hc hk => ?_) (fun _ => Or.inr ⟨p, o, w, ⟨by rw [e9, u_at]; exact h2, by rw [e10, u_at]; exact h3, ho, hp, by rw [e12, u_at]; exact h5, hw⟩, Or.inl ⟨by rw [e14, u_at], by rw [e15, u_at]⟩⟩) (by rw [e14, u_at])
  rcases hk with rfl | rfl | rfl | rfl | rfl | rfl
  · rw [e9, u_ne hc]
  · rw [e10, u_ne hc]
  · rw [e11, u_ne hc]
  · rw [e12, u_ne hc]
  · rw [e14, u_ne hc]
  · rw [e15, u_ne hc]
/-- a span is changed whose block isn't on its way -/
theorem kk_spn {σ σ' : sm_S} {s : Nat} (hs : s < 8) (h : kx [18, 20, 23, 24] σ σ') (hk : kk σ) (ne : ∀ c k, c ≠ s → (k = 18 ∨ k = 20 ∨ k = 23 ∨ k = 24) → σ' k c = σ k c) (h24 : σ 24 s = -1) (h24' : σ' 24 s = -1) (hs' : ∃ sh r : Nat, (σ' 20 s).toInt = sh ∧ sh ≤ 4 ∧ (σ' 18 s ≠ 3 → sh ≤ 3) ∧ (σ' 23 s).toInt = r ∧ r ≤ 64) : kk σ' := by
  have g9 := h.1 9 rfl rfl
  have g10 := h.1 10 rfl rfl
  have g11 := h.1 11 rfl rfl
  have g12 := h.1 12 rfl rfl
  have g14 := h.1 14 rfl rfl
  have g15 := h.1 15 rfl rfl
  refine ⟨fun b hb => kb_cong (by rw [g9]) (by rw [g10]) (by rw [g11]) (by rw [g12]) (by rw [g14]) (by rw [g15]) (fun t ht => ?_) (hk.1 b hb), fun t ht => ?_, kt_cong (h.2.1 rfl) (h.1 28 rfl rfl) (fun _ _ => by rw [h.1 31 rfl rfl]) (h.1 33 rfl rfl) (fun c _ hn => ⟨by rw [g14]; exact hn, by rw [g10]⟩) hk.2.2.1, h.2.2.2.1 hk.2.2.2.1, h.2.2.2.2 hk.2.2.2.2.1, by rw [h.2.2.1]; exact hk.2.2.2.2.2⟩
  · refine ne t 24 (fun z => ?_) (by omega)
    rw [z, h24, m1] at ht
    omega
  · by_cases hts : t = s
    · subst hts
      obtain ⟨sh, r, q1, q2, q3, q4, q5⟩ := hs'
      exact ⟨sh, r, q1, q2, q3, q4, q5, Or.inl h24'⟩
    · exact ks_cong (ne t 18 hts (by omega)) (ne t 20 hts (by omega)) (ne t 23 hts (by omega)) (ne t 24 hts (by omega)) (fun b _ _ hn => ⟨by rw [g14]; exact hn, by rw [g9]⟩) (hk.2.1 t ht)
theorem ks_no {σ : sm_S} {s : Nat} (h : ks σ s) (h3 : σ 18 s ≠ 3) : σ 24 s = -1 := by
  obtain ⟨sh, r, -, -, -, -, -, g⟩ := h
  rcases g with g | ⟨b, f, -, -, q3, -⟩
  · exact g
  · exact absurd q3 h3
/-- a span's state -/
theorem kk_sta {σ σ' : sm_S} {s : Nat} {v : Int32} (hs : s < 8) (h : kx [18] σ σ') (e : σ' 18 = upd (σ 18) s v) (hk : kk σ) (h3 : σ 18 s ≠ 3) (hv : v ≠ 3) : kk σ' := by
  have n24 := ks_no (hk.2.1 s hs) h3
  refine kk_spn hs (h.up (fun k hk => ?_)) hk (fun c k hc hk => ?_) n24 (by rw [h.1 24 rfl rfl]; exact n24) ?_
  · simp only [List.contains_cons, Bool.or_eq_false_iff] at hk ⊢
    exact ⟨hk.1, rfl⟩
  · rcases hk with rfl | rfl | rfl | rfl
    · rw [e, u_ne hc]
    · rw [h.1 20 rfl rfl]
    · rw [h.1 23 rfl rfl]
    · rw [h.1 24 rfl rfl]
  · obtain ⟨sh, r, q1, q2, q3, q4, q5, -⟩ := hk.2.1 s hs
    exact ⟨sh, r, by rw [h.1 20 rfl rfl]; exact q1, q2, fun _ => q3 h3, by rw [h.1 23 rfl rfl]; exact q4, q5⟩
/-- it is over with a span -/
def egn (s : Nat) (v : Int32) (σ σ' : sm_S) : Prop := kx [18, 20, 23, 24] σ σ' ∧ σ' 18 = upd (σ 18) s v ∧ σ' 20 = upd (σ 20) s 0 ∧ σ' 23 = upd (σ 23) s 0 ∧ σ' 24 = upd (σ 24) s (-1)
theorem kk_egn {σ σ' : sm_S} {s : Nat} {v : Int32} (hs : s < 8) (h : egn s v σ σ') (hk : kk σ) (h24 : σ 24 s = -1) : kk σ' := by
  obtain ⟨h, e18, e20, e23, e24⟩ := h
  refine kk_spn hs h hk (fun c k hc hk => ?_) h24 (by rw [e24, u_at]) ⟨0, 0, by rw [e20, u_at]; rfl, by omega, fun _ => by omega, by rw [e23, u_at]; rfl, by omega⟩
  rcases hk with rfl | rfl | rfl | rfl
  · rw [e18, u_ne hc]
  · rw [e20, u_ne hc]
  · rw [e23, u_ne hc]
  · rw [e24, u_ne hc]
/-- how far it is with a span -/
theorem kk_rea {σ σ' : sm_S} {s r : Nat} {v : Int32} (hs : s < 8) (h : kx [23] σ σ') (e : σ' 23 = upd (σ 23) s v) (hv : v.toInt = r) (hr : r ≤ 64) (hk : kk σ) : kk σ' := by
  have g9 := h.1 9 rfl rfl
  have g10 := h.1 10 rfl rfl
  have g14 := h.1 14 rfl rfl
  refine ⟨fun b hb => kb_cong (by rw [g9]) (by rw [g10]) (by rw [h.1 11 rfl rfl]) (by rw [h.1 12 rfl rfl]) (by rw [g14]) (by rw [h.1 15 rfl rfl]) (fun t ht => by rw [h.1 24 rfl rfl]) (hk.1 b hb), fun t ht => ?_, kt_cong (h.2.1 rfl) (h.1 28 rfl rfl) (fun _ _ => by rw [h.1 31 rfl rfl]) (h.1 33 rfl rfl) (fun c _ hn => ⟨by rw [g14]; exact hn, by rw [g10]⟩) hk.2.2.1, h.2.2.2.1 hk.2.2.2.1, h.2.2.2.2 hk.2.2.2.2.1, by rw [h.2.2.1]; exact hk.2.2.2.2.2⟩
  by_cases hts : t = s
  · subst hts
    obtain ⟨sh, r', q1, q2, q3, q4, q5, q6⟩ := hk.2.1 t ht
    refine ⟨sh, r, by rw [h.1 20 rfl rfl]; exact q1, q2, by rw [h.1 18 rfl rfl]; exact q3, by rw [e, u_at]; exact hv, hr, ?_⟩
    rw [h.1 24 rfl rfl, h.1 18 rfl rfl, g14, g9]
    exact q6
  · exact ks_cong (by rw [h.1 18 rfl rfl]) (by rw [h.1 20 rfl rfl]) (by rw [e, u_ne hts]) (by rw [h.1 24 rfl rfl]) (fun b _ _ hn => ⟨by rw [g14]; exact hn, by rw [g9]⟩) (hk.2.1 t ht)
