/-! ===== the model: what holds between its calls ===== -/
/-- who waits for block b -/
def ln_ok (w : Nat → Int32) (b : Nat) : Prop := ∃ L o : Nat, (w (786 + 16 * b + 9)).toInt = L ∧ L ≤ 6 ∧ (w (786 + 16 * b + 2)).toInt = o ∧ (0 < L → w (786 + 16 * b + 6) ≠ 0) ∧
  (∀ n, n < L → ∃ t a : Nat, t < 6 ∧ (w (786 + 16 * b + (10 + n))).toInt = t ∧ (w (2322 + 6 * t + 1)).toInt = ((b + 1 : Nat) : Int) ∧ (w (2322 + 6 * t + 3)).toInt = a ∧ a < 2 ^ o) ∧
  ∀ n m, n < m → m < L → w (786 + 16 * b + (10 + n)) ≠ w (786 + 16 * b + (10 + m))
/-- a span: state, shut parts, how far, which block is on its way -/
def sp_ok (w : Nat → Int32) (s : Nat) : Prop := ∃ st pt at' q : Nat, (w (2358 + 8 * s + 0)).toInt = st ∧ st ≤ 3 ∧ (w (2358 + 8 * s + 2)).toInt = pt ∧ pt ≤ 4 ∧ (st = 2 → pt ≤ 3) ∧ (w (2358 + 8 * s + 5)).toInt = at' ∧ at' ≤ 32 ∧ (w (2358 + 8 * s + 6)).toInt = q ∧
  (q = 0 ∨ ∃ b, b < 96 ∧ q = b + 1 ∧ st = 3 ∧ w (786 + 16 * b + 6) ≠ 0 ∧ ∃ fr : Nat, (w (786 + 16 * b + 1)).toInt = fr ∧ fr / 32 = s)
/-- a block on its way is one, and its span knows it -/
def wy_ok (w : Nat → Int32) (b : Nat) : Prop := w (786 + 16 * b + 6) ≠ 0 → w (786 + 16 * b + 0) = 1 ∧ ∃ fr : Nat, (w (786 + 16 * b + 1)).toInt = fr ∧ fr < 256 ∧ (w (2358 + 8 * (fr / 32) + 6)).toInt = ((b + 1 : Nat) : Int)
def z0_ok (w : Nat → Int32) : Prop := ∃ s, s < 8 ∧ w (2358 + 8 * s + 0) = 1 ∧ w (2358 + 8 * s + 1) = 0
def jr (w : Nat → Int32) : Prop := (∀ b, b < 96 → bk_ok w b) ∧ (∀ b, b < 96 → ln_ok w b) ∧ (∀ s, s < 8 → sp_ok w s) ∧ (∀ b, b < 96 → wy_ok w b) ∧ z0_ok w
/-- the cells of which jr speaks -/
def ceq (v v' : Nat → Int32) : Prop := (∀ b k, b < 96 → k < 16 → k ≠ 3 → k ≠ 5 → k ≠ 8 → v' (786 + 16 * b + k) = v (786 + 16 * b + k)) ∧ (∀ t k, t < 6 → (k = 1 ∨ k = 3) → v' (2322 + 6 * t + k) = v (2322 + 6 * t + k)) ∧ ∀ s k, s < 8 → (k = 0 ∨ k = 1 ∨ k = 2 ∨ k = 5 ∨ k = 6) → v' (2358 + 8 * s + k) = v (2358 + 8 * s + k)
theorem ceq.rf {v : Nat → Int32} : ceq v v := ⟨fun _ _ _ _ _ _ _ => rfl, fun _ _ _ _ => rfl, fun _ _ _ _ => rfl⟩
theorem ceq.tr {a b c : Nat → Int32} (h1 : ceq a b) (h2 : ceq b c) : ceq a c :=
  ⟨fun x k g1 g2 g3 g4 g5 => (h2.1 x k g1 g2 g3 g4 g5).trans (h1.1 x k g1 g2 g3 g4 g5), fun x k g1 g2 => (h2.2.1 x k g1 g2).trans (h1.2.1 x k g1 g2), fun x k g1 g2 => (h2.2.2 x k g1 g2).trans (h1.2.2 x k g1 g2)⟩
theorem ceq.of {v v' : Nat → Int32} (h : ∀ i, 786 ≤ i → i < 2422 → v' i = v i) : ceq v v' := ⟨fun b k _ _ _ _ _ => h _ (by omega) (by omega), fun t k _ hk => h _ (by omega) (by omega), fun s k _ hk => h _ (by omega) (by omega)⟩
theorem ceq.fr {v v' : Nat → Int32} (h : fr_eq v v') : ceq v v' := ceq.of (fun i h1 _ => h i (Or.inr h1))
theorem bk_cong {v v' : Nat → Int32} {b : Nat} (h : ∀ k, k < 16 → k ≠ 3 → k ≠ 5 → k ≠ 8 → v' (786 + 16 * b + k) = v (786 + 16 * b + k)) (hb : bk_ok v b) : bk_ok v' b := by
  obtain ⟨o, fr, h1, h2, h3, h4, h5, h6, h7, h8⟩ := hb
  refine ⟨o, fr, ?_, h2, ?_, h4, h5, ?_, ?_, ?_⟩
  · rw [h 2 (by decide) (by decide) (by decide) (by decide)]; exact h1
  · rw [h 1 (by decide) (by decide) (by decide) (by decide)]; exact h3
  · rw [h 4 (by decide) (by decide) (by decide) (by decide)]; exact h6
  · rw [h 6 (by decide) (by decide) (by decide) (by decide)]; exact h7
  · rw [h 7 (by decide) (by decide) (by decide) (by decide)]; exact h8
theorem ln_cong {v v' : Nat → Int32} {b : Nat} (h : ∀ k, k < 16 → k ≠ 3 → k ≠ 5 → k ≠ 8 → v' (786 + 16 * b + k) = v (786 + 16 * b + k)) (ht : ∀ t k, t < 6 → (k = 1 ∨ k = 3) → v' (2322 + 6 * t + k) = v (2322 + 6 * t + k)) (hb : ln_ok v b) : ln_ok v' b := by
  obtain ⟨L, o, h1, h2, h3, h4, h5, h6⟩ := hb
  refine ⟨L, o, ?_, h2, ?_, ?_, fun n hn => ?_, fun n m hnm hm => ?_⟩
  · rw [h 9 (by decide) (by decide) (by decide) (by decide)]; exact h1
  · rw [h 2 (by decide) (by decide) (by decide) (by decide)]; exact h3
  · rw [h 6 (by decide) (by decide) (by decide) (by decide)]; exact h4
  · obtain ⟨t, a, g1, g2, g3, g4, g5⟩ := h5 n hn
    refine ⟨t, a, g1, ?_, ?_, ?_, g5⟩
    · rw [h (10 + n) (by omega) (by omega) (by omega) (by omega)]; exact g2
    · rw [ht t 1 g1 (Or.inl rfl)]; exact g3
    · rw [ht t 3 g1 (Or.inr rfl)]; exact g4
  · rw [h (10 + n) (by omega) (by omega) (by omega) (by omega), h (10 + m) (by omega) (by omega) (by omega) (by omega)]
    exact h6 n m hnm hm
theorem sp_cong {v v' : Nat → Int32} {s : Nat} (hs : s < 8) (h : ceq v v') (hb : sp_ok v s) : sp_ok v' s := by
  obtain ⟨st, pt, at', q, h1, h2, h3, h4, h5, h6, h7, h8, h9⟩ := hb
  refine ⟨st, pt, at', q, ?_, h2, ?_, h4, h5, ?_, h7, ?_, ?_⟩
  · rw [h.2.2 s 0 hs (by omega)]; exact h1
  · rw [h.2.2 s 2 hs (by omega)]; exact h3
  · rw [h.2.2 s 5 hs (by omega)]; exact h6
  · rw [h.2.2 s 6 hs (by omega)]; exact h8
  · rcases h9 with h9 | ⟨b, g1, g2, g3, g4, fr, g5, g6⟩
    · exact Or.inl h9
    · refine Or.inr ⟨b, g1, g2, g3, ?_, fr, ?_, g6⟩
      · rw [h.1 b 6 g1 (by decide) (by decide) (by decide) (by decide)]; exact g4
      · rw [h.1 b 1 g1 (by decide) (by decide) (by decide) (by decide)]; exact g5
theorem wy_cong {v v' : Nat → Int32} {b : Nat} (hb : b < 96) (h : ceq v v') (hw : wy_ok v b) : wy_ok v' b := by
  intro h6
  rw [h.1 b 6 hb (by decide) (by decide) (by decide) (by decide)] at h6
  obtain ⟨h1, fr, h2, h3, h4⟩ := hw h6
  refine ⟨?_, fr, ?_, h3, ?_⟩
  · rw [h.1 b 0 hb (by decide) (by decide) (by decide) (by decide)]; exact h1
  · rw [h.1 b 1 hb (by decide) (by decide) (by decide) (by decide)]; exact h2
  · rw [h.2.2 (fr / 32) 6 (by omega) (by omega)]; exact h4
theorem jr_cong {v v' : Nat → Int32} (h : ceq v v') (hj : jr v) : jr v' := by
  obtain ⟨j1, j2, j3, j4, s, hs, z1, z2⟩ := hj
  refine ⟨fun b hb => bk_cong (fun k g1 g2 g3 g4 => h.1 b k hb g1 g2 g3 g4) (j1 b hb), fun b hb => ln_cong (fun k g1 g2 g3 g4 => h.1 b k hb g1 g2 g3 g4) h.2.1 (j2 b hb), fun s hs => sp_cong hs h (j3 s hs), fun b hb => wy_cong hb h (j4 b hb), s, hs, ?_, ?_⟩
  · rw [h.2.2 s 0 hs (by omega)]; exact z1
  · rw [h.2.2 s 1 hs (by omega)]; exact z2
/-- a change of one cell that jr doesn't speak of -/
theorem ceq_upd {v : Nat → Int32} {i : Nat} {x : Int32} (h : i < 786 ∨ 2422 ≤ i ∨ (∃ b, b < 96 ∧ (i = 786 + 16 * b + 3 ∨ i = 786 + 16 * b + 5 ∨ i = 786 + 16 * b + 8)) ∨ (∃ t, t < 6 ∧ (i = 2322 + 6 * t ∨ i = 2322 + 6 * t + 2 ∨ i = 2322 + 6 * t + 4 ∨ i = 2322 + 6 * t + 5)) ∨ ∃ s, s < 8 ∧ (i = 2358 + 8 * s + 3 ∨ i = 2358 + 8 * s + 4 ∨ i = 2358 + 8 * s + 7)) : ceq v (upd v i x) := by
  refine ⟨fun b k hb hk h3 h5 h8 => u_ne ?_, fun t k ht hk => u_ne ?_, fun s k hs hk => u_ne ?_⟩
  · rcases h with h | h | ⟨c, hc, h⟩ | ⟨c, hc, h⟩ | ⟨c, hc, h⟩ <;> omega
  · rcases h with h | h | ⟨c, hc, h⟩ | ⟨c, hc, h⟩ | ⟨c, hc, h⟩ <;> omega
  · rcases h with h | h | ⟨c, hc, h⟩ | ⟨c, hc, h⟩ | ⟨c, hc, h⟩ <;> omega
/-- the whole of it; n: the lines of the log -/
def jj (n : Nat) (v : Nat → Int32) : Prop := fr_ok v ∧ jr v ∧ (v 5).toInt = n
