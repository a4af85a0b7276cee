/-! ===== the simulation: values, pins, uses, what was read, homes, settings ===== -/
/-- values alone -/
theorem sim0.fv {c c' : sm_S} {v v' : Nat → Int32} (h : sim0 c v) (hk : ∀ b, b < 96 → bk_ok v b) (F' : ∀ f, f < 256 → sF c' v' f) (hc : ∀ k, k < 2 ∨ 7 < k → c' k = c k) (hv : ∀ i, i < 18 ∨ 786 ≤ i → v' i = v i) (hv2 : ∀ i, 18 ≤ i → i < 786 → i % 3 ≠ 2 → v' i = v i) : sim0 c' v' := by
  refine ⟨F', fun b hb => ?_, fun s hs => ?_, fun t ht => ?_, ?_, ?_, ?_⟩
  · exact (h.B b hb).cg (by rw [hc 9 (by omega)]) (by rw [hc 10 (by omega)]) (by rw [hc 11 (by omega)]) (by rw [hc 12 (by omega)]) (by rw [hc 13 (by omega)]) (by rw [hc 14 (by omega)]) (by rw [hc 15 (by omega)]) (by rw [hc 16 (by omega)]) (fun k hk => hv _ (by omega))
  · exact (h.S s hs).cg (fun k h1 h2 => by rw [hc k (by omega)]) (fun k hk => hv _ (by omega))
  · exact (h.T t ht).cg (fun k h1 h2 => by rw [hc k (by omega)]) (fun k hk => hv _ (by omega))
  · obtain ⟨L, hL⟩ := h.Q
    exact ⟨L, hL.cg (by rw [hc 26 (by omega)]) (hc 28 (by omega)) (hc 33 (by omega)) (fun b k h1 h2 h3 => hv _ (by omega))⟩
  · exact h.N.cg (hc 39 (by omega)) (hc 40 (by omega)) (by rw [hc 0 (by omega)]) (by rw [hc 8 (by omega)]) (fun i hi _ => hv i (by omega))
  · exact h.O.cg hv2 (fun b k h1 h2 => hv _ (by omega)) (fun s hs => hv _ (by omega)) hk
/-- blocks' rows alone, but not what frames, lines and spans lean on; and numbers -/
theorem sim0.bv {c c' : sm_S} {v v' : Nat → Int32} (h : sim0 c v) (hk : ∀ b, b < 96 → bk_ok v b) (B' : ∀ b, b < 96 → sB c' v' b) (hN : sN c' v') (hc : ∀ k, 2 ≤ k → k ≤ 33 → (k < 8 ∨ 16 < k) → c' k = c k) (hv : ∀ i, 18 ≤ i → i < 2422 → (i < 786 ∨ 2322 ≤ i) → v' i = v i) (hv2 : ∀ b k, b < 96 → k < 16 → (k = 0 ∨ k = 1 ∨ k = 2 ∨ k = 3 ∨ k = 6 ∨ 9 ≤ k) → v' (786 + 16 * b + k) = v (786 + 16 * b + k)) : sim0 c' v' := by
  refine ⟨fun f hf => ?_, B', fun s hs => ?_, fun t ht => ?_, ?_, hN, ?_⟩
  · exact (h.F f hf).cg (by rw [hc 2 (by omega) (by omega) (by omega)]) (by rw [hc 3 (by omega) (by omega) (by omega)]) (by rw [hc 4 (by omega) (by omega) (by omega)]) (by rw [hc 5 (by omega) (by omega) (by omega)]) (by rw [hc 6 (by omega) (by omega) (by omega)]) (by rw [hc 7 (by omega) (by omega) (by omega)]) (hv _ (by omega) (by omega) (by omega)) (hv _ (by omega) (by omega) (by omega)) (hv _ (by omega) (by omega) (by omega))
  · exact (h.S s hs).cg (fun k h1 h2 => by rw [hc k (by omega) (by omega) (by omega)]) (fun k hk => hv _ (by omega) (by omega) (by omega))
  · exact (h.T t ht).cg (fun k h1 h2 => by rw [hc k (by omega) (by omega) (by omega)]) (fun k hk => hv _ (by omega) (by omega) (by omega))
  · obtain ⟨L, hL⟩ := h.Q
    exact ⟨L, hL.cg (by rw [hc 26 (by omega) (by omega) (by omega)]) (hc 28 (by omega) (by omega) (by omega)) (hc 33 (by omega) (by omega) (by omega)) (fun b k h1 h2 h3 => hv2 b k h1 h3 (by omega))⟩
  · exact h.O.cg (fun i h1 h2 _ => hv i h1 (by omega) (by omega)) (fun b k h1 h2 => hv2 b k h1 (by omega) (by omega)) (fun s hs => hv _ (by omega) (by omega) (by omega)) hk
/-- tasks alone, but not who waits -/
theorem sim0.tv {c c' : sm_S} {v v' : Nat → Int32} (h : sim0 c v) (hk : ∀ b, b < 96 → bk_ok v b) (T' : ∀ t, t < 6 → sT c' v' t) (hc : ∀ k, k < 27 ∨ 32 < k ∨ k = 28 → c' k = c k) (hv : ∀ i, i < 2322 ∨ (2358 ≤ i ∧ i < 2422) → v' i = v i) : sim0 c' v' := by
  refine ⟨fun f hf => ?_, fun b hb => ?_, fun s hs => ?_, T', ?_, ?_, ?_⟩
  · exact (h.F f hf).cg (by rw [hc 2 (by omega)]) (by rw [hc 3 (by omega)]) (by rw [hc 4 (by omega)]) (by rw [hc 5 (by omega)]) (by rw [hc 6 (by omega)]) (by rw [hc 7 (by omega)]) (hv _ (by omega)) (hv _ (by omega)) (hv _ (by omega))
  · exact (h.B b hb).cg (by rw [hc 9 (by omega)]) (by rw [hc 10 (by omega)]) (by rw [hc 11 (by omega)]) (by rw [hc 12 (by omega)]) (by rw [hc 13 (by omega)]) (by rw [hc 14 (by omega)]) (by rw [hc 15 (by omega)]) (by rw [hc 16 (by omega)]) (fun k hk => hv _ (by omega))
  · exact (h.S s hs).cg (fun k h1 h2 => by rw [hc k (by omega)]) (fun k hk => hv _ (by omega))
  · obtain ⟨L, hL⟩ := h.Q
    exact ⟨L, hL.cg (by rw [hc 26 (by omega)]) (hc 28 (by omega)) (hc 33 (by omega)) (fun b k h1 h2 h3 => hv _ (by omega))⟩
  · exact h.N.cg (hc 39 (by omega)) (hc 40 (by omega)) (by rw [hc 0 (by omega)]) (by rw [hc 8 (by omega)]) (fun i hi _ => hv i (by omega))
  · exact h.O.cg (fun i h1 h2 _ => hv i (by omega)) (fun b k h1 h2 => hv _ (by omega)) (fun s hs => hv _ (by omega)) hk
theorem sim_val {c : sm_S} {v : Nat → Int32} {f : Nat} (x : Int32) (h : sim0 c v) (hk : ∀ b, b < 96 → bk_ok v b) (hf : f < 256) : sim0 (sm_set c 7 (upd (c 7) f x)) (upd v (18 + 3 * f + 2) x) := by
  refine h.fv hk (fun f' hf' => ?_) (fun k hk => s_ne (by omega)) (fun i hi => u_ne (by omega)) (fun i h1 h2 h3 => u_ne (by omega))
  have g := h.F f' hf'
  have e0 : upd v (18 + 3 * f + 2) x (18 + 3 * f') = v (18 + 3 * f') := u_ne (by omega)
  have e1 : upd v (18 + 3 * f + 2) x (18 + 3 * f' + 1) = v (18 + 3 * f' + 1) := u_ne (by omega)
  refine ⟨by rw [e0]; exact g.rng, by rw [e0, s_ne (by decide)]; exact g.fre, by rw [e0, s_ne (by decide)]; exact g.apa, by rw [e0, s_ne (by decide)]; exact g.tak, by rw [e0, s_ne (by decide)]; exact g.hel, by rw [e1, s_ne (by decide)]; exact g.blk, ?_⟩
  rw [s_at]
  by_cases q : f' = f
  · subst q
    rw [u_at, u_at]
  · rw [u_ne q, u_ne (by omega)]
    exact g.val
theorem sim_pin {c : sm_S} {v : Nat → Int32} {b : Nat} (x : Int32) (h : sim0 c v) (hk : ∀ b, b < 96 → bk_ok v b) (hb : b < 96) : sim0 (sm_set c 13 (upd (c 13) b x)) (upd v (786 + 16 * b + 5) x) := by
  refine h.bv hk (fun b' hb' => ?_) (h.N.cg (s_ne (by decide)) (s_ne (by decide)) (by rw [s_ne (by decide)]) (by rw [s_ne (by decide)]) (fun i hi _ => u_ne (by omega))) (fun k h1 h2 h3 => s_ne (by omega)) (fun i h1 h2 h3 => u_ne (by omega)) (fun b' k h1 h2 h3 => u_ne (by omega))
  by_cases q : b' = b
  · subst q
    have e : ∀ k, k < 9 → k ≠ 5 → upd v (786 + 16 * b' + 5) x (786 + 16 * b' + k) = v (786 + 16 * b' + k) := fun k _ hk => u_ne (by omega)
    rcases h.B b' hb' with ⟨g1, g2⟩ | ⟨g1, g2, g⟩
    · exact Or.inl ⟨by rw [s_ne (by decide)]; exact g1, by rw [e 0 (by decide) (by decide)]; exact g2⟩
    · exact Or.inr ⟨by rw [s_ne (by decide)]; exact g1, by rw [e 0 (by decide) (by decide)]; exact g2, ⟨by rw [e 1 (by decide) (by decide), s_ne (by decide)]; exact g.fir, by rw [e 2 (by decide) (by decide), s_ne (by decide)]; exact g.ord, by rw [e 3 (by decide) (by decide), s_ne (by decide)]; exact g.kin, by rw [e 4 (by decide) (by decide), s_ne (by decide)]; exact g.own, by rw [u_at, s_at, u_at], by rw [e 6 (by decide) (by decide), s_ne (by decide)]; exact g.tgt, by rw [e 7 (by decide) (by decide), s_ne (by decide)]; exact g.cop, by rw [e 8 (by decide) (by decide), s_ne (by decide)]; exact g.use⟩⟩
  · exact (h.B b' hb').cg (by rw [s_ne (by decide)]) (by rw [s_ne (by decide)]) (by rw [s_ne (by decide)]) (by rw [s_ne (by decide)]) (by rw [s_at, u_ne q]) (by rw [s_ne (by decide)]) (by rw [s_ne (by decide)]) (by rw [s_ne (by decide)]) (fun k hk => u_ne (by omega))
/-- one more use, of block b -/
def usC (c : sm_S) (b : Nat) : sm_S := sm_set (sm_set c 8 (upd (c 8) 8 (c 8 8 + 1))) 16 (upd (c 16) b (c 8 8 + 1))
def usF (v : Nat → Int32) (b : Nat) : Nat → Int32 := upd (upd v 6 (v 6 + 1)) (786 + 16 * b + 8) (v 6 + 1)
theorem sim_use {c : sm_S} {v : Nat → Int32} {b : Nat} (h : sim0 c v) (hk : ∀ b, b < 96 → bk_ok v b) (hb : b < 96) : sim0 (usC c b) (usF v b) := by
  have g0 := h.N
  have e : ∀ i, i ≠ 6 → i ≠ 786 + 16 * b + 8 → usF v b i = v i := fun i h1 h2 => by
    unfold usF
    rw [u_ne h2, u_ne h1]
  have ec : ∀ k, k ≠ 8 → k ≠ 16 → usC c b k = c k := fun k h1 h2 => by
    unfold usC
    rw [s_ne h2, s_ne h1]
  have e6 : usF v b 6 = v 6 + 1 := by
    unfold usF
    rw [u_ne (by omega), u_at]
  have e8 : usF v b (786 + 16 * b + 8) = v 6 + 1 := u_at
  have c8 : usC c b 8 8 = c 8 8 + 1 := rfl
  have c16 : usC c b 16 = upd (c 16) b (c 8 8 + 1) := rfl
  refine h.bv hk (fun b' hb' => ?_) ⟨?_, ?_, ?_, ?_, fun k hk => ?_, ?_, ?_⟩ (fun k h1 h2 h3 => ec k (by omega) (by omega)) (fun i h1 h2 h3 => e i (by omega) (by omega)) (fun b' k h1 h2 h3 => e _ (by omega) (by omega))
  · by_cases q : b' = b
    · subst q
      rcases h.B b' hb' with ⟨g1, g2⟩ | ⟨g1, g2, g⟩
      · exact Or.inl ⟨by rw [ec 9 (by decide) (by decide)]; exact g1, by rw [e _ (by omega) (by omega)]; exact g2⟩
      · exact Or.inr ⟨by rw [ec 9 (by decide) (by decide)]; exact g1, by rw [e _ (by omega) (by omega)]; exact g2, ⟨by rw [e _ (by omega) (by omega), ec 9 (by decide) (by decide)]; exact g.fir, by rw [e _ (by omega) (by omega), ec 10 (by decide) (by decide)]; exact g.ord, by rw [e _ (by omega) (by omega), ec 11 (by decide) (by decide)]; exact g.kin, by rw [e _ (by omega) (by omega), ec 12 (by decide) (by decide)]; exact g.own, by rw [e _ (by omega) (by omega), ec 13 (by decide) (by decide)]; exact g.pin, by rw [e _ (by omega) (by omega), ec 14 (by decide) (by decide)]; exact g.tgt, by rw [e _ (by omega) (by omega), ec 15 (by decide) (by decide)]; exact g.cop, by rw [e8, c16, u_at, g0.use]⟩⟩
    · exact (h.B b' hb').cg (by rw [ec 9 (by decide) (by decide)]) (by rw [ec 10 (by decide) (by decide)]) (by rw [ec 11 (by decide) (by decide)]) (by rw [ec 12 (by decide) (by decide)]) (by rw [ec 13 (by decide) (by decide)]) (by rw [ec 14 (by decide) (by decide)]) (by rw [ec 15 (by decide) (by decide)]) (by rw [c16, u_ne q]) (fun k hk => e _ (by omega) (by omega))
  · rw [ec 39 (by decide) (by decide), e 0 (by decide) (by omega)]; exact g0.rat
  · rw [ec 39 (by decide) (by decide), e 1 (by decide) (by omega)]; exact g0.tri
  · rw [ec 39 (by decide) (by decide), e 2 (by decide) (by omega)]; exact g0.rto
  · rw [ec 39 (by decide) (by decide), e 3 (by decide) (by omega)]; exact g0.pau
  · rw [ec 40 (by decide) (by decide), e (7 + k) (by omega) (by omega)]; exact g0.cnt k hk
  · rw [ec 0 (by decide) (by decide), e 4 (by decide) (by omega)]; exact g0.tic
  · rw [c8, e6, g0.use]
theorem sim_read {c : sm_S} {v : Nat → Int32} {t : Nat} (x : Int32) (h : sim0 c v) (hk : ∀ b, b < 96 → bk_ok v b) (ht : t < 6) : sim0 (sm_set c 29 (upd (c 29) t x)) (upd v (2322 + 6 * t + 5) x) := by
  refine h.tv hk (fun t' ht' => ?_) (fun k hk => s_ne (by omega)) (fun i hi => u_ne (by omega))
  have g := h.T t' ht'
  have e : ∀ k, k < 5 → upd v (2322 + 6 * t + 5) x (2322 + 6 * t' + k) = v (2322 + 6 * t' + k) := fun k hk => u_ne (by omega)
  refine ⟨by rw [e 0 (by decide), s_ne (by decide)]; exact g.hom, by rw [e 1 (by decide), s_ne (by decide)]; exact g.wai, ?_, by rw [e 2 (by decide), s_ne (by decide), s_ne (by decide)]; exact g.wis, by rw [e 3 (by decide), s_ne (by decide), s_ne (by decide)]; exact g.wat, by rw [e 4 (by decide), s_ne (by decide), s_ne (by decide)]; exact g.wva⟩
  rw [s_at]
  by_cases q : t' = t
  · subst q
    rw [u_at, u_at]
  · rw [u_ne q, u_ne (by omega)]
    exact g.rea
theorem sim_home {c : sm_S} {v : Nat → Int32} {t : Nat} (x : Int32) (h : sim0 c v) (hk : ∀ b, b < 96 → bk_ok v b) (ht : t < 6) : sim0 (sm_set c 27 (upd (c 27) t x)) (upd v (2322 + 6 * t + 0) x) := by
  refine h.tv hk (fun t' ht' => ?_) (fun k hk => s_ne (by omega)) (fun i hi => u_ne (by omega))
  have g := h.T t' ht'
  have e : ∀ k, 0 < k → k < 6 → upd v (2322 + 6 * t + 0) x (2322 + 6 * t' + k) = v (2322 + 6 * t' + k) := fun k h1 h2 => u_ne (by omega)
  refine ⟨?_, by rw [e 1 (by decide) (by decide), s_ne (by decide)]; exact g.wai, by rw [e 5 (by decide) (by decide), s_ne (by decide)]; exact g.rea, by rw [e 2 (by decide) (by decide), s_ne (by decide), s_ne (by decide)]; exact g.wis, by rw [e 3 (by decide) (by decide), s_ne (by decide), s_ne (by decide)]; exact g.wat, by rw [e 4 (by decide) (by decide), s_ne (by decide), s_ne (by decide)]; exact g.wva⟩
  rw [s_at]
  by_cases q : t' = t
  · subst q
    rw [u_at, u_at]
  · rw [u_ne q, u_ne (by omega)]
    exact g.hom
/-- what a task wishes who doesn't wait: nobody looks at it -/
theorem sim_wish {c : sm_S} {v : Nat → Int32} {t : Nat} (x y z : Int32) (h : sim0 c v) (hk : ∀ b, b < 96 → bk_ok v b) (ht : t < 6) (hw : c 28 t = -1) : sim0 (sm_set (sm_set (sm_set c 30 (upd (c 30) t x)) 31 (upd (c 31) t y)) 32 (upd (c 32) t z)) v := by
  have ec : ∀ k, k ≠ 30 → k ≠ 31 → k ≠ 32 → sm_set (sm_set (sm_set c 30 (upd (c 30) t x)) 31 (upd (c 31) t y)) 32 (upd (c 32) t z) k = c k := fun k h1 h2 h3 => by rw [s_ne h3, s_ne h2, s_ne h1]
  refine h.tv hk (fun t' ht' => ?_) (fun k hk => ec k (by omega) (by omega) (by omega)) (fun i hi => rfl)
  have g := h.T t' ht'
  have k30 : sm_set (sm_set (sm_set c 30 (upd (c 30) t x)) 31 (upd (c 31) t y)) 32 (upd (c 32) t z) 30 = upd (c 30) t x := rfl
  have k31 : sm_set (sm_set (sm_set c 30 (upd (c 30) t x)) 31 (upd (c 31) t y)) 32 (upd (c 32) t z) 31 = upd (c 31) t y := rfl
  have k32 : sm_set (sm_set (sm_set c 30 (upd (c 30) t x)) 31 (upd (c 31) t y)) 32 (upd (c 32) t z) 32 = upd (c 32) t z := rfl
  refine ⟨by rw [ec 27 (by decide) (by decide) (by decide)]; exact g.hom, by rw [ec 28 (by decide) (by decide) (by decide)]; exact g.wai, by rw [ec 29 (by decide) (by decide) (by decide)]; exact g.rea, fun q => ?_, fun q => ?_, fun q => ?_⟩
  all_goals
    rw [ec 28 (by decide) (by decide) (by decide)] at q
    have ne : t' ≠ t := fun r => q (by rw [r]; exact hw)
  · rw [k30, u_ne ne]; exact g.wis q
  · rw [k31, u_ne ne]; exact g.wat q
  · rw [k32, u_ne ne]; exact g.wva q
