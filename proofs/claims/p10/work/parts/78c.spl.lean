/-! ===== the simulation: a block is split ===== -/
/-- a number that was none's: its line is empty -/
theorem sQ.new {c c' : sm_S} {v v' : Nat → Int32} {L n : Nat} (q : sQ c v L) (h26 : c' 26 = c 26) (h28 : c' 28 = c 28) (h33 : c' 33 = c 33) (h9 : v (786 + 16 * n + 9) = 0) (h9' : v' (786 + 16 * n + 9) = 0) (e : ∀ b k, b < 96 → b ≠ n → 9 ≤ k → k < 16 → v' (786 + 16 * b + k) = v (786 + 16 * b + k)) : sQ c' v' L := by
  have hl : lnC c' L = lnC c L := lnC_cg (fun k _ => by rw [h33])
  refine ⟨by rw [h26]; exact q.len, q.le6, by rw [h28, h33]; exact q.tsk, by rw [hl]; exact q.nod, by rw [h28, h33]; exact q.all, fun b hb => ?_⟩
  obtain ⟨m, g1, g2⟩ := q.lin b hb
  by_cases z : b = n
  · subst z
    rw [h9] at g1
    have g1 : (0 : Int) = (m : Int) := g1
    have e0 : m = 0 := by omega
    subst e0
    refine ⟨0, by rw [h9']; rfl, ?_⟩
    rw [hl, h28]
    exact g2
  · have hm := (q.m_le hb g1).1
    have := q.le6
    refine ⟨m, by rw [e b 9 hb z (by decide) (by decide)]; exact g1, ?_⟩
    rw [lnV_cg (fun k hk => e b (10 + k) hb z (by omega) (by omega)), hl, h28]
    exact g2
def spF (v : Nat → Int32) (n m mid o : Nat) (mI x2 x3 : Int32) : Nat → Int32 := hsF (blF (upd v (786 + 16 * n + 2) x3) m x2 x3 (v (786 + 16 * n + 3)) (v (786 + 16 * n + 4)) (v (786 + 16 * n + 8))) mid (2 ^ o) 3 (mI + 1)
theorem spF_o {v : Nat → Int32} {n m mid o i : Nat} {mI x2 x3 : Int32} (h1 : i < 18 + 3 * mid ∨ 18 + 3 * (mid + 2 ^ o) ≤ i) (h2 : i ≠ 786 + 16 * n + 2) (h3 : i < 786 + 16 * m ∨ 786 + 16 * m + 16 ≤ i) : spF v n m mid o mI x2 x3 i = v i := by
  unfold spF
  rw [hsF_out h1, blF_out h3, u_ne h2]
def spC (c : sm_S) (n m mid o : Nat) (mI x2 x3 : Int32) : sm_S := sm_set (cmC (sm_set c 10 (upd (c 10) n x3)) m x2 x3 (c 11 n) (c 12 n) (c 16 n)) 6 (rg (c 6) mid (2 ^ o) mI)
theorem sim_split {c : sm_S} {v : Nat → Int32} {n m fr o : Nat} {mI x2 x3 : Int32} (h : sim0 c v) (hk : ∀ b, b < 96 → bk_ok v b) (hn : n < 96) (hm : m < 96) (h0 : v (786 + 16 * n + 0) = 1) (h1 : (v (786 + 16 * n + 1)).toInt = fr) (h2 : (v (786 + 16 * n + 2)).toInt = ((o + 1 : Nat) : Int)) (h6 : v (786 + 16 * n + 6) = 0) (m0 : v (786 + 16 * m + 0) = 0) (m9 : v (786 + 16 * m + 9) = 0) (ho : o ≤ 3) (hmI : mI.toInt = m) (hx2 : x2.toInt = ((fr + 2 ^ o : Nat) : Int)) (hx3 : x3.toInt = o) : sim0 (spC c n m (fr + 2 ^ o) o mI x2 x3) (spF v n m (fr + 2 ^ o) o mI x2 x3) := by
  obtain ⟨ob, frb, b1, b2, b3, b4, b5, -⟩ := hk n hn
  have eo : ob = o + 1 := by omega
  have ef : frb = fr := by omega
  subst eo ef
  have hle := al_le b2 b4 b5
  have pw : 2 ^ (o + 1) = 2 ^ o + 2 ^ o := by rw [Nat.pow_succ]; omega
  rw [pw] at hle
  have hp := t_pw (k := o) (by omega)
  have nm : m ≠ n := fun e => by
    subst e
    rw [m0] at h0
    exact absurd h0 (by decide)
  have hm1 : (mI + 1).toInt = ((m + 1 : Nat) : Int) := by
    rw [t_add hmI (y := 1) rfl (by omega) (by omega)]
    omega
  have own3 := h.O.hs n frb (o + 1) hn h0 h1 h2
  have in3 : ∀ f, frb ≤ f → f < frb + 2 ^ o + 2 ^ o → v (18 + 3 * f) = 3 ∧ (v (18 + 3 * f + 1)).toInt = ((n + 1 : Nat) : Int) := fun f a1 a2 => by
    have := own3 (f - frb) (by omega)
    rw [show frb + (f - frb) = f by omega] at this
    exact this
  obtain ⟨gb, gb9⟩ := (h.B n hn).al h0
  have co : ∀ k, k ≠ 6 → (k < 9 ∨ 16 < k) → spC c n m (frb + 2 ^ o) o mI x2 x3 k = c k := fun k a1 a2 => by
    unfold spC
    rw [s_ne a1, cmC_o a2, s_ne (by omega)]
  have c6 : spC c n m (frb + 2 ^ o) o mI x2 x3 6 = rg (c 6) (frb + 2 ^ o) (2 ^ o) mI := rfl
  have c9 : spC c n m (frb + 2 ^ o) o mI x2 x3 9 = upd (c 9) m x2 := rfl
  have c10 : spC c n m (frb + 2 ^ o) o mI x2 x3 10 = upd (upd (c 10) n x3) m x3 := rfl
  have c11 : spC c n m (frb + 2 ^ o) o mI x2 x3 11 = upd (c 11) m (c 11 n) := rfl
  have c12 : spC c n m (frb + 2 ^ o) o mI x2 x3 12 = upd (c 12) m (c 12 n) := rfl
  have c13 : spC c n m (frb + 2 ^ o) o mI x2 x3 13 = upd (c 13) m 0 := rfl
  have c14 : spC c n m (frb + 2 ^ o) o mI x2 x3 14 = upd (c 14) m (-1) := rfl
  have c15 : spC c n m (frb + 2 ^ o) o mI x2 x3 15 = upd (c 15) m 0 := rfl
  have c16 : spC c n m (frb + 2 ^ o) o mI x2 x3 16 = upd (c 16) m (c 16 n) := rfl
  obtain ⟨r0, r1, r2, r3, r4, r8⟩ := blF_0 (v := upd v (786 + 16 * n + 2) x3) (n := m) (a2 := x2) (a3 := x3) (a4 := v (786 + 16 * n + 3)) (a5 := v (786 + 16 * n + 4)) (a6 := v (786 + 16 * n + 8))
  have hi : ∀ i, 786 ≤ i → spF v n m (frb + 2 ^ o) o mI x2 x3 i = blF (upd v (786 + 16 * n + 2) x3) m x2 x3 (v (786 + 16 * n + 3)) (v (786 + 16 * n + 4)) (v (786 + 16 * n + 8)) i := fun i a => hsF_out (by omega)
  have rn : ∀ k, k < 16 → k ≠ 2 → spF v n m (frb + 2 ^ o) o mI x2 x3 (786 + 16 * n + k) = v (786 + 16 * n + k) := fun k a1 a2 => spF_o (by omega) (by omega) (by omega)
  have rn2 : spF v n m (frb + 2 ^ o) o mI x2 x3 (786 + 16 * n + 2) = x3 := by
    rw [hi _ (by omega), blF_out (by omega), u_at]
  have inn : ∀ f, (frb + 2 ^ o ≤ f ∧ f < frb + 2 ^ o + 2 ^ o) → spF v n m (frb + 2 ^ o) o mI x2 x3 (18 + 3 * f) = 3 ∧ spF v n m (frb + 2 ^ o) o mI x2 x3 (18 + 3 * f + 1) = mI + 1 ∧ spF v n m (frb + 2 ^ o) o mI x2 x3 (18 + 3 * f + 2) = v (18 + 3 * f + 2) := fun f a => by
    obtain ⟨q0, q1, q2⟩ := hsF_in (v := blF (upd v (786 + 16 * n + 2) x3) m x2 x3 (v (786 + 16 * n + 3)) (v (786 + 16 * n + 4)) (v (786 + 16 * n + 8))) (s := 3) (x := mI + 1) a.1 a.2
    refine ⟨q0, q1, ?_⟩
    unfold spF
    rw [q2, blF_out (by omega), u_ne (by omega)]
  have out0 : ∀ f, f < 256 → ¬ (frb + 2 ^ o ≤ f ∧ f < frb + 2 ^ o + 2 ^ o) → spF v n m (frb + 2 ^ o) o mI x2 x3 (18 + 3 * f) = v (18 + 3 * f) ∧ spF v n m (frb + 2 ^ o) o mI x2 x3 (18 + 3 * f + 1) = v (18 + 3 * f + 1) ∧ spF v n m (frb + 2 ^ o) o mI x2 x3 (18 + 3 * f + 2) = v (18 + 3 * f + 2) := fun f a1 a2 => ⟨spF_o (by omega) (by omega) (by omega), spF_o (by omega) (by omega) (by omega), spF_o (by omega) (by omega) (by omega)⟩
  refine ⟨fun f hf => ?_, fun b hb => ?_, fun s hs => ?_, fun t ht => ?_, ?_, ?_, ?_⟩
  · have g := h.F f hf
    by_cases z : frb + 2 ^ o ≤ f ∧ f < frb + 2 ^ o + 2 ^ o
    · obtain ⟨q0, q1, q2⟩ := inn f z
      have s3 := (in3 f (by omega) (by omega)).1
      refine ⟨by rw [q0]; decide, ?_, ?_, ?_, ?_, ?_, ?_⟩
      · rw [q0, co 2 (by decide) (by decide), ← s3]; exact g.fre
      · rw [q0, co 3 (by decide) (by decide), ← s3]; exact g.apa
      · rw [q0, co 4 (by decide) (by decide), g.tak, s3]
      · rw [q0, co 5 (by decide) (by decide), ← s3]; exact g.hel
      · rw [q1, c6, rg_in z.1 z.2]
      · rw [q2, co 7 (by decide) (by decide)]; exact g.val
    · obtain ⟨q0, q1, q2⟩ := out0 f hf z
      exact g.cg (by rw [co 2 (by decide) (by decide)]) (by rw [co 3 (by decide) (by decide)]) (by rw [co 4 (by decide) (by decide)]) (by rw [co 5 (by decide) (by decide)]) (by rw [c6, rg_out (by omega)]) (by rw [co 7 (by decide) (by decide)]) q0 q1 q2
  · by_cases e : b = m
    · subst e
      refine Or.inr ⟨?_, ?_, ?_, ?_, ?_, ?_, ?_, ?_, ?_, ?_⟩
      · rw [c9, u_at]; exact ne_m1 hx2
      · rw [hi _ (by omega)]; exact r0
      · rw [hi _ (by omega), c9, u_at]; exact r1
      · rw [hi _ (by omega), c10, u_at]; exact r2
      · rw [hi _ (by omega), c11, u_at, r3]; exact gb.kin
      · rw [hi _ (by omega), c12, u_at, r4]; exact gb.own
      · rw [hi _ (by omega), c13, u_at]; exact blF_z (by decide) (by decide) (by decide)
      · rw [hi _ (by omega), c14, u_at]; exact blF_z (by decide) (by decide) (by decide)
      · rw [hi _ (by omega), c15, u_at]; exact blF_z (by decide) (by decide) (by decide)
      · rw [hi _ (by omega), c16, u_at, r8]; exact gb.use
    · by_cases e2 : b = n
      · subst e2
        exact Or.inr ⟨by rw [c9, u_ne e]; exact gb9, by rw [rn 0 (by decide) (by decide)]; exact h0, by rw [rn 1 (by decide) (by decide), c9, u_ne e]; exact gb.fir, by rw [rn2, c10, u_ne e, u_at], by rw [rn 3 (by decide) (by decide), c11, u_ne e]; exact gb.kin, by rw [rn 4 (by decide) (by decide), c12, u_ne e]; exact gb.own, by rw [rn 5 (by decide) (by decide), c13, u_ne e]; exact gb.pin, by rw [rn 6 (by decide) (by decide), c14, u_ne e]; exact gb.tgt, by rw [rn 7 (by decide) (by decide), c15, u_ne e]; exact gb.cop, by rw [rn 8 (by decide) (by decide), c16, u_ne e]; exact gb.use⟩
      · exact (h.B b hb).cg (by rw [c9, u_ne e]) (by rw [c10, u_ne e, u_ne e2]) (by rw [c11, u_ne e]) (by rw [c12, u_ne e]) (by rw [c13, u_ne e]) (by rw [c14, u_ne e]) (by rw [c15, u_ne e]) (by rw [c16, u_ne e]) (fun k hk => spF_o (by omega) (by omega) (by omega))
  · exact (h.S s hs).cg (fun k a1 a2 => by rw [co k (by omega) (by omega)]) (fun k hk => spF_o (by omega) (by omega) (by omega))
  · exact (h.T t ht).cg (fun k a1 a2 => by rw [co k (by omega) (by omega)]) (fun k hk => spF_o (by omega) (by omega) (by omega))
  · obtain ⟨L, q⟩ := h.Q
    refine ⟨L, q.new (n := m) (co 26 (by decide) (by decide)) (co 28 (by decide) (by decide)) (co 33 (by decide) (by decide)) m9 ?_ (fun b k a1 a2 a3 a4 => spF_o (by omega) (by omega) (by omega))⟩
    rw [hi _ (by omega)]
    exact blF_z (by decide) (by decide) (by decide)
  · exact h.N.cg (co 39 (by decide) (by decide)) (co 40 (by decide) (by decide)) (by rw [co 0 (by decide) (by decide)]) (by rw [co 8 (by decide) (by decide)]) (fun i hi _ => spF_o (by omega) (by omega) (by omega))
  · have m0' : spF v n m (frb + 2 ^ o) o mI x2 x3 (786 + 16 * m + 0) = 1 := by rw [hi _ (by omega)]; exact r0
    have m1' : (spF v n m (frb + 2 ^ o) o mI x2 x3 (786 + 16 * m + 1)).toInt = ((frb + 2 ^ o : Nat) : Int) := by rw [hi _ (by omega), r1]; exact hx2
    have m2' : (spF v n m (frb + 2 ^ o) o mI x2 x3 (786 + 16 * m + 2)).toInt = o := by rw [hi _ (by omega), r2]; exact hx3
    have m6' : spF v n m (frb + 2 ^ o) o mI x2 x3 (786 + 16 * m + 6) = 0 := by rw [hi _ (by omega)]; exact blF_z (by decide) (by decide) (by decide)
    have n0' : spF v n m (frb + 2 ^ o) o mI x2 x3 (786 + 16 * n + 0) = 1 := by rw [rn 0 (by decide) (by decide)]; exact h0
    have n1' : (spF v n m (frb + 2 ^ o) o mI x2 x3 (786 + 16 * n + 1)).toInt = frb := by rw [rn 1 (by decide) (by decide)]; exact h1
    have n6' : spF v n m (frb + 2 ^ o) o mI x2 x3 (786 + 16 * n + 6) = 0 := by rw [rn 6 (by decide) (by decide)]; exact h6
    have noM : ∀ f, f < 256 → ¬ (frb + 2 ^ o ≤ f ∧ f < frb + 2 ^ o + 2 ^ o) → (v (18 + 3 * f) = 3 ∨ v (18 + 3 * f) = 4) → (v (18 + 3 * f + 1)).toInt ≠ ((m + 1 : Nat) : Int) := fun f hf _ z y => by
      rcases z with z | z
      · obtain ⟨b', _, _, p1, p2, p3, -⟩ := h.O.tk f hf z
        have e : b' = m := by omega
        subst e
        rw [m0] at p3
        exact absurd p3 (by decide)
      · obtain ⟨b', _, _, p1, p2, p3, -⟩ := h.O.hl f hf z
        have e : b' = m := by omega
        subst e
        rw [m0] at p3
        exact absurd p3 (by decide)
    refine h.O.re (fun b => b = n ∨ b = m) (fun f => frb + 2 ^ o ≤ f ∧ f < frb + 2 ^ o + 2 ^ o) hk (fun b k a1 a2 a3 => spF_o (by omega) (by omega) (by omega)) (fun f hf z => ⟨(out0 f hf z).1, (out0 f hf z).2.1⟩) (fun f hf z => Or.inr ⟨n, hn, Or.inl rfl, (in3 f (by omega) (by omega)).2⟩) (fun b fr' o' hb z g0 g1 g2 j hj => ?_) (fun b t o' hb z g0 g6 g2 => ?_) (fun f b hf hb z g3 g1 => ?_) (fun f b hf hb z g4 g1 => ?_) (fun f hf z => Or.inl ⟨m, hm, Or.inr rfl, by rw [(inn f z).2.1]; exact hm1, Or.inl (inn f z).1⟩) (fun f hf => ?_)
    · rcases z with z | z
      · subst z
        rw [rn2] at g2
        have e1 : fr' = frb := by omega
        have e2 : o' = o := by omega
        subst e1 e2
        obtain ⟨q0, q1, -⟩ := out0 (fr' + j) (by omega) (by omega)
        rw [q0, q1]
        exact in3 _ (by omega) (by omega)
      · subst z
        have e1 : fr' = frb + 2 ^ o := by omega
        have e2 : o' = o := by omega
        subst e1 e2
        obtain ⟨q0, q1, -⟩ := inn (frb + 2 ^ o' + j) (by omega)
        rw [q0, q1]
        exact ⟨rfl, hm1⟩
    · rcases z with z | z
      · subst z
        rw [n6'] at g6
        have g6 : (0 : Int) = _ := g6
        omega
      · subst z
        rw [m6'] at g6
        have g6 : (0 : Int) = _ := g6
        omega
    · by_cases y : frb + 2 ^ o ≤ f ∧ f < frb + 2 ^ o + 2 ^ o
      · rw [(inn f y).2.1, hm1] at g1
        have e : b = m := by omega
        subst e
        exact ⟨m0', _, _, m1', m2', y⟩
      · rw [(out0 f hf y).1] at g3
        rw [(out0 f hf y).2.1] at g1
        rcases z with z | z
        · subst z
          obtain ⟨b', fr', o', p1, p2, p3, p4, p5, p6⟩ := h.O.tk f hf g3
          have e : b' = b := by omega
          subst e
          have e1 : fr' = frb := by omega
          have e2 : o' = o + 1 := by omega
          subst e1 e2
          rw [pw] at p6
          exact ⟨n0', _, _, n1', by rw [rn2]; exact hx3, by omega⟩
        · subst z
          exact absurd g1 (noM f hf y (Or.inl g3))
    · have y : ¬ (frb + 2 ^ o ≤ f ∧ f < frb + 2 ^ o + 2 ^ o) := fun y => by
        rw [(inn f y).1] at g4
        exact absurd g4 (by decide)
      rw [(out0 f hf y).1] at g4
      rw [(out0 f hf y).2.1] at g1
      rcases z with z | z
      · subst z
        obtain ⟨b', t, o', p1, p2, p3, p4, p5, p6⟩ := h.O.hl f hf g4
        have e : b' = b := by omega
        subst e
        rw [h6] at p4
        have p4 : (0 : Int) = _ := p4
        omega
      · subst z
        exact absurd g1 (noM f hf y (Or.inr g4))
    · rw [spF_o (i := 2358 + 8 * (f / 32) + 0) (by omega) (by omega) (by omega)]
      by_cases y : frb + 2 ^ o ≤ f ∧ f < frb + 2 ^ o + 2 ^ o
      · rw [(inn f y).1, ← h.O.of f hf, (in3 f (by omega) (by omega)).1]
      · rw [(out0 f hf y).1]
        exact h.O.of f hf
