/-! ===== the simulation: a block comes ===== -/
theorem bnC_o {c : sm_S} {b k : Nat} {x2 x3 x4 x5 : Int32} (h : k < 9 ∨ 15 < k) : bnC c b x2 x3 x4 x5 k = c k := by
  unfold bnC
  rw [s_ne (by omega), s_ne (by omega), s_ne (by omega), s_ne (by omega), s_ne (by omega), s_ne (by omega), s_ne (by omega)]
theorem gvC_o {c : sm_S} {m k : Nat} {b : Int32} {fr o : Nat} (h : k ≠ 2 ∧ k ≠ 6 ∧ k ≠ m) : gvC c m b fr o k = c k := by
  unfold gvC clC
  rw [s_ne h.2.2, s_ne h.2.1, s_ne h.1]
/-- the block b as it begins, on the class's side -/
def cmC (c : sm_S) (b : Nat) (x2 x3 x4 x5 x6 : Int32) : sm_S := sm_set (bnC c b x2 x3 x4 x5) 16 (upd (c 16) b x6)
theorem cmC_o {c : sm_S} {b k : Nat} {x2 x3 x4 x5 x6 : Int32} (h : k < 9 ∨ 16 < k) : cmC c b x2 x3 x4 x5 x6 k = c k := by
  unfold cmC
  rw [s_ne (by omega), bnC_o (by omega)]
theorem blF_0 {v : Nat → Int32} {n : Nat} {a2 a3 a4 a5 a6 : Int32} : blF v n a2 a3 a4 a5 a6 (786 + 16 * n + 0) = 1 ∧ blF v n a2 a3 a4 a5 a6 (786 + 16 * n + 1) = a2 ∧ blF v n a2 a3 a4 a5 a6 (786 + 16 * n + 2) = a3 ∧ blF v n a2 a3 a4 a5 a6 (786 + 16 * n + 3) = a4 ∧ blF v n a2 a3 a4 a5 a6 (786 + 16 * n + 4) = a5 ∧ blF v n a2 a3 a4 a5 a6 (786 + 16 * n + 8) = a6 := by
  unfold blF
  refine ⟨?_, ?_, ?_, ?_, ?_, ?_⟩
  · rw [u_ne (by omega), u_ne (by omega), u_ne (by omega), u_ne (by omega), u_ne (by omega), u_at]
  · rw [u_ne (by omega), u_ne (by omega), u_ne (by omega), u_ne (by omega), u_at]
  · rw [u_ne (by omega), u_ne (by omega), u_ne (by omega), u_at]
  · rw [u_ne (by omega), u_ne (by omega), u_at]
  · rw [u_ne (by omega), u_at]
  · rw [u_at]
theorem blF_z {v : Nat → Int32} {n j : Nat} {a2 a3 a4 a5 a6 : Int32} (h : j < 16) (h5 : 5 ≤ j) (h8 : j ≠ 8) : blF v n a2 a3 a4 a5 a6 (786 + 16 * n + j) = 0 := by
  unfold blF
  rw [u_ne (by omega), u_ne (by omega), u_ne (by omega), u_ne (by omega), u_ne (by omega), u_ne (by omega), rg_in (by omega) (by omega)]
theorem sim_comes {c : sm_S} {v : Nat → Int32} {b fr o : Nat} {bI x2 x3 x4 x5 x6 : Int32} (h : sim0 c v) (hk : ∀ b, b < 96 → bk_ok v b) (hb : b < 96) (hbI : bI.toInt = b) (h0 : v (786 + 16 * b + 0) = 0) (h9 : v (786 + 16 * b + 9) = 0) (h2 : x2.toInt = fr) (h3 : x3.toInt = o) (ho : o ≤ 4) (hfr : fr < 256) (hal : fr % 2 ^ o = 0) (hfree : ∀ j, j < 2 ^ o → v (18 + 3 * (fr + j)) = 1) : sim0 (gvC (cmC c b x2 x3 x4 x5 x6) 4 bI fr o) (hsF (blF v b x2 x3 x4 x5 x6) fr (2 ^ o) 3 (bI + 1)) := by
  have hle := al_le ho hfr hal
  have hb1 : (bI + 1).toInt = ((b + 1 : Nat) : Int) := by
    rw [t_add hbI (y := 1) rfl (by omega) (by omega)]
    omega
  have hx2 : x2 ≠ -1 := ne_m1 h2
  have frin : ∀ f, fr ≤ f → f < fr + 2 ^ o → v (18 + 3 * f) = 1 := fun f a1 a2 => by
    have := hfree (f - fr) (by omega)
    rw [show fr + (f - fr) = f by omega] at this
    exact this
  have hi : ∀ i, 786 ≤ i → hsF (blF v b x2 x3 x4 x5 x6) fr (2 ^ o) 3 (bI + 1) i = blF v b x2 x3 x4 x5 x6 i := fun i h1 => hsF_out (by omega)
  have old : ∀ i, 786 ≤ i → (i < 786 + 16 * b ∨ 786 + 16 * b + 16 ≤ i) → hsF (blF v b x2 x3 x4 x5 x6) fr (2 ^ o) 3 (bI + 1) i = v i := fun i h1 h2 => by rw [hi i h1, blF_out h2]
  have oldB : ∀ b' k, b' < 96 → k < 16 → b' ≠ b → hsF (blF v b x2 x3 x4 x5 x6) fr (2 ^ o) 3 (bI + 1) (786 + 16 * b' + k) = v (786 + 16 * b' + k) := fun b' k h1 h2 h3 => old _ (by omega) (by omega)
  have lo : ∀ i, i < 18 → hsF (blF v b x2 x3 x4 x5 x6) fr (2 ^ o) 3 (bI + 1) i = v i := fun i h1 => by rw [hsF_out (by omega), blF_out (by omega)]
  have out0 : ∀ f, f < 256 → ¬ (fr ≤ f ∧ f < fr + 2 ^ o) → hsF (blF v b x2 x3 x4 x5 x6) fr (2 ^ o) 3 (bI + 1) (18 + 3 * f) = v (18 + 3 * f) ∧ hsF (blF v b x2 x3 x4 x5 x6) fr (2 ^ o) 3 (bI + 1) (18 + 3 * f + 1) = v (18 + 3 * f + 1) := fun f a1 a2 => ⟨by rw [hsF_out (by omega), blF_out (by omega)], by rw [hsF_out (by omega), blF_out (by omega)]⟩
  have cg : ∀ k, k ≠ 2 → k ≠ 6 → k ≠ 4 → (k < 9 ∨ 16 < k) → gvC (cmC c b x2 x3 x4 x5 x6) 4 bI fr o k = c k := fun k h1 h2 h3 h4 => by rw [gvC_o ⟨h1, h2, h3⟩, cmC_o h4]
  have cgB : ∀ k, 9 ≤ k → k ≤ 16 → gvC (cmC c b x2 x3 x4 x5 x6) 4 bI fr o k = cmC c b x2 x3 x4 x5 x6 k := fun k h1 h2 => gvC_o (by omega)
  have c9 : cmC c b x2 x3 x4 x5 x6 9 = upd (c 9) b x2 := rfl
  have c10 : cmC c b x2 x3 x4 x5 x6 10 = upd (c 10) b x3 := rfl
  have c11 : cmC c b x2 x3 x4 x5 x6 11 = upd (c 11) b x4 := rfl
  have c12 : cmC c b x2 x3 x4 x5 x6 12 = upd (c 12) b x5 := rfl
  have c13 : cmC c b x2 x3 x4 x5 x6 13 = upd (c 13) b 0 := rfl
  have c14 : cmC c b x2 x3 x4 x5 x6 14 = upd (c 14) b (-1) := rfl
  have c15 : cmC c b x2 x3 x4 x5 x6 15 = upd (c 15) b 0 := rfl
  have c16 : cmC c b x2 x3 x4 x5 x6 16 = upd (c 16) b x6 := rfl
  obtain ⟨r0, r1, r2, r3, r4, r8⟩ := blF_0 (v := v) (n := b) (a2 := x2) (a3 := x3) (a4 := x4) (a5 := x5) (a6 := x6)
  refine ⟨fun f hf => ?_, fun b' hb' => ?_, fun s hs => ?_, fun t ht => ?_, ?_, ?_, ?_⟩
  · have g : sF (cmC c b x2 x3 x4 x5 x6) (blF v b x2 x3 x4 x5 x6) f := (h.F f hf).cg (by rw [cmC_o (by omega)]) (by rw [cmC_o (by omega)]) (by rw [cmC_o (by omega)]) (by rw [cmC_o (by omega)]) (by rw [cmC_o (by omega)]) (by rw [cmC_o (by omega)]) (blF_out (by omega)) (blF_out (by omega)) (blF_out (by omega))
    exact sF_gv4 g ho hal (fun a1 a2 => by rw [blF_out (by omega)]; exact frin f a1 a2)
  · by_cases e : b' = b
    · subst e
      refine Or.inr ⟨?_, ?_, ?_, ?_, ?_, ?_, ?_, ?_, ?_, ?_⟩
      · rw [cgB 9 (by decide) (by decide), c9, u_at]; exact hx2
      · rw [hi _ (by omega)]; exact r0
      · rw [hi _ (by omega), cgB 9 (by decide) (by decide), c9, u_at]; exact r1
      · rw [hi _ (by omega), cgB 10 (by decide) (by decide), c10, u_at]; exact r2
      · rw [hi _ (by omega), cgB 11 (by decide) (by decide), c11, u_at]; exact r3
      · rw [hi _ (by omega), cgB 12 (by decide) (by decide), c12, u_at]; exact r4
      · rw [hi _ (by omega), cgB 13 (by decide) (by decide), c13, u_at]; exact blF_z (by decide) (by decide) (by decide)
      · rw [hi _ (by omega), cgB 14 (by decide) (by decide), c14, u_at]; exact blF_z (by decide) (by decide) (by decide)
      · rw [hi _ (by omega), cgB 15 (by decide) (by decide), c15, u_at]; exact blF_z (by decide) (by decide) (by decide)
      · rw [hi _ (by omega), cgB 16 (by decide) (by decide), c16, u_at]; exact r8
    · exact (h.B b' hb').cg (by rw [cgB 9 (by decide) (by decide), c9, u_ne e]) (by rw [cgB 10 (by decide) (by decide), c10, u_ne e]) (by rw [cgB 11 (by decide) (by decide), c11, u_ne e]) (by rw [cgB 12 (by decide) (by decide), c12, u_ne e]) (by rw [cgB 13 (by decide) (by decide), c13, u_ne e]) (by rw [cgB 14 (by decide) (by decide), c14, u_ne e]) (by rw [cgB 15 (by decide) (by decide), c15, u_ne e]) (by rw [cgB 16 (by decide) (by decide), c16, u_ne e]) (fun k hk => oldB b' k hb' (by omega) e)
  · exact (h.S s hs).cg (fun k h1 h2 => by rw [cg k (by omega) (by omega) (by omega) (by omega)]) (fun k hk => old _ (by omega) (by omega))
  · exact (h.T t ht).cg (fun k h1 h2 => by rw [cg k (by omega) (by omega) (by omega) (by omega)]) (fun k hk => old _ (by omega) (by omega))
  · obtain ⟨L, hL⟩ := h.Q
    have h26 : gvC (cmC c b x2 x3 x4 x5 x6) 4 bI fr o 26 = c 26 := cg 26 (by decide) (by decide) (by decide) (by decide)
    have h28 : gvC (cmC c b x2 x3 x4 x5 x6) 4 bI fr o 28 = c 28 := cg 28 (by decide) (by decide) (by decide) (by decide)
    have h33 : gvC (cmC c b x2 x3 x4 x5 x6) 4 bI fr o 33 = c 33 := cg 33 (by decide) (by decide) (by decide) (by decide)
    have hl : lnC (gvC (cmC c b x2 x3 x4 x5 x6) 4 bI fr o) L = lnC c L := lnC_cg (fun k _ => by rw [h33])
    refine ⟨L, by rw [h26]; exact hL.len, hL.le6, by rw [h28, h33]; exact hL.tsk, by rw [hl]; exact hL.nod, by rw [h28, h33]; exact hL.all, fun b' hb' => ?_⟩
    obtain ⟨m, g1, g2⟩ := hL.lin b' hb'
    by_cases e : b' = b
    · subst e
      rw [h9] at g1
      have g1 : (0 : Int) = (m : Int) := g1
      have e0 : m = 0 := by omega
      subst e0
      refine ⟨0, ?_, ?_⟩
      · rw [hi _ (by omega), blF_z (by decide) (by decide) (by decide)]
        rfl
      · rw [hl, h28]
        exact g2
    · have hm : m ≤ 6 := by
        have a := congrArg List.length g2
        have lf := List.length_filter_le (fun t => decide ((c 28 t.toNatClampNeg).toInt = b')) (lnC c L)
        have d : (lnC c L).length = L := by unfold lnC; rw [List.length_map, List.length_range]
        have d2 : (lnV v b' m).length = m := by unfold lnV; rw [List.length_map, List.length_range]
        have := hL.le6
        omega
      refine ⟨m, by rw [oldB b' 9 hb' (by decide) e]; exact g1, ?_⟩
      rw [lnV_cg (fun n hn => oldB b' (10 + n) hb' (by omega) e), hl, h28]
      exact g2
  · exact h.N.cg (cg 39 (by decide) (by decide) (by decide) (by decide)) (cg 40 (by decide) (by decide) (by decide) (by decide)) (by rw [cg 0 (by decide) (by decide) (by decide) (by decide)]) (by rw [cg 8 (by decide) (by decide) (by decide) (by decide)]) (fun i hi _ => lo i hi)
  · have in3 : ∀ f, fr ≤ f → f < fr + 2 ^ o → hsF (blF v b x2 x3 x4 x5 x6) fr (2 ^ o) 3 (bI + 1) (18 + 3 * f) = 3 ∧ (hsF (blF v b x2 x3 x4 x5 x6) fr (2 ^ o) 3 (bI + 1) (18 + 3 * f + 1)).toInt = ((b + 1 : Nat) : Int) := fun f a1 a2 => by
      obtain ⟨q0, q1, -⟩ := hsF_in (v := blF v b x2 x3 x4 x5 x6) (s := 3) (x := bI + 1) a1 a2
      exact ⟨q0, by rw [q1]; exact hb1⟩
    refine ⟨fun b' fr' o' hb' g0 g1 g2 j hj => ?_, fun b' t' o' hb' g0 g6 g2 => ?_, fun f hf g3 => ?_, fun f hf g4 => ?_, fun f hf g3 g4 => ?_, fun f hf => ?_⟩
    · by_cases e : b' = b
      · subst e
        rw [hi _ (by omega), r1, h2] at g1
        rw [hi _ (by omega), r2, h3] at g2
        have e1 : fr' = fr := by omega
        have e2 : o' = o := by omega
        subst e1 e2
        exact in3 _ (by omega) (by omega)
      · rw [oldB b' 0 hb' (by decide) e] at g0
        rw [oldB b' 1 hb' (by decide) e] at g1
        rw [oldB b' 2 hb' (by decide) e] at g2
        have hx := h.O.hs b' fr' o' hb' g0 g1 g2 j hj
        obtain ⟨o2, fr2, p1, p2, p3, p4, p5, -⟩ := hk b' hb'
        have e1 : o2 = o' := by omega
        have e2 : fr2 = fr' := by omega
        subst e1 e2
        have hl := al_le p2 p4 p5
        have hout : ¬ (fr ≤ fr2 + j ∧ fr2 + j < fr + 2 ^ o) := fun z => by
          have hy := frin _ z.1 z.2
          rw [hx.1] at hy
          exact absurd hy (by decide)
        rw [(out0 _ (by omega) hout).1, (out0 _ (by omega) hout).2]
        exact hx
    · by_cases e : b' = b
      · subst e
        rw [hi _ (by omega), blF_z (by decide) (by decide) (by decide)] at g6
        have g6 : (0 : Int) = _ := g6
        omega
      · rw [oldB b' 0 hb' (by decide) e] at g0
        rw [oldB b' 6 hb' (by decide) e] at g6
        rw [oldB b' 2 hb' (by decide) e] at g2
        obtain ⟨hx1, hx2⟩ := h.O.hd b' t' o' hb' g0 g6 g2
        refine ⟨by rw [oldB b' 3 hb' (by decide) e]; exact hx1, fun j hj => ?_⟩
        have hx := hx2 j hj
        have hl := bk_to (hk b' hb') g6 g2
        have hout : ¬ (fr ≤ t' + j ∧ t' + j < fr + 2 ^ o) := fun z => by
          have hy := frin _ z.1 z.2
          rw [hx.1] at hy
          exact absurd hy (by decide)
        rw [(out0 _ (by omega) hout).1, (out0 _ (by omega) hout).2]
        exact hx
    · by_cases z : fr ≤ f ∧ f < fr + 2 ^ o
      · exact ⟨b, fr, o, hb, (in3 f z.1 z.2).2, by rw [hi _ (by omega)]; exact r0, by rw [hi _ (by omega), r1]; exact h2, by rw [hi _ (by omega), r2]; exact h3, z.1, z.2⟩
      · obtain ⟨k0, k1⟩ := out0 f hf z
        rw [k0] at g3
        obtain ⟨b', fr', o', p1, p2, p3, p4, p5, p6, p7⟩ := h.O.tk f hf g3
        have e : b' ≠ b := fun q => by
          subst q
          rw [h0] at p3
          exact absurd p3 (by decide)
        exact ⟨b', fr', o', p1, by rw [k1]; exact p2, by rw [oldB b' 0 p1 (by decide) e]; exact p3, by rw [oldB b' 1 p1 (by decide) e]; exact p4, by rw [oldB b' 2 p1 (by decide) e]; exact p5, p6, p7⟩
    · by_cases z : fr ≤ f ∧ f < fr + 2 ^ o
      · rw [(in3 f z.1 z.2).1] at g4
        exact absurd g4 (by decide)
      · obtain ⟨k0, k1⟩ := out0 f hf z
        rw [k0] at g4
        obtain ⟨b', t', o', p1, p2, p3, p4, p5, p6, p7⟩ := h.O.hl f hf g4
        have e : b' ≠ b := fun q => by
          subst q
          rw [h0] at p3
          exact absurd p3 (by decide)
        exact ⟨b', t', o', p1, by rw [k1]; exact p2, by rw [oldB b' 0 p1 (by decide) e]; exact p3, by rw [oldB b' 6 p1 (by decide) e]; exact p4, by rw [oldB b' 2 p1 (by decide) e]; exact p5, p6, p7⟩
    · by_cases z : fr ≤ f ∧ f < fr + 2 ^ o
      · exact absurd (in3 f z.1 z.2).1 g3
      · obtain ⟨k0, k1⟩ := out0 f hf z
        rw [k0] at g3 g4
        rw [k1]
        exact h.O.no f hf g3 g4
    · rw [old (2358 + 8 * (f / 32) + 0) (by omega) (by omega)]
      by_cases z : fr ≤ f ∧ f < fr + 2 ^ o
      · rw [(in3 f z.1 z.2).1, ← h.O.of f hf, frin f z.1 z.2]
        decide
      · rw [(out0 f hf z).1]
        exact h.O.of f hf
