/-! ===== the simulation: moveAtOnce | movesTo ===== -/
def mwF (v : Nat → Int32) (n fr p o : Nat) (x y : Int32) : Nat → Int32 := upd (mvF v p fr x (2 ^ o)) (786 + 16 * n + 1) y
def mvC (c : sm_S) (n fr p o : Nat) (bI y : Int32) : sm_S := sm_set (lgC (sm_set (gvC c 4 bI p o) 7 (cvF (c 7) fr p (2 ^ o))) fr o 0) 9 (upd (c 9) n y)
theorem mwF_o {v : Nat → Int32} {n fr p o i : Nat} {x y : Int32} (hd : p + 2 ^ o ≤ fr ∨ fr + 2 ^ o ≤ p) (hp : p + 2 ^ o ≤ 256) (hf : fr + 2 ^ o ≤ 256) (h1 : i < 18 + 3 * fr ∨ 18 + 3 * (fr + 2 ^ o) ≤ i) (h2 : i < 18 + 3 * p ∨ 18 + 3 * (p + 2 ^ o) ≤ i) (h3 : i ≠ 786 + 16 * n + 1) : mwF v n fr p o x y i = v i := by
  unfold mwF
  rw [u_ne h3, mvF_at hp hf hd, if_neg (by omega), if_neg (by omega)]
theorem sim_move {c : sm_S} {v : Nat → Int32} {n fr p o : Nat} {bI y : Int32} (h : sim0 c v) (hk : ∀ b, b < 96 → bk_ok v b) (hn : n < 96) (h0 : v (786 + 16 * n + 0) = 1) (h1 : (v (786 + 16 * n + 1)).toInt = fr) (h6 : v (786 + 16 * n + 6) = 0) (h2 : (v (786 + 16 * n + 2)).toInt = o) (ho : o ≤ 4) (hfr : fr < 256) (hal : fr % 2 ^ o = 0) (hto : p < 256) (halt : p % 2 ^ o = 0) (hp : v (2358 + 8 * (fr / 32) + 2) = 0) (hfree : ∀ f, p ≤ f → f < p + 2 ^ o → v (18 + 3 * f) = 1) (hbI : bI.toInt = n) (hy : y.toInt = p) : sim0 (mvC c n fr p o bI y) (mwF v n fr p o (bI + 1) y) ∧ (p + 2 ^ o ≤ fr ∨ fr + 2 ^ o ≤ p) := by
  have hle := al_le ho hfr hal
  have hlt := al_le ho hto halt
  have hpw := t_pw (k := o) (by omega)
  have hb1 : (bI + 1).toInt = ((n + 1 : Nat) : Int) := by
    rw [t_add hbI (y := 1) rfl (by omega) (by omega)]
    omega
  have own3 := h.O.hs n fr o hn h0 h1 h2
  have in3 : ∀ f, fr ≤ f → f < fr + 2 ^ o → v (18 + 3 * f) = 3 ∧ (v (18 + 3 * f + 1)).toInt = ((n + 1 : Nat) : Int) := fun f a1 a2 => by
    have := own3 (f - fr) (by omega)
    rw [show fr + (f - fr) = f by omega] at this
    exact this
  have dis : ∀ f, fr ≤ f → f < fr + 2 ^ o → p ≤ f → f < p + 2 ^ o → False := fun f a1 a2 a3 a4 => by
    have z := (in3 f a1 a2).1
    rw [hfree f a3 a4] at z
    exact absurd z (by decide)
  have hd : p + 2 ^ o ≤ fr ∨ fr + 2 ^ o ≤ p := by
    have a1 : ¬ (fr ≤ p ∧ p < fr + 2 ^ o) := fun z => dis p z.1 z.2 (Nat.le_refl _) (by omega)
    have a2 : ¬ (p ≤ fr ∧ fr < p + 2 ^ o) := fun z => dis fr (Nat.le_refl _) (by omega) z.1 z.2
    omega
  refine ⟨?_, hd⟩
  have sh1 : ∀ f, fr ≤ f → f < fr + 2 ^ o → shV v f = 1 := fun f a1 a2 => by
    have e : f / 32 = fr / 32 := by
      have := t_al (k := o) (by omega) hal
      omega
    unfold shV
    rw [e, hp]
    exact if_neg (by show ¬ _ < (0 : Int); omega)
  have at0 : ∀ f, fr ≤ f → f < fr + 2 ^ o → mwF v n fr p o (bI + 1) y (18 + 3 * f) = 1 ∧ mwF v n fr p o (bI + 1) y (18 + 3 * f + 1) = 0 ∧ mwF v n fr p o (bI + 1) y (18 + 3 * f + 2) = 0 := fun f a1 a2 => by
    unfold mwF
    refine ⟨?_, ?_, ?_⟩
    · rw [u_ne (by omega), mvF_at hlt hle hd, if_pos (by omega), if_pos (by omega), show (18 + 3 * f - 18) / 3 = f by omega]
      exact sh1 f a1 a2
    · rw [u_ne (by omega), mvF_at hlt hle hd, if_pos (by omega), if_neg (by omega)]
    · rw [u_ne (by omega), mvF_at hlt hle hd, if_pos (by omega), if_neg (by omega)]
  have atP : ∀ f, p ≤ f → f < p + 2 ^ o → mwF v n fr p o (bI + 1) y (18 + 3 * f) = 3 ∧ mwF v n fr p o (bI + 1) y (18 + 3 * f + 1) = bI + 1 ∧ mwF v n fr p o (bI + 1) y (18 + 3 * f + 2) = v (18 + 3 * (fr + (f - p)) + 2) := fun f a1 a2 => by
    have nf : ¬ (fr ≤ f ∧ f < fr + 2 ^ o) := fun z => dis f z.1 z.2 a1 a2
    unfold mwF
    refine ⟨?_, ?_, ?_⟩
    · rw [u_ne (by omega), mvF_at hlt hle hd, if_neg (by omega), if_pos (by omega), if_pos (by omega)]
    · rw [u_ne (by omega), mvF_at hlt hle hd, if_neg (by omega), if_pos (by omega), if_neg (by omega), if_pos (by omega)]
    · rw [u_ne (by omega), mvF_at hlt hle hd, if_neg (by omega), if_pos (by omega), if_neg (by omega), if_neg (by omega)]
      exact congrArg v (by omega)
  have mo : ∀ i, (i < 18 + 3 * fr ∨ 18 + 3 * (fr + 2 ^ o) ≤ i) → (i < 18 + 3 * p ∨ 18 + 3 * (p + 2 ^ o) ≤ i) → i ≠ 786 + 16 * n + 1 → mwF v n fr p o (bI + 1) y i = v i := fun i a b d => mwF_o hd hlt hle a b d
  have co : ∀ k, k ≠ 9 → (k < 2 ∨ 7 < k) → mvC c n fr p o bI y k = c k := fun k a b => by
    unfold mvC
    rw [s_ne a, lgC_o b, s_ne (by omega), gvC_o (by omega)]
  have c9 : mvC c n fr p o bI y 9 = upd (c 9) n y := rfl
  have r1 : mwF v n fr p o (bI + 1) y (786 + 16 * n + 1) = y := u_at
  refine h.fb (fun f hf => ?_) (fun b hb => ?_) (fun t ht => ?_) ?_ (fun k hk => co k (by omega) (by omega)) (fun i hi => mo i (by omega) (by omega) (by omega)) (fun b k h1 h2 h3 => mo _ (by omega) (by omega) (by omega))
  · have g1 := sF_gv4 (b := bI) (h.F f hf) ho halt (hfree f)
    have g2 : sF (sm_set (gvC c 4 bI p o) 7 (cvF (c 7) fr p (2 ^ o))) (vcF (hsF v p (2 ^ o) 3 (bI + 1)) fr p (2 ^ o)) f := by
      have z0 : vcF (hsF v p (2 ^ o) 3 (bI + 1)) fr p (2 ^ o) (18 + 3 * f) = hsF v p (2 ^ o) 3 (bI + 1) (18 + 3 * f) := vcF_out (by omega)
      have z1 : vcF (hsF v p (2 ^ o) 3 (bI + 1)) fr p (2 ^ o) (18 + 3 * f + 1) = hsF v p (2 ^ o) 3 (bI + 1) (18 + 3 * f + 1) := vcF_out (by omega)
      refine ⟨by rw [z0]; exact g1.rng, by rw [z0, s_ne (by decide)]; exact g1.fre, by rw [z0, s_ne (by decide)]; exact g1.apa, by rw [z0, s_ne (by decide)]; exact g1.tak, by rw [z0, s_ne (by decide)]; exact g1.hel, by rw [z1, s_ne (by decide)]; exact g1.blk, ?_⟩
      rw [s_at]
      unfold cvF
      by_cases q : p ≤ f ∧ f < p + 2 ^ o
      · rw [if_pos q, vcF_in q.1 q.2, hsF_out (by omega)]
        exact (h.F (fr + (f - p)) (by omega)).val
      · rw [if_neg q, vcF_out (by omega), hsF_out (by omega)]
        exact (h.F f hf).val
    have g3 := sF_lv (sb := 0) (p := 0) g2 hf ho hfr hal (by rw [vcF_out (by omega), hsF_out (by omega), hp]; rfl) (fun i hi => ⟨fun z => absurd z bit_0, fun z => by omega⟩) (fun a1 a2 => by
      have nd : ¬ (p ≤ f ∧ f < p + 2 ^ o) := fun z => dis f a1 a2 z.1 z.2
      rw [vcF_out (by omega), hsF_out (by omega)]
      exact Or.inl (in3 f a1 a2).1)
    have eqs : ∀ j, j < 3 → mwF v n fr p o (bI + 1) y (18 + 3 * f + j) = lvF (vcF (hsF v p (2 ^ o) 3 (bI + 1)) fr p (2 ^ o)) fr (2 ^ o) (18 + 3 * f + j) := fun j hj => by
      by_cases q : fr ≤ f ∧ f < fr + 2 ^ o
      · obtain ⟨a0, a1, a2⟩ := at0 f q.1 q.2
        obtain ⟨b0, b1, b2⟩ := lvF_in (v := vcF (hsF v p (2 ^ o) 3 (bI + 1)) fr p (2 ^ o)) q.1 q.2
        rcases (show j = 0 ∨ j = 1 ∨ j = 2 by omega) with e | e | e <;> subst e
        · rw [Nat.add_zero, a0, b0, shV_cg (v := v) (by rw [vcF_out (by omega), hsF_out (by omega)]), sh1 f q.1 q.2]
        · rw [a1, b1]
        · rw [a2, b2]
      · rw [lvF_out (by omega)]
        by_cases q2 : p ≤ f ∧ f < p + 2 ^ o
        · obtain ⟨a0, a1, a2⟩ := atP f q2.1 q2.2
          obtain ⟨b0, b1, -⟩ := hsF_in (v := v) (s := 3) (x := bI + 1) q2.1 q2.2
          rcases (show j = 0 ∨ j = 1 ∨ j = 2 by omega) with e | e | e <;> subst e
          · rw [Nat.add_zero, a0, vcF_out (by omega), b0]
          · rw [a1, vcF_out (by omega), b1]
          · rw [a2, vcF_in q2.1 q2.2, hsF_out (by omega)]
        · rw [mo _ (by omega) (by omega) (by omega), vcF_out (by omega), hsF_out (by omega)]
    exact g3.cg (by unfold mvC; rw [s_ne (by decide)]) (by unfold mvC; rw [s_ne (by decide)]) (by unfold mvC; rw [s_ne (by decide)]) (by unfold mvC; rw [s_ne (by decide)]) (by unfold mvC; rw [s_ne (by decide)]) (by unfold mvC; rw [s_ne (by decide)]) (eqs 0 (by decide)) (eqs 1 (by decide)) (eqs 2 (by decide))
  · by_cases e : b = n
    · subst e
      have rk : ∀ k, k < 9 → k ≠ 1 → mwF v b fr p o (bI + 1) y (786 + 16 * b + k) = v (786 + 16 * b + k) := fun k h1 h2 => mo _ (by omega) (by omega) (by omega)
      obtain ⟨q, q1⟩ := (h.B b hb).al h0
      exact Or.inr ⟨by rw [c9, u_at]; exact ne_m1 hy, by rw [rk 0 (by decide) (by decide)]; exact h0, by rw [r1, c9, u_at], by rw [rk 2 (by decide) (by decide), co 10 (by decide) (by decide)]; exact q.ord, by rw [rk 3 (by decide) (by decide), co 11 (by decide) (by decide)]; exact q.kin, by rw [rk 4 (by decide) (by decide), co 12 (by decide) (by decide)]; exact q.own, by rw [rk 5 (by decide) (by decide), co 13 (by decide) (by decide)]; exact q.pin, by rw [rk 6 (by decide) (by decide), co 14 (by decide) (by decide)]; exact q.tgt, by rw [rk 7 (by decide) (by decide), co 15 (by decide) (by decide)]; exact q.cop, by rw [rk 8 (by decide) (by decide), co 16 (by decide) (by decide)]; exact q.use⟩
    · exact (h.B b hb).cg (by rw [c9, u_ne e]) (by rw [co 10 (by decide) (by decide)]) (by rw [co 11 (by decide) (by decide)]) (by rw [co 12 (by decide) (by decide)]) (by rw [co 13 (by decide) (by decide)]) (by rw [co 14 (by decide) (by decide)]) (by rw [co 15 (by decide) (by decide)]) (by rw [co 16 (by decide) (by decide)]) (fun k hk => mo _ (by omega) (by omega) (by omega))
  · exact (h.S t ht).cg (fun k a b => by rw [co k (by omega) (by omega)]) (fun k hk => mo _ (by omega) (by omega) (by omega))
  · have out0 : ∀ f, f < 256 → ¬ ((fr ≤ f ∧ f < fr + 2 ^ o) ∨ (p ≤ f ∧ f < p + 2 ^ o)) → mwF v n fr p o (bI + 1) y (18 + 3 * f) = v (18 + 3 * f) ∧ mwF v n fr p o (bI + 1) y (18 + 3 * f + 1) = v (18 + 3 * f + 1) := fun f a1 a2 => ⟨mo _ (by omega) (by omega) (by omega), mo _ (by omega) (by omega) (by omega)⟩
    have rb0 : mwF v n fr p o (bI + 1) y (786 + 16 * n + 0) = 1 := by rw [mo _ (by omega) (by omega) (by omega)]; exact h0
    have rb2 : (mwF v n fr p o (bI + 1) y (786 + 16 * n + 2)).toInt = o := by rw [mo _ (by omega) (by omega) (by omega)]; exact h2
    have rb6 : mwF v n fr p o (bI + 1) y (786 + 16 * n + 6) = 0 := by rw [mo _ (by omega) (by omega) (by omega)]; exact h6
    refine h.O.re (fun b => b = n) (fun f => (fr ≤ f ∧ f < fr + 2 ^ o) ∨ (p ≤ f ∧ f < p + 2 ^ o)) hk (fun b k a1 a2 a3 => mo _ (by omega) (by omega) (by omega)) out0 (fun f hf z => z.elim (fun z => Or.inr ⟨n, hn, rfl, (in3 f z.1 z.2).2⟩) (fun z => Or.inl (by rw [hfree f z.1 z.2]; decide))) (fun b fr' o' hb z g0 g1 g2 j hj => ?_) (fun b t o' hb z g0 g6 g2 => ?_) (fun f b hf hb z g3 g1 => ?_) (fun f b hf hb z g4 g1 => ?_) (fun f hf z => ?_) (fun f hf => ?_)
    · subst z
      rw [r1] at g1
      have e1 : fr' = p := by omega
      have e2 : o' = o := by omega
      subst e1 e2
      obtain ⟨q0, q1, -⟩ := atP (fr' + j) (by omega) (by omega)
      rw [q0, q1]
      exact ⟨rfl, hb1⟩
    · subst z
      rw [rb6] at g6
      have g6 : (0 : Int) = _ := g6
      omega
    · subst z
      refine ⟨rb0, p, o, by rw [r1]; exact hy, rb2, ?_⟩
      by_cases z : (fr ≤ f ∧ f < fr + 2 ^ o) ∨ (p ≤ f ∧ f < p + 2 ^ o)
      · rcases z with z | z
        · rw [(at0 f z.1 z.2).1] at g3
          exact absurd g3 (by decide)
        · exact z
      · rw [(out0 f hf z).1] at g3
        rw [(out0 f hf z).2] at g1
        obtain ⟨b', fr', o', p1, p2, p3, p4, p5, p6⟩ := h.O.tk f hf g3
        have e : b' = b := by omega
        subst e
        have e1 : fr' = fr := by omega
        have e2 : o' = o := by omega
        subst e1 e2
        exact absurd (Or.inl p6) z
    · subst z
      by_cases z : (fr ≤ f ∧ f < fr + 2 ^ o) ∨ (p ≤ f ∧ f < p + 2 ^ o)
      · rcases z with z | z
        · rw [(at0 f z.1 z.2).1] at g4
          exact absurd g4 (by decide)
        · rw [(atP f z.1 z.2).1] at g4
          exact absurd g4 (by decide)
      · rw [(out0 f hf z).1] at g4
        rw [(out0 f hf z).2] at g1
        obtain ⟨b', t, o', p1, p2, p3, p4, p5, p6⟩ := h.O.hl f hf g4
        have e : b' = b := by omega
        subst e
        rw [h6] at p4
        have p4 : (0 : Int) = _ := p4
        omega
    · rcases z with z | z
      · obtain ⟨q0, q1, -⟩ := at0 f z.1 z.2
        exact Or.inr ⟨by rw [q0]; decide, by rw [q0]; decide, q1⟩
      · obtain ⟨q0, q1, -⟩ := atP f z.1 z.2
        exact Or.inl ⟨n, hn, rfl, by rw [q1]; exact hb1, Or.inl q0⟩
    · rw [mo (2358 + 8 * (f / 32) + 0) (by omega) (by omega) (by omega)]
      by_cases z : (fr ≤ f ∧ f < fr + 2 ^ o) ∨ (p ≤ f ∧ f < p + 2 ^ o)
      · rw [← h.O.of f hf]
        rcases z with z | z
        · rw [(at0 f z.1 z.2).1, (in3 f z.1 z.2).1]
          decide
        · rw [(atP f z.1 z.2).1, hfree f z.1 z.2]
          decide
      · rw [(out0 f hf z).1]
        exact h.O.of f hf
/-- moveAtOnce | movesTo -/
theorem p_move {g : Prop} {N n fr p o : Nat} {c : sm_S} {v : Nat → Int32} {a1 a2 : Int32} (h : tie g N c v) (hj : jj N v) (hx : jx v) (h1 : a1.toInt = n) (hn : n < 96) (h0 : v (786 + 16 * n + 0) = 1) (e1 : (v (786 + 16 * n + 1)).toInt = fr) (h6 : v (786 + 16 * n + 6) = 0) (e2 : (v (786 + 16 * n + 2)).toInt = o) (hst : v (2358 + 8 * (fr / 32) + 0) = 1) (h2 : a2.toInt = p) (hto : p < 256) (halt : p % 2 ^ o = 0) (hfree : ∀ f, p ≤ f → f < p + 2 ^ o → v (18 + 3 * f) = 1) : ∃ c', rd j_M_movesTo [.ref 0, .int a1, .int a2] v (cnF (mwF v n fr p o (a1 + 1) a2) 10 1) ∧ xC xD j_Y_moveAtOnce [.ref 0, .int a1, .int a2] c (sm_V (fun σ' => σ' = c')) ∧ tie g N c' (cnF (mwF v n fr p o (a1 + 1) a2) 10 1) ∧ jj N (cnF (mwF v n fr p o (a1 + 1) a2) 10 1) ∧ jx (cnF (mwF v n fr p o (a1 + 1) a2) 10 1) ∧ (∀ i, (i < 18 + 3 * fr ∨ 18 + 3 * (fr + 2 ^ o) ≤ i) → (i < 18 + 3 * p ∨ 18 + 3 * (p + 2 ^ o) ≤ i) → i ≠ 786 + 16 * n + 1 → i ≠ 17 → cnF (mwF v n fr p o (a1 + 1) a2) 10 1 i = v i) ∧ (∀ f, fr ≤ f → f < fr + 2 ^ o → cnF (mwF v n fr p o (a1 + 1) a2) 10 1 (18 + 3 * f) = 1) ∧ (∀ f, p ≤ f → f < p + 2 ^ o → cnF (mwF v n fr p o (a1 + 1) a2) 10 1 (18 + 3 * f) = 3) ∧ cnF (mwF v n fr p o (a1 + 1) a2) 10 1 (786 + 16 * n + 1) = a2 := by
  obtain ⟨o', fr', b1, ho, b3, hfr, hal, -⟩ := hj.2.1.1 n hn
  have eo : o' = o := by omega
  have ef : fr' = fr := by omega
  subst eo ef
  have hle := al_le ho hfr hal
  have hlt := al_le ho hto halt
  have hpw := t_pw (k := o') (by omega)
  have hsal := t_al (k := o') (by omega) hal
  obtain ⟨gb, gb9⟩ := (h.s.B n hn).al h0
  have gs := h.s.S (fr' / 32) (by omega)
  have c18 : c 18 (fr' / 32) = 1 := by rw [← gs.sta]; exact hst
  have hp : v (2358 + 8 * (fr' / 32) + 2) = 0 := by rw [gs.par]; exact (gs.off (Or.inr c18)).1
  obtain ⟨s1, hd⟩ := sim_move h.s h.b hn h0 e1 h6 e2 ho hfr hal hto halt hp hfree h1 h2
  have c9 : (c 9 n).toInt = fr' := by rw [← gb.fir]; exact e1
  have c10 : (c 10 n).toInt = o' := by rw [← gb.ord]; exact e2
  have run : rd j_M_movesTo [.ref 0, .int a1, .int a2] v (cnF (mwF v n fr' p o' (a1 + 1) a2) 10 1) := fun σ e => by
    rw [← e]
    exact c_movesTo2 h1 hn h2 ho hlt hle hd σ (by rw [e]; exact e1) (by rw [e]; exact e2)
  have det := run.det (c_movesTo (N := N) h1 hn h2 hto (rz v) (by rw [rz_at]; exact e2) halt (by rw [rz_at]; exact h6) (by rw [rz_at]; exact h0) (by rw [rz_at]; exact hj))
  have jw : jj N (cnF (mwF v n fr' p o' (a1 + 1) a2) 10 1) := by
    obtain ⟨w, ew, jw, -⟩ := det
    rw [rz_eq ew] at jw
    exact jw
  have mo : ∀ i, (i < 18 + 3 * fr' ∨ 18 + 3 * (fr' + 2 ^ o') ≤ i) → (i < 18 + 3 * p ∨ 18 + 3 * (p + 2 ^ o') ≤ i) → i ≠ 786 + 16 * n + 1 → mwF v n fr' p o' (a1 + 1) a2 i = v i := fun i a b d => mwF_o hd hlt hle a b d
  have t1 : tie g N (mvC c n fr' p o' a1 a2) (mwF v n fr' p o' (a1 + 1) a2) := by
    refine h.to s1 (fun k k1 k2 => ?_) (mo 5 (by omega) (by omega) (by omega)) (fun i hi => mo i (by omega) (by omega) (by omega)) (fun b hb => bk_cong (fun k _ _ _ _ => (u_ne (by omega)).symm) (jw.2.1.1 b hb))
    unfold mvC
    rw [s_ne (by omega), lgC_o (by omega), s_ne (by omega), gvC_o (by omega)]
  have t2 := t1.cnt (k := 10) (by decide) 1
  refine ⟨_, run, ?_, t2, jw, ?_, fun i a b d e => (u_ne (by omega)).trans (mo i a b d), fun f a b => ?_, fun f a b => ?_, ?_⟩
  · refine d_Y_moveAtOnce a1 a2 c _ ⟨t_vp h1 hn, (c_size h1 hn c).int ?_⟩
    rintro y1 σ1 ⟨ey1, es1⟩
    rw [ey1, es1, t_nat h1]
    refine (e_give2 a1 h2 (t_pow c10 (by omega)) ho hlt c).void ?_
    rintro _ rfl
    refine (e_copyValues2 c9 h2 (t_pow c10 (by omega)) hle hlt (by omega) _).void ?_
    rintro _ rfl
    refine (e_letGo2 c9 (t_pow c10 (by omega)) ho hle 0 _).void ?_
    rintro _ rfl
    refine ⟨t_vp h1 hn, fun σ6 e6 => ⟨t_vp (n := 10) rfl (by omega), t_vp (n := 10) rfl (by omega), fun σ7 e7 => ⟨rfl, ?_⟩⟩⟩
    rw [e7, e6]
    rfl
  · refine hx.re (n := n) (fun b k q1 q2 q3 => (u_ne (by omega)).trans (mo _ (by omega) (by omega) (by omega))) (fun _ => ⟨fun _ => ?_, fun to2 fr2 o2 y1 y2 y3 => ?_⟩) (fun _ => ?_) (fun s' hs' z => ⟨fun y => z (((u_ne (by omega)).trans (mo _ (by omega) (by omega) (by omega))).trans y), (u_ne (by omega)).trans (mo _ (by omega) (by omega) (by omega))⟩) ((u_ne (by omega)).trans (mo _ (by omega) (by omega) (by omega))) (fun i i1 i2 => (u_ne (by omega)).trans (mo _ (by omega) (by omega) (by omega)))
    · exact ((u_ne (by omega)).trans (mo _ (by omega) (by omega) (by omega))).trans ((hx.1 n hn h0).1 h6)
    · have e6 : cnF (mwF v n fr' p o' (a1 + 1) a2) 10 1 (786 + 16 * n + 6) = v (786 + 16 * n + 6) := (u_ne (by omega)).trans (mo _ (by omega) (by omega) (by omega))
      rw [e6, h6] at y1
      have y1 : (0 : Int) = _ := y1
      omega
    · have e3 : cnF (mwF v n fr' p o' (a1 + 1) a2) 10 1 (786 + 16 * n + 3) = v (786 + 16 * n + 3) := (u_ne (by omega)).trans (mo _ (by omega) (by omega) (by omega))
      rw [e3]
      exact hx.2.1 n hn h0
  · have e : f / 32 = fr' / 32 := by omega
    refine (u_ne (by omega)).trans ?_
    unfold mwF
    rw [u_ne (by omega), mvF_at hlt hle hd, if_pos (by omega), if_pos (by omega), show (18 + 3 * f - 18) / 3 = f by omega]
    unfold shV
    rw [e, hp]
    exact if_neg (by show ¬ _ < (0 : Int); omega)
  · refine (u_ne (by omega)).trans ?_
    unfold mwF
    rw [u_ne (by omega), mvF_at hlt hle hd, if_neg (by omega), if_pos (by omega), if_pos (by omega)]
  · refine (u_ne (by omega)).trans ?_
    exact u_at
