/-! ===== the simulation: a block arrives ===== -/
theorem sF_st {c : sm_S} {v : Nat → Int32} {fr o f : Nat} {x : Int32} (g : sF c v f) (ho : o ≤ 4) (hal : fr % 2 ^ o = 0) (hin : fr ≤ f → f < fr + 2 ^ o → v (18 + 3 * f) = 4 ∧ v (18 + 3 * f + 1) = x) : sF (stC c fr o) (hsF v fr (2 ^ o) 3 x) f := by
  have ha := t_al (k := o) (by omega) hal
  have hi : f % 32 < 32 := Nat.mod_lt _ (by decide)
  have hpf : fr % 32 < 32 := Nat.mod_lt _ (by decide)
  have c2 : stC c fr o 2 = c 2 := rfl
  have c3 : stC c fr o 3 = c 3 := rfl
  have c4 : stC c fr o 4 = upd (c 4) (fr / 32) (c 4 (fr / 32) ||| rgB (fr % 32) o) := rfl
  have c5 : stC c fr o 5 = upd (c 5) (fr / 32) (c 5 (fr / 32) &&& (rgB (fr % 32) o ^^^ (-1))) := rfl
  have c6 : stC c fr o 6 = c 6 := rfl
  have c7 : stC c fr o 7 = c 7 := rfl
  by_cases hr : fr ≤ f ∧ f < fr + 2 ^ o
  · have hs : f / 32 = fr / 32 := by omega
    obtain ⟨e0, e1, e2⟩ := hsF_in (v := v) (s := 3) (x := x) hr.1 hr.2
    have hrg : bit (rgB (fr % 32) o) (f % 32) := (rgB_iff ho hpf hi).mpr (by omega)
    obtain ⟨h1, h2⟩ := hin hr.1 hr.2
    refine ⟨?_, ?_, ?_, ?_, ?_, ?_, ?_⟩
    · rw [e0]; decide
    · rw [e0, c2, g.fre, h1]; decide
    · rw [e0, c3, g.apa, h1]; decide
    · rw [e0, c4, hs, u_at, bit_or]
      exact ⟨fun _ => rfl, fun _ => Or.inr hrg⟩
    · rw [e0, c5, hs, u_at, bit_and, bit_not hi]
      exact ⟨fun z => absurd hrg z.2, fun z => absurd z (by decide)⟩
    · rw [e1, c6, ← h2]; exact g.blk
    · rw [e2, c7]; exact g.val
  · have e0 : hsF v fr (2 ^ o) 3 x (18 + 3 * f) = v (18 + 3 * f) := hsF_out (by omega)
    have e1 : hsF v fr (2 ^ o) 3 x (18 + 3 * f + 1) = v (18 + 3 * f + 1) := hsF_out (by omega)
    have e2 : hsF v fr (2 ^ o) 3 x (18 + 3 * f + 2) = v (18 + 3 * f + 2) := hsF_out (by omega)
    by_cases hs : f / 32 = fr / 32
    · have hrg : ¬ bit (rgB (fr % 32) o) (f % 32) := fun z => by
        have := (rgB_iff ho hpf hi).mp z
        omega
      have k4 := g.tak
      have k5 := g.hel
      rw [hs] at k4 k5
      refine ⟨by rw [e0]; exact g.rng, by rw [e0, c2]; exact g.fre, by rw [e0, c3]; exact g.apa, ?_, ?_, by rw [e1, c6]; exact g.blk, by rw [e2, c7]; exact g.val⟩
      · rw [e0, c4, hs, u_at, bit_or, ← k4]
        exact ⟨fun z => z.elim id (fun z => absurd z hrg), Or.inl⟩
      · rw [e0, c5, hs, u_at, bit_and, bit_not hi, ← k5]
        exact ⟨fun z => z.1, fun z => ⟨z, hrg⟩⟩
    · exact g.cg (by rw [c2]) (by rw [c3]) (by rw [c4, u_ne hs]) (by rw [c5, u_ne hs]) (by rw [c6]) (by rw [c7]) e0 e1 e2
theorem stC_o {c : sm_S} {fr o k : Nat} (h : k ≠ 4 ∧ k ≠ 5) : stC c fr o k = c k := by
  unfold stC
  rw [s_ne h.1, s_ne h.2]
def arF (v : Nat → Int32) (n s fr to o : Nat) (x y : Int32) : Nat → Int32 := upd (upd (upd (upd (hsF (lvF v fr (2 ^ o)) to (2 ^ o) 3 x) (786 + 16 * n + 1) y) (786 + 16 * n + 6) 0) (786 + 16 * n + 7) 0) (2358 + 8 * s + 6) 0
theorem arF_o {v : Nat → Int32} {n s fr to o i : Nat} {x y : Int32} (h1 : i < 18 + 3 * fr ∨ 18 + 3 * (fr + 2 ^ o) ≤ i) (h2 : i < 18 + 3 * to ∨ 18 + 3 * (to + 2 ^ o) ≤ i) (h3 : i ≠ 786 + 16 * n + 1) (h4 : i ≠ 786 + 16 * n + 6) (h5 : i ≠ 786 + 16 * n + 7) (h6 : i ≠ 2358 + 8 * s + 6) : arF v n s fr to o x y i = v i := by
  unfold arF
  rw [u_ne h6, u_ne h5, u_ne h4, u_ne h3, hsF_out h2, lvF_out h1]
def arC (c : sm_S) (n s fr to o : Nat) (sb y : Int32) : sm_S := ewC (sm_set (stC (lgC c fr o sb) to o) 9 (upd (c 9) n y)) n s
theorem sim_arr {c : sm_S} {v : Nat → Int32} {n s fr to o p : Nat} {sb bI y : Int32} (h : sim0 c v) (hk : ∀ b, b < 96 → bk_ok v b) (hn : n < 96) (hs : s < 8) (h0 : v (786 + 16 * n + 0) = 1) (h1 : (v (786 + 16 * n + 1)).toInt = fr) (h6 : (v (786 + 16 * n + 6)).toInt = ((to + 1 : Nat) : Int)) (h2 : (v (786 + 16 * n + 2)).toInt = o) (ho : o ≤ 4) (hfr : fr < 256) (hal : fr % 2 ^ o = 0) (hto : to < 256) (halt : to % 2 ^ o = 0) (hp : (v (2358 + 8 * (fr / 32) + 2)).toInt = p) (hsb : ∀ i, i < 32 → (bit sb i ↔ i / 8 < p)) (hbI : bI.toInt = n) (hy : y.toInt = to) : sim0 (arC c n s fr to o sb y) (arF v n s fr to o (bI + 1) y) := by
  have hle := al_le ho hfr hal
  have hlt := al_le ho hto halt
  have hb1 : (bI + 1).toInt = ((n + 1 : Nat) : Int) := by
    rw [t_add hbI (y := 1) rfl (by omega) (by omega)]
    omega
  have own3 := h.O.hs n fr o hn h0 h1 h2
  obtain ⟨hkd, own4⟩ := h.O.hd n to o hn h0 h6 h2
  have in3 : ∀ f, fr ≤ f → f < fr + 2 ^ o → v (18 + 3 * f) = 3 ∧ (v (18 + 3 * f + 1)).toInt = ((n + 1 : Nat) : Int) := fun f a1 a2 => by
    have := own3 (f - fr) (by omega)
    rw [show fr + (f - fr) = f by omega] at this
    exact this
  have in4 : ∀ f, to ≤ f → f < to + 2 ^ o → v (18 + 3 * f) = 4 ∧ (v (18 + 3 * f + 1)).toInt = ((n + 1 : Nat) : Int) := fun f a1 a2 => by
    have := own4 (f - to) (by omega)
    rw [show to + (f - to) = f by omega] at this
    exact this
  have dis : ∀ f, fr ≤ f → f < fr + 2 ^ o → to ≤ f → f < to + 2 ^ o → False := fun f a1 a2 a3 a4 => by
    have z := (in3 f a1 a2).1
    rw [(in4 f a3 a4).1] at z
    exact absurd z (by decide)
  have lo : ∀ i, i < 786 → arF v n s fr to o (bI + 1) y i = hsF (lvF v fr (2 ^ o)) to (2 ^ o) 3 (bI + 1) i := fun i hi => by
    unfold arF
    rw [u_ne (by omega), u_ne (by omega), u_ne (by omega), u_ne (by omega)]
  have co : ∀ k, k ≠ 9 → k ≠ 14 → k ≠ 15 → k ≠ 24 → arC c n s fr to o sb y k = stC (lgC c fr o sb) to o k := fun k h1 h2 h3 h4 => by
    unfold arC ewC
    rw [s_ne h4, s_ne h3, s_ne h2, s_ne h1]
  have c9 : arC c n s fr to o sb y 9 = upd (c 9) n y := rfl
  have c14 : arC c n s fr to o sb y 14 = upd (c 14) n (-1) := rfl
  have c15 : arC c n s fr to o sb y 15 = upd (c 15) n 0 := rfl
  have c24 : arC c n s fr to o sb y 24 = upd (c 24) s (-1) := rfl
  have r1 : arF v n s fr to o (bI + 1) y (786 + 16 * n + 1) = y := by
    unfold arF
    rw [u_ne (by omega), u_ne (by omega), u_ne (by omega), u_at]
  have r6 : arF v n s fr to o (bI + 1) y (786 + 16 * n + 6) = 0 := by
    unfold arF
    rw [u_ne (by omega), u_ne (by omega), u_at]
  have r7 : arF v n s fr to o (bI + 1) y (786 + 16 * n + 7) = 0 := by
    unfold arF
    rw [u_ne (by omega), u_at]
  have rs : arF v n s fr to o (bI + 1) y (2358 + 8 * s + 6) = 0 := u_at
  have cc : ∀ k, 8 ≤ k → k ≠ 9 → k ≠ 14 → k ≠ 15 → k ≠ 24 → arC c n s fr to o sb y k = c k := fun k h1 h2 h3 h4 h5 => by rw [co k h2 h3 h4 h5, stC_o (by omega), lgC_o (by omega)]
  refine h.fb (fun f hf => ?_) (fun b hb => ?_) (fun t ht => ?_) ?_ (fun k hk => by rw [co k (by omega) (by omega) (by omega) (by omega), stC_o (by omega), lgC_o (by omega)]) (fun i hi => arF_o (by omega) (by omega) (by omega) (by omega) (by omega) (by omega)) (fun b k h1 h2 h3 => arF_o (by omega) (by omega) (by omega) (by omega) (by omega) (by omega))
  · have g := sF_lv (sb := sb) (h.F f hf) hf ho hfr hal hp hsb (fun a1 a2 => Or.inl (in3 f a1 a2).1)
    have g2 := sF_st (x := bI + 1) g ho halt (fun a1 a2 => by
      have nd : ¬ (fr ≤ f ∧ f < fr + 2 ^ o) := fun z => dis f z.1 z.2 a1 a2
      rw [lvF_out (by omega), lvF_out (by omega)]
      exact ⟨(in4 f a1 a2).1, t_inj (by rw [(in4 f a1 a2).2, hb1])⟩)
    exact g2.cg (by rw [co 2 (by decide) (by decide) (by decide) (by decide)]) (by rw [co 3 (by decide) (by decide) (by decide) (by decide)]) (by rw [co 4 (by decide) (by decide) (by decide) (by decide)]) (by rw [co 5 (by decide) (by decide) (by decide) (by decide)]) (by rw [co 6 (by decide) (by decide) (by decide) (by decide)]) (by rw [co 7 (by decide) (by decide) (by decide) (by decide)]) (lo _ (by omega)) (lo _ (by omega)) (lo _ (by omega))
  · by_cases e : b = n
    · subst e
      have rk : ∀ k, k < 9 → k ≠ 1 → k ≠ 6 → k ≠ 7 → arF v b s fr to o (bI + 1) y (786 + 16 * b + k) = v (786 + 16 * b + k) := fun k h1 h2 h3 h4 => arF_o (by omega) (by omega) (by omega) (by omega) (by omega) (by omega)
      obtain ⟨q, q1⟩ := (h.B b hb).al h0
      exact Or.inr ⟨by rw [c9, u_at]; exact ne_m1 hy, by rw [rk 0 (by decide) (by decide) (by decide) (by decide)]; exact h0, by rw [r1, c9, u_at], by rw [rk 2 (by decide) (by decide) (by decide) (by decide), cc 10 (by decide) (by decide) (by decide) (by decide) (by decide)]; exact q.ord, by rw [rk 3 (by decide) (by decide) (by decide) (by decide), cc 11 (by decide) (by decide) (by decide) (by decide) (by decide)]; exact q.kin, by rw [rk 4 (by decide) (by decide) (by decide) (by decide), cc 12 (by decide) (by decide) (by decide) (by decide) (by decide)]; exact q.own, by rw [rk 5 (by decide) (by decide) (by decide) (by decide), cc 13 (by decide) (by decide) (by decide) (by decide) (by decide)]; exact q.pin, by rw [r6, c14, u_at]; rfl, by rw [r7, c15, u_at], by rw [rk 8 (by decide) (by decide) (by decide) (by decide), cc 16 (by decide) (by decide) (by decide) (by decide) (by decide)]; exact q.use⟩
    · exact (h.B b hb).cg (by rw [c9, u_ne e]) (by rw [cc 10 (by decide) (by decide) (by decide) (by decide) (by decide)]) (by rw [cc 11 (by decide) (by decide) (by decide) (by decide) (by decide)]) (by rw [cc 12 (by decide) (by decide) (by decide) (by decide) (by decide)]) (by rw [cc 13 (by decide) (by decide) (by decide) (by decide) (by decide)]) (by rw [c14, u_ne e]) (by rw [c15, u_ne e]) (by rw [cc 16 (by decide) (by decide) (by decide) (by decide) (by decide)]) (fun k hk => arF_o (by omega) (by omega) (by omega) (by omega) (by omega) (by omega))
  · by_cases e : t = s
    · subst e
      have g := h.S t ht
      have rk : ∀ k, k < 8 → k ≠ 6 → arF v n t fr to o (bI + 1) y (2358 + 8 * t + k) = v (2358 + 8 * t + k) := fun k h1 h2 => arF_o (by omega) (by omega) (by omega) (by omega) (by omega) (by omega)
      have ck : ∀ k, 18 ≤ k → k ≤ 25 → k ≠ 24 → arC c n t fr to o sb y k = c k := fun k h1 h2 h3 => cc k (by omega) (by omega) (by omega) (by omega) h3
      refine ⟨?_, ?_, ?_, ?_, ?_, ?_, ?_, ?_, ?_, ?_, ?_⟩
      · rw [rk 0 (by decide) (by decide), ck 18 (by decide) (by decide) (by decide)]; exact g.sta
      · rw [ck 18 (by decide) (by decide) (by decide), ck 19 (by decide) (by decide) (by decide)]; exact g.zof
      · rw [ck 18 (by decide) (by decide) (by decide), ck 19 (by decide) (by decide) (by decide), rk 1 (by decide) (by decide)]; exact g.zon
      · rw [rk 2 (by decide) (by decide), ck 20 (by decide) (by decide) (by decide)]; exact g.par
      · rw [rk 3 (by decide) (by decide), ck 21 (by decide) (by decide) (by decide)]; exact g.pas
      · rw [rk 4 (by decide) (by decide), ck 22 (by decide) (by decide) (by decide)]; exact g.pau
      · rw [ck 22 (by decide) (by decide) (by decide)]; exact g.pag
      · rw [ck 18 (by decide) (by decide) (by decide), ck 23 (by decide) (by decide) (by decide), rk 5 (by decide) (by decide)]; exact g.rea
      · rw [rs, c24, u_at]; rfl
      · rw [rk 7 (by decide) (by decide), ck 25 (by decide) (by decide) (by decide)]; exact g.why
      · rw [ck 18 (by decide) (by decide) (by decide), ck 20 (by decide) (by decide) (by decide), ck 21 (by decide) (by decide) (by decide), ck 22 (by decide) (by decide) (by decide), c24, u_at]
        exact fun z => ⟨(g.off z).1, (g.off z).2.1, (g.off z).2.2.1, rfl⟩
    · refine (h.S t ht).cg (fun k h1 h2 => ?_) (fun k hk => arF_o (by omega) (by omega) (by omega) (by omega) (by omega) (by omega))
      by_cases z : k = 24
      · rw [z, c24, u_ne e]
      · rw [cc k (by omega) (by omega) (by omega) (by omega) z]
  · have out0 : ∀ f, f < 256 → ¬ ((fr ≤ f ∧ f < fr + 2 ^ o) ∨ (to ≤ f ∧ f < to + 2 ^ o)) → arF v n s fr to o (bI + 1) y (18 + 3 * f) = v (18 + 3 * f) ∧ arF v n s fr to o (bI + 1) y (18 + 3 * f + 1) = v (18 + 3 * f + 1) := fun f a1 a2 => ⟨arF_o (by omega) (by omega) (by omega) (by omega) (by omega) (by omega), arF_o (by omega) (by omega) (by omega) (by omega) (by omega) (by omega)⟩
    have inA : ∀ f, f < 256 → (fr ≤ f ∧ f < fr + 2 ^ o) → arF v n s fr to o (bI + 1) y (18 + 3 * f) = shV v f ∧ arF v n s fr to o (bI + 1) y (18 + 3 * f + 1) = 0 := fun f a1 a2 => by
      have nd : ¬ (to ≤ f ∧ f < to + 2 ^ o) := fun z => dis f a2.1 a2.2 z.1 z.2
      rw [lo _ (by omega), lo _ (by omega), hsF_out (by omega), hsF_out (by omega)]
      exact ⟨(lvF_in a2.1 a2.2).1, (lvF_in a2.1 a2.2).2.1⟩
    have inB : ∀ f, f < 256 → (to ≤ f ∧ f < to + 2 ^ o) → arF v n s fr to o (bI + 1) y (18 + 3 * f) = 3 ∧ arF v n s fr to o (bI + 1) y (18 + 3 * f + 1) = bI + 1 := fun f a1 a2 => by
      rw [lo _ (by omega), lo _ (by omega)]
      obtain ⟨q0, q1, -⟩ := hsF_in (v := lvF v fr (2 ^ o)) (s := 3) (x := bI + 1) a2.1 a2.2
      exact ⟨q0, q1⟩
    have sh34 : ∀ f, shV v f ≠ 3 ∧ shV v f ≠ 4 ∧ shV v f ≠ 0 := fun f => by
      rcases shV_12 v f with q | q <;> rw [q] <;> decide
    have rb0 : arF v n s fr to o (bI + 1) y (786 + 16 * n + 0) = 1 := by
      rw [arF_o (by omega) (by omega) (by omega) (by omega) (by omega) (by omega)]; exact h0
    have rb2 : (arF v n s fr to o (bI + 1) y (786 + 16 * n + 2)).toInt = o := by
      rw [arF_o (by omega) (by omega) (by omega) (by omega) (by omega) (by omega)]; exact h2
    refine h.O.re (fun b => b = n) (fun f => (fr ≤ f ∧ f < fr + 2 ^ o) ∨ (to ≤ f ∧ f < to + 2 ^ o)) hk (fun b k h1 h2 h3 => arF_o (by omega) (by omega) (by omega) (by omega) (by omega) (by omega)) out0 (fun f hf z => Or.inr ⟨n, hn, rfl, z.elim (fun z => (in3 f z.1 z.2).2) (fun z => (in4 f z.1 z.2).2)⟩) (fun b fr' o' hb z g0 g1 g2 j hj => ?_) (fun b t o' hb z g0 g6 g2 => ?_) (fun f b hf hb z g3 g1 => ?_) (fun f b hf hb z g4 g1 => ?_) (fun f hf z => ?_) (fun f hf => ?_)
    · subst z
      rw [r1] at g1
      have e1 : fr' = to := by omega
      have e2 : o' = o := by omega
      subst e1 e2
      obtain ⟨q0, q1⟩ := inB (fr' + j) (by omega) (by omega)
      rw [q0, q1]
      exact ⟨rfl, hb1⟩
    · subst z
      rw [r6] at g6
      have g6 : (0 : Int) = _ := g6
      omega
    · subst z
      refine ⟨rb0, to, o, by rw [r1]; exact hy, rb2, ?_⟩
      by_cases z : (fr ≤ f ∧ f < fr + 2 ^ o) ∨ (to ≤ f ∧ f < to + 2 ^ o)
      · rcases z with z | z
        · rw [(inA f hf z).1] at g3
          exact absurd g3 (sh34 f).1
        · exact z
      · rw [(out0 f hf z).1] at g3
        rw [(out0 f hf z).2] at g1
        obtain ⟨b', fr', o', p1, p2, p3, p4, p5, p6⟩ := h.O.tk f hf g3
        have e : b' = b := by omega
        subst e
        have e1 : fr' = fr := by omega
        have e2 : o' = o := by omega
        subst e1 e2
        exact absurd (Or.inl p6) z
    · subst z
      by_cases z : (fr ≤ f ∧ f < fr + 2 ^ o) ∨ (to ≤ f ∧ f < to + 2 ^ o)
      · rcases z with z | z
        · rw [(inA f hf z).1] at g4
          exact absurd g4 (sh34 f).2.1
        · rw [(inB f hf z).1] at g4
          exact absurd g4 (by decide)
      · rw [(out0 f hf z).1] at g4
        rw [(out0 f hf z).2] at g1
        obtain ⟨b', t, o', p1, p2, p3, p4, p5, p6⟩ := h.O.hl f hf g4
        have e : b' = b := by omega
        subst e
        have e1 : t = to := by omega
        have e2 : o' = o := by omega
        subst e1 e2
        exact absurd (Or.inr p6) z
    · rcases z with z | z
      · exact Or.inr ⟨by rw [(inA f hf z).1]; exact (sh34 f).1, by rw [(inA f hf z).1]; exact (sh34 f).2.1, (inA f hf z).2⟩
      · exact Or.inl ⟨n, hn, rfl, by rw [(inB f hf z).2]; exact hb1, Or.inl (inB f hf z).1⟩
    · rw [arF_o (i := 2358 + 8 * (f / 32) + 0) (by omega) (by omega) (by omega) (by omega) (by omega) (by omega)]
      by_cases z : (fr ≤ f ∧ f < fr + 2 ^ o) ∨ (to ≤ f ∧ f < to + 2 ^ o)
      · rw [← h.O.of f hf]
        rcases z with z | z
        · rw [(inA f hf z).1, (in3 f z.1 z.2).1]
          exact ⟨fun y => absurd y (sh34 f).2.2, fun y => absurd y (by decide)⟩
        · rw [(inB f hf z).1, (in4 f z.1 z.2).1]
          decide
      · rw [(out0 f hf z).1]
        exact h.O.of f hf
