/-! ===== the simulation: a block goes ===== -/
theorem lgC_2 (c : sm_S) (fr o : Nat) (sb : Int32) : lgC c fr o sb 2 = upd (c 2) (fr / 32) (c 2 (fr / 32) ||| (rgB (fr % 32) o &&& (sb ^^^ (-1)))) := rfl
theorem lgC_3 (c : sm_S) (fr o : Nat) (sb : Int32) : lgC c fr o sb 3 = upd (c 3) (fr / 32) (c 3 (fr / 32) ||| (rgB (fr % 32) o &&& sb)) := rfl
theorem lgC_4 (c : sm_S) (fr o : Nat) (sb : Int32) : lgC c fr o sb 4 = upd (c 4) (fr / 32) (c 4 (fr / 32) &&& (rgB (fr % 32) o ^^^ (-1))) := rfl
theorem lgC_5 (c : sm_S) (fr o : Nat) (sb : Int32) : lgC c fr o sb 5 = upd (c 5) (fr / 32) (c 5 (fr / 32) &&& (rgB (fr % 32) o ^^^ (-1))) := rfl
theorem lgC_6 (c : sm_S) (fr o : Nat) (sb : Int32) : lgC c fr o sb 6 = rg (c 6) fr (2 ^ o) (-1) := rfl
theorem lgC_7 (c : sm_S) (fr o : Nat) (sb : Int32) : lgC c fr o sb 7 = rg (c 7) fr (2 ^ o) 0 := rfl
theorem lgC_o {c : sm_S} {fr o k : Nat} {sb : Int32} (h : k < 2 ∨ 7 < k) : lgC c fr o sb k = c k := by
  unfold lgC
  rw [s_ne (by omega), s_ne (by omega), s_ne (by omega), s_ne (by omega), s_ne (by omega), s_ne (by omega)]
theorem shV_12 (v : Nat → Int32) (f : Nat) : shV v f = 1 ∨ shV v f = 2 := by
  unfold shV
  split
  · exact Or.inr rfl
  · exact Or.inl rfl
theorem lvF_in {v : Nat → Int32} {fr n f : Nat} (h1 : fr ≤ f) (h2 : f < fr + n) : lvF v fr n (18 + 3 * f) = shV v f ∧ lvF v fr n (18 + 3 * f + 1) = 0 ∧ lvF v fr n (18 + 3 * f + 2) = 0 := by
  unfold lvF
  refine ⟨?_, ?_, ?_⟩
  · rw [if_pos (by omega), if_pos (by omega)]
    exact congrArg (shV v) (by omega)
  · rw [if_pos (by omega), if_neg (by omega)]
  · rw [if_pos (by omega), if_neg (by omega)]
/-- the frames of a block that leaves, on both sides -/
theorem sF_lv {c : sm_S} {v : Nat → Int32} {fr o p f : Nat} {sb : Int32} (g : sF c v f) (hf : f < 256) (ho : o ≤ 4) (hfr : fr < 256) (hal : fr % 2 ^ o = 0) (hp : (v (2358 + 8 * (fr / 32) + 2)).toInt = p) (hsb : ∀ i, i < 32 → (bit sb i ↔ i / 8 < p)) (hin : fr ≤ f → f < fr + 2 ^ o → v (18 + 3 * f) = 3 ∨ v (18 + 3 * f) = 4) : sF (lgC c fr o sb) (lvF v fr (2 ^ o)) f := by
  have ha := t_al (k := o) (by omega) hal
  have hi : f % 32 < 32 := Nat.mod_lt _ (by decide)
  have hpf : fr % 32 < 32 := Nat.mod_lt _ (by decide)
  by_cases hr : fr ≤ f ∧ f < fr + 2 ^ o
  · have hs : f / 32 = fr / 32 := by omega
    obtain ⟨e0, e1, e2⟩ := lvF_in (v := v) hr.1 hr.2
    have hrg : bit (rgB (fr % 32) o) (f % 32) := (rgB_iff ho hpf hi).mpr (by omega)
    have h34 := hin hr.1 hr.2
    have n2 : ¬ bit (c 2 (f / 32)) (f % 32) := fun z => by
      rw [g.fre] at z
      rw [z] at h34
      exact absurd h34 (by decide)
    have n3 : ¬ bit (c 3 (f / 32)) (f % 32) := fun z => by
      rw [g.apa] at z
      rw [z] at h34
      exact absurd h34 (by decide)
    have hsh : shV v f = if f % 32 / 8 < p then 2 else 1 := by
      unfold shV
      rw [hs, hp]
      by_cases q : f % 32 / 8 < p
      · rw [if_pos (by omega), if_pos q]
      · rw [if_neg (by omega), if_neg q]
    rw [hs] at n2 n3
    refine ⟨?_, ?_, ?_, ?_, ?_, ?_, ?_⟩
    · rw [e0]
      rcases shV_12 v f with q | q
      · exact Or.inr (Or.inl q)
      · exact Or.inr (Or.inr (Or.inl q))
    · rw [e0, lgC_2, hs, u_at, bit_or, bit_and, bit_not hi, hsb _ hi, hsh]
      by_cases q : f % 32 / 8 < p
      · rw [if_pos q]
        exact ⟨fun z => (z.elim (fun z => absurd z n2) (fun z => absurd q z.2)), fun z => absurd z (by decide)⟩
      · rw [if_neg q]
        exact ⟨fun _ => rfl, fun _ => Or.inr ⟨hrg, q⟩⟩
    · rw [e0, lgC_3, hs, u_at, bit_or, bit_and, hsb _ hi, hsh]
      by_cases q : f % 32 / 8 < p
      · rw [if_pos q]
        exact ⟨fun _ => rfl, fun _ => Or.inr ⟨hrg, q⟩⟩
      · rw [if_neg q]
        exact ⟨fun z => (z.elim (fun z => absurd z n3) (fun z => absurd z.2 q)), fun z => absurd z (by decide)⟩
    · rw [e0, lgC_4, hs, u_at, bit_and, bit_not hi]
      refine ⟨fun z => absurd hrg z.2, fun z => ?_⟩
      rcases shV_12 v f with q | q <;> rw [q] at z <;> exact absurd z (by decide)
    · rw [e0, lgC_5, hs, u_at, bit_and, bit_not hi]
      refine ⟨fun z => absurd hrg z.2, fun z => ?_⟩
      rcases shV_12 v f with q | q <;> rw [q] at z <;> exact absurd z (by decide)
    · rw [e1, lgC_6, rg_in hr.1 hr.2]
      rfl
    · rw [e2, lgC_7, rg_in hr.1 hr.2]
  · have e0 : lvF v fr (2 ^ o) (18 + 3 * f) = v (18 + 3 * f) := lvF_out (by omega)
    have e1 : lvF v fr (2 ^ o) (18 + 3 * f + 1) = v (18 + 3 * f + 1) := lvF_out (by omega)
    have e2 : lvF v fr (2 ^ o) (18 + 3 * f + 2) = v (18 + 3 * f + 2) := lvF_out (by omega)
    by_cases hs : f / 32 = fr / 32
    · have hrg : ¬ bit (rgB (fr % 32) o) (f % 32) := fun z => by
        have := (rgB_iff ho hpf hi).mp z
        omega
      have k2 := g.fre
      have k3 := g.apa
      have k4 := g.tak
      have k5 := g.hel
      rw [hs] at k2 k3 k4 k5
      refine ⟨by rw [e0]; exact g.rng, ?_, ?_, ?_, ?_, ?_, ?_⟩
      · rw [e0, lgC_2, hs, u_at, bit_or, bit_and, ← k2]
        exact ⟨fun z => z.elim id (fun z => absurd z.1 hrg), Or.inl⟩
      · rw [e0, lgC_3, hs, u_at, bit_or, bit_and, ← k3]
        exact ⟨fun z => z.elim id (fun z => absurd z.1 hrg), Or.inl⟩
      · rw [e0, lgC_4, hs, u_at, bit_and, bit_not hi, ← k4]
        exact ⟨fun z => z.1, fun z => ⟨z, hrg⟩⟩
      · rw [e0, lgC_5, hs, u_at, bit_and, bit_not hi, ← k5]
        exact ⟨fun z => z.1, fun z => ⟨z, hrg⟩⟩
      · rw [e1, lgC_6, rg_out (by omega)]
        exact g.blk
      · rw [e2, lgC_7, rg_out (by omega)]
        exact g.val
    · exact g.cg (by rw [lgC_2, u_ne hs]) (by rw [lgC_3, u_ne hs]) (by rw [lgC_4, u_ne hs]) (by rw [lgC_5, u_ne hs]) (by rw [lgC_6, rg_out (by omega)]) (by rw [lgC_7, rg_out (by omega)]) e0 e1 e2
theorem sim_goes {c : sm_S} {v : Nat → Int32} {b fr o p : Nat} {sb : Int32} (h : sim0 c v) (hk : ∀ b, b < 96 → bk_ok v b) (hb : b < 96) (h0 : v (786 + 16 * b + 0) = 1) (h6 : v (786 + 16 * b + 6) = 0) (h1 : (v (786 + 16 * b + 1)).toInt = fr) (h2 : (v (786 + 16 * b + 2)).toInt = o) (ho : o ≤ 4) (hfr : fr < 256) (hal : fr % 2 ^ o = 0) (hp : (v (2358 + 8 * (fr / 32) + 2)).toInt = p) (hsb : ∀ i, i < 32 → (bit sb i ↔ i / 8 < p)) : sim0 (sm_set (lgC c fr o sb) 9 (upd (c 9) b (-1))) (upd (lvF v fr (2 ^ o)) (786 + 16 * b + 0) 0) := by
  have hle := al_le ho hfr hal
  have own3 := h.O.hs b fr o hb h0 h1 h2
  have old : ∀ i, (i < 18 + 3 * fr ∨ 18 + 3 * (fr + 2 ^ o) ≤ i) → i ≠ 786 + 16 * b + 0 → upd (lvF v fr (2 ^ o)) (786 + 16 * b + 0) 0 i = v i := fun i h1 h2 => by rw [u_ne h2, lvF_out h1]
  have oldB : ∀ b' k, b' < 96 → k < 16 → (b' ≠ b ∨ k ≠ 0) → upd (lvF v fr (2 ^ o)) (786 + 16 * b + 0) 0 (786 + 16 * b' + k) = v (786 + 16 * b' + k) := fun b' k h1 h2 h3 => old _ (by omega) (by omega)
  have oldF : ∀ i, i < 786 → upd (lvF v fr (2 ^ o)) (786 + 16 * b + 0) 0 i = lvF v fr (2 ^ o) i := fun i hi => u_ne (by omega)
  refine ⟨fun f hf => ?_, fun b' hb' => ?_, fun s hs => ?_, fun t ht => ?_, ?_, ?_, ?_⟩
  · have g := sF_lv (sb := sb) (h.F f hf) hf ho hfr hal hp hsb (fun a1 a2 => by
      have := (own3 (f - fr) (by omega)).1
      rw [show fr + (f - fr) = f by omega] at this
      exact Or.inl this)
    exact g.cg (by rw [s_ne (by decide)]) (by rw [s_ne (by decide)]) (by rw [s_ne (by decide)]) (by rw [s_ne (by decide)]) (by rw [s_ne (by decide)]) (by rw [s_ne (by decide)]) (oldF _ (by omega)) (oldF _ (by omega)) (oldF _ (by omega))
  · by_cases e : b' = b
    · subst e
      exact Or.inl ⟨by rw [s_at, u_at], u_at⟩
    · have cg : ∀ k, 9 < k → k ≤ 16 → sm_set (lgC c fr o sb) 9 (upd (c 9) b (-1)) k = c k := fun k h1 h2 => by rw [s_ne (by omega), lgC_o (by omega)]
      exact (h.B b' hb').cg (by rw [s_at, u_ne e]) (by rw [cg 10 (by decide) (by decide)]) (by rw [cg 11 (by decide) (by decide)]) (by rw [cg 12 (by decide) (by decide)]) (by rw [cg 13 (by decide) (by decide)]) (by rw [cg 14 (by decide) (by decide)]) (by rw [cg 15 (by decide) (by decide)]) (by rw [cg 16 (by decide) (by decide)]) (fun k hk => oldB b' k hb' (by omega) (Or.inl e))
  · exact (h.S s hs).cg (fun k h1 h2 => by rw [s_ne (by omega), lgC_o (by omega)]) (fun k hk => old _ (by omega) (by omega))
  · exact (h.T t ht).cg (fun k h1 h2 => by rw [s_ne (by omega), lgC_o (by omega)]) (fun k hk => old _ (by omega) (by omega))
  · obtain ⟨L, hL⟩ := h.Q
    exact ⟨L, hL.cg (by rw [s_ne (by omega), lgC_o (by omega)]) (by rw [s_ne (by omega), lgC_o (by omega)]) (by rw [s_ne (by omega), lgC_o (by omega)]) (fun b' k h1 h2 h3 => oldB b' k h1 h3 (Or.inr (by omega)))⟩
  · exact h.N.cg (by rw [s_ne (by omega), lgC_o (by omega)]) (by rw [s_ne (by omega), lgC_o (by omega)]) (by rw [s_ne (by omega), lgC_o (by omega)]) (by rw [s_ne (by omega), lgC_o (by omega)]) (fun i hi _ => old i (by omega) (by omega))
  · have in12 : ∀ f, fr ≤ f → f < fr + 2 ^ o → upd (lvF v fr (2 ^ o)) (786 + 16 * b + 0) 0 (18 + 3 * f) = shV v f := fun f a1 a2 => by rw [oldF _ (by omega)]; exact (lvF_in a1 a2).1
    have out0 : ∀ f, f < 256 → ¬ (fr ≤ f ∧ f < fr + 2 ^ o) → upd (lvF v fr (2 ^ o)) (786 + 16 * b + 0) 0 (18 + 3 * f) = v (18 + 3 * f) ∧ upd (lvF v fr (2 ^ o)) (786 + 16 * b + 0) 0 (18 + 3 * f + 1) = v (18 + 3 * f + 1) := fun f a1 a2 => ⟨old _ (by omega) (by omega), old _ (by omega) (by omega)⟩
    have alive : ∀ b', b' < 96 → upd (lvF v fr (2 ^ o)) (786 + 16 * b + 0) 0 (786 + 16 * b' + 0) = 1 → b' ≠ b ∧ v (786 + 16 * b' + 0) = 1 := fun b' hb' z => by
      by_cases e : b' = b
      · subst e
        rw [u_at] at z
        exact absurd z (by decide)
      · exact ⟨e, by rw [← oldB b' 0 hb' (by decide) (Or.inl e)]; exact z⟩
    refine ⟨fun b' fr' o' hb' g0 g1 g2 j hj => ?_, fun b' t' o' hb' g0 g6 g2 => ?_, fun f hf g3 => ?_, fun f hf g4 => ?_, fun f hf g3 g4 => ?_, fun f hf => ?_⟩
    · obtain ⟨e, g0⟩ := alive b' hb' g0
      rw [oldB b' 1 hb' (by decide) (Or.inl e)] at g1
      rw [oldB b' 2 hb' (by decide) (Or.inl e)] at g2
      have hx := h.O.hs b' fr' o' hb' g0 g1 g2 j hj
      obtain ⟨o2, fr2, p1, p2, p3, p4, p5, -⟩ := hk b' hb'
      have e1 : o2 = o' := by omega
      have e2 : fr2 = fr' := by omega
      subst e1 e2
      have hl := al_le p2 p4 p5
      have hout : ¬ (fr ≤ fr2 + j ∧ fr2 + j < fr + 2 ^ o) := fun z => by
        have hy := (own3 (fr2 + j - fr) (by omega)).2
        rw [show fr + (fr2 + j - fr) = fr2 + j by omega, hx.2] at hy
        omega
      rw [(out0 _ (by omega) hout).1, (out0 _ (by omega) hout).2]
      exact hx
    · obtain ⟨e, g0⟩ := alive b' hb' g0
      rw [oldB b' 6 hb' (by decide) (Or.inl e)] at g6
      rw [oldB b' 2 hb' (by decide) (Or.inl e)] at g2
      obtain ⟨hx1, hx2⟩ := h.O.hd b' t' o' hb' g0 g6 g2
      refine ⟨by rw [oldB b' 3 hb' (by decide) (Or.inl e)]; exact hx1, fun j hj => ?_⟩
      have hx := hx2 j hj
      have hl := bk_to (hk b' hb') g6 g2
      have hout : ¬ (fr ≤ t' + j ∧ t' + j < fr + 2 ^ o) := fun z => by
        have hy := (own3 (t' + j - fr) (by omega)).1
        rw [show fr + (t' + j - fr) = t' + j by omega, hx.1] at hy
        exact absurd hy (by decide)
      rw [(out0 _ (by omega) hout).1, (out0 _ (by omega) hout).2]
      exact hx
    · have hout : ¬ (fr ≤ f ∧ f < fr + 2 ^ o) := fun z => by
        rw [in12 f z.1 z.2] at g3
        rcases shV_12 v f with q | q <;> rw [q] at g3 <;> exact absurd g3 (by decide)
      obtain ⟨k0, k1⟩ := out0 f hf hout
      rw [k0] at g3
      obtain ⟨b', fr', o', p1, p2, p3, p4, p5, p6, p7⟩ := h.O.tk f hf g3
      have e : b' ≠ b := fun z => by
        subst z
        have e2 : o' = o := by omega
        subst e2
        exact hout (by omega)
      exact ⟨b', fr', o', p1, by rw [k1]; exact p2, by rw [oldB b' 0 p1 (by decide) (Or.inl e)]; exact p3, by rw [oldB b' 1 p1 (by decide) (Or.inl e)]; exact p4, by rw [oldB b' 2 p1 (by decide) (Or.inl e)]; exact p5, p6, p7⟩
    · have hout : ¬ (fr ≤ f ∧ f < fr + 2 ^ o) := fun z => by
        rw [in12 f z.1 z.2] at g4
        rcases shV_12 v f with q | q <;> rw [q] at g4 <;> exact absurd g4 (by decide)
      obtain ⟨k0, k1⟩ := out0 f hf hout
      rw [k0] at g4
      obtain ⟨b', t', o', p1, p2, p3, p4, p5, p6, p7⟩ := h.O.hl f hf g4
      have e : b' ≠ b := fun z => by
        subst z
        rw [h6] at p4
        have p4 : (0 : Int) = _ := p4
        omega
      exact ⟨b', t', o', p1, by rw [k1]; exact p2, by rw [oldB b' 0 p1 (by decide) (Or.inl e)]; exact p3, by rw [oldB b' 6 p1 (by decide) (Or.inl e)]; exact p4, by rw [oldB b' 2 p1 (by decide) (Or.inl e)]; exact p5, p6, p7⟩
    · by_cases z : fr ≤ f ∧ f < fr + 2 ^ o
      · rw [oldF _ (by omega)]
        exact (lvF_in z.1 z.2).2.1
      · obtain ⟨k0, k1⟩ := out0 f hf z
        rw [k0] at g3 g4
        rw [k1]
        exact h.O.no f hf g3 g4
    · rw [old (2358 + 8 * (f / 32) + 0) (by omega) (by omega)]
      by_cases z : fr ≤ f ∧ f < fr + 2 ^ o
      · have h3 := (own3 (f - fr) (by omega)).1
        rw [show fr + (f - fr) = f by omega] at h3
        rw [in12 f z.1 z.2, ← h.O.of f hf, h3]
        rcases shV_12 v f with q | q <;> rw [q] <;> decide
      · rw [(out0 f hf z).1]
        exact h.O.of f hf
