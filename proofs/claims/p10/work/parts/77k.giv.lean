/-! ===== the simulation: frames are given and held ===== -/
/-- frames that were free are given, on both sides -/
theorem sF_gv4 {c : sm_S} {v : Nat → Int32} {fr o f : Nat} {b : Int32} (g : sF c v f) (ho : o ≤ 4) (hal : fr % 2 ^ o = 0) (hin : fr ≤ f → f < fr + 2 ^ o → v (18 + 3 * f) = 1) : sF (gvC c 4 b fr o) (hsF v fr (2 ^ o) 3 (b + 1)) f := by
  have ha := t_al (k := o) (by omega) hal
  have hi : f % 32 < 32 := Nat.mod_lt _ (by decide)
  have hpf : fr % 32 < 32 := Nat.mod_lt _ (by decide)
  have c2 : gvC c 4 b fr o 2 = upd (c 2) (fr / 32) (c 2 (fr / 32) &&& (rgB (fr % 32) o ^^^ (-1))) := rfl
  have c3 : gvC c 4 b fr o 3 = c 3 := rfl
  have cK : gvC c 4 b fr o 4 = upd (c 4) (fr / 32) (c 4 (fr / 32) ||| rgB (fr % 32) o) := rfl
  have cJ : gvC c 4 b fr o 5 = c 5 := rfl
  have c6 : gvC c 4 b fr o 6 = rg (c 6) fr (2 ^ o) b := rfl
  have c7 : gvC c 4 b fr o 7 = c 7 := rfl
  by_cases hr : fr ≤ f ∧ f < fr + 2 ^ o
  · have hs : f / 32 = fr / 32 := by omega
    obtain ⟨e0, e1, e2⟩ := hsF_in (v := v) (s := 3) (x := b + 1) hr.1 hr.2
    have hrg : bit (rgB (fr % 32) o) (f % 32) := (rgB_iff ho hpf hi).mpr (by omega)
    have h1 := hin hr.1 hr.2
    have n3 : ¬ bit (c 3 (f / 32)) (f % 32) := fun z => by
      rw [g.apa, h1] at z
      exact absurd z (by decide)
    have nJ : ¬ bit (c 5 (f / 32)) (f % 32) := fun z => by
      rw [g.hel, h1] at z
      exact absurd z (by decide)
    have kK : bit (gvC c 4 b fr o 4 (f / 32)) (f % 32) := by
      rw [cK, hs, u_at, bit_or]
      exact Or.inr hrg
    refine ⟨?_, ?_, ?_, ?_, ?_, ?_, ?_⟩
    · rw [e0]
      decide
    · rw [e0, c2, hs, u_at, bit_and, bit_not hi]
      exact ⟨fun z => absurd hrg z.2, fun z => absurd z (by decide)⟩
    · rw [e0, c3]
      exact ⟨fun z => absurd z n3, fun z => absurd z (by decide)⟩
    · rw [e0]
      exact ⟨fun _ => rfl, fun _ => kK⟩
    · rw [e0]
      rw [cJ]
      exact ⟨fun z => absurd z nJ, fun z => absurd z (by decide)⟩
    · rw [e1, c6, rg_in hr.1 hr.2]
    · rw [e2, c7]
      exact g.val
  · have e0 : hsF v fr (2 ^ o) 3 (b + 1) (18 + 3 * f) = v (18 + 3 * f) := hsF_out (by omega)
    have e1 : hsF v fr (2 ^ o) 3 (b + 1) (18 + 3 * f + 1) = v (18 + 3 * f + 1) := hsF_out (by omega)
    have e2 : hsF v fr (2 ^ o) 3 (b + 1) (18 + 3 * f + 2) = v (18 + 3 * f + 2) := hsF_out (by omega)
    by_cases hs : f / 32 = fr / 32
    · have hrg : ¬ bit (rgB (fr % 32) o) (f % 32) := fun z => by
        have := (rgB_iff ho hpf hi).mp z
        omega
      have k2 := g.fre
      have kK := g.tak
      rw [hs] at k2 kK
      have r2 : bit (gvC c 4 b fr o 2 (f / 32)) (f % 32) ↔ v (18 + 3 * f) = 1 := by
        rw [c2, hs, u_at, bit_and, bit_not hi, ← k2]
        exact ⟨fun z => z.1, fun z => ⟨z, hrg⟩⟩
      have rK : bit (gvC c 4 b fr o 4 (f / 32)) (f % 32) ↔ v (18 + 3 * f) = 3 := by
        rw [cK, hs, u_at, bit_or, ← kK]
        exact ⟨fun z => z.elim id (fun z => absurd z hrg), Or.inl⟩
      have rJ : bit (gvC c 4 b fr o 5 (f / 32)) (f % 32) ↔ v (18 + 3 * f) = 4 := by
        rw [cJ]
        exact g.hel
      exact ⟨by rw [e0]; exact g.rng, by rw [e0]; exact r2, by rw [e0, c3]; exact g.apa, by rw [e0]; exact rK, by rw [e0]; exact rJ, by rw [e1, c6, rg_out (by omega)]; exact g.blk, by rw [e2, c7]; exact g.val⟩
    · exact g.cg (by rw [c2, u_ne hs]) (by rw [c3]) (by rw [cK, u_ne hs]) (by rw [cJ]) (by rw [c6, rg_out (by omega)]) (by rw [c7]) e0 e1 e2
/-- frames that were free are held, on both sides -/
theorem sF_gv5 {c : sm_S} {v : Nat → Int32} {fr o f : Nat} {b : Int32} (g : sF c v f) (ho : o ≤ 4) (hal : fr % 2 ^ o = 0) (hin : fr ≤ f → f < fr + 2 ^ o → v (18 + 3 * f) = 1) : sF (gvC c 5 b fr o) (hsF v fr (2 ^ o) 4 (b + 1)) f := by
  have ha := t_al (k := o) (by omega) hal
  have hi : f % 32 < 32 := Nat.mod_lt _ (by decide)
  have hpf : fr % 32 < 32 := Nat.mod_lt _ (by decide)
  have c2 : gvC c 5 b fr o 2 = upd (c 2) (fr / 32) (c 2 (fr / 32) &&& (rgB (fr % 32) o ^^^ (-1))) := rfl
  have c3 : gvC c 5 b fr o 3 = c 3 := rfl
  have cK : gvC c 5 b fr o 5 = upd (c 5) (fr / 32) (c 5 (fr / 32) ||| rgB (fr % 32) o) := rfl
  have cJ : gvC c 5 b fr o 4 = c 4 := rfl
  have c6 : gvC c 5 b fr o 6 = rg (c 6) fr (2 ^ o) b := rfl
  have c7 : gvC c 5 b fr o 7 = c 7 := rfl
  by_cases hr : fr ≤ f ∧ f < fr + 2 ^ o
  · have hs : f / 32 = fr / 32 := by omega
    obtain ⟨e0, e1, e2⟩ := hsF_in (v := v) (s := 4) (x := b + 1) hr.1 hr.2
    have hrg : bit (rgB (fr % 32) o) (f % 32) := (rgB_iff ho hpf hi).mpr (by omega)
    have h1 := hin hr.1 hr.2
    have n3 : ¬ bit (c 3 (f / 32)) (f % 32) := fun z => by
      rw [g.apa, h1] at z
      exact absurd z (by decide)
    have nJ : ¬ bit (c 4 (f / 32)) (f % 32) := fun z => by
      rw [g.tak, h1] at z
      exact absurd z (by decide)
    have kK : bit (gvC c 5 b fr o 5 (f / 32)) (f % 32) := by
      rw [cK, hs, u_at, bit_or]
      exact Or.inr hrg
    refine ⟨?_, ?_, ?_, ?_, ?_, ?_, ?_⟩
    · rw [e0]
      decide
    · rw [e0, c2, hs, u_at, bit_and, bit_not hi]
      exact ⟨fun z => absurd hrg z.2, fun z => absurd z (by decide)⟩
    · rw [e0, c3]
      exact ⟨fun z => absurd z n3, fun z => absurd z (by decide)⟩
    · rw [e0]
      rw [cJ]
      exact ⟨fun z => absurd z nJ, fun z => absurd z (by decide)⟩
    · rw [e0]
      exact ⟨fun _ => rfl, fun _ => kK⟩
    · rw [e1, c6, rg_in hr.1 hr.2]
    · rw [e2, c7]
      exact g.val
  · have e0 : hsF v fr (2 ^ o) 4 (b + 1) (18 + 3 * f) = v (18 + 3 * f) := hsF_out (by omega)
    have e1 : hsF v fr (2 ^ o) 4 (b + 1) (18 + 3 * f + 1) = v (18 + 3 * f + 1) := hsF_out (by omega)
    have e2 : hsF v fr (2 ^ o) 4 (b + 1) (18 + 3 * f + 2) = v (18 + 3 * f + 2) := hsF_out (by omega)
    by_cases hs : f / 32 = fr / 32
    · have hrg : ¬ bit (rgB (fr % 32) o) (f % 32) := fun z => by
        have := (rgB_iff ho hpf hi).mp z
        omega
      have k2 := g.fre
      have kK := g.hel
      rw [hs] at k2 kK
      have r2 : bit (gvC c 5 b fr o 2 (f / 32)) (f % 32) ↔ v (18 + 3 * f) = 1 := by
        rw [c2, hs, u_at, bit_and, bit_not hi, ← k2]
        exact ⟨fun z => z.1, fun z => ⟨z, hrg⟩⟩
      have rK : bit (gvC c 5 b fr o 5 (f / 32)) (f % 32) ↔ v (18 + 3 * f) = 4 := by
        rw [cK, hs, u_at, bit_or, ← kK]
        exact ⟨fun z => z.elim id (fun z => absurd z hrg), Or.inl⟩
      have rJ : bit (gvC c 5 b fr o 4 (f / 32)) (f % 32) ↔ v (18 + 3 * f) = 3 := by
        rw [cJ]
        exact g.tak
      exact ⟨by rw [e0]; exact g.rng, by rw [e0]; exact r2, by rw [e0, c3]; exact g.apa, by rw [e0]; exact rJ, by rw [e0]; exact rK, by rw [e1, c6, rg_out (by omega)]; exact g.blk, by rw [e2, c7]; exact g.val⟩
    · exact g.cg (by rw [c2, u_ne hs]) (by rw [c3]) (by rw [cJ]) (by rw [cK, u_ne hs]) (by rw [c6, rg_out (by omega)]) (by rw [c7]) e0 e1 e2
