/-! ===== the simulation: bits ===== -/
def bit (x : Int32) (i : Nat) : Prop := x.toBitVec.getLsbD i = true
theorem bit_lt {x : Int32} {i : Nat} (h : bit x i) : i < 32 := BitVec.lt_of_getLsbD h
theorem bit_and {x y : Int32} {i : Nat} : bit (x &&& y) i ↔ bit x i ∧ bit y i := by
  unfold bit
  rw [Int32.toBitVec_and, BitVec.getLsbD_and, Bool.and_eq_true]
theorem bit_or {x y : Int32} {i : Nat} : bit (x ||| y) i ↔ bit x i ∨ bit y i := by
  unfold bit
  rw [Int32.toBitVec_or, BitVec.getLsbD_or, Bool.or_eq_true]
theorem bit_m1 {i : Nat} (h : i < 32) : bit (-1) i := by
  show (BitVec.allOnes 32).getLsbD i = true
  rw [BitVec.getLsbD_allOnes]
  exact decide_eq_true h
theorem bit_not {x : Int32} {i : Nat} (h : i < 32) : bit (x ^^^ (-1)) i ↔ ¬ bit x i := by
  have h1 : ((-1 : Int32)).toBitVec.getLsbD i = true := bit_m1 h
  unfold bit
  rw [Int32.toBitVec_xor, BitVec.getLsbD_xor, h1]
  cases x.toBitVec.getLsbD i <;> simp
theorem bit_0 {i : Nat} : ¬ bit 0 i := by
  show ¬ (0#32).getLsbD i = true
  simp
theorem bit_ext {x y : Int32} (h : ∀ i, i < 32 → (bit x i ↔ bit y i)) : x = y := by
  apply Int32.toBitVec_inj.mp
  apply BitVec.eq_of_getLsbD_eq
  intro i hi
  exact Bool.eq_iff_iff.mpr (h i hi)
theorem bit_ne {x : Int32} : x ≠ 0 ↔ ∃ i, i < 32 ∧ bit x i := by
  constructor
  · intro h
    refine Classical.byContradiction (fun hn => h (bit_ext (fun i hi => ⟨fun hb => absurd ⟨i, hi, hb⟩ hn, fun hb => absurd hb bit_0⟩)))
  · rintro ⟨i, -, hb⟩ rfl
    exact bit_0 hb
theorem sh_u : ∀ n, n < 32 → ((UInt32.ofNat n).toBitVec % 32).toNat = n := by decide
theorem sh_i : ∀ n, n < 32 → ((nI n).toBitVec.smod 32).toNat = n := by decide
theorem bit_shr {x : Int32} {n i : Nat} (hn : n < 32) : bit ((x.toUInt32 >>> UInt32.ofNat n).toInt32) i ↔ bit x (n + i) := by
  show ((x.toUInt32 >>> UInt32.ofNat n).toBitVec).getLsbD i = true ↔ _
  rw [UInt32.toBitVec_shiftRight, BitVec.ushiftRight_eq', sh_u n hn, BitVec.getLsbD_ushiftRight]
  exact Iff.rfl
theorem bit_shl {x : Int32} {n i : Nat} (hn : n < 32) : bit (x <<< nI n) i ↔ n ≤ i ∧ i < 32 ∧ bit x (i - n) := by
  unfold bit
  rw [Int32.toBitVec_shiftLeft, BitVec.shiftLeft_eq', sh_i n hn, BitVec.getLsbD_shiftLeft]
  simp only [Bool.and_eq_true, decide_eq_true_eq, Bool.not_eq_true', decide_eq_false_iff_not]
  constructor
  · rintro ⟨⟨h1, h2⟩, h3⟩
    exact ⟨by omega, h1, h3⟩
  · rintro ⟨h1, h2, h3⟩
    exact ⟨⟨h2, by omega⟩, h3⟩
theorem am_u : ∀ k, k < 5 → (((1 : Int32) <<< (nI k &&& 31)).toUInt32 &&& Int32.toUInt32 31) = UInt32.ofNat (2 ^ k) := by decide
theorem am_i : ∀ k, k < 5 → (((1 : Int32) <<< (nI k &&& 31)) &&& 31) = nI (2 ^ k) := by decide
theorem mlt_iff : ∀ k, k ≤ 5 → ∀ p, p < 32 → ((mlt k).toBitVec.getLsbD p = true ↔ p % 2 ^ k = 0) := by decide
theorem pw5 {k : Nat} (hk : k < 5) : 2 ^ k < 32 := by
  rcases (show k = 0 ∨ k = 1 ∨ k = 2 ∨ k = 3 ∨ k = 4 by omega) with rfl | rfl | rfl | rfl | rfl <;> decide
theorem wd_iff {r : Int32} {k p : Nat} (hk : k < 5) (hp : p < 32) : bit (wd r k) p ↔ bit r p ∧ bit r (2 ^ k + p) ∧ p % 2 ^ (k + 1) = 0 := by
  unfold wd
  rw [bit_and, bit_and, am_u k hk, bit_shr (pw5 hk)]
  constructor
  · rintro ⟨h1, h2, h3⟩
    exact ⟨h1, h2, (mlt_iff (k + 1) (by omega) p hp).mp h3⟩
  · rintro ⟨h1, h2, h3⟩
    exact ⟨h1, h2, (mlt_iff (k + 1) (by omega) p hp).mpr h3⟩
/-- the place of order o round p is free -/
def frb (f : Int32) (p o : Nat) : Prop := ∀ j, j < 2 ^ o → bit f (p / 2 ^ o * 2 ^ o + j)
theorem al_pow {p o : Nat} (h : p % 2 ^ o = 0) : p / 2 ^ o * 2 ^ o = p := Nat.div_mul_cancel (Nat.dvd_of_mod_eq_zero h)
theorem al_dn {p k : Nat} (h : p % 2 ^ (k + 1) = 0) : p % 2 ^ k = 0 := by
  have : 2 ^ k ∣ 2 ^ (k + 1) := ⟨2, by rw [Nat.pow_succ]⟩
  exact Nat.mod_eq_zero_of_dvd (Nat.dvd_trans this (Nat.dvd_of_mod_eq_zero h))
/-- the base of the next order is that of this one, or half a place below -/
theorem base_up (p k : Nat) : p / 2 ^ (k + 1) * 2 ^ (k + 1) = p / 2 ^ k * 2 ^ k ∨ p / 2 ^ (k + 1) * 2 ^ (k + 1) + 2 ^ k = p / 2 ^ k * 2 ^ k := by
  have e : p / 2 ^ (k + 1) = p / 2 ^ k / 2 := by rw [Nat.pow_succ, Nat.div_div_eq_div_mul]
  rw [e]
  generalize p / 2 ^ k = q
  rw [Nat.pow_succ, Nat.mul_comm (2 ^ k) 2, ← Nat.mul_assoc]
  rcases Nat.mod_two_eq_zero_or_one q with h | h
  · left
    rw [show q / 2 * 2 = q by omega]
  · right
    conv => rhs; rw [show q = q / 2 * 2 + 1 by omega]
    rw [Nat.add_mul, Nat.one_mul]
theorem frb_dn {f : Int32} {p k : Nat} (h : frb f p (k + 1)) : frb f p k := by
  intro j hj
  have hp : 2 ^ (k + 1) = 2 ^ k + 2 ^ k := by rw [Nat.pow_succ]; omega
  rcases base_up p k with e | e
  · rw [← e]
    exact h j (by omega)
  · rw [← e, Nat.add_assoc]
    exact h (2 ^ k + j) (by omega)
theorem frb_le {f : Int32} {p o : Nat} : ∀ {k : Nat}, o ≤ k → frb f p k → frb f p o := by
  intro k h
  induction h with
  | refl => exact id
  | step _ ih => exact fun hf => ih (frb_dn hf)
theorem st_iff {f : Int32} : ∀ {k p : Nat}, k ≤ 5 → p < 32 → (bit (st f k) p ↔ p % 2 ^ k = 0 ∧ frb f p k)
  | 0, p, _, _ => by
    constructor
    · intro h
      refine ⟨Nat.mod_one p, fun j hj => ?_⟩
      rw [show j = 0 by simpa using hj]
      have h : bit f p := h
      simpa using h
    · rintro ⟨-, h⟩
      have := h 0 (by decide)
      show bit f p
      simpa using this
  | k + 1, p, hk, hp => by
    show bit (wd (st f k) k) p ↔ _
    have hpw : 2 ^ (k + 1) = 2 ^ k + 2 ^ k := by rw [Nat.pow_succ]; omega
    have hpos : 0 < 2 ^ k := Nat.two_pow_pos k
    rw [wd_iff (by omega) hp]
    constructor
    · rintro ⟨h1, h2, h3⟩
      obtain ⟨a1, b1⟩ := (st_iff (by omega) hp).mp h1
      obtain ⟨a2, b2⟩ := (st_iff (by omega) (bit_lt h2)).mp h2
      refine ⟨h3, fun j hj => ?_⟩
      rw [al_pow h3]
      by_cases hj2 : j < 2 ^ k
      · have := b1 j hj2
        rw [al_pow a1] at this
        exact this
      · have := b2 (j - 2 ^ k) (by omega)
        rw [al_pow a2] at this
        rw [show p + j = 2 ^ k + p + (j - 2 ^ k) by omega]
        exact this
    · rintro ⟨h3, hf⟩
      have a1 := al_dn h3
      have hb : bit f (p + 2 ^ k) := by
        have := hf (2 ^ k) (by omega)
        rw [al_pow h3] at this
        exact this
      have hl := bit_lt hb
      have a2 : (2 ^ k + p) % 2 ^ k = 0 := by rw [Nat.add_mod_left]; exact a1
      refine ⟨(st_iff (by omega) hp).mpr ⟨a1, frb_dn hf⟩, (st_iff (by omega) (by omega)).mpr ⟨a2, fun j hj => ?_⟩, h3⟩
      have := hf (2 ^ k + j) (by omega)
      rw [al_pow h3] at this
      rw [al_pow a2, show 2 ^ k + p + j = p + (2 ^ k + j) by omega]
      exact this
theorem aln_iff {f : Int32} {k p : Nat} (hk : k < 5) (hp : p < 32) : bit (aln (st f k) k) p ↔ p % 2 ^ k = 0 ∧ frb f p k ∧ ¬ frb f p (k + 1) := by
  have hpos : 0 < 2 ^ k := Nat.two_pow_pos k
  have hpw : 2 ^ (k + 1) = 2 ^ k + 2 ^ k := by rw [Nat.pow_succ]; omega
  unfold aln
  rw [bit_and, bit_not hp, bit_or, am_i k hk, bit_shl (pw5 hk), st_iff (by omega) hp]
  have hw : ∀ q, q < 32 → (bit (wd (st f k) k) q ↔ q % 2 ^ (k + 1) = 0 ∧ frb f q (k + 1)) := fun q hq => (st_iff (f := f) (k := k + 1) (by omega) hq)
  constructor
  · rintro ⟨⟨h1, h2⟩, h3⟩
    refine ⟨h1, h2, fun h4 => h3 ?_⟩
    rcases base_up p k with e | e
    · left
      rw [al_pow h1] at e
      have : p % 2 ^ (k + 1) = 0 := by rw [← e]; exact Nat.mul_mod_left _ _
      exact (hw p hp).mpr ⟨this, h4⟩
    · right
      rw [al_pow h1] at e
      have hm : (p - 2 ^ k) % 2 ^ (k + 1) = 0 := by rw [show p - 2 ^ k = p / 2 ^ (k + 1) * 2 ^ (k + 1) by omega]; exact Nat.mul_mod_left _ _
      refine ⟨by omega, hp, (hw _ (by omega)).mpr ⟨hm, fun j hj => ?_⟩⟩
      rw [al_pow hm, show p - 2 ^ k = p / 2 ^ (k + 1) * 2 ^ (k + 1) by omega]
      exact h4 j hj
  · rintro ⟨h1, h2, h3⟩
    refine ⟨⟨h1, h2⟩, ?_⟩
    rintro (h | ⟨h4, -, h5⟩)
    · exact h3 ((hw p hp).mp h).2
    · obtain ⟨hm, hf⟩ := (hw _ (by omega)).mp h5
      refine h3 (fun j hj => ?_)
      have := hf j hj
      rw [al_pow hm] at this
      rcases base_up p k with e | e
      · exfalso
        rw [al_pow h1] at e
        have : p % 2 ^ (k + 1) = 0 := by rw [← e]; exact Nat.mul_mod_left _ _
        have d1 := Nat.dvd_of_mod_eq_zero this
        have d2 := Nat.dvd_of_mod_eq_zero hm
        have d3 : 2 ^ (k + 1) ∣ p - (p - 2 ^ k) := Nat.dvd_sub d1 d2
        rw [show p - (p - 2 ^ k) = 2 ^ k by omega] at d3
        have := Nat.le_of_dvd hpos d3
        omega
      · rw [al_pow h1] at e
        rw [show p / 2 ^ (k + 1) * 2 ^ (k + 1) = p - 2 ^ k by omega]
        exact this
/-- h is the hole round p, from order o on -/
def hol (f : Int32) (p o h : Nat) : Prop := o ≤ h ∧ h ≤ 5 ∧ frb f p h ∧ (h = 5 ∨ ¬ frb f p (h + 1))
theorem al5_iff {f : Int32} {k p : Nat} (hk : k ≤ 5) (hp : p < 32) : bit (al5 (st f k) k) p ↔ p % 2 ^ k = 0 ∧ frb f p k ∧ (k = 5 ∨ ¬ frb f p (k + 1)) := by
  unfold al5
  by_cases h : k < 5
  · rw [if_pos h, aln_iff h hp]
    exact ⟨fun ⟨a, b, c⟩ => ⟨a, b, Or.inr c⟩, fun ⟨a, b, c⟩ => ⟨a, b, c.resolve_left (by omega)⟩⟩
  · rw [if_neg h, st_iff hk hp]
    exact ⟨fun ⟨a, b⟩ => ⟨a, b, Or.inl (by omega)⟩, fun ⟨a, b, _⟩ => ⟨a, b⟩⟩
theorem hol_un {f : Int32} {p o h h' : Nat} (a : hol f p o h) (b : hol f p o h') : h = h' := by
  obtain ⟨a1, a2, a3, a4⟩ := a
  obtain ⟨b1, b2, b3, b4⟩ := b
  rcases Nat.lt_trichotomy h h' with c | c | c
  · exact absurd (frb_le c b3) (a4.resolve_left (by omega))
  · exact c
  · exact absurd (frb_le c a3) (b4.resolve_left (by omega))
theorem hol_ex {f : Int32} {p o : Nat} (ho : o ≤ 5) (hf : frb f p o) : ∃ h, hol f p o h := by
  have key : ∀ d k, k + d = 5 → o ≤ k → frb f p k → ∃ h, hol f p o h := by
    intro d
    induction d with
    | zero => intro k hk hok hf; exact ⟨k, hok, by omega, hf, Or.inl (by omega)⟩
    | succ d ih =>
      intro k hk hok hf
      by_cases hn : frb f p (k + 1)
      · exact ih (k + 1) (by omega) (by omega) hn
      · exact ⟨k, hok, by omega, hf, Or.inr hn⟩
  exact key (5 - o) o (by omega) (Nat.le_refl o) hf
