section
/-! ===== the simulation: bits ===== -/
def bit (x : Int32) (i : Nat) : Prop := x.toBitVec.getLsbD i = true
theorem bit_lt {x : Int32} {i : Nat} (h : bit x i) : i < 32 := BitVec.lt_of_getLsbD h
theorem bit_and {x y : Int32} {i : Nat} : bit (x &&& y) i ↔ bit x i ∧ bit y i := by
  unfold bit
  rw [Int32.toBitVec_and, BitVec.getLsbD_and, Bool.and_eq_true]
theorem bit_or {x y : Int32} {i : Nat} : bit (x ||| y) i ↔ bit x i ∨ bit y i := by
  unfold bit
  rw [Int32.toBitVec_or, BitVec.getLsbD_or, Bool.or_eq_true]
theorem bit_m1 {i : Nat} (h : i < 32) : bit (-1) i := by
  show (BitVec.allOnes 32).getLsbD i = true
  rw [BitVec.getLsbD_allOnes]
  exact decide_eq_true h
theorem bit_not {x : Int32} {i : Nat} (h : i < 32) : bit (x ^^^ (-1)) i ↔ ¬ bit x i := by
  have h1 : ((-1 : Int32)).toBitVec.getLsbD i = true := bit_m1 h
  unfold bit
  rw [Int32.toBitVec_xor, BitVec.getLsbD_xor, h1]
  cases x.toBitVec.getLsbD i <;> simp
theorem bit_0 {i : Nat} : ¬ bit 0 i := by
  show ¬ (0#32).getLsbD i = true
  simp
theorem bit_ext {x y : Int32} (h : ∀ i, i < 32 → (bit x i ↔ bit y i)) : x = y := by
  apply Int32.toBitVec_inj.mp
  apply BitVec.eq_of_getLsbD_eq
  intro i hi
  exact Bool.eq_iff_iff.mpr (h i hi)
theorem bit_ne {x : Int32} : x ≠ 0 ↔ ∃ i, i < 32 ∧ bit x i := by
  constructor
  · intro h
    refine Classical.byContradiction (fun hn => h (bit_ext (fun i hi => ⟨fun hb => absurd ⟨i, hi, hb⟩ hn, fun hb => absurd hb bit_0⟩)))
  · rintro ⟨i, -, hb⟩ rfl
    exact bit_0 hb
theorem sh_u : ∀ n, n < 32 → ((UInt32.ofNat n).toBitVec % 32).toNat = n := by decide
theorem sh_i : ∀ n, n < 32 → ((nI n).toBitVec.smod 32).toNat = n := by decide
theorem bit_shr {x : Int32} {n i : Nat} (hn : n < 32) : bit ((x.toUInt32 >>> UInt32.ofNat n).toInt32) i ↔ bit x (n + i) := by
  show ((x.toUInt32 >>> UInt32.ofNat n).toBitVec).getLsbD i = true ↔ _
  rw [UInt32.toBitVec_shiftRight, BitVec.ushiftRight_eq', sh_u n hn, BitVec.getLsbD_ushiftRight]
  exact Iff.rfl
theorem bit_shl {x : Int32} {n i : Nat} (hn : n < 32) : bit (x <<< nI n) i ↔ n ≤ i ∧ i < 32 ∧ bit x (i - n) := by
  unfold bit
  rw [Int32.toBitVec_shiftLeft, BitVec.shiftLeft_eq', sh_i n hn, BitVec.getLsbD_shiftLeft]
  simp only [Bool.and_eq_true, decide_eq_true_eq, Bool.not_eq_true', decide_eq_false_iff_not]
  constructor
  · rintro ⟨⟨h1, h2⟩, h3⟩
    exact ⟨by omega, h1, h3⟩
  · rintro ⟨h1, h2, h3⟩
    exact ⟨⟨h2, by omega⟩, h3⟩
theorem am_u : ∀ k, k < 5 → (((1 : Int32) <<< (nI k &&& 31)).toUInt32 &&& Int32.toUInt32 31) = UInt32.ofNat (2 ^ k) := by decide
theorem am_i : ∀ k, k < 5 → (((1 : Int32) <<< (nI k &&& 31)) &&& 31) = nI (2 ^ k) := by decide
theorem mlt_iff : ∀ k, k ≤ 5 → ∀ p, p < 32 → ((mlt k).toBitVec.getLsbD p = true ↔ p % 2 ^ k = 0) := by decide
theorem pw5 {k : Nat} (hk : k < 5) : 2 ^ k < 32 := by
  rcases (show k = 0 ∨ k = 1 ∨ k = 2 ∨ k = 3 ∨ k = 4 by omega) with rfl | rfl | rfl | rfl | rfl <;> decide
theorem wd_iff {r : Int32} {k p : Nat} (hk : k < 5) (hp : p < 32) : bit (wd r k) p ↔ bit r p ∧ bit r (2 ^ k + p) ∧ p % 2 ^ (k + 1) = 0 := by
  unfold wd
  rw [bit_and, bit_and, am_u k hk, bit_shr (pw5 hk)]
  constructor
  · rintro ⟨h1, h2, h3⟩
    exact ⟨h1, h2, (mlt_iff (k + 1) (by omega) p hp).mp h3⟩
  · rintro ⟨h1, h2, h3⟩
    exact ⟨h1, h2, (mlt_iff (k + 1) (by omega) p hp).mpr h3⟩
/-- the place of order o round p is free -/
def frb (f : Int32) (p o : Nat) : Prop := ∀ j, j < 2 ^ o → bit f (p / 2 ^ o * 2 ^ o + j)
theorem al_pow {p o : Nat} (h : p % 2 ^ o = 0) : p / 2 ^ o * 2 ^ o = p := Nat.div_mul_cancel (Nat.dvd_of_mod_eq_zero h)
theorem al_dn {p k : Nat} (h : p % 2 ^ (k + 1) = 0) : p % 2 ^ k = 0 := by
  have : 2 ^ k ∣ 2 ^ (k + 1) := ⟨2, by rw [Nat.pow_succ]⟩
  exact Nat.mod_eq_zero_of_dvd (Nat.dvd_trans this (Nat.dvd_of_mod_eq_zero h))
/-- the base of the next order is that of this one, or half a place below -/
theorem base_up (p k : Nat) : p / 2 ^ (k + 1) * 2 ^ (k + 1) = p / 2 ^ k * 2 ^ k ∨ p / 2 ^ (k + 1) * 2 ^ (k + 1) + 2 ^ k = p / 2 ^ k * 2 ^ k := by
  have e : p / 2 ^ (k + 1) = p / 2 ^ k / 2 := by rw [Nat.pow_succ, Nat.div_div_eq_div_mul]
  rw [e]
  generalize p / 2 ^ k = q
  rw [Nat.pow_succ, Nat.mul_comm (2 ^ k) 2, ← Nat.mul_assoc]
  rcases Nat.mod_two_eq_zero_or_one q with h | h
  · left
    rw [show q / 2 * 2 = q by omega]
  · right
    conv => rhs; rw [show q = q / 2 * 2 + 1 by omega]
    rw [Nat.add_mul, Nat.one_mul]
theorem frb_dn {f : Int32} {p k : Nat} (h : frb f p (k + 1)) : frb f p k := by
  intro j hj
  have hp : 2 ^ (k + 1) = 2 ^ k + 2 ^ k := by rw [Nat.pow_succ]; omega
  rcases base_up p k with e | e
  · rw [← e]
    exact h j (by omega)
  · rw [← e, Nat.add_assoc]
    exact h (2 ^ k + j) (by omega)
theorem frb_le {f : Int32} {p o : Nat} : ∀ {k : Nat}, o ≤ k → frb f p k → frb f p o := by
  intro k h
  induction h with
  | refl => exact id
  | step _ ih => exact fun hf => ih (frb_dn hf)
theorem st_iff {f : Int32} : ∀ {k p : Nat}, k ≤ 5 → p < 32 → (bit (st f k) p ↔ p % 2 ^ k = 0 ∧ frb f p k)
  | 0, p, _, _ => by
    constructor
    · intro h
      refine ⟨Nat.mod_one p, fun j hj => ?_⟩
      rw [show j = 0 by simpa using hj]
      have h : bit f p := h
      simpa using h
    · rintro ⟨-, h⟩
      have := h 0 (by decide)
      show bit f p
      simpa using this
  | k + 1, p, hk, hp => by
    show bit (wd (st f k) k) p ↔ _
    have hpw : 2 ^ (k + 1) = 2 ^ k + 2 ^ k := by rw [Nat.pow_succ]; omega
    have hpos : 0 < 2 ^ k := Nat.two_pow_pos k
    rw [wd_iff (by omega) hp]
    constructor
    · rintro ⟨h1, h2, h3⟩
      obtain ⟨a1, b1⟩ := (st_iff (by omega) hp).mp h1
      obtain ⟨a2, b2⟩ := (st_iff (by omega) (bit_lt h2)).mp h2
      refine ⟨h3, fun j hj => ?_⟩
      rw [al_pow h3]
      by_cases hj2 : j < 2 ^ k
      · have := b1 j hj2
        rw [al_pow a1] at this
        exact this
      · have := b2 (j - 2 ^ k) (by omega)
        rw [al_pow a2] at this
        rw [show p + j = 2 ^ k + p + (j - 2 ^ k) by omega]
        exact this
    · rintro ⟨h3, hf⟩
      have a1 := al_dn h3
      have hb : bit f (p + 2 ^ k) := by
        have := hf (2 ^ k) (by omega)
        rw [al_pow h3] at this
        exact this
      have hl := bit_lt hb
      have a2 : (2 ^ k + p) % 2 ^ k = 0 := by rw [Nat.add_mod_left]; exact a1
      refine ⟨(st_iff (by omega) hp).mpr ⟨a1, frb_dn hf⟩, (st_iff (by omega) (by omega)).mpr ⟨a2, fun j hj => ?_⟩, h3⟩
      have := hf (2 ^ k + j) (by omega)
      rw [al_pow h3] at this
      rw [al_pow a2, show 2 ^ k + p + j = p + (2 ^ k + j) by omega]
      exact this
theorem aln_iff {f : Int32} {k p : Nat} (hk : k < 5) (hp : p < 32) : bit (aln (st f k) k) p ↔ p % 2 ^ k = 0 ∧ frb f p k ∧ ¬ frb f p (k + 1) := by
  have hpos : 0 < 2 ^ k := Nat.two_pow_pos k
  have hpw : 2 ^ (k + 1) = 2 ^ k + 2 ^ k := by rw [Nat.pow_succ]; omega
  unfold aln
  rw [bit_and, bit_not hp, bit_or, am_i k hk, bit_shl (pw5 hk), st_iff (by omega) hp]
  have hw : ∀ q, q < 32 → (bit (wd (st f k) k) q ↔ q % 2 ^ (k + 1) = 0 ∧ frb f q (k + 1)) := fun q hq => (st_iff (f := f) (k := k + 1) (by omega) hq)
  constructor
  · rintro ⟨⟨h1, h2⟩, h3⟩
    refine ⟨h1, h2, fun h4 => h3 ?_⟩
    rcases base_up p k with e | e
    · left
      rw [al_pow h1] at e
      have : p % 2 ^ (k + 1) = 0 := by rw [← e]; exact Nat.mul_mod_left _ _
      exact (hw p hp).mpr ⟨this, h4⟩
    · right
      rw [al_pow h1] at e
      have hm : (p - 2 ^ k) % 2 ^ (k + 1) = 0 := by rw [show p - 2 ^ k = p / 2 ^ (k + 1) * 2 ^ (k + 1) by omega]; exact Nat.mul_mod_left _ _
      refine ⟨by omega, hp, (hw _ (by omega)).mpr ⟨hm, fun j hj => ?_⟩⟩
      rw [al_pow hm, show p - 2 ^ k = p / 2 ^ (k + 1) * 2 ^ (k + 1) by omega]
      exact h4 j hj
  · rintro ⟨h1, h2, h3⟩
    refine ⟨⟨h1, h2⟩, ?_⟩
    rintro (h | ⟨h4, -, h5⟩)
    · exact h3 ((hw p hp).mp h).2
    · obtain ⟨hm, hf⟩ := (hw _ (by omega)).mp h5
      refine h3 (fun j hj => ?_)
      have := hf j hj
      rw [al_pow hm] at this
      rcases base_up p k with e | e
      · exfalso
        rw [al_pow h1] at e
        have : p % 2 ^ (k + 1) = 0 := by rw [← e]; exact Nat.mul_mod_left _ _
        have d1 := Nat.dvd_of_mod_eq_zero this
        have d2 := Nat.dvd_of_mod_eq_zero hm
        have d3 : 2 ^ (k + 1) ∣ p - (p - 2 ^ k) := Nat.dvd_sub d1 d2
        rw [show p - (p - 2 ^ k) = 2 ^ k by omega] at d3
        have := Nat.le_of_dvd hpos d3
        omega
      · rw [al_pow h1] at e
        rw [show p / 2 ^ (k + 1) * 2 ^ (k + 1) = p - 2 ^ k by omega]
        exact this
/-- h is the hole round p, from order o on -/
def hol (f : Int32) (p o h : Nat) : Prop := o ≤ h ∧ h ≤ 5 ∧ frb f p h ∧ (h = 5 ∨ ¬ frb f p (h + 1))
theorem al5_iff {f : Int32} {k p : Nat} (hk : k ≤ 5) (hp : p < 32) : bit (al5 (st f k) k) p ↔ p % 2 ^ k = 0 ∧ frb f p k ∧ (k = 5 ∨ ¬ frb f p (k + 1)) := by
  unfold al5
  by_cases h : k < 5
  · rw [if_pos h, aln_iff h hp]
    exact ⟨fun ⟨a, b, c⟩ => ⟨a, b, Or.inr c⟩, fun ⟨a, b, c⟩ => ⟨a, b, c.resolve_left (by omega)⟩⟩
  · rw [if_neg h, st_iff hk hp]
    exact ⟨fun ⟨a, b⟩ => ⟨a, b, Or.inl (by omega)⟩, fun ⟨a, b, _⟩ => ⟨a, b⟩⟩
theorem hol_un {f : Int32} {p o h h' : Nat} (a : hol f p o h) (b : hol f p o h') : h = h' := by
  obtain ⟨a1, a2, a3, a4⟩ := a
  obtain ⟨b1, b2, b3, b4⟩ := b
  rcases Nat.lt_trichotomy h h' with c | c | c
  · exact absurd (frb_le c b3) (a4.resolve_left (by omega))
  · exact c
  · exact absurd (frb_le c a3) (b4.resolve_left (by omega))
theorem hol_ex {f : Int32} {p o : Nat} (ho : o ≤ 5) (hf : frb f p o) : ∃ h, hol f p o h := by
  have key : ∀ d k, k + d = 5 → o ≤ k → frb f p k → ∃ h, hol f p o h := by
    intro d
    induction d with
    | zero => intro k hk hok hf; exact ⟨k, hok, by omega, hf, Or.inl (by omega)⟩
    | succ d ih =>
      intro k hk hok hf
      by_cases hn : frb f p (k + 1)
      · exact ih (k + 1) (by omega) (by omega) hn
      · exact ⟨k, hok, by omega, hf, Or.inr hn⟩
  exact key (5 - o) o (by omega) (Nat.le_refl o) hf
end
section
/-! ===== the simulation: the best place ===== -/
theorem c_ntz2 (x : Int32) (σ : sm_S) : xC xD j_I_numberOfTrailingZeros [.int x] σ (sm_I (fun y σ' => ((x = 0 ∧ y = 32) ∨ ∃ p : Nat, p < 32 ∧ y.toInt = p ∧ bit x p ∧ ∀ q, q < p → ¬ bit x q) ∧ σ' = σ)) := by
  refine d_I_numberOfTrailingZeros x σ _ ?_
  by_cases h0 : x = 0
  · have e : ((x ^^^ (-1)) &&& (x - 1)) = -1 := by rw [h0]; decide
    rw [e]
    exact ⟨fun h => absurd h (by decide), fun _ => ⟨_, rfl, Or.inl ⟨h0, rfl⟩, rfl⟩⟩
  · obtain ⟨p, hp, e, hb⟩ := ntz_key x h0
    have hq : ∀ q, q < p → ¬ bit x q := by
      intro q hq
      have h1 : bit (nI (2 ^ p - 1)) q := by
        show (BitVec.ofNat 32 (2 ^ p - 1)).getLsbD q = true
        rw [BitVec.getLsbD_ofNat, Nat.testBit_two_pow_sub_one]
        simp [hq, show q < 32 by omega]
      rw [← e, bit_and, bit_not (by omega)] at h1
      exact h1.1
    rw [e]
    have fin : ∀ y : Int32, y.toInt = p → sm_I (fun y σ' => ((x = 0 ∧ y = 32) ∨ ∃ p : Nat, p < 32 ∧ y.toInt = p ∧ bit x p ∧ ∀ q, q < p → ¬ bit x q) ∧ σ' = σ) (some (.int y)) σ := fun y hy => ⟨y, rfl, Or.inr ⟨p, hp, hy, hb, hq⟩, rfl⟩
    clear hq hb e h0
    rcases (show p = 0 ∨ p = 1 ∨ p = 2 ∨ p = 3 ∨ p = 4 ∨ p = 5 ∨ p = 6 ∨ p = 7 ∨ p = 8 ∨ p = 9 ∨ p = 10 ∨ p = 11 ∨ p = 12 ∨ p = 13 ∨ p = 14 ∨ p = 15 ∨ p = 16 ∨ p = 17 ∨ p = 18 ∨ p = 19 ∨ p = 20 ∨ p = 21 ∨ p = 22 ∨ p = 23 ∨ p = 24 ∨ p = 25 ∨ p = 26 ∨ p = 27 ∨ p = 28 ∨ p = 29 ∨ p = 30 ∨ p = 31 by omega) with rfl | rfl | rfl | rfl | rfl | rfl | rfl | rfl | rfl | rfl | rfl | rfl | rfl | rfl | rfl | rfl | rfl | rfl | rfl | rfl | rfl | rfl | rfl | rfl | rfl | rfl | rfl | rfl | rfl | rfl | rfl | rfl
    all_goals repeat' (first | exact fin _ rfl | (refine ⟨fun h => ?_, fun h => ?_⟩ <;> first | exact absurd h (by decide) | skip))
theorem l_leastHole2 {a0 a1 f : Int32} {o : Nat} (σ : sm_S) : ∀ (d k : Nat) (a3 : Int32) (v4 v5 : Value), a3.toInt = k → k + d = 5 → o ≤ k → st f k ≠ 0 → (∀ j, o ≤ j → j < k → al5 (st f j) j = 0) → xE xD m_R_leastHole 4 [.int a0, .int a1, .int (st f k), .int a3, v4, v5] [] σ (sm_I (fun y σ' => (∃ h : Nat, y.toInt = h ∧ o ≤ h ∧ h ≤ 5 ∧ al5 (st f h) h ≠ 0 ∧ ∀ j, o ≤ j → j < h → al5 (st f j) j = 0) ∧ σ' = σ)) := by
  intro d
  induction d with
  | zero =>
    intro k a3 v4 v5 h3 hk hok hs hj
    have hk : k = 5 := by omega
    subst hk
    have fin : sm_I (fun y σ' => (∃ h : Nat, y.toInt = h ∧ o ≤ h ∧ h ≤ 5 ∧ al5 (st f h) h ≠ 0 ∧ ∀ j, o ≤ j → j < h → al5 (st f j) j = 0) ∧ σ' = σ) (some (.int 5)) σ := ⟨5, rfl, ⟨5, rfl, hok, by omega, hs, hj⟩, rfl⟩
    refine d_R_leastHole_4 a0 a1 _ a3 v4 v5 σ _ ⟨fun _ => fin, fun _ => ⟨fun _ => fin, fun h => absurd ?_ h⟩⟩
    rw [t_le, h3]; decide
  | succ d ih =>
    intro k a3 v4 v5 h3 hk hok hs hj
    have h3' : (a3 + 1).toInt = ((k + 1 : Nat) : Int) := by
      rw [t_add h3 (y := 1) rfl (by omega) (by omega)]
      omega
    refine d_R_leastHole_4 a0 a1 _ a3 v4 v5 σ _ ⟨fun h => ?_, fun _ => ⟨fun h => ?_, fun _ => ⟨t_vp h3' (show k + 1 < 6 by omega), ?_⟩⟩⟩
    · rw [t_lt, h3] at h
      have h : (k : Int) < 0 := h
      omega
    · rw [t_le, h3] at h
      have h : (5 : Int) ≤ k := h
      omega
    · have e : (st f k &&& ((st f k).toUInt32 >>> (((1 : Int32) <<< (a3 &&& 31)).toUInt32 &&& Int32.toUInt32 31)).toInt32) &&& ((xT 2).getD ((a3 + 1)).toNatClampNeg 0) = wd (st f k) k := by
        rw [t_nat h3', t_nI h3, Int32.and_assoc]; rfl
      rw [e]
      have e2 : (st f k &&& ((wd (st f k) k ||| (wd (st f k) k <<< (((1 : Int32) <<< (a3 &&& 31)) &&& 31))) ^^^ (-1))) = aln (st f k) k := by
        rw [t_nI h3]; rfl
      rw [e2]
      refine ⟨fun z => ih (k + 1) (a3 + 1) _ _ h3' (by omega) (by omega) (wd0 hs z) (fun j j1 j2 => ?_), fun z => ⟨_, rfl, ⟨k, h3, hok, by omega, ?_, hj⟩, rfl⟩⟩
      · rcases Nat.lt_or_ge j k with q | q
        · exact hj j j1 q
        · rw [show j = k by omega]
          unfold al5
          rw [if_pos (by omega)]
          exact z
      · unfold al5
        rw [if_pos (by omega)]
        exact z
theorem c_leastHole2 {a1 f : Int32} {o : Nat} (h1 : a1.toInt = o) (ho : o ≤ 5) (hs : st f o ≠ 0) (σ : sm_S) : xC xD j_R_leastHole [.int (st f o), .int a1] σ (sm_I (fun y σ' => (∃ h : Nat, y.toInt = h ∧ o ≤ h ∧ h ≤ 5 ∧ al5 (st f h) h ≠ 0 ∧ ∀ j, o ≤ j → j < h → al5 (st f j) j = 0) ∧ σ' = σ)) :=
  d_R_leastHole _ a1 σ _ (l_leastHole2 σ (5 - o) o a1 _ _ h1 (by omega) (Nat.le_refl o) hs (fun j a b => absurd b (by omega)))
/-! the best place, said of frames -/
def frF (F : Nat → Prop) (f o : Nat) : Prop := ∀ j, j < 2 ^ o → F (f / 2 ^ o * 2 ^ o + j)
def holF (F : Nat → Prop) (f o h : Nat) : Prop := o ≤ h ∧ h ≤ 5 ∧ frF F f h ∧ (h = 5 ∨ ¬ frF F f (h + 1))
def cnd (F : Nat → Prop) (rk : Nat → Int32) (on : Nat → Prop) (o f : Nat) : Prop := f < 256 ∧ f % 2 ^ o = 0 ∧ rk (f / 32) ≠ -1 ∧ on (f / 32) ∧ frF F f o
def btr (rk : Nat → Int32) (p h q k : Nat) : Prop := (rk (p / 32)).toInt < (rk (q / 32)).toInt ∨ ((rk (p / 32)).toInt = (rk (q / 32)).toInt ∧ (h < k ∨ (h = k ∧ p ≤ q)))
def bst (F : Nat → Prop) (rk : Nat → Int32) (on : Nat → Prop) (o p : Nat) : Prop := cnd F rk on o p ∧ ∃ h, holF F p o h ∧ ∀ q k, cnd F rk on o q → holF F q o k → btr rk p h q k
def BP (F : Nat → Prop) (rk : Nat → Int32) (on : Nat → Prop) (o : Nat) (x : Int32) : Prop := (x = -1 ∧ ∀ f, ¬ cnd F rk on o f) ∨ ∃ p : Nat, x.toInt = p ∧ bst F rk on o p
theorem bst_un {F : Nat → Prop} {rk : Nat → Int32} {on : Nat → Prop} {o p q : Nat} (a : bst F rk on o p) (b : bst F rk on o q) : p = q := by
  obtain ⟨a1, h, a2, a3⟩ := a
  obtain ⟨b1, k, b2, b3⟩ := b
  have A := a3 q k b1 b2
  have B := b3 p h a1 a2
  unfold btr at A B
  omega
theorem BP_un {F : Nat → Prop} {rk : Nat → Int32} {on : Nat → Prop} {o : Nat} {x y : Int32} (a : BP F rk on o x) (b : BP F rk on o y) : x = y := by
  rcases a with ⟨a, a'⟩ | ⟨p, a, a'⟩ <;> rcases b with ⟨b, b'⟩ | ⟨q, b, b'⟩
  · rw [a, b]
  · exact absurd b'.1 (a' q)
  · exact absurd a'.1 (b' p)
  · apply t_inj
    rw [a, b, bst_un a' b']
theorem pl_lt {f o j : Nat} (hf : f < 256) (ho : o ≤ 5) (hj : j < 2 ^ o) : f / 2 ^ o * 2 ^ o + j < 256 := by
  rcases (show o = 0 ∨ o = 1 ∨ o = 2 ∨ o = 3 ∨ o = 4 ∨ o = 5 by omega) with rfl | rfl | rfl | rfl | rfl | rfl <;> simp only [Nat.reducePow] at hj ⊢ <;> omega
theorem frF_cg {F F' : Nat → Prop} {f o : Nat} (hf : f < 256) (ho : o ≤ 5) (h : ∀ f, f < 256 → (F f ↔ F' f)) : frF F f o ↔ frF F' f o :=
  ⟨fun a j hj => (h _ (pl_lt hf ho hj)).mp (a j hj), fun a j hj => (h _ (pl_lt hf ho hj)).mpr (a j hj)⟩
theorem frF_0 {F : Nat → Prop} {f o : Nat} (h : f % 2 ^ o = 0) (a : frF F f o) : F f := by
  have := a 0 (Nat.two_pow_pos o)
  rw [al_pow h] at this
  exact this
theorem holF_cg {F F' : Nat → Prop} {f o k : Nat} (hf : f < 256) (h : ∀ f, f < 256 → (F f ↔ F' f)) (a : holF F f o k) : holF F' f o k := by
  obtain ⟨a1, a2, a3, a4⟩ := a
  refine ⟨a1, a2, (frF_cg hf a2 h).mp a3, ?_⟩
  by_cases e : k = 5
  · exact Or.inl e
  · exact Or.inr (fun z => a4.resolve_left e ((frF_cg hf (by omega) h).mpr z))
theorem cnd_cg {F F' : Nat → Prop} {rk rk' : Nat → Int32} {on on' : Nat → Prop} {o f : Nat} (ho : o ≤ 5) (h : ∀ f, f < 256 → (F f ↔ F' f)) (hr : ∀ f, f < 256 → F f → rk (f / 32) = rk' (f / 32)) (hn : ∀ s, s < 8 → (on s ↔ on' s)) (a : cnd F rk on o f) : cnd F' rk' on' o f := by
  obtain ⟨a1, a2, a3, a4, a5⟩ := a
  exact ⟨a1, a2, by rw [← hr f a1 (frF_0 a2 a5)]; exact a3, (hn _ (by omega)).mp a4, (frF_cg a1 ho h).mp a5⟩
theorem BP_cg {F F' : Nat → Prop} {rk rk' : Nat → Int32} {on on' : Nat → Prop} {o : Nat} {x : Int32} (ho : o ≤ 5) (h : ∀ f, f < 256 → (F f ↔ F' f)) (hr : ∀ f, f < 256 → F f → rk (f / 32) = rk' (f / 32)) (hn : ∀ s, s < 8 → (on s ↔ on' s)) (a : BP F rk on o x) : BP F' rk' on' o x := by
  have h' : ∀ f, f < 256 → (F' f ↔ F f) := fun f hf => (h f hf).symm
  have hr' : ∀ f, f < 256 → F' f → rk' (f / 32) = rk (f / 32) := fun f hf z => (hr f hf ((h f hf).mpr z)).symm
  have hn' : ∀ s, s < 8 → (on' s ↔ on s) := fun s hs => (hn s hs).symm
  rcases a with ⟨a, a'⟩ | ⟨p, a, a1, k, a2, a3⟩
  · exact Or.inl ⟨a, fun f z => a' f (cnd_cg ho h' hr' hn' z)⟩
  · refine Or.inr ⟨p, a, cnd_cg ho h hr hn a1, k, holF_cg a1.1 h a2, fun q j hq hj => ?_⟩
    have q1 := cnd_cg ho h' hr' hn' hq
    have := a3 q j q1 (holF_cg hq.1 h' hj)
    unfold btr at this ⊢
    rw [hr p a1.1 (frF_0 a1.2.1 a1.2.2.2.2), hr q q1.1 (frF_0 q1.2.1 q1.2.2.2.2)] at this
    exact this
theorem holF_un {F : Nat → Prop} {p o h h' : Nat} (hd : ∀ k, frF F p (k + 1) → frF F p k) (a : holF F p o h) (b : holF F p o h') : h = h' := by
  have le : ∀ {i k : Nat}, i ≤ k → frF F p k → frF F p i := by
    intro i k h
    induction h with
    | refl => exact id
    | step _ ih => exact fun hf => ih (hd _ hf)
  obtain ⟨a1, a2, a3, a4⟩ := a
  obtain ⟨b1, b2, b3, b4⟩ := b
  rcases Nat.lt_trichotomy h h' with c | c | c
  · exact absurd (le c b3) (a4.resolve_left (by omega))
  · exact c
  · exact absurd (le c a3) (b4.resolve_left (by omega))
theorem frF_dn {F : Nat → Prop} {p : Nat} (k : Nat) (h : frF F p (k + 1)) : frF F p k := by
  intro j hj
  have hp : 2 ^ (k + 1) = 2 ^ k + 2 ^ k := by rw [Nat.pow_succ]; omega
  rcases base_up p k with e | e
  · rw [← e]
    exact h j (by omega)
  · rw [← e, Nat.add_assoc]
    exact h (2 ^ k + j) (by omega)
/-! the reference's -/
def frV (v : Nat → Int32) (f : Nat) : Prop := v (18 + 3 * f) = 1
def rkf (h k z : Int32) (s : Nat) : Int32 := if z = -1 then -1 else if k ≠ 0 ∧ z = 1 then -1 else (if k ≠ 0 ∨ z = 1 then 0 else 2) + (if nI (s % 2) = h then 0 else 1)
def zV (v : Nat → Int32) (s : Nat) : Int32 := if v (2358 + 8 * s) = 0 then -1 else v (2358 + 8 * s + 1)
theorem c_zoneOf2 {s : Int32} {n : Nat} (hs : s.toInt = n) (hn : n < 8) (σ : sm_S) : xC xM j_M_zoneOf [.ref 0, .int s] σ (sm_I (fun x σ' => x = zV (σ 1) n ∧ σ' = σ)) := by
  refine (c_zoneOf hs hn σ).mono ?_
  rintro r σ' ⟨x, rfl, hx, rfl⟩
  refine ⟨x, rfl, ?_, rfl⟩
  unfold zV
  rcases hx with ⟨h1, h2⟩ | ⟨h1, h2⟩
  · rw [if_pos h1, h2]
  · rw [if_neg h1, h2]
theorem c_rankOf2 {s t k : Int32} {n m : Nat} (hs : s.toInt = n) (hn : n < 8) (ht : t.toInt = m) (hm : m < 6) (σ : sm_S) : xC xM j_M_rankOf [.ref 0, .int s, .int k, .int t] σ (sm_I (fun x σ' => x = rkf (σ 1 (2322 + 6 * m)) k (zV (σ 1) n) n ∧ σ' = σ)) := by
  refine w_M_rankOf s k t σ _ ((c_zoneOf2 hs hn σ).int ?_)
  rintro x σ ⟨rfl, rfl⟩
  refine ⟨by decide, (c_taskAt t _).int ?_⟩
  rintro _ σ ⟨rfl, rfl⟩
  obtain ⟨h1, h2⟩ := ixT (k := 0) (j := 0) ht rfl (by omega)
  refine ⟨h1, ?_⟩
  rw [h2, show s - s / 2 * 2 = nI (n % 2) from t_nI (t_rem hs rfl (by decide))]
  unfold rkf
  generalize zV (σ 1) n = z
  generalize σ 1 (2322 + 6 * m + 0) = hh
  repeat' first
    | apply And.intro
    | intro _
  all_goals refine ⟨_, rfl, ?_, rfl⟩
  all_goals simp_all
theorem l_holeFrom2 {a1 a2 : Int32} {n o : Nat} (h1 : a1.toInt = n) (hn : n < 700) (σ : sm_S) : ∀ (d k : Nat) (a3 : Int32), a3.toInt = k → k + d = 5 → o ≤ k → frF (frV (σ 1)) n k → xE xM m_M_holeFrom 2 [.ref 0, .int a1, .int a2, .int a3] [] σ (sm_I (fun x σ' => (∃ j : Nat, x.toInt = j ∧ holF (frV (σ 1)) n o j) ∧ σ' = σ)) := by
  intro d
  induction d with
  | zero =>
    intro k a3 h2 hk hok hf
    refine w_M_holeFrom_2 a1 a2 a3 σ _ ⟨fun _ => ⟨_, rfl, ⟨k, h2, hok, by omega, hf, Or.inl (by omega)⟩, rfl⟩, fun h => absurd ?_ h⟩
    rw [t_le, h2]
    show (5 : Int) ≤ _
    omega
  | succ d ih =>
    intro k a3 h2 hk hok hf
    have h3 : (a3 + 1).toInt = ((k + 1 : Nat) : Int) := by
      rw [t_add h2 (y := 1) rfl (by omega) (by omega)]
      omega
    refine w_M_holeFrom_2 a1 a2 a3 σ _ ⟨fun h => ?_, fun h => (c_areFree h1 hn h3 (by omega) σ).int ?_⟩
    · rw [t_le, h2] at h
      have h : (5 : Int) ≤ k := h
      omega
    · rintro x _ ⟨hx, rfl⟩
      refine ⟨fun z => ⟨_, rfl, ⟨k, h2, hok, by omega, hf, Or.inr ?_⟩, rfl⟩, fun z => ih (k + 1) _ h3 (by omega) (by omega) ?_⟩
      · rcases hx with ⟨q, -⟩ | ⟨-, j, q1, q2⟩
        · rw [q] at z; exact absurd z (by decide)
        · exact fun g => q2 (g j q1)
      · rcases hx with ⟨-, q⟩ | ⟨q, -⟩
        · exact q
        · exact absurd q z
theorem c_holeFrom2 {a1 a2 : Int32} {n k : Nat} (h1 : a1.toInt = n) (hn : n < 700) (h2 : a2.toInt = k) (hk : k ≤ 5) (σ : sm_S) (hf : frF (frV (σ 1)) n k) : xC xM j_M_holeFrom [.ref 0, .int a1, .int a2] σ (sm_I (fun x σ' => (∃ j : Nat, x.toInt = j ∧ holF (frV (σ 1)) n k j) ∧ σ' = σ)) :=
  w_M_holeFrom a1 a2 σ _ (l_holeFrom2 h1 hn σ (5 - k) k _ h2 (by omega) (Nat.le_refl k) hf)
def rkV (v : Nat → Int32) (k : Int32) (m s : Nat) : Int32 := rkf (v (2322 + 6 * m)) k (zV v s) s
def onV (v : Nat → Int32) (a : Int32) (s : Nat) : Prop := a = 0 ∨ v (2358 + 8 * s) = 1
theorem mul_at {o i q : Nat} (h : q % 2 ^ o = 0) (hq : q < (i + 1) * 2 ^ o) : q < i * 2 ^ o ∨ q = i * 2 ^ o := by
  have hp : 0 < 2 ^ o := Nat.two_pow_pos o
  have e := al_pow h
  generalize q / 2 ^ o = t at e
  subst e
  have ht : t < i + 1 := Nat.lt_of_mul_lt_mul_right hq
  rcases Nat.lt_or_ge t i with c | c
  · exact Or.inl (Nat.mul_lt_mul_of_pos_right c hp)
  · exact Or.inr (by rw [show t = i by omega])
def bpI (F : Nat → Prop) (rk : Nat → Int32) (on : Nat → Prop) (o N : Nat) (a5 a6 a7 : Int32) : Prop := (a5 = -1 ∧ ∀ f, f < N → ¬ cnd F rk on o f) ∨ ∃ p h : Nat, a5.toInt = p ∧ p < N ∧ cnd F rk on o p ∧ holF F p o h ∧ a6 = rk (p / 32) ∧ a7.toInt = h ∧ ∀ q k, q < N → cnd F rk on o q → holF F q o k → btr rk p h q k
theorem bpI_no {F : Nat → Prop} {rk : Nat → Int32} {on : Nat → Prop} {o i : Nat} {a5 a6 a7 : Int32} (hn : ¬ cnd F rk on o (i * 2 ^ o)) (h : bpI F rk on o (i * 2 ^ o) a5 a6 a7) : bpI F rk on o ((i + 1) * 2 ^ o) a5 a6 a7 := by
  have lt : i * 2 ^ o < (i + 1) * 2 ^ o := Nat.mul_lt_mul_of_pos_right (by omega) (Nat.two_pow_pos o)
  rcases h with ⟨h1, h2⟩ | ⟨p, k, h1, h2, h3, h4, h5, h6, h7⟩
  · refine Or.inl ⟨h1, fun f hf hc => ?_⟩
    rcases mul_at hc.2.1 hf with c | c
    · exact h2 f c hc
    · rw [c] at hc; exact hn hc
  · refine Or.inr ⟨p, k, h1, by omega, h3, h4, h5, h6, fun q j hq hc hj => ?_⟩
    rcases mul_at hc.2.1 hq with c | c
    · exact h7 q j c hc hj
    · rw [c] at hc; exact absurd hc hn
theorem bpI_new {F : Nat → Prop} {rk : Nat → Int32} {on : Nat → Prop} {o i k : Nat} {a5 a6 a7 b5 b7 : Int32} (h5 : b5.toInt = ((i * 2 ^ o : Nat) : Int)) (hc : cnd F rk on o (i * 2 ^ o)) (hk : holF F (i * 2 ^ o) o k) (h7 : b7.toInt = k) (h : bpI F rk on o (i * 2 ^ o) a5 a6 a7) (hb : a5 = -1 ∨ (rk (i * 2 ^ o / 32)).toInt < a6.toInt ∨ (rk (i * 2 ^ o / 32) = a6 ∧ b7.toInt < a7.toInt)) : bpI F rk on o ((i + 1) * 2 ^ o) b5 (rk (i * 2 ^ o / 32)) b7 := by
  have lt : i * 2 ^ o < (i + 1) * 2 ^ o := Nat.mul_lt_mul_of_pos_right (by omega) (Nat.two_pow_pos o)
  refine Or.inr ⟨i * 2 ^ o, k, h5, lt, hc, hk, rfl, h7, fun q j hq hcq hj => ?_⟩
  rcases mul_at hcq.2.1 hq with c | c
  · rcases h with ⟨-, h2⟩ | ⟨p, r, g1, g2, g3, g4, g5, g6, g7⟩
    · exact absurd hcq (h2 q c)
    · have := g7 q j c hcq hj
      have n5 : a5 ≠ -1 := fun z => by rw [z, show (-1 : Int32).toInt = -1 from rfl] at g1; omega
      rcases hb.resolve_left n5 with d | ⟨d, d2⟩
      · rw [g5] at d
        unfold btr at this ⊢
        omega
      · rw [g5] at d
        have d' : (rk (i * 2 ^ o / 32)).toInt = (rk (p / 32)).toInt := by rw [d]
        unfold btr at this ⊢
        omega
  · subst c
    rw [holF_un frF_dn hk hj]
    unfold btr
    omega
theorem bpI_keep {F : Nat → Prop} {rk : Nat → Int32} {on : Nat → Prop} {o i k : Nat} {a5 a6 a7 b7 : Int32} (hk : holF F (i * 2 ^ o) o k) (h7 : b7.toInt = k) (h : bpI F rk on o (i * 2 ^ o) a5 a6 a7) (n5 : a5 ≠ -1) (hb : a6.toInt < (rk (i * 2 ^ o / 32)).toInt ∨ (rk (i * 2 ^ o / 32) = a6 ∧ a7.toInt ≤ b7.toInt)) : bpI F rk on o ((i + 1) * 2 ^ o) a5 a6 a7 := by
  have lt : i * 2 ^ o < (i + 1) * 2 ^ o := Nat.mul_lt_mul_of_pos_right (by omega) (Nat.two_pow_pos o)
  rcases h with ⟨h1, -⟩ | ⟨p, r, g1, g2, g3, g4, g5, g6, g7⟩
  · exact absurd h1 n5
  · refine Or.inr ⟨p, r, g1, by omega, g3, g4, g5, g6, fun q j hq hc hj => ?_⟩
    rcases mul_at hc.2.1 hq with c | c
    · exact g7 q j c hc hj
    · subst c
      have e := holF_un frF_dn hk hj
      subst e
      unfold btr
      rcases hb with d | ⟨d, d2⟩
      · rw [g5] at d
        exact Or.inl d
      · rw [g5] at d
        have d' : (rk (i * 2 ^ o / 32)).toInt = (rk (p / 32)).toInt := by rw [d]
        omega
theorem bpI_end {F : Nat → Prop} {rk : Nat → Int32} {on : Nat → Prop} {o : Nat} {a5 a6 a7 : Int32} (h : bpI F rk on o 256 a5 a6 a7) : BP F rk on o a5 := by
  rcases h with ⟨h1, h2⟩ | ⟨p, k, h1, h2, h3, h4, h5, h6, h7⟩
  · exact Or.inl ⟨h1, fun f hc => h2 f hc.1 hc⟩
  · exact Or.inr ⟨p, h1, h3, k, h4, fun q j hc hj => h7 q j hc.1 hc hj⟩
theorem l_bestPlace2 {a1 a2 a3 a4 : Int32} {m o : Nat} (h1 : a1.toInt = m) (hm : m < 6) (h3 : a3.toInt = o) (ho : o ≤ 4) (σ : sm_S) : ∀ (d i : Nat) (a5 a6 a7 a8 : Int32) (v9 v10 : Value), a8.toInt = ((i * 2 ^ o : Nat) : Int) → (i + d) * 2 ^ o = 256 → bpI (frV (σ 1)) (rkV (σ 1) a2 m) (onV (σ 1) a4) o (i * 2 ^ o) a5 a6 a7 →
    xE xM m_M_bestPlace 12 [.ref 0, .int a1, .int a2, .int a3, .int a4, .int a5, .int a6, .int a7, .int a8, v9, v10] [] σ (sm_I (fun x σ' => BP (frV (σ 1)) (rkV (σ 1) a2 m) (onV (σ 1) a4) o x ∧ σ' = σ)) := by
  have hp := t_pw (k := o) (by omega)
  intro d
  induction d with
  | zero =>
    intro i a5 a6 a7 a8 v9 v10 h8 hi h5
    rw [Nat.add_zero] at hi
    rw [hi] at h5
    refine w_M_bestPlace_12 a1 a2 a3 a4 a5 a6 a7 a8 v9 v10 σ _ ⟨fun _ => ⟨_, rfl, bpI_end h5, rfl⟩, fun h => absurd ?_ h⟩
    rw [t_le, h8]
    show (256 : Int) ≤ _
    omega
  | succ d ih =>
    intro i a5 a6 a7 a8 v9 v10 h8 hi h5
    have hi2 : (i + (d + 1)) * 2 ^ o = i * 2 ^ o + (d * 2 ^ o + 2 ^ o) := by rw [Nat.add_mul, Nat.succ_mul]
    have hlt : i * 2 ^ o < 256 := by omega
    have hs8 : (a8 + ((1 : Int32) <<< (a3 &&& 31))).toInt = (((i + 1) * 2 ^ o : Nat) : Int) := by
      rw [t_add h8 (t_pow h3 (by omega)) (by omega) (by omega), Nat.succ_mul]
      omega
    have go : ∀ (b5 b6 b7 : Int32) (w9 w10 : Value), bpI (frV (σ 1)) (rkV (σ 1) a2 m) (onV (σ 1) a4) o ((i + 1) * 2 ^ o) b5 b6 b7 → xE xM m_M_bestPlace 12 [.ref 0, .int a1, .int a2, .int a3, .int a4, .int b5, .int b6, .int b7, .int (a8 + ((1 : Int32) <<< (a3 &&& 31))), w9, w10] [] σ (sm_I (fun x σ' => BP (frV (σ 1)) (rkV (σ 1) a2 m) (onV (σ 1) a4) o x ∧ σ' = σ)) :=
      fun b5 b6 b7 w9 w10 hb => ih (i + 1) b5 b6 b7 _ w9 w10 hs8 (by rw [← hi]; congr 1; omega) hb
    have hm0 : i * 2 ^ o % 2 ^ o = 0 := Nat.mul_mod_left _ _
    refine w_M_bestPlace_12 a1 a2 a3 a4 a5 a6 a7 a8 v9 v10 σ _ ⟨fun h => ?_, fun h => (c_spanOf h8 σ).int ?_⟩
    · rw [t_le, h8] at h
      have h : (256 : Int) ≤ _ := h
      omega
    · rintro sp σ ⟨hsp, rfl⟩
      have hsp8 : i * 2 ^ o / 32 < 8 := by omega
      refine (c_rankOf2 hsp hsp8 h1 hm _).int ?_
      rintro rk σ ⟨hrk, rfl⟩
      have hrk : rk = rkV (σ 1) a2 m (i * 2 ^ o / 32) := hrk
      have h8n : i * 2 ^ o < 700 := by omega
      have fin : ∀ (w10 : Value), onV (σ 1) a4 (i * 2 ^ o / 32) → rk ≠ -1 → xC xM j_M_areFree [.ref 0, .int a8, .int a3] σ (sm_ri False (fun x6 σ5 => ((x6 ≠ 0 → xC xM j_M_holeFrom [.ref 0, .int a8, .int a3] σ5 (sm_ri False (fun x8 σ7 => ((a5 = (-1) → xE xM m_M_bestPlace 12 [.ref 0, .int a1, .int a2, .int a3, .int a4, .int a8, .int rk, .int x8, .int (a8 + ((1 : Int32) <<< (a3 &&& 31))), .int rk, .int x8] [] σ7 (sm_I (fun x σ' => BP (frV (σ 1)) (rkV (σ 1) a2 m) (onV (σ 1) a4) o x ∧ σ' = σ))) ∧ (¬ (a5 = (-1)) → ((a6 < rk → xE xM m_M_bestPlace 12 [.ref 0, .int a1, .int a2, .int a3, .int a4, .int a5, .int a6, .int a7, .int (a8 + ((1 : Int32) <<< (a3 &&& 31))), .int rk, .int x8] [] σ7 (sm_I (fun x σ' => BP (frV (σ 1)) (rkV (σ 1) a2 m) (onV (σ 1) a4) o x ∧ σ' = σ))) ∧ (¬ (a6 < rk) → ((rk ≠ a6 → xE xM m_M_bestPlace 12 [.ref 0, .int a1, .int a2, .int a3, .int a4, .int a8, .int rk, .int x8, .int (a8 + ((1 : Int32) <<< (a3 &&& 31))), .int rk, .int x8] [] σ7 (sm_I (fun x σ' => BP (frV (σ 1)) (rkV (σ 1) a2 m) (onV (σ 1) a4) o x ∧ σ' = σ))) ∧ (¬ (rk ≠ a6) → ((x8 < a7 → xE xM m_M_bestPlace 12 [.ref 0, .int a1, .int a2, .int a3, .int a4, .int a8, .int rk, .int x8, .int (a8 + ((1 : Int32) <<< (a3 &&& 31))), .int rk, .int x8] [] σ7 (sm_I (fun x σ' => BP (frV (σ 1)) (rkV (σ 1) a2 m) (onV (σ 1) a4) o x ∧ σ' = σ))) ∧ (¬ (x8 < a7) → xE xM m_M_bestPlace 12 [.ref 0, .int a1, .int a2, .int a3, .int a4, .int a5, .int a6, .int a7, .int (a8 + ((1 : Int32) <<< (a3 &&& 31))), .int rk, .int x8] [] σ7 (sm_I (fun x σ' => BP (frV (σ 1)) (rkV (σ 1) a2 m) (onV (σ 1) a4) o x ∧ σ' = σ))))))))))))) ∧ (¬ (x6 ≠ 0) → xE xM m_M_bestPlace 12 [.ref 0, .int a1, .int a2, .int a3, .int a4, .int a5, .int a6, .int a7, .int (a8 + ((1 : Int32) <<< (a3 &&& 31))), .int rk, w10] [] σ5 (sm_I (fun x σ' => BP (frV (σ 1)) (rkV (σ 1) a2 m) (onV (σ 1) a4) o x ∧ σ' = σ)))))) := by
        intro w10 hon hr1
        refine (c_areFree h8 h8n h3 (by omega) _).int ?_
        rintro x6 σ ⟨hx6, rfl⟩
        refine ⟨fun n6 => ?_, fun z6 => go _ _ _ _ _ (bpI_no (fun hc => ?_) h5)⟩
        · have hfr : frF (frV (σ 1)) (i * 2 ^ o) o := by
            rcases hx6 with ⟨-, q⟩ | ⟨q, -⟩
            · exact q
            · exact absurd q n6
          have hc : cnd (frV (σ 1)) (rkV (σ 1) a2 m) (onV (σ 1) a4) o (i * 2 ^ o) := ⟨hlt, hm0, by rw [← hrk]; exact hr1, hon, hfr⟩
          refine (c_holeFrom2 h8 h8n h3 (by omega) _ hfr).int ?_
          rintro x8 σ ⟨⟨j, hj1, hj2⟩, rfl⟩
          have new : ∀ w9 w10 : Value, (a5 = -1 ∨ rk.toInt < a6.toInt ∨ (rk = a6 ∧ x8.toInt < a7.toInt)) → xE xM m_M_bestPlace 12 [.ref 0, .int a1, .int a2, .int a3, .int a4, .int a8, .int rk, .int x8, .int (a8 + ((1 : Int32) <<< (a3 &&& 31))), w9, w10] [] σ (sm_I (fun x σ' => BP (frV (σ 1)) (rkV (σ 1) a2 m) (onV (σ 1) a4) o x ∧ σ' = σ)) := fun w9 w10 hb => go _ _ _ w9 w10 (by
            have := bpI_new h8 hc hj2 hj1 h5 (by rw [← hrk]; exact hb)
            rw [← hrk] at this
            exact this)
          have keep : ∀ w9 w10 : Value, a5 ≠ -1 → (a6.toInt < rk.toInt ∨ (rk = a6 ∧ a7.toInt ≤ x8.toInt)) → xE xM m_M_bestPlace 12 [.ref 0, .int a1, .int a2, .int a3, .int a4, .int a5, .int a6, .int a7, .int (a8 + ((1 : Int32) <<< (a3 &&& 31))), w9, w10] [] σ (sm_I (fun x σ' => BP (frV (σ 1)) (rkV (σ 1) a2 m) (onV (σ 1) a4) o x ∧ σ' = σ)) := fun w9 w10 n5 hb => go _ _ _ w9 w10 (bpI_keep hj2 hj1 h5 n5 (by rw [← hrk]; exact hb))
          refine ⟨fun z5 => new _ _ (Or.inl z5), fun n5 => ⟨fun c1 => keep _ _ n5 (Or.inl (t_lt.mp c1)), fun c1 => ⟨fun c2 => new _ _ (Or.inr (Or.inl ?_)), fun c2 => ⟨fun c3 => new _ _ (Or.inr (Or.inr ⟨Classical.not_not.mp c2, t_lt.mp c3⟩)), fun c3 => keep _ _ n5 (Or.inr ⟨Classical.not_not.mp c2, ?_⟩)⟩⟩⟩⟩
          · rw [t_lt] at c1
            have : rk.toInt ≠ a6.toInt := fun z => c2 (t_inj z)
            omega
          · rw [t_lt] at c3
            omega
        · rcases hx6 with ⟨q, -⟩ | ⟨-, j, q1, q2⟩
          · exact z6 (by rw [q]; decide)
          · exact q2 (hc.2.2.2.2 j q1)
      refine ⟨fun z => go _ _ _ _ _ (bpI_no (fun hc => hc.2.2.1 (by rw [← hrk]; exact z)) h5), fun nr => ⟨fun z4 => fin _ (Or.inl z4) nr, fun n4 => (c_spanOf h8 _).int ?_⟩⟩
      rintro sp2 σ ⟨hsp2, rfl⟩
      refine (c_spanState hsp2 hsp8 _).int ?_
      rintro st σ ⟨hst, rfl⟩
      refine ⟨fun z => go _ _ _ _ _ (bpI_no (fun hc => ?_) h5), fun z => fin _ (Or.inr (by rw [← hst]; exact Classical.not_not.mp z)) nr⟩
      rcases hc.2.2.2.1 with q | q
      · exact n4 q
      · rw [← hst] at q; exact z q
theorem c_bestPlace2 {a1 a2 a3 a4 : Int32} {m o : Nat} (h1 : a1.toInt = m) (hm : m < 6) (h3 : a3.toInt = o) (ho : o ≤ 4) (σ : sm_S) : xC xM j_M_bestPlace [.ref 0, .int a1, .int a2, .int a3, .int a4] σ (sm_I (fun x σ' => BP (frV (σ 1)) (rkV (σ 1) a2 m) (onV (σ 1) a4) o x ∧ σ' = σ)) :=
  w_M_bestPlace a1 a2 a3 a4 σ _ (l_bestPlace2 h1 hm h3 ho σ (256 / 2 ^ o) 0 _ _ _ _ _ _ (by rw [Nat.zero_mul]; rfl) (t_256 ho) (Or.inl ⟨rfl, fun f hf => absurd hf (by rw [Nat.zero_mul]; omega)⟩))
end
section
/-! ===== the simulation: the class's best place ===== -/
def frC (c : sm_S) (f : Nat) : Prop := bit (c 2 (f / 32)) (f % 32)
def rkc (h k z : Int32) (s : Nat) : Int32 := if k = 0 then (if z = 1 then 0 else 2) + (if nI (s % 2) = h then 0 else 1) else if z = 0 then (if nI (s % 2) = h then 0 else 1) else -1
def rkC (c : sm_S) (k : Int32) (m s : Nat) : Int32 := rkc (c 27 m) k (c 19 s) s
def onC (c : sm_S) (a : Int32) (s : Nat) : Prop := a = 0 ∨ c 18 s = 1
theorem e_rank2 {a1 : Int32} {n : Nat} (h1 : a1.toInt = n) (hn : n < 8) (a2 a3 : Int32) (σ : sm_S) : xC xD j_Y_rank [.ref 0, .int a1, .int a2, .int a3] σ (sm_I (fun x σ' => x = rkc a3 a2 (σ 19 n) n ∧ σ' = σ)) := by
  have v := t_vp h1 hn
  refine d_Y_rank a1 a2 a3 σ _ ?_
  rw [t_nat h1, show a1 - a1 / 2 * 2 = nI (n % 2) from t_nI (t_rem h1 rfl (by decide))]
  unfold rkc
  generalize σ 19 n = z
  refine ⟨by decide, ?_⟩
  repeat' first
    | apply And.intro
    | exact v
    | intro _
  all_goals refine ⟨_, rfl, ?_, rfl⟩
  all_goals simp_all
theorem pl_in {f o j : Nat} (ho : o ≤ 5) (hj : j < 2 ^ o) : (f / 2 ^ o * 2 ^ o + j) / 32 = f / 32 ∧ (f / 2 ^ o * 2 ^ o + j) % 32 = f % 32 / 2 ^ o * 2 ^ o + j := by
  rcases (show o = 0 ∨ o = 1 ∨ o = 2 ∨ o = 3 ∨ o = 4 ∨ o = 5 by omega) with rfl | rfl | rfl | rfl | rfl | rfl <;> simp only [Nat.reducePow] at hj ⊢ <;> omega
theorem frF_b {c : sm_S} {f o : Nat} (ho : o ≤ 5) : frF (frC c) f o ↔ frb (c 2 (f / 32)) (f % 32) o := by
  constructor
  · intro h j hj
    have := h j hj
    unfold frC at this
    rw [(pl_in ho hj).1, (pl_in ho hj).2] at this
    exact this
  · intro h j hj
    unfold frC
    rw [(pl_in ho hj).1, (pl_in ho hj).2]
    exact h j hj
theorem holF_b {c : sm_S} {f o h : Nat} : holF (frC c) f o h ↔ hol (c 2 (f / 32)) (f % 32) o h := by
  constructor
  · rintro ⟨a1, a2, a3, a4⟩
    refine ⟨a1, a2, (frF_b a2).mp a3, ?_⟩
    by_cases e : h = 5
    · exact Or.inl e
    · exact Or.inr (fun z => a4.resolve_left e ((frF_b (by omega)).mpr z))
  · rintro ⟨a1, a2, a3, a4⟩
    refine ⟨a1, a2, (frF_b a2).mpr a3, ?_⟩
    by_cases e : h = 5
    · exact Or.inl e
    · exact Or.inr (fun z => a4.resolve_left e ((frF_b (by omega)).mp z))
/-- a place's base: the same place -/
theorem base_b (i k : Nat) : i / 2 ^ k * 2 ^ k % 2 ^ k = 0 := Nat.mul_mod_left _ _
theorem base_lt {i k : Nat} : i / 2 ^ k * 2 ^ k ≤ i := Nat.div_mul_le_self _ _
theorem base_up2 (i k : Nat) : i / 2 ^ k * 2 ^ k / 2 ^ (k + 1) = i / 2 ^ (k + 1) := by
  rw [Nat.pow_succ, ← Nat.div_div_eq_div_mul, ← Nat.div_div_eq_div_mul, Nat.mul_div_cancel _ (Nat.two_pow_pos k)]
theorem frb_base {x : Int32} {i k : Nat} (h : frb x i k) : frb x (i / 2 ^ k * 2 ^ k) k := by
  intro j hj
  rw [al_pow (base_b i k)]
  exact h j hj
theorem frb_base1 {x : Int32} {i k : Nat} (h : frb x (i / 2 ^ k * 2 ^ k) (k + 1)) : frb x i (k + 1) := by
  intro j hj
  have := h j hj
  rw [base_up2] at this
  exact this
/-- the hole round i has its base among those alone -/
theorem hol_aln {x : Int32} {i o k : Nat} (hi : i < 32) (h : hol x i o k) : bit (al5 (st x k) k) (i / 2 ^ k * 2 ^ k) := by
  obtain ⟨-, a2, a3, a4⟩ := h
  have hl : i / 2 ^ k * 2 ^ k ≤ i := base_lt
  exact (al5_iff a2 (by omega)).mpr ⟨base_b i k, frb_base a3, a4.imp_right (fun z w => z (frb_base1 w))⟩
/-- what is known of a span that is looked at: the least hole of its places -/
def lho (x : Int32) (o h : Nat) : Prop := o ≤ h ∧ h ≤ 5 ∧ al5 (st x h) h ≠ 0 ∧ ∀ j, o ≤ j → j < h → al5 (st x j) j = 0
theorem lho_le {x : Int32} {o h i k : Nat} (hi : i < 32) (hl : lho x o h) (hk : hol x i o k) : h ≤ k := by
  refine Nat.not_lt.mp (fun c => ?_)
  have := hol_aln hi hk
  rw [hl.2.2.2 k hk.1 c] at this
  exact bit_0 this
def bpC (c : sm_S) (rk : Nat → Int32) (on : Nat → Prop) (o k : Nat) (a5 a6 a7 : Int32) : Prop := (a5 = -1 ∧ ∀ f, f < 32 * k → ¬ cnd (frC c) rk on o f) ∨ ∃ s h : Nat, a5.toInt = s ∧ s < k ∧ rk s ≠ -1 ∧ on s ∧ a6 = rk s ∧ a7.toInt = h ∧ lho (c 2 s) o h ∧ ∀ q j, q < 32 * k → cnd (frC c) rk on o q → holF (frC c) q o j → (rk s).toInt < (rk (q / 32)).toInt ∨ ((rk s).toInt = (rk (q / 32)).toInt ∧ (h < j ∨ (h = j ∧ s ≤ q / 32)))
theorem bpC_no {c : sm_S} {rk : Nat → Int32} {on : Nat → Prop} {o k : Nat} {a5 a6 a7 : Int32} (hn : ∀ f, f / 32 = k → ¬ cnd (frC c) rk on o f) (h : bpC c rk on o k a5 a6 a7) : bpC c rk on o (k + 1) a5 a6 a7 := by
  rcases h with ⟨h1, h2⟩ | ⟨s, r, h1, h2, h3, h4, h5, h6, h7, h8⟩
  · refine Or.inl ⟨h1, fun f hf hc => ?_⟩
    by_cases e : f / 32 = k
    · exact hn f e hc
    · exact h2 f (by omega) hc
  · refine Or.inr ⟨s, r, h1, by omega, h3, h4, h5, h6, h7, fun q j hq hc hj => ?_⟩
    by_cases e : q / 32 = k
    · exact absurd hc (hn q e)
    · exact h8 q j (by omega) hc hj
theorem bpC_new {c : sm_S} {rk : Nat → Int32} {on : Nat → Prop} {o k r : Nat} {a5 a6 a7 b5 b7 : Int32} (hb5 : b5.toInt = k) (hr : rk k ≠ -1) (ho : on k) (hb7 : b7.toInt = r) (hl : lho (c 2 k) o r) (h : bpC c rk on o k a5 a6 a7) (hb : a5 = -1 ∨ (rk k).toInt < a6.toInt ∨ (rk k = a6 ∧ b7.toInt < a7.toInt)) : bpC c rk on o (k + 1) b5 (rk k) b7 := by
  refine Or.inr ⟨k, r, hb5, by omega, hr, ho, rfl, hb7, hl, fun q j hq hc hj => ?_⟩
  by_cases e : q / 32 = k
  · have := lho_le (Nat.mod_lt q (by decide)) (by rw [← e] at hl; exact hl) (holF_b.mp hj)
    rw [e]
    omega
  · rcases h with ⟨-, h2⟩ | ⟨s, w, h1, h2, h3, h4, h5, h6, h7, h8⟩
    · exact absurd hc (h2 q (by omega))
    · have := h8 q j (by omega) hc hj
      have n5 : a5 ≠ -1 := ne_m1 h1
      rcases hb.resolve_left n5 with d | ⟨d, d2⟩
      · rw [h5] at d
        omega
      · rw [h5] at d
        have d' : (rk k).toInt = (rk s).toInt := by rw [d]
        omega
theorem bpC_keep {c : sm_S} {rk : Nat → Int32} {on : Nat → Prop} {o k : Nat} {a5 a6 a7 : Int32} (h : bpC c rk on o k a5 a6 a7) (n5 : a5 ≠ -1) (hb : a6.toInt < (rk k).toInt ∨ (rk k = a6 ∧ ∃ r : Nat, lho (c 2 k) o r ∧ a7.toInt ≤ r)) : bpC c rk on o (k + 1) a5 a6 a7 := by
  rcases h with ⟨h1, -⟩ | ⟨s, w, h1, h2, h3, h4, h5, h6, h7, h8⟩
  · exact absurd h1 n5
  · refine Or.inr ⟨s, w, h1, by omega, h3, h4, h5, h6, h7, fun q j hq hc hj => ?_⟩
    by_cases e : q / 32 = k
    · rw [e]
      rcases hb with d | ⟨d, r, hl, d2⟩
      · rw [h5] at d
        exact Or.inl d
      · have := lho_le (Nat.mod_lt q (by decide)) (by rw [← e] at hl; exact hl) (holF_b.mp hj)
        rw [h5] at d
        have d' : (rk k).toInt = (rk s).toInt := by rw [d]
        omega
    · exact h8 q j (by omega) hc hj
theorem bpC_end {c : sm_S} {rk : Nat → Int32} {on : Nat → Prop} {o s h i : Nat} {x a5 a6 a7 : Int32} (ho : o ≤ 5) (hg : bpC c rk on o 8 a5 a6 a7) (h5 : a5.toInt = s) (hs : s < 8) (h7 : a7.toInt = h) (hi : i < 32) (hb : bit (al5 (st (c 2 s) h) h) i) (hm : ∀ q, q < i → ¬ bit (al5 (st (c 2 s) h) h) q) (hx : x.toInt = ((32 * s + i : Nat) : Int)) : BP (frC c) rk on o x := by
  rcases hg with ⟨g1, -⟩ | ⟨s', h', g1, g2, g3, g4, g5, g6, g7, g8⟩
  · exact absurd g1 (ne_m1 h5)
  · have es : s' = s := by omega
    have eh : h' = h := by omega
    subst es; subst eh
    have d1 : (32 * s' + i) / 32 = s' := by omega
    have d2 : (32 * s' + i) % 32 = i := by omega
    obtain ⟨b1, b2, b3⟩ := (al5_iff g7.2.1 hi).mp hb
    have ha : i % 2 ^ o = 0 := Nat.mod_eq_zero_of_dvd (Nat.dvd_trans (Nat.pow_dvd_pow 2 g7.1) (Nat.dvd_of_mod_eq_zero b1))
    have ha2 : (32 * s' + i) % 2 ^ o = 0 := by
      rcases (show o = 0 ∨ o = 1 ∨ o = 2 ∨ o = 3 ∨ o = 4 ∨ o = 5 by omega) with rfl | rfl | rfl | rfl | rfl | rfl <;> simp only [Nat.reducePow] at ha ⊢ <;> omega
    refine Or.inr ⟨32 * s' + i, hx, ⟨by omega, ha2, by rw [d1]; exact g3, by rw [d1]; exact g4, (frF_b ho).mpr (by rw [d1, d2]; exact frb_le g7.1 b2)⟩, h', holF_b.mpr (by rw [d1, d2]; exact ⟨g7.1, g7.2.1, b2, b3⟩), fun q j hc hj => ?_⟩
    have := g8 q j (by have := hc.1; omega) hc hj
    unfold btr
    rw [d1]
    rcases this with t | ⟨t1, t2 | ⟨t2, t3⟩⟩
    · exact Or.inl t
    · exact Or.inr ⟨t1, Or.inl t2⟩
    · refine Or.inr ⟨t1, Or.inr ⟨t2, ?_⟩⟩
      by_cases e : s' = q / 32
      · have hq := holF_b.mp hj
        have hb2 := hol_aln (Nat.mod_lt q (by decide)) hq
        rw [← t2, ← e] at hb2
        have l1 : i ≤ q % 32 / 2 ^ h' * 2 ^ h' := Nat.not_lt.mp (fun z => hm _ z hb2)
        have l2 : q % 32 / 2 ^ h' * 2 ^ h' ≤ q % 32 := base_lt
        omega
      · omega
theorem l_bestPlaceE2 {a1 a2 a3 a4 : Int32} {m o : Nat} (h1 : a1.toInt = m) (hm : m < 6) (h3 : a3.toInt = o) (ho : o ≤ 4) (σ : sm_S) : ∀ (d k : Nat) (a5 a6 a7 a8 : Int32) (v9 v10 v11 : Value), a8.toInt = k → k + d = 8 → bpC σ (rkC σ a2 m) (onC σ a4) o k a5 a6 a7 → xE xD m_Y_bestPlace 12 [.ref 0, .int a1, .int a2, .int a3, .int a4, .int a5, .int a6, .int a7, .int a8, v9, v10, v11] [] σ (sm_I (fun x σ' => BP (frC σ) (rkC σ a2 m) (onC σ a4) o x ∧ σ' = σ)) := by
  intro d
  induction d with
  | zero =>
    intro k a5 a6 a7 a8 v9 v10 v11 h8 hk hG
    have hk : k = 8 := by omega
    subst hk
    refine d_Y_bestPlace_12 a1 a2 a3 a4 a5 a6 a7 a8 v9 v10 v11 σ _ ⟨fun _ => ⟨fun n5 => ?_, fun z5 => ⟨_, rfl, ?_, rfl⟩⟩, fun h => absurd ?_ h⟩
    · obtain ⟨s, h, g1, g2, g3, g4, g5, g6, g7, g8⟩ := hG.resolve_left (fun z => n5 z.1)
      rw [t_nat g1]
      refine ⟨t_vp g1 g2, (c_starts g6 g7.2.1 _ σ).int ?_⟩
      rintro x2 σ ⟨rfl, rfl⟩
      refine (c_alone g6 g7.2.1 _ _).int ?_
      rintro x4 σ ⟨rfl, rfl⟩
      refine (c_ntz2 _ _).int ?_
      rintro x6 σ ⟨hx6, rfl⟩
      obtain ⟨p, p1, p2, p3, p4⟩ := hx6.resolve_left (fun z => g7.2.2.1 z.1)
      refine ⟨_, rfl, bpC_end (by omega) hG g1 g2 g6 p1 p3 p4 ?_, rfl⟩
      rw [t_add (t_s32 g1 (by omega)) p2 (by omega) (by omega)]
      omega
    · rcases hG with ⟨-, g⟩ | ⟨s, h, g1, -⟩
      · exact Or.inl ⟨rfl, fun f hc => g f (by have := hc.1; omega) hc⟩
      · exact absurd (Classical.not_not.mp z5) (ne_m1 g1)
    · rw [t_le, h8]
      show (8 : Int) ≤ _
      omega
  | succ d ih =>
    intro k a5 a6 a7 a8 v9 v10 v11 h8 hk hG
    have h8' : (a8 + 1).toInt = ((k + 1 : Nat) : Int) := by
      rw [t_add h8 (y := 1) rfl (by omega) (by omega)]
      omega
    have next : ∀ (a5 a6 a7 : Int32) (v9 v10 v11 : Value), bpC σ (rkC σ a2 m) (onC σ a4) o (k + 1) a5 a6 a7 → xE xD m_Y_bestPlace 12 [.ref 0, .int a1, .int a2, .int a3, .int a4, .int a5, .int a6, .int a7, .int (a8 + 1), v9, v10, v11] [] σ (sm_I (fun x σ' => BP (frC σ) (rkC σ a2 m) (onC σ a4) o x ∧ σ' = σ)) := fun a5 a6 a7 v9 v10 v11 hG => ih (k + 1) a5 a6 a7 _ v9 v10 v11 h8' (by omega) hG
    have v8 := t_vp (N := 8) h8 (by omega)
    have no : ∀ (hn : ∀ f, f / 32 = k → ¬ cnd (frC σ) (rkC σ a2 m) (onC σ a4) o f) (v9 v10 v11 : Value), xE xD m_Y_bestPlace 12 [.ref 0, .int a1, .int a2, .int a3, .int a4, .int a5, .int a6, .int a7, .int (a8 + 1), v9, v10, v11] [] σ (sm_I (fun x σ' => BP (frC σ) (rkC σ a2 m) (onC σ a4) o x ∧ σ' = σ)) := fun hn v9 v10 v11 => next _ _ _ _ _ _ (bpC_no hn hG)
    refine d_Y_bestPlace_12 a1 a2 a3 a4 a5 a6 a7 a8 v9 v10 v11 σ _ ⟨fun h => ?_, fun _ => ⟨v8, (c_starts h3 (by omega) _ σ).int ?_⟩⟩
    · rw [t_le, h8] at h
      have h : (8 : Int) ≤ k := h
      omega
    · rw [t_nat h8]
      rintro x8 σ ⟨rfl, rfl⟩
      have z8no : st (σ 2 k) o = 0 → ∀ f, f / 32 = k → ¬ cnd (frC σ) (rkC σ a2 m) (onC σ a4) o f := by
        intro z f e hc
        have hb : bit (st (σ 2 k) o) (f % 32) := (st_iff (by omega) (Nat.mod_lt f (by decide))).mpr ⟨by
          have := hc.2.1
          rcases (show o = 0 ∨ o = 1 ∨ o = 2 ∨ o = 3 ∨ o = 4 by omega) with rfl | rfl | rfl | rfl | rfl <;> simp only [Nat.reducePow] at this ⊢ <;> omega, by rw [← e]; exact (frF_b (by omega)).mp hc.2.2.2.2⟩
        rw [z] at hb
        exact bit_0 hb
      have tail : ∀ (x10 : Int32), st (σ 2 k) o ≠ 0 → onC σ a4 k → x10 = rkC σ a2 m k → ((x10 = (-1) → xE xD m_Y_bestPlace 12 [.ref 0, .int a1, .int a2, .int a3, .int a4, .int a5, .int a6, .int a7, .int (a8 + 1), .int (st (σ 2 k) o), .int x10, v11] [] σ (sm_I (fun x σ' => BP (frC σ) (rkC σ a2 m) (onC σ a4) o x ∧ σ' = σ))) ∧ (¬ (x10 = (-1)) → ((a5 = (-1) → xC xD j_R_leastHole [.int (st (σ 2 k) o), .int a3] σ (sm_ri False (fun x12 σ11 => ((a5 = (-1) → xE xD m_Y_bestPlace 12 [.ref 0, .int a1, .int a2, .int a3, .int a4, .int a8, .int x10, .int x12, .int (a8 + 1), .int (st (σ 2 k) o), .int x10, .int x12] [] σ11 (sm_I (fun x σ' => BP (frC σ) (rkC σ a2 m) (onC σ a4) o x ∧ σ' = σ))) ∧ (¬ (a5 = (-1)) → ((x10 < a6 → xE xD m_Y_bestPlace 12 [.ref 0, .int a1, .int a2, .int a3, .int a4, .int a8, .int x10, .int x12, .int (a8 + 1), .int (st (σ 2 k) o), .int x10, .int x12] [] σ11 (sm_I (fun x σ' => BP (frC σ) (rkC σ a2 m) (onC σ a4) o x ∧ σ' = σ))) ∧ (¬ (x10 < a6) → ((a7 ≤ x12 → xE xD m_Y_bestPlace 12 [.ref 0, .int a1, .int a2, .int a3, .int a4, .int a5, .int a6, .int a7, .int (a8 + 1), .int (st (σ 2 k) o), .int x10, .int x12] [] σ11 (sm_I (fun x σ' => BP (frC σ) (rkC σ a2 m) (onC σ a4) o x ∧ σ' = σ))) ∧ (¬ (a7 ≤ x12) → xE xD m_Y_bestPlace 12 [.ref 0, .int a1, .int a2, .int a3, .int a4, .int a8, .int x10, .int x12, .int (a8 + 1), .int (st (σ 2 k) o), .int x10, .int x12] [] σ11 (sm_I (fun x σ' => BP (frC σ) (rkC σ a2 m) (onC σ a4) o x ∧ σ' = σ))))))))))) ∧ (¬ (a5 = (-1)) → ((x10 ≤ a6 → xC xD j_R_leastHole [.int (st (σ 2 k) o), .int a3] σ (sm_ri False (fun x14 σ13 => ((a5 = (-1) → xE xD m_Y_bestPlace 12 [.ref 0, .int a1, .int a2, .int a3, .int a4, .int a8, .int x10, .int x14, .int (a8 + 1), .int (st (σ 2 k) o), .int x10, .int x14] [] σ13 (sm_I (fun x σ' => BP (frC σ) (rkC σ a2 m) (onC σ a4) o x ∧ σ' = σ))) ∧ (¬ (a5 = (-1)) → ((x10 < a6 → xE xD m_Y_bestPlace 12 [.ref 0, .int a1, .int a2, .int a3, .int a4, .int a8, .int x10, .int x14, .int (a8 + 1), .int (st (σ 2 k) o), .int x10, .int x14] [] σ13 (sm_I (fun x σ' => BP (frC σ) (rkC σ a2 m) (onC σ a4) o x ∧ σ' = σ))) ∧ (¬ (x10 < a6) → ((a7 ≤ x14 → xE xD m_Y_bestPlace 12 [.ref 0, .int a1, .int a2, .int a3, .int a4, .int a5, .int a6, .int a7, .int (a8 + 1), .int (st (σ 2 k) o), .int x10, .int x14] [] σ13 (sm_I (fun x σ' => BP (frC σ) (rkC σ a2 m) (onC σ a4) o x ∧ σ' = σ))) ∧ (¬ (a7 ≤ x14) → xE xD m_Y_bestPlace 12 [.ref 0, .int a1, .int a2, .int a3, .int a4, .int a8, .int x10, .int x14, .int (a8 + 1), .int (st (σ 2 k) o), .int x10, .int x14] [] σ13 (sm_I (fun x σ' => BP (frC σ) (rkC σ a2 m) (onC σ a4) o x ∧ σ' = σ))))))))))) ∧ (¬ (x10 ≤ a6) → xE xD m_Y_bestPlace 12 [.ref 0, .int a1, .int a2, .int a3, .int a4, .int a5, .int a6, .int a7, .int (a8 + 1), .int (st (σ 2 k) o), .int x10, v11] [] σ (sm_I (fun x σ' => BP (frC σ) (rkC σ a2 m) (onC σ a4) o x ∧ σ' = σ)))))))) := by
        intro x10 n8 hon hx
        refine ⟨fun z => no (fun f e hc => hc.2.2.1 (by rw [e, ← hx]; exact z)) _ _ _, fun nr => ?_⟩
        have new : ∀ (x12 : Int32) (h : Nat), x12.toInt = h → lho (σ 2 k) o h → (a5 = -1 ∨ x10.toInt < a6.toInt ∨ (x10 = a6 ∧ x12.toInt < a7.toInt)) → ∀ v9 v10 v11 : Value, xE xD m_Y_bestPlace 12 [.ref 0, .int a1, .int a2, .int a3, .int a4, .int a8, .int x10, .int x12, .int (a8 + 1), v9, v10, v11] [] σ (sm_I (fun x σ' => BP (frC σ) (rkC σ a2 m) (onC σ a4) o x ∧ σ' = σ)) := fun x12 h q1 q2 hb v9 v10 v11 => next _ _ _ _ _ _ (by
          have := bpC_new h8 (by rw [← hx]; exact nr) hon q1 q2 hG (by rw [← hx]; exact hb)
          rw [← hx] at this
          exact this)
        have keep : a5 ≠ -1 → (a6.toInt < x10.toInt ∨ (x10 = a6 ∧ ∃ r : Nat, lho (σ 2 k) o r ∧ a7.toInt ≤ r)) → ∀ v9 v10 v11 : Value, xE xD m_Y_bestPlace 12 [.ref 0, .int a1, .int a2, .int a3, .int a4, .int a5, .int a6, .int a7, .int (a8 + 1), v9, v10, v11] [] σ (sm_I (fun x σ' => BP (frC σ) (rkC σ a2 m) (onC σ a4) o x ∧ σ' = σ)) := fun n5 hb v9 v10 v11 => next _ _ _ _ _ _ (bpC_keep hG n5 (by rw [← hx]; exact hb))
        refine ⟨fun z5 => (c_leastHole2 h3 (by omega) n8 _).int ?_, fun n5 => ⟨fun le => (c_leastHole2 h3 (by omega) n8 _).int ?_, fun nle => keep n5 (Or.inl ?_) _ _ _⟩⟩
        · rintro x12 σ ⟨⟨h, q1, q2, q3, q4, q5⟩, rfl⟩
          exact ⟨fun _ => new x12 h q1 ⟨q2, q3, q4, q5⟩ (Or.inl z5) _ _ _, fun n5 => absurd z5 n5⟩
        · rintro x12 σ ⟨⟨h, q1, q2, q3, q4, q5⟩, rfl⟩
          rw [t_le] at le
          refine ⟨fun z5 => absurd z5 n5, fun _ => ⟨fun lt => new x12 h q1 ⟨q2, q3, q4, q5⟩ (Or.inr (Or.inl (t_lt.mp lt))) _ _ _, fun nlt => ?_⟩⟩
          rw [t_lt] at nlt
          have eq : x10 = a6 := t_inj (by omega)
          refine ⟨fun c => keep n5 (Or.inr ⟨eq, h, ⟨q2, q3, q4, q5⟩, ?_⟩) _ _ _, fun c => new x12 h q1 ⟨q2, q3, q4, q5⟩ (Or.inr (Or.inr ⟨eq, ?_⟩)) _ _ _⟩
          · rw [t_le, q1] at c; exact c
          · rw [t_le] at c; omega
        · rw [t_le] at nle; omega
      refine ⟨fun z => no (z8no z) _ _ _, fun n8 => ⟨fun z4 => ⟨t_vp h1 hm, (e_rank2 h8 (by omega) _ _ _).int ?_⟩, fun n4 => ⟨v8, fun on => ⟨t_vp h1 hm, (e_rank2 h8 (by omega) _ _ _).int ?_⟩, fun off => no (fun f e hc => ?_) _ _ _⟩⟩⟩
      · rw [t_nat h1]
        rintro x10 σ ⟨hx, rfl⟩
        exact tail x10 n8 (Or.inl z4) hx
      · rw [t_nat h1]
        rintro x10 σ ⟨hx, rfl⟩
        exact tail x10 n8 (Or.inr on) hx
      · rcases hc.2.2.2.1 with q | q
        · exact n4 q
        · rw [e] at q; exact off q
theorem e_bestPlace2 {a1 a2 a3 a4 : Int32} {m o : Nat} (h1 : a1.toInt = m) (hm : m < 6) (h3 : a3.toInt = o) (ho : o ≤ 4) (σ : sm_S) : xC xD j_Y_bestPlace [.ref 0, .int a1, .int a2, .int a3, .int a4] σ (sm_I (fun x σ' => BP (frC σ) (rkC σ a2 m) (onC σ a4) o x ∧ σ' = σ)) :=
  d_Y_bestPlace a1 a2 a3 a4 σ _ (l_bestPlaceE2 h1 hm h3 ho σ 8 0 _ _ _ 0 _ _ _ rfl rfl (Or.inl ⟨rfl, fun f hf => absurd hf (by omega)⟩))
end
section
/-! ===== the simulation: what the reference's helpers do, to the last number ===== -/
def shV (v : Nat → Int32) (f : Nat) : Int32 := if ((f % 32 / 8 : Nat) : Int) < (v (2358 + 8 * (f / 32) + 2)).toInt then 2 else 1
theorem c_isShut2 {f : Int32} {n : Nat} (hf : f.toInt = n) (hn : n < 256) (σ : sm_S) : xC xM j_M_isShut [.ref 0, .int f] σ (sm_I (fun x σ' => ((x = 1 ∧ shV (σ 1) n = 2) ∨ (x = 0 ∧ shV (σ 1) n = 1)) ∧ σ' = σ)) := by
  refine w_M_isShut f σ _ ⟨by decide, by decide, (c_spanOf hf σ).int ?_⟩
  rintro x2 σ ⟨h2, rfl⟩
  refine (c_spanAt x2 σ).int ?_
  rintro _ _ ⟨rfl, rfl⟩
  obtain ⟨p1, p2⟩ := ixS (k := 2) (j := 2) h2 rfl (by omega)
  have e : ((f - f / 32 * 32) / 8).toInt = ((n % 32 / 8 : Nat) : Int) := t_div (d := 8) (t_rem (d := 32) hf rfl (by decide)) rfl (by decide)
  rw [p2]
  refine ⟨p1, fun h => ⟨Or.inl rfl, _, rfl, Or.inr ⟨rfl, ?_⟩, rfl⟩, fun h => ⟨Or.inr rfl, _, rfl, Or.inl ⟨rfl, ?_⟩, rfl⟩⟩
  · rw [t_le, e] at h
    unfold shV
    exact if_neg (by omega)
  · rw [t_le, e] at h
    unfold shV
    exact if_pos (by omega)
theorem c_leaves2 {f : Int32} {n : Nat} (hf : f.toInt = n) (hn : n < 256) (σ : sm_S) : xC xM j_M_leaves [.ref 0, .int f] σ (sm_V (fun σ' => σ' = sm_set σ 1 (upd (upd (upd (σ 1) (18 + 3 * n) (shV (σ 1) n)) (18 + 3 * n + 1) 0) (18 + 3 * n + 2) 0))) := by
  refine w_M_leaves f σ _ ((c_frameAt f σ).int ?_)
  rintro _ _ ⟨rfl, rfl⟩
  refine (c_isShut2 hf hn _).int ?_
  rintro x _ ⟨hx, rfl⟩
  obtain ⟨h1, h2⟩ := ixF (k := 0) (j := 0) hf rfl (by omega)
  obtain ⟨h3, h4⟩ := ixF (k := 1) (j := 1) hf rfl (by omega)
  obtain ⟨h5, h6⟩ := ixF (k := 2) (j := 2) hf rfl (by omega)
  rw [h2, h4, h6]
  refine ⟨fun z => ⟨h1, fun σ1 e1 => ⟨h3, fun σ2 e2 => ⟨h5, fun σ3 e3 => ⟨rfl, ?_⟩⟩⟩⟩, fun z => ⟨h1, fun σ1 e1 => ⟨h3, fun σ2 e2 => ⟨h5, fun σ3 e3 => ⟨rfl, ?_⟩⟩⟩⟩⟩
  · rcases hx with ⟨q, -⟩ | ⟨-, q⟩
    · rw [q] at z; exact absurd z (by decide)
    · rw [q, e3, e2, e1]
      simp only [s_at, s_ss, Nat.add_zero]
  · rcases hx with ⟨-, q⟩ | ⟨q, -⟩
    · rw [q, e3, e2, e1]
      simp only [s_at, s_ss, Nat.add_zero]
    · exact absurd q z
/-- the frames from fr on, n of them, have nobody any more -/
def lvF (v : Nat → Int32) (fr n : Nat) : Nat → Int32 := fun i => if 18 + 3 * fr ≤ i ∧ i < 18 + 3 * (fr + n) then (if (i - 18) % 3 = 0 then shV v ((i - 18) / 3) else 0) else v i
theorem lvF_0 (v : Nat → Int32) (fr : Nat) : lvF v fr 0 = v := by
  funext i
  exact if_neg (by omega)
theorem lvF_out {v : Nat → Int32} {fr n i : Nat} (h : i < 18 + 3 * fr ∨ 18 + 3 * (fr + n) ≤ i) : lvF v fr n i = v i := if_neg (by omega)
theorem lvF_sh {v : Nat → Int32} {fr n f : Nat} (h : fr + n ≤ 256) : shV (lvF v fr n) f = shV v f := by
  unfold shV
  rw [lvF_out (by omega)]
theorem lvF_s (v : Nat → Int32) (fr n : Nat) : lvF v fr (n + 1) = upd (upd (upd (lvF v fr n) (18 + 3 * (fr + n)) (shV v (fr + n))) (18 + 3 * (fr + n) + 1) 0) (18 + 3 * (fr + n) + 2) 0 := by
  funext i
  by_cases a : i = 18 + 3 * (fr + n) + 2
  · rw [a, u_at]
    unfold lvF
    rw [if_pos (by omega), if_neg (by omega)]
  · rw [u_ne a]
    by_cases b : i = 18 + 3 * (fr + n) + 1
    · rw [b, u_at]
      unfold lvF
      rw [if_pos (by omega), if_neg (by omega)]
    · rw [u_ne b]
      by_cases c : i = 18 + 3 * (fr + n)
      · rw [c, u_at]
        unfold lvF
        rw [if_pos (by omega), if_pos (by omega)]
        exact congrArg (shV v) (by omega)
      · rw [u_ne c]
        unfold lvF
        by_cases d : 18 + 3 * fr ≤ i ∧ i < 18 + 3 * (fr + n)
        · rw [if_pos d, if_pos (by omega)]
        · rw [if_neg d, if_neg (by omega)]
theorem l_goes2 {a1 : Int32} {n o fr : Nat} (h1 : a1.toInt = n) (hn : n < 96) (ho : o ≤ 4) (hal : fr + 2 ^ o ≤ 256) (σ : sm_S) (ho2 : (σ 1 (786 + 16 * n + 2)).toInt = o) (hf2 : (σ 1 (786 + 16 * n + 1)).toInt = fr) : ∀ (d k : Nat) (a2 : Int32), a2.toInt = k → k + d = 2 ^ o →
    xE xM m_M_goes 2 [.ref 0, .int a1, .int a2] [] (sm_set σ 1 (lvF (σ 1) fr k)) (sm_V (fun σ' => σ' = sm_set σ 1 (upd (lvF (σ 1) fr (2 ^ o)) (786 + 16 * n + 0) 0))) := by
  have hp := t_pw (k := o) (by omega)
  intro d
  induction d with
  | zero =>
    intro k a2 h2 hk
    refine w_M_goes_2 a1 a2 _ _ ((c_longOf h1 hn _).int ?_)
    rintro _ _ ⟨rfl, rfl⟩
    rw [s_at, lvF_out (by omega)]
    refine ⟨fun _ => (c_lay (k := 0) (j := 0) h1 rfl (by omega) 0 _).void ?_, fun h => absurd ?_ h⟩
    · rintro _ rfl
      refine ⟨rfl, ?_⟩
      rw [s_ss, s_at, show k = 2 ^ o by omega]
    · rw [t_le, t_pow ho2 (by omega), h2]
      omega
  | succ d ih =>
    intro k a2 h2 hk
    refine w_M_goes_2 a1 a2 _ _ ((c_longOf h1 hn _).int ?_)
    rintro _ _ ⟨rfl, rfl⟩
    rw [s_at, lvF_out (by omega)]
    refine ⟨fun h => ?_, fun _ => (c_frameOf h1 hn _).int ?_⟩
    · rw [t_le, t_pow ho2 (by omega), h2] at h
      omega
    · rintro _ _ ⟨rfl, rfl⟩
      rw [s_at, lvF_out (by omega)]
      have hf3 := t_add hf2 h2 (by omega) (by omega)
      rw [← Int.natCast_add] at hf3
      refine (c_leaves2 hf3 (by omega) _).void ?_
      rintro _ rfl
      have h2' : (a2 + 1).toInt = ((k + 1 : Nat) : Int) := by
        rw [t_add h2 (y := 1) rfl (by omega) (by omega)]
        omega
      rw [s_ss, s_at, lvF_sh (by omega), ← lvF_s]
      exact ih (k + 1) (a2 + 1) h2' (by omega)
theorem c_goes2 {b : Int32} {n o fr : Nat} (hb : b.toInt = n) (hn : n < 96) (ho : o ≤ 4) (hal : fr + 2 ^ o ≤ 256) (σ : sm_S) (ho2 : (σ 1 (786 + 16 * n + 2)).toInt = o) (hf2 : (σ 1 (786 + 16 * n + 1)).toInt = fr) : xC xM j_M_goes [.ref 0, .int b] σ (sm_V (fun σ' => σ' = sm_set σ 1 (upd (lvF (σ 1) fr (2 ^ o)) (786 + 16 * n + 0) 0))) := by
  refine w_M_goes b σ _ ?_
  have := l_goes2 hb hn ho hal σ ho2 hf2 (2 ^ o) 0 0 rfl (by omega)
  rw [lvF_0, s_id] at this
  exact this
/-- a line of the log -/
def wrF (v : Nat → Int32) (n : Nat) (a b c : Int32) : Nat → Int32 := upd (upd (upd (upd (upd v (2422 + 4 * (n % 60)) (v 4)) (2422 + 4 * (n % 60) + 1) a) (2422 + 4 * (n % 60) + 2) b) (2422 + 4 * (n % 60) + 3) c) 5 (v 5 + 1)
theorem c_writes2 {n : Nat} (a b c : Int32) (σ : sm_S) (h5 : (σ 1 5).toInt = n) : xC xM j_M_writes [.ref 0, .int a, .int b, .int c] σ (sm_V (fun σ' => σ' = sm_set σ 1 (wrF (σ 1) n a b c))) := by
  have hr : (σ 1 ((5 : Int32)).toNatClampNeg - σ 1 ((5 : Int32)).toNatClampNeg / (60 : Int32) * (60 : Int32)).toInt = ((n % 60 : Nat) : Int) := t_rem (d := 60) h5 rfl (by decide)
  have hm : n % 60 < 60 := Nat.mod_lt _ (by decide)
  have hx : ∀ (k : Int32) (j : Nat), k.toInt = j → j < 4 → vp_in (2422 + 4 * (σ 1 ((5 : Int32)).toNatClampNeg - σ 1 ((5 : Int32)).toNatClampNeg / (60 : Int32) * (60 : Int32)) + k) 2662 ∧ (2422 + 4 * (σ 1 ((5 : Int32)).toNatClampNeg - σ 1 ((5 : Int32)).toNatClampNeg / (60 : Int32) * (60 : Int32)) + k).toNatClampNeg = 2422 + 4 * (n % 60) + j := by
    intro k j hk hj
    have h1 := t_ix (c := 2422) (m := 4) (C := 2422) (M := 4) rfl rfl hr hk (by omega)
    exact ⟨t_vp h1 (by omega), t_nat h1⟩
  obtain ⟨p0, q0⟩ := hx 0 0 rfl (by omega)
  obtain ⟨p1, q1⟩ := hx 1 1 rfl (by omega)
  obtain ⟨p2, q2⟩ := hx 2 2 rfl (by omega)
  obtain ⟨p3, q3⟩ := hx 3 3 rfl (by omega)
  rw [Int32.add_zero] at p0 q0
  refine w_M_writes a b c σ _ ⟨t_vp (n := 5) rfl (by omega), by decide, t_vp (n := 4) rfl (by omega), p0, fun σ1 e1 => ⟨p1, fun σ2 e2 => ⟨p2, fun σ3 e3 => ⟨p3, fun σ4 e4 => ?_⟩⟩⟩⟩
  refine (c_more (k := 5) (j := 5) rfl (by omega) 1 σ4).void ?_
  rintro _ rfl
  refine ⟨rfl, ?_⟩
  rw [q0, Nat.add_zero] at e1
  rw [q1] at e2
  rw [q2] at e3
  rw [q3] at e4
  have e5 : σ4 1 5 = σ 1 5 := by
    rw [e4, s_at, u_ne (by omega), e3, s_at, u_ne (by omega), e2, s_at, u_ne (by omega), e1, s_at, u_ne (by omega)]
  rw [e5, e4, e3, e2, e1]
  simp only [s_at, s_ss]
  rfl
end
section
/-! ===== the simulation: what the class's helpers do, to the last number ===== -/
/-- the bits of the frames from p on, 2 to the o of them -/
def rgB (p o : Nat) : Int32 := (((1 : Int32) <<< (nI (2 ^ o) &&& 31)) - 1) <<< (nI p &&& 31)
theorem rgB_dec : ∀ o, o < 5 → ∀ p, p < 32 → ∀ i, i < 32 → ((rgB p o).toBitVec.getLsbD i = true ↔ p ≤ i ∧ i < p + 2 ^ o) := by decide +kernel
theorem rgB_iff {p o i : Nat} (ho : o ≤ 4) (hp : p < 32) (hi : i < 32) : bit (rgB p o) i ↔ p ≤ i ∧ i < p + 2 ^ o := rgB_dec o (by omega) p hp i hi
def rg (f : Nat → Int32) (a n : Nat) (x : Int32) : Nat → Int32 := fun i => if a ≤ i ∧ i < a + n then x else f i
theorem rg_0 (f : Nat → Int32) (a : Nat) (x : Int32) : rg f a 0 x = f := by
  funext i
  exact if_neg (by omega)
theorem rg_s (f : Nat → Int32) (a n : Nat) (x : Int32) : rg f a (n + 1) x = upd (rg f a n x) (a + n) x := by
  funext i
  by_cases e : i = a + n
  · rw [e, u_at]
    exact if_pos (by omega)
  · rw [u_ne e]
    unfold rg
    by_cases d : a ≤ i ∧ i < a + n
    · rw [if_pos d, if_pos (by omega)]
    · rw [if_neg d, if_neg (by omega)]
theorem rg_in {f : Nat → Int32} {a n i : Nat} {x : Int32} (h : a ≤ i) (h2 : i < a + n) : rg f a n x i = x := if_pos ⟨h, h2⟩
theorem rg_out {f : Nat → Int32} {a n i : Nat} {x : Int32} (h : i < a ∨ a + n ≤ i) : rg f a n x i = f i := if_neg (by omega)
theorem s_com {σ : sm_S} {k j : Nat} {f g : Nat → Int32} (h : k ≠ j) : sm_set (sm_set σ k f) j g = sm_set (sm_set σ j g) k f := by
  funext a
  unfold sm_set
  by_cases e : a = j
  · rw [if_pos e, if_neg (by omega), if_pos e]
  · rw [if_neg e]
    by_cases e2 : a = k
    · rw [if_pos e2, if_pos e2]
    · rw [if_neg e2, if_neg e2, if_neg e]
theorem l_letGo2 {a1 a2 a3 a4 a5 : Int32} {f n : Nat} (h1 : a1.toInt = f) (h2 : a2.toInt = n) (hn : f + n ≤ 256) (σ : sm_S) : ∀ (d k : Nat) (a6 : Int32), a6.toInt = ((f + k : Nat) : Int) → k + d = n → xE xD m_F_letGo 79 [.ref 1, .int a1, .int a2, .int a3, .int a4, .int a5, .int a6] [] (sm_set (sm_set σ 6 (rg (σ 6) f k (-1))) 7 (rg (σ 7) f k 0)) (sm_V (fun σ' => σ' = sm_set (sm_set σ 6 (rg (σ 6) f n (-1))) 7 (rg (σ 7) f n 0))) := by
  have h12 : (a1 + a2).toInt = ((f + n : Nat) : Int) := by
    rw [t_add h1 h2 (by omega) (by omega)]
    omega
  intro d
  induction d with
  | zero =>
    intro k a6 h6 hk
    have hk : k = n := by omega
    subst hk
    exact d_F_letGo_79 a1 a2 a3 a4 a5 a6 _ _ ⟨fun _ => ⟨rfl, rfl⟩, fun h => absurd (by rw [t_le, h12, h6]; omega) h⟩
  | succ d ih =>
    intro k a6 h6 hk
    have h6' : (a6 + 1).toInt = ((f + (k + 1) : Nat) : Int) := by
      rw [t_add h6 (y := 1) rfl (by omega) (by omega)]
      omega
    have v := t_vp (N := 256) h6 (by omega)
    refine d_F_letGo_79 a1 a2 a3 a4 a5 a6 _ _ ⟨fun h => ?_, fun _ => ⟨v, fun σ1 e1 => ⟨v, fun σ2 e2 => ?_⟩⟩⟩
    · rw [t_le, h12, h6] at h; omega
    · have e : σ2 = sm_set (sm_set σ 6 (rg (σ 6) f (k + 1) (-1))) 7 (rg (σ 7) f (k + 1) 0) := by
        rw [t_nat h6] at e1 e2
        rw [s_ne (by decide), s_at, ← rg_s, s_com (by decide), s_ss] at e1
        rw [e1, s_at, ← rg_s, s_ss] at e2
        exact e2
      rw [e]
      exact ih (k + 1) (a6 + 1) h6' (by omega)
def lgC (c : sm_S) (fr o : Nat) (sb : Int32) : sm_S := sm_set (sm_set (sm_set (sm_set (sm_set (sm_set c 4 (upd (c 4) (fr / 32) (c 4 (fr / 32) &&& (rgB (fr % 32) o ^^^ (-1))))) 5 (upd (c 5) (fr / 32) (c 5 (fr / 32) &&& (rgB (fr % 32) o ^^^ (-1))))) 2 (upd (c 2) (fr / 32) (c 2 (fr / 32) ||| (rgB (fr % 32) o &&& (sb ^^^ (-1)))))) 3 (upd (c 3) (fr / 32) (c 3 (fr / 32) ||| (rgB (fr % 32) o &&& sb)))) 6 (rg (c 6) fr (2 ^ o) (-1))) 7 (rg (c 7) fr (2 ^ o) 0)
theorem e_letGo2 {a1 a2 : Int32} {f o : Nat} (h1 : a1.toInt = f) (h2 : a2.toInt = ((2 ^ o : Nat) : Int)) (ho : o ≤ 4) (hn : f + 2 ^ o ≤ 256) (a3 : Int32) (σ : sm_S) : xC xD j_F_letGo [.ref 1, .int a1, .int a2, .int a3] σ (sm_V (fun σ' => σ' = lgC σ f o a3)) := by
  have hp := t_pw (k := o) (by omega)
  have hd : (a1 / 32).toInt = ((f / 32 : Nat) : Int) := t_div (d := 32) h1 rfl (by decide)
  have v := t_vp (N := 8) hd (by omega)
  have er : (((1 : Int32) <<< (a2 &&& 31)) - 1) <<< ((a1 - a1 / (32 : Int32) * (32 : Int32)) &&& 31) = rgB (f % 32) o := by
    rw [t_nI h2, show a1 - a1 / 32 * 32 = nI (f % 32) from t_nI (t_rem (d := 32) h1 rfl (by decide))]
    rfl
  refine d_F_letGo a1 a2 a3 σ _ ⟨by decide, by decide, v, v, fun σ1 e1 => ⟨v, v, fun σ2 e2 => ⟨v, v, fun σ3 e3 => ⟨v, v, fun σ4 e4 => ?_⟩⟩⟩⟩
  rw [er, t_nat hd] at e1 e2 e3 e4
  have := l_letGo2 (a3 := a3) (a4 := a1 / 32) (a5 := (((1 : Int32) <<< (a2 &&& 31)) - 1) <<< ((a1 - a1 / (32 : Int32) * (32 : Int32)) &&& 31)) h1 h2 hn σ4 (2 ^ o) 0 a1 h1 (by omega)
  rw [rg_0, rg_0, s_id, s_id] at this
  refine this.mono ?_
  rintro r σ' ⟨rfl, rfl⟩
  refine ⟨rfl, ?_⟩
  rw [e4, e3, e2, e1]
  rfl
/-- which bits of a span are shut -/
theorem sB_dec : ∀ p, p < 4 → ∀ i, i < 32 → ((((1 : Int32) <<< ((nI p * 8) &&& 31)) - 1).toBitVec.getLsbD i = true ↔ i / 8 < p) := by decide +kernel
theorem e_shutBits2 {a1 : Int32} {n p : Nat} (h1 : a1.toInt = n) (hn : n < 8) (σ : sm_S) (hp : (σ 20 n).toInt = p) (hp4 : p ≤ 4) : xC xD j_S_shutBits [.ref 17, .int a1] σ (sm_I (fun x σ' => (∀ i, i < 32 → (bit x i ↔ i / 8 < p)) ∧ σ' = σ)) := by
  have v := t_vp h1 hn
  refine d_S_shutBits a1 σ _ ?_
  rw [t_nat h1]
  refine ⟨v, fun h => ⟨v, _, rfl, fun i hi => ?_, rfl⟩, fun h => ⟨_, rfl, fun i hi => ?_, rfl⟩⟩
  · rw [t_lt, hp] at h
    have h : (p : Int) < 4 := h
    rw [t_nI hp]
    exact sB_dec p (by omega) i hi
  · rw [t_lt, hp] at h
    have h : ¬ (p : Int) < 4 := h
    exact ⟨fun _ => by omega, fun _ => bit_m1 hi⟩
/-- a line of the log -/
def laC (c : sm_S) (n : Nat) (a1 a2 a3 a4 : Int32) : sm_S := sm_set (sm_set (sm_set (sm_set (sm_set c 35 (upd (c 35) n a1)) 36 (upd (c 36) n a2)) 37 (upd (c 37) n a3)) 38 (upd (c 38) n a4)) 34 (upd (upd (c 34) 5 (if n + 1 < 60 then nI (n + 1) else 0)) 4 (c 34 4 + 1))
theorem e_add2 {n : Nat} (a1 a2 a3 a4 : Int32) (σ : sm_S) (h5 : (σ 34 5).toInt = n) (hn : n < 60) : xC xD j_L_add [.ref 34, .int a1, .int a2, .int a3, .int a4] σ (sm_V (fun σ' => σ' = laC σ n a1 a2 a3 a4)) := by
  have v := t_vp (N := 60) h5 hn
  have hs : (σ 34 5 + 1).toInt = ((n + 1 : Nat) : Int) := by
    rw [t_add h5 (y := 1) rfl (by omega) (by omega)]
    omega
  refine d_L_add a1 a2 a3 a4 σ _ ⟨v, fun σ1 e1 => ?_⟩
  have g1 : σ1 34 = σ 34 := by rw [e1, s_ne (by decide)]
  refine ⟨by rw [g1]; exact v, fun σ2 e2 => ?_⟩
  have g2 : σ2 34 = σ 34 := by rw [e2, s_ne (by decide), g1]
  refine ⟨by rw [g2]; exact v, fun σ3 e3 => ?_⟩
  have g3 : σ3 34 = σ 34 := by rw [e3, s_ne (by decide), g2]
  refine ⟨by rw [g3]; exact v, fun σ4 e4 => ?_⟩
  have g4 : σ4 34 = σ 34 := by rw [e4, s_ne (by decide), g3]
  rw [t_nat h5] at e1
  rw [g1, t_nat h5] at e2
  rw [g2, t_nat h5] at e3
  rw [g3, t_nat h5] at e4
  have f36 : σ1 36 = σ 36 := by rw [e1, s_ne (by decide)]
  have f37 : σ2 37 = σ 37 := by rw [e2, s_ne (by decide), e1, s_ne (by decide)]
  have f38 : σ3 38 = σ 38 := by rw [e3, s_ne (by decide), e2, s_ne (by decide), e1, s_ne (by decide)]
  rw [f36] at e2
  rw [f37] at e3
  rw [f38] at e4
  rw [g4]
  refine ⟨fun h σ5 e5 σ6 e6 => ⟨rfl, ?_⟩, fun h σ5 e5 σ6 e6 => ⟨rfl, ?_⟩⟩
  · rw [t_le, hs] at h
    have h : (60 : Int) ≤ _ := h
    rw [e5, s_at, u_ne (by decide), s_ss] at e6
    rw [e6, e4, e3, e2, e1]
    unfold laC
    rw [if_neg (by omega)]
  · rw [t_le, hs] at h
    have h : ¬ (60 : Int) ≤ _ := h
    rw [e5, s_at, u_ne (by decide), s_ss] at e6
    rw [e6, e4, e3, e2, e1]
    unfold laC
    rw [if_pos (by omega), t_nI hs]
/-- a block goes -/
theorem e_remove2 {a1 : Int32} {b fr o p : Nat} (h1 : a1.toInt = b) (hb : b < 96) (ho : o ≤ 4) (hal : fr + 2 ^ o ≤ 256) (σ : sm_S) (h9 : (σ 9 b).toInt = fr) (h10 : (σ 10 b).toInt = o) (hp : (σ 20 (fr / 32)).toInt = p) (hp4 : p ≤ 4) : xC xD j_Y_remove [.ref 0, .int a1] σ (sm_V (fun σ' => ∃ sb : Int32, (∀ i, i < 32 → (bit sb i ↔ i / 8 < p)) ∧ σ' = sm_set (lgC σ fr o sb) 9 (upd (σ 9) b (-1)))) := by
  have v := t_vp h1 hb
  have hpw := t_pw (k := o) (by omega)
  refine d_Y_remove a1 σ _ ?_
  rw [t_nat h1]
  refine ⟨v, v, by decide, (e_shutBits2 (t_div (d := 32) h9 rfl (by decide)) (by omega) σ hp hp4).int ?_⟩
  rintro x2 σ ⟨hx, rfl⟩
  refine (e_letGo2 h9 (t_pow h10 (by omega)) ho hal x2 σ).void ?_
  rintro _ rfl
  refine ⟨v, fun σ4 e4 => ⟨rfl, x2, hx, ?_⟩⟩
  rw [e4]
  rfl
end
section
/-! ===== the simulation: one Memory's cells (0 .. 40 of c) and the reference's row v ===== -/
def sF (c : sm_S) (v : Nat → Int32) (f : Nat) : Prop := (v (18 + 3 * f) = 0 ∨ v (18 + 3 * f) = 1 ∨ v (18 + 3 * f) = 2 ∨ v (18 + 3 * f) = 3 ∨ v (18 + 3 * f) = 4) ∧ (bit (c 2 (f / 32)) (f % 32) ↔ v (18 + 3 * f) = 1) ∧ (bit (c 3 (f / 32)) (f % 32) ↔ v (18 + 3 * f) = 2) ∧ (bit (c 4 (f / 32)) (f % 32) ↔ v (18 + 3 * f) = 3) ∧ (bit (c 5 (f / 32)) (f % 32) ↔ v (18 + 3 * f) = 4) ∧ (v (18 + 3 * f + 1) = c 6 f + 1) ∧ (v (18 + 3 * f + 2) = c 7 f)
theorem sF.rng {c : sm_S} {v : Nat → Int32} {f : Nat} (h : sF c v f) : v (18 + 3 * f) = 0 ∨ v (18 + 3 * f) = 1 ∨ v (18 + 3 * f) = 2 ∨ v (18 + 3 * f) = 3 ∨ v (18 + 3 * f) = 4 := h.1
theorem sF.fre {c : sm_S} {v : Nat → Int32} {f : Nat} (h : sF c v f) : bit (c 2 (f / 32)) (f % 32) ↔ v (18 + 3 * f) = 1 := h.2.1
theorem sF.apa {c : sm_S} {v : Nat → Int32} {f : Nat} (h : sF c v f) : bit (c 3 (f / 32)) (f % 32) ↔ v (18 + 3 * f) = 2 := h.2.2.1
theorem sF.tak {c : sm_S} {v : Nat → Int32} {f : Nat} (h : sF c v f) : bit (c 4 (f / 32)) (f % 32) ↔ v (18 + 3 * f) = 3 := h.2.2.2.1
theorem sF.hel {c : sm_S} {v : Nat → Int32} {f : Nat} (h : sF c v f) : bit (c 5 (f / 32)) (f % 32) ↔ v (18 + 3 * f) = 4 := h.2.2.2.2.1
theorem sF.blk {c : sm_S} {v : Nat → Int32} {f : Nat} (h : sF c v f) : v (18 + 3 * f + 1) = c 6 f + 1 := h.2.2.2.2.2.1
theorem sF.val {c : sm_S} {v : Nat → Int32} {f : Nat} (h : sF c v f) : v (18 + 3 * f + 2) = c 7 f := h.2.2.2.2.2.2
/-- a block, where there is one -/
def sBl (c : sm_S) (v : Nat → Int32) (b : Nat) : Prop := (v (786 + 16 * b + 1) = c 9 b) ∧ (v (786 + 16 * b + 2) = c 10 b) ∧ (v (786 + 16 * b + 3) = c 11 b) ∧ (v (786 + 16 * b + 4) = c 12 b) ∧ (v (786 + 16 * b + 5) = c 13 b) ∧ (v (786 + 16 * b + 6) = c 14 b + 1) ∧ (v (786 + 16 * b + 7) = c 15 b) ∧ (v (786 + 16 * b + 8) = c 16 b)
theorem sBl.fir {c : sm_S} {v : Nat → Int32} {b : Nat} (h : sBl c v b) : v (786 + 16 * b + 1) = c 9 b := h.1
theorem sBl.ord {c : sm_S} {v : Nat → Int32} {b : Nat} (h : sBl c v b) : v (786 + 16 * b + 2) = c 10 b := h.2.1
theorem sBl.kin {c : sm_S} {v : Nat → Int32} {b : Nat} (h : sBl c v b) : v (786 + 16 * b + 3) = c 11 b := h.2.2.1
theorem sBl.own {c : sm_S} {v : Nat → Int32} {b : Nat} (h : sBl c v b) : v (786 + 16 * b + 4) = c 12 b := h.2.2.2.1
theorem sBl.pin {c : sm_S} {v : Nat → Int32} {b : Nat} (h : sBl c v b) : v (786 + 16 * b + 5) = c 13 b := h.2.2.2.2.1
theorem sBl.tgt {c : sm_S} {v : Nat → Int32} {b : Nat} (h : sBl c v b) : v (786 + 16 * b + 6) = c 14 b + 1 := h.2.2.2.2.2.1
theorem sBl.cop {c : sm_S} {v : Nat → Int32} {b : Nat} (h : sBl c v b) : v (786 + 16 * b + 7) = c 15 b := h.2.2.2.2.2.2.1
theorem sBl.use {c : sm_S} {v : Nat → Int32} {b : Nat} (h : sBl c v b) : v (786 + 16 * b + 8) = c 16 b := h.2.2.2.2.2.2.2
def sB (c : sm_S) (v : Nat → Int32) (b : Nat) : Prop := (c 9 b = -1 ∧ v (786 + 16 * b + 0) = 0) ∨ (c 9 b ≠ -1 ∧ v (786 + 16 * b + 0) = 1 ∧ sBl c v b)
def sS (c : sm_S) (v : Nat → Int32) (s : Nat) : Prop := (v (2358 + 8 * s + 0) = c 18 s) ∧ (c 18 s = 0 → c 19 s = -1) ∧ (c 18 s ≠ 0 → v (2358 + 8 * s + 1) = c 19 s) ∧ (v (2358 + 8 * s + 2) = c 20 s) ∧ (v (2358 + 8 * s + 3) = c 21 s) ∧ (v (2358 + 8 * s + 4) = c 22 s) ∧ (0 ≤ (c 22 s).toInt) ∧ (c 18 s = 3 → v (2358 + 8 * s + 5) = c 23 s) ∧ (v (2358 + 8 * s + 6) = c 24 s + 1) ∧ (v (2358 + 8 * s + 7) = c 25 s + 1) ∧ (c 18 s = 0 ∨ c 18 s = 1 → c 20 s = 0 ∧ c 21 s = 0 ∧ c 22 s = 0 ∧ c 24 s = -1)
theorem sS.sta {c : sm_S} {v : Nat → Int32} {s : Nat} (h : sS c v s) : v (2358 + 8 * s + 0) = c 18 s := h.1
theorem sS.zof {c : sm_S} {v : Nat → Int32} {s : Nat} (h : sS c v s) : c 18 s = 0 → c 19 s = -1 := h.2.1
theorem sS.zon {c : sm_S} {v : Nat → Int32} {s : Nat} (h : sS c v s) : c 18 s ≠ 0 → v (2358 + 8 * s + 1) = c 19 s := h.2.2.1
theorem sS.par {c : sm_S} {v : Nat → Int32} {s : Nat} (h : sS c v s) : v (2358 + 8 * s + 2) = c 20 s := h.2.2.2.1
theorem sS.pas {c : sm_S} {v : Nat → Int32} {s : Nat} (h : sS c v s) : v (2358 + 8 * s + 3) = c 21 s := h.2.2.2.2.1
theorem sS.pau {c : sm_S} {v : Nat → Int32} {s : Nat} (h : sS c v s) : v (2358 + 8 * s + 4) = c 22 s := h.2.2.2.2.2.1
theorem sS.pag {c : sm_S} {v : Nat → Int32} {s : Nat} (h : sS c v s) : 0 ≤ (c 22 s).toInt := h.2.2.2.2.2.2.1
theorem sS.rea {c : sm_S} {v : Nat → Int32} {s : Nat} (h : sS c v s) : c 18 s = 3 → v (2358 + 8 * s + 5) = c 23 s := h.2.2.2.2.2.2.2.1
theorem sS.lea {c : sm_S} {v : Nat → Int32} {s : Nat} (h : sS c v s) : v (2358 + 8 * s + 6) = c 24 s + 1 := h.2.2.2.2.2.2.2.2.1
theorem sS.why {c : sm_S} {v : Nat → Int32} {s : Nat} (h : sS c v s) : v (2358 + 8 * s + 7) = c 25 s + 1 := h.2.2.2.2.2.2.2.2.2.1
theorem sS.off {c : sm_S} {v : Nat → Int32} {s : Nat} (h : sS c v s) : c 18 s = 0 ∨ c 18 s = 1 → c 20 s = 0 ∧ c 21 s = 0 ∧ c 22 s = 0 ∧ c 24 s = -1 := h.2.2.2.2.2.2.2.2.2.2
def sT (c : sm_S) (v : Nat → Int32) (t : Nat) : Prop := (v (2322 + 6 * t + 0) = c 27 t) ∧ (v (2322 + 6 * t + 1) = c 28 t + 1) ∧ (v (2322 + 6 * t + 5) = c 29 t) ∧ (c 28 t ≠ -1 → v (2322 + 6 * t + 2) = c 30 t) ∧ (c 28 t ≠ -1 → v (2322 + 6 * t + 3) = c 31 t) ∧ (c 28 t ≠ -1 → v (2322 + 6 * t + 4) = c 32 t)
theorem sT.hom {c : sm_S} {v : Nat → Int32} {t : Nat} (h : sT c v t) : v (2322 + 6 * t + 0) = c 27 t := h.1
theorem sT.wai {c : sm_S} {v : Nat → Int32} {t : Nat} (h : sT c v t) : v (2322 + 6 * t + 1) = c 28 t + 1 := h.2.1
theorem sT.rea {c : sm_S} {v : Nat → Int32} {t : Nat} (h : sT c v t) : v (2322 + 6 * t + 5) = c 29 t := h.2.2.1
theorem sT.wis {c : sm_S} {v : Nat → Int32} {t : Nat} (h : sT c v t) : c 28 t ≠ -1 → v (2322 + 6 * t + 2) = c 30 t := h.2.2.2.1
theorem sT.wat {c : sm_S} {v : Nat → Int32} {t : Nat} (h : sT c v t) : c 28 t ≠ -1 → v (2322 + 6 * t + 3) = c 31 t := h.2.2.2.2.1
theorem sT.wva {c : sm_S} {v : Nat → Int32} {t : Nat} (h : sT c v t) : c 28 t ≠ -1 → v (2322 + 6 * t + 4) = c 32 t := h.2.2.2.2.2
/-- the one line -/
def lnC (c : sm_S) (L : Nat) : List Int32 := (List.range L).map (fun k => c 33 k)
/-- the line of a block, in the row -/
def lnV (v : Nat → Int32) (b L : Nat) : List Int32 := (List.range L).map (fun n => v (786 + 16 * b + (10 + n)))
def sQ (c : sm_S) (v : Nat → Int32) (L : Nat) : Prop := ((c 26 7).toInt = L) ∧ (L ≤ 6) ∧ (∀ k, k < L → ∃ t : Nat, t < 6 ∧ (c 33 k).toInt = t ∧ c 28 t ≠ -1) ∧ ((lnC c L).Nodup) ∧ (∀ t, t < 6 → c 28 t ≠ -1 → ∃ k, k < L ∧ (c 33 k).toInt = t) ∧ (∀ b, b < 96 → ∃ m : Nat, (v (786 + 16 * b + 9)).toInt = m ∧ lnV v b m = (lnC c L).filter (fun t => decide ((c 28 t.toNatClampNeg).toInt = b)))
theorem sQ.len {c : sm_S} {v : Nat → Int32} {L : Nat} (h : sQ c v L) : (c 26 7).toInt = L := h.1
theorem sQ.le6 {c : sm_S} {v : Nat → Int32} {L : Nat} (h : sQ c v L) : L ≤ 6 := h.2.1
theorem sQ.tsk {c : sm_S} {v : Nat → Int32} {L : Nat} (h : sQ c v L) : ∀ k, k < L → ∃ t : Nat, t < 6 ∧ (c 33 k).toInt = t ∧ c 28 t ≠ -1 := h.2.2.1
theorem sQ.nod {c : sm_S} {v : Nat → Int32} {L : Nat} (h : sQ c v L) : (lnC c L).Nodup := h.2.2.2.1
theorem sQ.all {c : sm_S} {v : Nat → Int32} {L : Nat} (h : sQ c v L) : ∀ t, t < 6 → c 28 t ≠ -1 → ∃ k, k < L ∧ (c 33 k).toInt = t := h.2.2.2.2.1
theorem sQ.lin {c : sm_S} {v : Nat → Int32} {L : Nat} (h : sQ c v L) : ∀ b, b < 96 → ∃ m : Nat, (v (786 + 16 * b + 9)).toInt = m ∧ lnV v b m = (lnC c L).filter (fun t => decide ((c 28 t.toNatClampNeg).toInt = b)) := h.2.2.2.2.2
def sN (c : sm_S) (v : Nat → Int32) : Prop := (c 39 0 = v 0 + 4) ∧ (c 39 1 = v 1 + 3) ∧ (c 39 2 = v 2 + 150) ∧ (c 39 3 = v 3 + 2) ∧ (∀ k, k < 11 → c 40 k = v (7 + k)) ∧ (c 0 7 = v 4) ∧ (c 8 8 = v 6)
theorem sN.rat {c : sm_S} {v : Nat → Int32} (h : sN c v) : c 39 0 = v 0 + 4 := h.1
theorem sN.tri {c : sm_S} {v : Nat → Int32} (h : sN c v) : c 39 1 = v 1 + 3 := h.2.1
theorem sN.rto {c : sm_S} {v : Nat → Int32} (h : sN c v) : c 39 2 = v 2 + 150 := h.2.2.1
theorem sN.pau {c : sm_S} {v : Nat → Int32} (h : sN c v) : c 39 3 = v 3 + 2 := h.2.2.2.1
theorem sN.cnt {c : sm_S} {v : Nat → Int32} (h : sN c v) : ∀ k, k < 11 → c 40 k = v (7 + k) := h.2.2.2.2.1
theorem sN.tic {c : sm_S} {v : Nat → Int32} (h : sN c v) : c 0 7 = v 4 := h.2.2.2.2.2.1
theorem sN.use {c : sm_S} {v : Nat → Int32} (h : sN c v) : c 8 8 = v 6 := h.2.2.2.2.2.2
def sL (c : sm_S) (v : Nat → Int32) : Prop := (c 34 4 = v 5) ∧ (∃ n : Nat, (v 5).toInt = n ∧ (c 34 5).toInt = ((n % 60 : Nat) : Int)) ∧ (∀ k, k < 60 → v (2422 + 4 * k) = c 35 k ∧ v (2422 + 4 * k + 1) = c 36 k ∧ v (2422 + 4 * k + 2) = c 37 k ∧ v (2422 + 4 * k + 3) = c 38 k)
theorem sL.lns {c : sm_S} {v : Nat → Int32} (h : sL c v) : c 34 4 = v 5 := h.1
theorem sL.nxt {c : sm_S} {v : Nat → Int32} (h : sL c v) : ∃ n : Nat, (v 5).toInt = n ∧ (c 34 5).toInt = ((n % 60 : Nat) : Int) := h.2.1
theorem sL.ent {c : sm_S} {v : Nat → Int32} (h : sL c v) : ∀ k, k < 60 → v (2422 + 4 * k) = c 35 k ∧ v (2422 + 4 * k + 1) = c 36 k ∧ v (2422 + 4 * k + 2) = c 37 k ∧ v (2422 + 4 * k + 3) = c 38 k := h.2.2
/-- whose the frames are -/
def own (v : Nat → Int32) : Prop := (∀ b fr o : Nat, b < 96 → v (786 + 16 * b + 0) = 1 → (v (786 + 16 * b + 1)).toInt = fr → (v (786 + 16 * b + 2)).toInt = o → ∀ j, j < 2 ^ o → v (18 + 3 * (fr + j)) = 3 ∧ (v (18 + 3 * (fr + j) + 1)).toInt = ((b + 1 : Nat) : Int)) ∧ (∀ b t o : Nat, b < 96 → v (786 + 16 * b + 0) = 1 → (v (786 + 16 * b + 6)).toInt = ((t + 1 : Nat) : Int) → (v (786 + 16 * b + 2)).toInt = o → v (786 + 16 * b + 3) = 0 ∧ ∀ j, j < 2 ^ o → v (18 + 3 * (t + j)) = 4 ∧ (v (18 + 3 * (t + j) + 1)).toInt = ((b + 1 : Nat) : Int)) ∧ (∀ f, f < 256 → v (18 + 3 * f) = 3 → ∃ b fr o : Nat, b < 96 ∧ (v (18 + 3 * f + 1)).toInt = ((b + 1 : Nat) : Int) ∧ v (786 + 16 * b + 0) = 1 ∧ (v (786 + 16 * b + 1)).toInt = fr ∧ (v (786 + 16 * b + 2)).toInt = o ∧ fr ≤ f ∧ f < fr + 2 ^ o) ∧ (∀ f, f < 256 → v (18 + 3 * f) = 4 → ∃ b t o : Nat, b < 96 ∧ (v (18 + 3 * f + 1)).toInt = ((b + 1 : Nat) : Int) ∧ v (786 + 16 * b + 0) = 1 ∧ (v (786 + 16 * b + 6)).toInt = ((t + 1 : Nat) : Int) ∧ (v (786 + 16 * b + 2)).toInt = o ∧ t ≤ f ∧ f < t + 2 ^ o) ∧ (∀ f, f < 256 → v (18 + 3 * f) ≠ 3 → v (18 + 3 * f) ≠ 4 → v (18 + 3 * f + 1) = 0) ∧ (∀ f, f < 256 → (v (18 + 3 * f) = 0 ↔ v (2358 + 8 * (f / 32) + 0) = 0))
theorem own.hs {v : Nat → Int32} (h : own v) : ∀ b fr o : Nat, b < 96 → v (786 + 16 * b + 0) = 1 → (v (786 + 16 * b + 1)).toInt = fr → (v (786 + 16 * b + 2)).toInt = o → ∀ j, j < 2 ^ o → v (18 + 3 * (fr + j)) = 3 ∧ (v (18 + 3 * (fr + j) + 1)).toInt = ((b + 1 : Nat) : Int) := h.1
theorem own.hd {v : Nat → Int32} (h : own v) : ∀ b t o : Nat, b < 96 → v (786 + 16 * b + 0) = 1 → (v (786 + 16 * b + 6)).toInt = ((t + 1 : Nat) : Int) → (v (786 + 16 * b + 2)).toInt = o → v (786 + 16 * b + 3) = 0 ∧ ∀ j, j < 2 ^ o → v (18 + 3 * (t + j)) = 4 ∧ (v (18 + 3 * (t + j) + 1)).toInt = ((b + 1 : Nat) : Int) := h.2.1
theorem own.tk {v : Nat → Int32} (h : own v) : ∀ f, f < 256 → v (18 + 3 * f) = 3 → ∃ b fr o : Nat, b < 96 ∧ (v (18 + 3 * f + 1)).toInt = ((b + 1 : Nat) : Int) ∧ v (786 + 16 * b + 0) = 1 ∧ (v (786 + 16 * b + 1)).toInt = fr ∧ (v (786 + 16 * b + 2)).toInt = o ∧ fr ≤ f ∧ f < fr + 2 ^ o := h.2.2.1
theorem own.hl {v : Nat → Int32} (h : own v) : ∀ f, f < 256 → v (18 + 3 * f) = 4 → ∃ b t o : Nat, b < 96 ∧ (v (18 + 3 * f + 1)).toInt = ((b + 1 : Nat) : Int) ∧ v (786 + 16 * b + 0) = 1 ∧ (v (786 + 16 * b + 6)).toInt = ((t + 1 : Nat) : Int) ∧ (v (786 + 16 * b + 2)).toInt = o ∧ t ≤ f ∧ f < t + 2 ^ o := h.2.2.2.1
theorem own.no {v : Nat → Int32} (h : own v) : ∀ f, f < 256 → v (18 + 3 * f) ≠ 3 → v (18 + 3 * f) ≠ 4 → v (18 + 3 * f + 1) = 0 := h.2.2.2.2.1
theorem own.of {v : Nat → Int32} (h : own v) : ∀ f, f < 256 → (v (18 + 3 * f) = 0 ↔ v (2358 + 8 * (f / 32) + 0) = 0) := h.2.2.2.2.2
/-- all but the log, which a thought doesn't take with it -/
def sim0 (c : sm_S) (v : Nat → Int32) : Prop := (∀ f, f < 256 → sF c v f) ∧ (∀ b, b < 96 → sB c v b) ∧ (∀ s, s < 8 → sS c v s) ∧ (∀ t, t < 6 → sT c v t) ∧ (∃ L, sQ c v L) ∧ (sN c v) ∧ (own v)
theorem sim0.F {c : sm_S} {v : Nat → Int32} (h : sim0 c v) : ∀ f, f < 256 → sF c v f := h.1
theorem sim0.B {c : sm_S} {v : Nat → Int32} (h : sim0 c v) : ∀ b, b < 96 → sB c v b := h.2.1
theorem sim0.S {c : sm_S} {v : Nat → Int32} (h : sim0 c v) : ∀ s, s < 8 → sS c v s := h.2.2.1
theorem sim0.T {c : sm_S} {v : Nat → Int32} (h : sim0 c v) : ∀ t, t < 6 → sT c v t := h.2.2.2.1
theorem sim0.Q {c : sm_S} {v : Nat → Int32} (h : sim0 c v) : ∃ L, sQ c v L := h.2.2.2.2.1
theorem sim0.N {c : sm_S} {v : Nat → Int32} (h : sim0 c v) : sN c v := h.2.2.2.2.2.1
theorem sim0.O {c : sm_S} {v : Nat → Int32} (h : sim0 c v) : own v := h.2.2.2.2.2.2
theorem sF.cg {c c' : sm_S} {v v' : Nat → Int32} {f : Nat} (g : sF c v f) (h2 : c' 2 (f / 32) = c 2 (f / 32)) (h3 : c' 3 (f / 32) = c 3 (f / 32)) (h4 : c' 4 (f / 32) = c 4 (f / 32)) (h5 : c' 5 (f / 32) = c 5 (f / 32)) (h6 : c' 6 f = c 6 f) (h7 : c' 7 f = c 7 f) (e0 : v' (18 + 3 * f) = v (18 + 3 * f)) (e1 : v' (18 + 3 * f + 1) = v (18 + 3 * f + 1)) (e2 : v' (18 + 3 * f + 2) = v (18 + 3 * f + 2)) : sF c' v' f :=
  ⟨by rw [e0]; exact g.rng, by rw [h2, e0]; exact g.fre, by rw [h3, e0]; exact g.apa, by rw [h4, e0]; exact g.tak, by rw [h5, e0]; exact g.hel, by rw [h6, e1]; exact g.blk, by rw [h7, e2]; exact g.val⟩
theorem sBl.cg {c c' : sm_S} {v v' : Nat → Int32} {b : Nat} (g : sBl c v b) (h9 : c' 9 b = c 9 b) (h10 : c' 10 b = c 10 b) (h11 : c' 11 b = c 11 b) (h12 : c' 12 b = c 12 b) (h13 : c' 13 b = c 13 b) (h14 : c' 14 b = c 14 b) (h15 : c' 15 b = c 15 b) (h16 : c' 16 b = c 16 b) (e : ∀ k, k < 9 → v' (786 + 16 * b + k) = v (786 + 16 * b + k)) : sBl c' v' b :=
  ⟨by rw [h9, e 1 (by decide)]; exact g.fir, by rw [h10, e 2 (by decide)]; exact g.ord, by rw [h11, e 3 (by decide)]; exact g.kin, by rw [h12, e 4 (by decide)]; exact g.own, by rw [h13, e 5 (by decide)]; exact g.pin, by rw [h14, e 6 (by decide)]; exact g.tgt, by rw [h15, e 7 (by decide)]; exact g.cop, by rw [h16, e 8 (by decide)]; exact g.use⟩
theorem sB.cg {c c' : sm_S} {v v' : Nat → Int32} {b : Nat} (g : sB c v b) (h9 : c' 9 b = c 9 b) (h10 : c' 10 b = c 10 b) (h11 : c' 11 b = c 11 b) (h12 : c' 12 b = c 12 b) (h13 : c' 13 b = c 13 b) (h14 : c' 14 b = c 14 b) (h15 : c' 15 b = c 15 b) (h16 : c' 16 b = c 16 b) (e : ∀ k, k < 9 → v' (786 + 16 * b + k) = v (786 + 16 * b + k)) : sB c' v' b := by
  rcases g with ⟨g1, g2⟩ | ⟨g1, g2, g3⟩
  · exact Or.inl ⟨by rw [h9]; exact g1, by rw [e 0 (by decide)]; exact g2⟩
  · exact Or.inr ⟨by rw [h9]; exact g1, by rw [e 0 (by decide)]; exact g2, g3.cg h9 h10 h11 h12 h13 h14 h15 h16 e⟩
theorem sS.cg {c c' : sm_S} {v v' : Nat → Int32} {s : Nat} (g : sS c v s) (h : ∀ k, 18 ≤ k → k ≤ 25 → c' k s = c k s) (e : ∀ k, k < 8 → v' (2358 + 8 * s + k) = v (2358 + 8 * s + k)) : sS c' v' s := by
  have a18 := h 18 (by decide) (by decide)
  have a19 := h 19 (by decide) (by decide)
  have a20 := h 20 (by decide) (by decide)
  have a21 := h 21 (by decide) (by decide)
  have a22 := h 22 (by decide) (by decide)
  have a23 := h 23 (by decide) (by decide)
  have a24 := h 24 (by decide) (by decide)
  have a25 := h 25 (by decide) (by decide)
  exact ⟨by rw [a18, e 0 (by decide)]; exact g.sta, by rw [a18, a19]; exact g.zof, by rw [a18, a19, e 1 (by decide)]; exact g.zon, by rw [a20, e 2 (by decide)]; exact g.par, by rw [a21, e 3 (by decide)]; exact g.pas, by rw [a22, e 4 (by decide)]; exact g.pau, by rw [a22]; exact g.pag, by rw [a18, a23, e 5 (by decide)]; exact g.rea, by rw [a24, e 6 (by decide)]; exact g.lea, by rw [a25, e 7 (by decide)]; exact g.why, by rw [a18, a20, a21, a22, a24]; exact g.off⟩
theorem sT.cg {c c' : sm_S} {v v' : Nat → Int32} {t : Nat} (g : sT c v t) (h : ∀ k, 27 ≤ k → k ≤ 32 → c' k t = c k t) (e : ∀ k, k < 6 → v' (2322 + 6 * t + k) = v (2322 + 6 * t + k)) : sT c' v' t := by
  have a27 := h 27 (by decide) (by decide)
  have a28 := h 28 (by decide) (by decide)
  have a29 := h 29 (by decide) (by decide)
  have a30 := h 30 (by decide) (by decide)
  have a31 := h 31 (by decide) (by decide)
  have a32 := h 32 (by decide) (by decide)
  exact ⟨by rw [a27, e 0 (by decide)]; exact g.hom, by rw [a28, e 1 (by decide)]; exact g.wai, by rw [a29, e 5 (by decide)]; exact g.rea, by rw [a28, a30, e 2 (by decide)]; exact g.wis, by rw [a28, a31, e 3 (by decide)]; exact g.wat, by rw [a28, a32, e 4 (by decide)]; exact g.wva⟩
theorem lnC_cg {c c' : sm_S} {L : Nat} (h : ∀ k, k < L → c' 33 k = c 33 k) : lnC c' L = lnC c L := by
  unfold lnC
  exact List.map_congr_left (fun k hk => h k (List.mem_range.mp hk))
theorem lnV_cg {v v' : Nat → Int32} {b m : Nat} (h : ∀ n, n < m → v' (786 + 16 * b + (10 + n)) = v (786 + 16 * b + (10 + n))) : lnV v' b m = lnV v b m := by
  unfold lnV
  exact List.map_congr_left (fun k hk => h k (List.mem_range.mp hk))
theorem sQ.cg {c c' : sm_S} {v v' : Nat → Int32} {L : Nat} (g : sQ c v L) (h26 : c' 26 7 = c 26 7) (h28 : c' 28 = c 28) (h33 : c' 33 = c 33) (e : ∀ b k, b < 96 → 9 ≤ k → k < 16 → v' (786 + 16 * b + k) = v (786 + 16 * b + k)) : sQ c' v' L := by
  have hl : lnC c' L = lnC c L := lnC_cg (fun k _ => by rw [h33])
  refine ⟨by rw [h26]; exact g.len, g.le6, by rw [h28, h33]; exact g.tsk, by rw [hl]; exact g.nod, by rw [h28, h33]; exact g.all, fun b hb => ?_⟩
  obtain ⟨m, h1, h2⟩ := g.lin b hb
  have hm : m ≤ 6 := by
    have a := congrArg List.length h2
    have lf := List.length_filter_le (fun t => decide ((c 28 t.toNatClampNeg).toInt = b)) (lnC c L)
    have d : (lnC c L).length = L := by unfold lnC; rw [List.length_map, List.length_range]
    have d2 : (lnV v b m).length = m := by unfold lnV; rw [List.length_map, List.length_range]
    have := g.le6
    omega
  refine ⟨m, by rw [e b 9 hb (by decide) (by decide)]; exact h1, ?_⟩
  rw [lnV_cg (fun n hn => e b (10 + n) hb (by omega) (by omega)), hl, h28]
  exact h2
theorem sN.cg {c c' : sm_S} {v v' : Nat → Int32} (g : sN c v) (h39 : c' 39 = c 39) (h40 : c' 40 = c 40) (h0 : c' 0 7 = c 0 7) (h8 : c' 8 8 = c 8 8) (e : ∀ i, i < 18 → i ≠ 5 → v' i = v i) : sN c' v' :=
  ⟨by rw [h39, e 0 (by decide) (by decide)]; exact g.rat, by rw [h39, e 1 (by decide) (by decide)]; exact g.tri, by rw [h39, e 2 (by decide) (by decide)]; exact g.rto, by rw [h39, e 3 (by decide) (by decide)]; exact g.pau, fun k hk => by rw [h40, e (7 + k) (by omega) (by omega)]; exact g.cnt k hk, by rw [h0, e 4 (by decide) (by decide)]; exact g.tic, by rw [h8, e 6 (by decide) (by decide)]; exact g.use⟩
theorem al_le {fr o : Nat} (ho : o ≤ 4) (h : fr < 256) (ha : fr % 2 ^ o = 0) : fr + 2 ^ o ≤ 256 := by
  have := t_al (k := o) (by omega) ha
  omega
theorem bk_to {v : Nat → Int32} {b t o : Nat} (h : bk_ok v b) (ht : (v (786 + 16 * b + 6)).toInt = ((t + 1 : Nat) : Int)) (ho : (v (786 + 16 * b + 2)).toInt = o) : t + 2 ^ o ≤ 256 := by
  obtain ⟨o', fr, h1, h2, -, -, -, -, ⟨q, hq, hq2⟩, -⟩ := h
  have e : o' = o := by omega
  subst e
  rcases hq2 with hq2 | ⟨a1, a2, a3⟩
  · omega
  · have e : q - 1 = t := by omega
    rw [e] at a3
    exact al_le h2 (by omega) a3
theorem own.cg {v v' : Nat → Int32} (g : own v) (e : ∀ i, 18 ≤ i → i < 786 → i % 3 ≠ 2 → v' i = v i) (eb : ∀ b k, b < 96 → (k = 0 ∨ k = 1 ∨ k = 2 ∨ k = 3 ∨ k = 6) → v' (786 + 16 * b + k) = v (786 + 16 * b + k)) (es : ∀ s, s < 8 → v' (2358 + 8 * s + 0) = v (2358 + 8 * s + 0)) (hb : ∀ b, b < 96 → bk_ok v b) : own v' := by
  have e0 : ∀ f, f < 256 → v' (18 + 3 * f) = v (18 + 3 * f) := fun f hf => e _ (by omega) (by omega) (by omega)
  have e1 : ∀ f, f < 256 → v' (18 + 3 * f + 1) = v (18 + 3 * f + 1) := fun f hf => e _ (by omega) (by omega) (by omega)
  refine ⟨fun b fr o b1 b2 b3 b4 j hj => ?_, fun b t o b1 b2 b3 b4 => ?_, fun f hf h3 => ?_, fun f hf h4 => ?_, fun f hf h3 h4 => ?_, fun f hf => ?_⟩
  · rw [eb b 0 b1 (by omega)] at b2
    rw [eb b 1 b1 (by omega)] at b3
    rw [eb b 2 b1 (by omega)] at b4
    have hx := g.hs b fr o b1 b2 b3 b4 j hj
    obtain ⟨o', fr', p1, p2, p3, p4, p5, -⟩ := hb b b1
    have : o' = o := by omega
    have : fr' = fr := by omega
    subst o' fr'
    have hl : fr + 2 ^ o ≤ 256 := al_le p2 p4 p5
    rw [e0 _ (by omega), e1 _ (by omega)]
    exact hx
  · rw [eb b 0 b1 (by omega)] at b2
    rw [eb b 6 b1 (by omega)] at b3
    rw [eb b 2 b1 (by omega)] at b4
    obtain ⟨k1, k2⟩ := g.hd b t o b1 b2 b3 b4
    refine ⟨by rw [eb b 3 b1 (by omega)]; exact k1, fun j hj => ?_⟩
    have hl := bk_to (hb b b1) b3 b4
    rw [e0 _ (by omega), e1 _ (by omega)]
    exact k2 j hj
  · rw [e0 f hf] at h3
    obtain ⟨b, fr, o, p1, p2, p3, p4, p5, p6, p7⟩ := g.tk f hf h3
    exact ⟨b, fr, o, p1, by rw [e1 f hf]; exact p2, by rw [eb b 0 p1 (by omega)]; exact p3, by rw [eb b 1 p1 (by omega)]; exact p4, by rw [eb b 2 p1 (by omega)]; exact p5, p6, p7⟩
  · rw [e0 f hf] at h4
    obtain ⟨b, fr, o, p1, p2, p3, p4, p5, p6, p7⟩ := g.hl f hf h4
    exact ⟨b, fr, o, p1, by rw [e1 f hf]; exact p2, by rw [eb b 0 p1 (by omega)]; exact p3, by rw [eb b 6 p1 (by omega)]; exact p4, by rw [eb b 2 p1 (by omega)]; exact p5, p6, p7⟩
  · rw [e0 f hf] at h3 h4
    rw [e1 f hf]
    exact g.no f hf h3 h4
  · rw [e0 f hf, es (f / 32) (by omega)]
    exact g.of f hf
end
section
/-! ===== the simulation: a block goes ===== -/
theorem lgC_2 (c : sm_S) (fr o : Nat) (sb : Int32) : lgC c fr o sb 2 = upd (c 2) (fr / 32) (c 2 (fr / 32) ||| (rgB (fr % 32) o &&& (sb ^^^ (-1)))) := rfl
theorem lgC_3 (c : sm_S) (fr o : Nat) (sb : Int32) : lgC c fr o sb 3 = upd (c 3) (fr / 32) (c 3 (fr / 32) ||| (rgB (fr % 32) o &&& sb)) := rfl
theorem lgC_4 (c : sm_S) (fr o : Nat) (sb : Int32) : lgC c fr o sb 4 = upd (c 4) (fr / 32) (c 4 (fr / 32) &&& (rgB (fr % 32) o ^^^ (-1))) := rfl
theorem lgC_5 (c : sm_S) (fr o : Nat) (sb : Int32) : lgC c fr o sb 5 = upd (c 5) (fr / 32) (c 5 (fr / 32) &&& (rgB (fr % 32) o ^^^ (-1))) := rfl
theorem lgC_6 (c : sm_S) (fr o : Nat) (sb : Int32) : lgC c fr o sb 6 = rg (c 6) fr (2 ^ o) (-1) := rfl
theorem lgC_7 (c : sm_S) (fr o : Nat) (sb : Int32) : lgC c fr o sb 7 = rg (c 7) fr (2 ^ o) 0 := rfl
theorem lgC_o {c : sm_S} {fr o k : Nat} {sb : Int32} (h : k < 2 ∨ 7 < k) : lgC c fr o sb k = c k := by
  unfold lgC
  rw [s_ne (by omega), s_ne (by omega), s_ne (by omega), s_ne (by omega), s_ne (by omega), s_ne (by omega)]
theorem shV_12 (v : Nat → Int32) (f : Nat) : shV v f = 1 ∨ shV v f = 2 := by
  unfold shV
  split
  · exact Or.inr rfl
  · exact Or.inl rfl
theorem lvF_in {v : Nat → Int32} {fr n f : Nat} (h1 : fr ≤ f) (h2 : f < fr + n) : lvF v fr n (18 + 3 * f) = shV v f ∧ lvF v fr n (18 + 3 * f + 1) = 0 ∧ lvF v fr n (18 + 3 * f + 2) = 0 := by
  unfold lvF
  refine ⟨?_, ?_, ?_⟩
  · rw [if_pos (by omega), if_pos (by omega)]
    exact congrArg (shV v) (by omega)
  · rw [if_pos (by omega), if_neg (by omega)]
  · rw [if_pos (by omega), if_neg (by omega)]
/-- the frames of a block that leaves, on both sides -/
theorem sF_lv {c : sm_S} {v : Nat → Int32} {fr o p f : Nat} {sb : Int32} (g : sF c v f) (hf : f < 256) (ho : o ≤ 4) (hfr : fr < 256) (hal : fr % 2 ^ o = 0) (hp : (v (2358 + 8 * (fr / 32) + 2)).toInt = p) (hsb : ∀ i, i < 32 → (bit sb i ↔ i / 8 < p)) (hin : fr ≤ f → f < fr + 2 ^ o → v (18 + 3 * f) = 3 ∨ v (18 + 3 * f) = 4) : sF (lgC c fr o sb) (lvF v fr (2 ^ o)) f := by
  have ha := t_al (k := o) (by omega) hal
  have hi : f % 32 < 32 := Nat.mod_lt _ (by decide)
  have hpf : fr % 32 < 32 := Nat.mod_lt _ (by decide)
  by_cases hr : fr ≤ f ∧ f < fr + 2 ^ o
  · have hs : f / 32 = fr / 32 := by omega
    obtain ⟨e0, e1, e2⟩ := lvF_in (v := v) hr.1 hr.2
    have hrg : bit (rgB (fr % 32) o) (f % 32) := (rgB_iff ho hpf hi).mpr (by omega)
    have h34 := hin hr.1 hr.2
    have n2 : ¬ bit (c 2 (f / 32)) (f % 32) := fun z => by
      rw [g.fre] at z
      rw [z] at h34
      exact absurd h34 (by decide)
    have n3 : ¬ bit (c 3 (f / 32)) (f % 32) := fun z => by
      rw [g.apa] at z
      rw [z] at h34
      exact absurd h34 (by decide)
    have hsh : shV v f = if f % 32 / 8 < p then 2 else 1 := by
      unfold shV
      rw [hs, hp]
      by_cases q : f % 32 / 8 < p
      · rw [if_pos (by omega), if_pos q]
      · rw [if_neg (by omega), if_neg q]
    rw [hs] at n2 n3
    refine ⟨?_, ?_, ?_, ?_, ?_, ?_, ?_⟩
    · rw [e0]
      rcases shV_12 v f with q | q
      · exact Or.inr (Or.inl q)
      · exact Or.inr (Or.inr (Or.inl q))
    · rw [e0, lgC_2, hs, u_at, bit_or, bit_and, bit_not hi, hsb _ hi, hsh]
      by_cases q : f % 32 / 8 < p
      · rw [if_pos q]
        exact ⟨fun z => (z.elim (fun z => absurd z n2) (fun z => absurd q z.2)), fun z => absurd z (by decide)⟩
      · rw [if_neg q]
        exact ⟨fun _ => rfl, fun _ => Or.inr ⟨hrg, q⟩⟩
    · rw [e0, lgC_3, hs, u_at, bit_or, bit_and, hsb _ hi, hsh]
      by_cases q : f % 32 / 8 < p
      · rw [if_pos q]
        exact ⟨fun _ => rfl, fun _ => Or.inr ⟨hrg, q⟩⟩
      · rw [if_neg q]
        exact ⟨fun z => (z.elim (fun z => absurd z n3) (fun z => absurd z.2 q)), fun z => absurd z (by decide)⟩
    · rw [e0, lgC_4, hs, u_at, bit_and, bit_not hi]
      refine ⟨fun z => absurd hrg z.2, fun z => ?_⟩
      rcases shV_12 v f with q | q <;> rw [q] at z <;> exact absurd z (by decide)
    · rw [e0, lgC_5, hs, u_at, bit_and, bit_not hi]
      refine ⟨fun z => absurd hrg z.2, fun z => ?_⟩
      rcases shV_12 v f with q | q <;> rw [q] at z <;> exact absurd z (by decide)
    · rw [e1, lgC_6, rg_in hr.1 hr.2]
      rfl
    · rw [e2, lgC_7, rg_in hr.1 hr.2]
  · have e0 : lvF v fr (2 ^ o) (18 + 3 * f) = v (18 + 3 * f) := lvF_out (by omega)
    have e1 : lvF v fr (2 ^ o) (18 + 3 * f + 1) = v (18 + 3 * f + 1) := lvF_out (by omega)
    have e2 : lvF v fr (2 ^ o) (18 + 3 * f + 2) = v (18 + 3 * f + 2) := lvF_out (by omega)
    by_cases hs : f / 32 = fr / 32
    · have hrg : ¬ bit (rgB (fr % 32) o) (f % 32) := fun z => by
        have := (rgB_iff ho hpf hi).mp z
        omega
      have k2 := g.fre
      have k3 := g.apa
      have k4 := g.tak
      have k5 := g.hel
      rw [hs] at k2 k3 k4 k5
      refine ⟨by rw [e0]; exact g.rng, ?_, ?_, ?_, ?_, ?_, ?_⟩
      · rw [e0, lgC_2, hs, u_at, bit_or, bit_and, ← k2]
        exact ⟨fun z => z.elim id (fun z => absurd z.1 hrg), Or.inl⟩
      · rw [e0, lgC_3, hs, u_at, bit_or, bit_and, ← k3]
        exact ⟨fun z => z.elim id (fun z => absurd z.1 hrg), Or.inl⟩
      · rw [e0, lgC_4, hs, u_at, bit_and, bit_not hi, ← k4]
        exact ⟨fun z => z.1, fun z => ⟨z, hrg⟩⟩
      · rw [e0, lgC_5, hs, u_at, bit_and, bit_not hi, ← k5]
        exact ⟨fun z => z.1, fun z => ⟨z, hrg⟩⟩
      · rw [e1, lgC_6, rg_out (by omega)]
        exact g.blk
      · rw [e2, lgC_7, rg_out (by omega)]
        exact g.val
    · exact g.cg (by rw [lgC_2, u_ne hs]) (by rw [lgC_3, u_ne hs]) (by rw [lgC_4, u_ne hs]) (by rw [lgC_5, u_ne hs]) (by rw [lgC_6, rg_out (by omega)]) (by rw [lgC_7, rg_out (by omega)]) e0 e1 e2
theorem sim_goes {c : sm_S} {v : Nat → Int32} {b fr o p : Nat} {sb : Int32} (h : sim0 c v) (hk : ∀ b, b < 96 → bk_ok v b) (hb : b < 96) (h0 : v (786 + 16 * b + 0) = 1) (h6 : v (786 + 16 * b + 6) = 0) (h1 : (v (786 + 16 * b + 1)).toInt = fr) (h2 : (v (786 + 16 * b + 2)).toInt = o) (ho : o ≤ 4) (hfr : fr < 256) (hal : fr % 2 ^ o = 0) (hp : (v (2358 + 8 * (fr / 32) + 2)).toInt = p) (hsb : ∀ i, i < 32 → (bit sb i ↔ i / 8 < p)) : sim0 (sm_set (lgC c fr o sb) 9 (upd (c 9) b (-1))) (upd (lvF v fr (2 ^ o)) (786 + 16 * b + 0) 0) := by
  have hle := al_le ho hfr hal
  have own3 := h.O.hs b fr o hb h0 h1 h2
  have old : ∀ i, (i < 18 + 3 * fr ∨ 18 + 3 * (fr + 2 ^ o) ≤ i) → i ≠ 786 + 16 * b + 0 → upd (lvF v fr (2 ^ o)) (786 + 16 * b + 0) 0 i = v i := fun i h1 h2 => by rw [u_ne h2, lvF_out h1]
  have oldB : ∀ b' k, b' < 96 → k < 16 → (b' ≠ b ∨ k ≠ 0) → upd (lvF v fr (2 ^ o)) (786 + 16 * b + 0) 0 (786 + 16 * b' + k) = v (786 + 16 * b' + k) := fun b' k h1 h2 h3 => old _ (by omega) (by omega)
  have oldF : ∀ i, i < 786 → upd (lvF v fr (2 ^ o)) (786 + 16 * b + 0) 0 i = lvF v fr (2 ^ o) i := fun i hi => u_ne (by omega)
  refine ⟨fun f hf => ?_, fun b' hb' => ?_, fun s hs => ?_, fun t ht => ?_, ?_, ?_, ?_⟩
  · have g := sF_lv (sb := sb) (h.F f hf) hf ho hfr hal hp hsb (fun a1 a2 => by
      have := (own3 (f - fr) (by omega)).1
      rw [show fr + (f - fr) = f by omega] at this
      exact Or.inl this)
    exact g.cg (by rw [s_ne (by decide)]) (by rw [s_ne (by decide)]) (by rw [s_ne (by decide)]) (by rw [s_ne (by decide)]) (by rw [s_ne (by decide)]) (by rw [s_ne (by decide)]) (oldF _ (by omega)) (oldF _ (by omega)) (oldF _ (by omega))
  · by_cases e : b' = b
    · subst e
      exact Or.inl ⟨by rw [s_at, u_at], u_at⟩
    · have cg : ∀ k, 9 < k → k ≤ 16 → sm_set (lgC c fr o sb) 9 (upd (c 9) b (-1)) k = c k := fun k h1 h2 => by rw [s_ne (by omega), lgC_o (by omega)]
      exact (h.B b' hb').cg (by rw [s_at, u_ne e]) (by rw [cg 10 (by decide) (by decide)]) (by rw [cg 11 (by decide) (by decide)]) (by rw [cg 12 (by decide) (by decide)]) (by rw [cg 13 (by decide) (by decide)]) (by rw [cg 14 (by decide) (by decide)]) (by rw [cg 15 (by decide) (by decide)]) (by rw [cg 16 (by decide) (by decide)]) (fun k hk => oldB b' k hb' (by omega) (Or.inl e))
  · exact (h.S s hs).cg (fun k h1 h2 => by rw [s_ne (by omega), lgC_o (by omega)]) (fun k hk => old _ (by omega) (by omega))
  · exact (h.T t ht).cg (fun k h1 h2 => by rw [s_ne (by omega), lgC_o (by omega)]) (fun k hk => old _ (by omega) (by omega))
  · obtain ⟨L, hL⟩ := h.Q
    exact ⟨L, hL.cg (by rw [s_ne (by omega), lgC_o (by omega)]) (by rw [s_ne (by omega), lgC_o (by omega)]) (by rw [s_ne (by omega), lgC_o (by omega)]) (fun b' k h1 h2 h3 => oldB b' k h1 h3 (Or.inr (by omega)))⟩
  · exact h.N.cg (by rw [s_ne (by omega), lgC_o (by omega)]) (by rw [s_ne (by omega), lgC_o (by omega)]) (by rw [s_ne (by omega), lgC_o (by omega)]) (by rw [s_ne (by omega), lgC_o (by omega)]) (fun i hi _ => old i (by omega) (by omega))
  · have in12 : ∀ f, fr ≤ f → f < fr + 2 ^ o → upd (lvF v fr (2 ^ o)) (786 + 16 * b + 0) 0 (18 + 3 * f) = shV v f := fun f a1 a2 => by rw [oldF _ (by omega)]; exact (lvF_in a1 a2).1
    have out0 : ∀ f, f < 256 → ¬ (fr ≤ f ∧ f < fr + 2 ^ o) → upd (lvF v fr (2 ^ o)) (786 + 16 * b + 0) 0 (18 + 3 * f) = v (18 + 3 * f) ∧ upd (lvF v fr (2 ^ o)) (786 + 16 * b + 0) 0 (18 + 3 * f + 1) = v (18 + 3 * f + 1) := fun f a1 a2 => ⟨old _ (by omega) (by omega), old _ (by omega) (by omega)⟩
    have alive : ∀ b', b' < 96 → upd (lvF v fr (2 ^ o)) (786 + 16 * b + 0) 0 (786 + 16 * b' + 0) = 1 → b' ≠ b ∧ v (786 + 16 * b' + 0) = 1 := fun b' hb' z => by
      by_cases e : b' = b
      · subst e
        rw [u_at] at z
        exact absurd z (by decide)
      · exact ⟨e, by rw [← oldB b' 0 hb' (by decide) (Or.inl e)]; exact z⟩
    refine ⟨fun b' fr' o' hb' g0 g1 g2 j hj => ?_, fun b' t' o' hb' g0 g6 g2 => ?_, fun f hf g3 => ?_, fun f hf g4 => ?_, fun f hf g3 g4 => ?_, fun f hf => ?_⟩
    · obtain ⟨e, g0⟩ := alive b' hb' g0
      rw [oldB b' 1 hb' (by decide) (Or.inl e)] at g1
      rw [oldB b' 2 hb' (by decide) (Or.inl e)] at g2
      have hx := h.O.hs b' fr' o' hb' g0 g1 g2 j hj
      obtain ⟨o2, fr2, p1, p2, p3, p4, p5, -⟩ := hk b' hb'
      have e1 : o2 = o' := by omega
      have e2 : fr2 = fr' := by omega
      subst e1 e2
      have hl := al_le p2 p4 p5
      have hout : ¬ (fr ≤ fr2 + j ∧ fr2 + j < fr + 2 ^ o) := fun z => by
        have hy := (own3 (fr2 + j - fr) (by omega)).2
        rw [show fr + (fr2 + j - fr) = fr2 + j by omega, hx.2] at hy
        omega
      rw [(out0 _ (by omega) hout).1, (out0 _ (by omega) hout).2]
      exact hx
    · obtain ⟨e, g0⟩ := alive b' hb' g0
      rw [oldB b' 6 hb' (by decide) (Or.inl e)] at g6
      rw [oldB b' 2 hb' (by decide) (Or.inl e)] at g2
      obtain ⟨hx1, hx2⟩ := h.O.hd b' t' o' hb' g0 g6 g2
      refine ⟨by rw [oldB b' 3 hb' (by decide) (Or.inl e)]; exact hx1, fun j hj => ?_⟩
      have hx := hx2 j hj
      have hl := bk_to (hk b' hb') g6 g2
      have hout : ¬ (fr ≤ t' + j ∧ t' + j < fr + 2 ^ o) := fun z => by
        have hy := (own3 (t' + j - fr) (by omega)).1
        rw [show fr + (t' + j - fr) = t' + j by omega, hx.1] at hy
        exact absurd hy (by decide)
      rw [(out0 _ (by omega) hout).1, (out0 _ (by omega) hout).2]
      exact hx
    · have hout : ¬ (fr ≤ f ∧ f < fr + 2 ^ o) := fun z => by
        rw [in12 f z.1 z.2] at g3
        rcases shV_12 v f with q | q <;> rw [q] at g3 <;> exact absurd g3 (by decide)
      obtain ⟨k0, k1⟩ := out0 f hf hout
      rw [k0] at g3
      obtain ⟨b', fr', o', p1, p2, p3, p4, p5, p6, p7⟩ := h.O.tk f hf g3
      have e : b' ≠ b := fun z => by
        subst z
        have e2 : o' = o := by omega
        subst e2
        exact hout (by omega)
      exact ⟨b', fr', o', p1, by rw [k1]; exact p2, by rw [oldB b' 0 p1 (by decide) (Or.inl e)]; exact p3, by rw [oldB b' 1 p1 (by decide) (Or.inl e)]; exact p4, by rw [oldB b' 2 p1 (by decide) (Or.inl e)]; exact p5, p6, p7⟩
    · have hout : ¬ (fr ≤ f ∧ f < fr + 2 ^ o) := fun z => by
        rw [in12 f z.1 z.2] at g4
        rcases shV_12 v f with q | q <;> rw [q] at g4 <;> exact absurd g4 (by decide)
      obtain ⟨k0, k1⟩ := out0 f hf hout
      rw [k0] at g4
      obtain ⟨b', t', o', p1, p2, p3, p4, p5, p6, p7⟩ := h.O.hl f hf g4
      have e : b' ≠ b := fun z => by
        subst z
        rw [h6] at p4
        have p4 : (0 : Int) = _ := p4
        omega
      exact ⟨b', t', o', p1, by rw [k1]; exact p2, by rw [oldB b' 0 p1 (by decide) (Or.inl e)]; exact p3, by rw [oldB b' 6 p1 (by decide) (Or.inl e)]; exact p4, by rw [oldB b' 2 p1 (by decide) (Or.inl e)]; exact p5, p6, p7⟩
    · by_cases z : fr ≤ f ∧ f < fr + 2 ^ o
      · rw [oldF _ (by omega)]
        exact (lvF_in z.1 z.2).2.1
      · obtain ⟨k0, k1⟩ := out0 f hf z
        rw [k0] at g3 g4
        rw [k1]
        exact h.O.no f hf g3 g4
    · rw [old (2358 + 8 * (f / 32) + 0) (by omega) (by omega)]
      by_cases z : fr ≤ f ∧ f < fr + 2 ^ o
      · have h3 := (own3 (f - fr) (by omega)).1
        rw [show fr + (f - fr) = f by omega] at h3
        rw [in12 f z.1 z.2, ← h.O.of f hf, h3]
        rcases shV_12 v f with q | q <;> rw [q] <;> decide
      · rw [(out0 f hf z).1]
        exact h.O.of f hf
end
section
/-! ===== the simulation: frames are given, held, settled, copied; a block begins; a drop is noted: the class, to the last number ===== -/
theorem rgB_er {a1 a2 : Int32} {f o : Nat} (h1 : a1.toInt = f) (h2 : a2.toInt = ((2 ^ o : Nat) : Int)) : (((1 : Int32) <<< (a2 &&& 31)) - 1) <<< ((a1 - a1 / (32 : Int32) * (32 : Int32)) &&& 31) = rgB (f % 32) o := by
  rw [t_nI h2, show a1 - a1 / 32 * 32 = nI (f % 32) from t_nI (t_rem (d := 32) h1 rfl (by decide))]
  rfl
theorem l_claim2 {a1 a2 a3 a4 : Int32} {f n : Nat} (h2 : a2.toInt = f) (h3 : a3.toInt = n) (hn : f + n ≤ 256) (σ : sm_S) : ∀ (d k : Nat) (a5 : Int32), a5.toInt = ((f + k : Nat) : Int) → k + d = n → xE xD m_F_claim 31 [.ref 1, .int a1, .int a2, .int a3, .int a4, .int a5] [] (sm_set σ 6 (rg (σ 6) f k a1)) (sm_I (fun x σ' => x = a4 ∧ σ' = sm_set σ 6 (rg (σ 6) f n a1))) := by
  have h23 : (a2 + a3).toInt = ((f + n : Nat) : Int) := by
    rw [t_add h2 h3 (by omega) (by omega)]
    omega
  intro d
  induction d with
  | zero =>
    intro k a5 h5 hk
    have hk : k = n := by omega
    subst hk
    exact d_F_claim_31 a1 a2 a3 a4 a5 _ _ ⟨fun _ => ⟨_, rfl, rfl, rfl⟩, fun h => absurd (by rw [t_le, h23, h5]; omega) h⟩
  | succ d ih =>
    intro k a5 h5 hk
    have h5' : (a5 + 1).toInt = ((f + (k + 1) : Nat) : Int) := by
      rw [t_add h5 (y := 1) rfl (by omega) (by omega)]
      omega
    refine d_F_claim_31 a1 a2 a3 a4 a5 _ _ ⟨fun h => ?_, fun _ => ⟨t_vp h5 (by omega), fun σ1 e1 => ?_⟩⟩
    · rw [t_le, h23, h5] at h; omega
    · rw [t_nat h5, s_at, ← rg_s, s_ss] at e1
      rw [e1]
      exact ih (k + 1) (a5 + 1) h5' (by omega)
def clC (c : sm_S) (b : Int32) (fr o : Nat) : sm_S := sm_set (sm_set c 2 (upd (c 2) (fr / 32) (c 2 (fr / 32) &&& (rgB (fr % 32) o ^^^ (-1))))) 6 (rg (c 6) fr (2 ^ o) b)
theorem e_claim2 {a2 a3 : Int32} {f o : Nat} (a1 : Int32) (h2 : a2.toInt = f) (h3 : a3.toInt = ((2 ^ o : Nat) : Int)) (ho : o ≤ 4) (hn : f + 2 ^ o ≤ 256) (σ : sm_S) : xC xD j_F_claim [.ref 1, .int a1, .int a2, .int a3] σ (sm_I (fun x σ' => x = rgB (f % 32) o ∧ σ' = clC σ a1 f o)) := by
  have hp := t_pw (k := o) (by omega)
  have hd : (a2 / 32).toInt = ((f / 32 : Nat) : Int) := t_div (d := 32) h2 rfl (by decide)
  have v := t_vp (N := 8) hd (by omega)
  refine d_F_claim a1 a2 a3 σ _ ⟨by decide, by decide, v, v, fun σ1 e1 => ?_⟩
  have := l_claim2 (a1 := a1) (a4 := (((1 : Int32) <<< (a3 &&& 31)) - 1) <<< ((a2 - a2 / (32 : Int32) * (32 : Int32)) &&& 31)) h2 h3 hn σ1 (2 ^ o) 0 a2 h2 (by omega)
  rw [rg_0, s_id] at this
  refine this.mono ?_
  rintro r σ' ⟨x, rfl, rfl, rfl⟩
  refine ⟨_, rfl, rgB_er h2 h3, ?_⟩
  rw [rgB_er h2 h3, t_nat hd] at e1
  rw [e1]
  rfl
/-- given (k is 4) or held (k is 5) -/
def gvC (c : sm_S) (k : Nat) (b : Int32) (fr o : Nat) : sm_S := sm_set (clC c b fr o) k (upd (c k) (fr / 32) (c k (fr / 32) ||| rgB (fr % 32) o))
theorem e_give2 {a2 a3 : Int32} {f o : Nat} (a1 : Int32) (h2 : a2.toInt = f) (h3 : a3.toInt = ((2 ^ o : Nat) : Int)) (ho : o ≤ 4) (hn : f + 2 ^ o ≤ 256) (σ : sm_S) : xC xD j_F_give [.ref 1, .int a1, .int a2, .int a3] σ (sm_V (fun σ' => σ' = gvC σ 4 a1 f o)) := by
  have hp := t_pw (k := o) (by omega)
  have hd : (a2 / 32).toInt = ((f / 32 : Nat) : Int) := t_div (d := 32) h2 rfl (by decide)
  have v := t_vp (N := 8) hd (by omega)
  refine d_F_give a1 a2 a3 σ _ ⟨by decide, v, (e_claim2 a1 h2 h3 ho hn σ).int ?_⟩
  rintro _ _ ⟨rfl, rfl⟩
  refine ⟨v, fun σ3 e3 => ⟨rfl, ?_⟩⟩
  rw [t_nat hd] at e3
  rw [e3]
  rfl
theorem e_hold2 {a2 a3 : Int32} {f o : Nat} (a1 : Int32) (h2 : a2.toInt = f) (h3 : a3.toInt = ((2 ^ o : Nat) : Int)) (ho : o ≤ 4) (hn : f + 2 ^ o ≤ 256) (σ : sm_S) : xC xD j_F_hold [.ref 1, .int a1, .int a2, .int a3] σ (sm_V (fun σ' => σ' = gvC σ 5 a1 f o)) := by
  have hp := t_pw (k := o) (by omega)
  have hd : (a2 / 32).toInt = ((f / 32 : Nat) : Int) := t_div (d := 32) h2 rfl (by decide)
  have v := t_vp (N := 8) hd (by omega)
  refine d_F_hold a1 a2 a3 σ _ ⟨by decide, v, (e_claim2 a1 h2 h3 ho hn σ).int ?_⟩
  rintro _ _ ⟨rfl, rfl⟩
  refine ⟨v, fun σ3 e3 => ⟨rfl, ?_⟩⟩
  rw [t_nat hd] at e3
  rw [e3]
  rfl
def stC (c : sm_S) (fr o : Nat) : sm_S := sm_set (sm_set c 5 (upd (c 5) (fr / 32) (c 5 (fr / 32) &&& (rgB (fr % 32) o ^^^ (-1))))) 4 (upd (c 4) (fr / 32) (c 4 (fr / 32) ||| rgB (fr % 32) o))
theorem e_settle2 {a1 a2 : Int32} {f o : Nat} (h1 : a1.toInt = f) (h2 : a2.toInt = ((2 ^ o : Nat) : Int)) (ho : o ≤ 4) (hn : f + 2 ^ o ≤ 256) (σ : sm_S) : xC xD j_F_settle [.ref 1, .int a1, .int a2] σ (sm_V (fun σ' => σ' = stC σ f o)) := by
  have hp := t_pw (k := o) (by omega)
  have hd : (a1 / 32).toInt = ((f / 32 : Nat) : Int) := t_div (d := 32) h1 rfl (by decide)
  have v := t_vp (N := 8) hd (by omega)
  refine d_F_settle a1 a2 σ _ ⟨by decide, by decide, v, v, fun σ1 e1 => ⟨by decide, v, v, fun σ2 e2 => ⟨rfl, ?_⟩⟩⟩
  rw [rgB_er h1 h2, t_nat hd] at e1 e2
  rw [e2, e1]
  rfl
/-- n values from a on are laid from b on -/
def cvF (w : Nat → Int32) (a b n : Nat) : Nat → Int32 := fun i => if b ≤ i ∧ i < b + n then w (a + (i - b)) else w i
theorem cvF_0 (w : Nat → Int32) (a b : Nat) : cvF w a b 0 = w := by
  funext i
  exact if_neg (by omega)
theorem cvF_s {w : Nat → Int32} {a b n : Nat} (h : a + n < b ∨ b + n ≤ a) : upd (cvF w a b n) (b + n) (cvF w a b n (a + n)) = cvF w a b (n + 1) := by
  have e : cvF w a b n (a + n) = w (a + n) := if_neg (by omega)
  rw [e]
  funext i
  by_cases g : i = b + n
  · rw [g, u_at]
    unfold cvF
    rw [if_pos (by omega)]
    exact congrArg w (by omega)
  · rw [u_ne g]
    unfold cvF
    by_cases d : b ≤ i ∧ i < b + n
    · rw [if_pos d, if_pos (by omega)]
    · rw [if_neg d, if_neg (by omega)]
theorem l_copyValues2 {a1 a2 a3 : Int32} {a b n : Nat} (h1 : a1.toInt = a) (h2 : a2.toInt = b) (h3 : a3.toInt = n) (ha : a + n ≤ 256) (hb : b + n ≤ 256) (hd : a + n ≤ b ∨ b + n ≤ a) (σ : sm_S) : ∀ (d k : Nat) (a4 : Int32), a4.toInt = k → k + d = n → xE xD m_F_copyValues 3 [.ref 1, .int a1, .int a2, .int a3, .int a4] [] (sm_set σ 7 (cvF (σ 7) a b k)) (sm_V (fun σ' => σ' = sm_set σ 7 (cvF (σ 7) a b n))) := by
  intro d
  induction d with
  | zero =>
    intro k a4 h4 hk
    have hk : k = n := by omega
    subst hk
    exact d_F_copyValues_3 a1 a2 a3 a4 _ _ ⟨fun _ => ⟨rfl, rfl⟩, fun h => absurd (by rw [t_le, h3, h4]; omega) h⟩
  | succ d ih =>
    intro k a4 h4 hk
    have h4' : (a4 + 1).toInt = ((k + 1 : Nat) : Int) := by
      rw [t_add h4 (y := 1) rfl (by omega) (by omega)]
      omega
    have p1 : (a1 + a4).toInt = ((a + k : Nat) : Int) := by
      rw [t_add h1 h4 (by omega) (by omega)]
      omega
    have p2 : (a2 + a4).toInt = ((b + k : Nat) : Int) := by
      rw [t_add h2 h4 (by omega) (by omega)]
      omega
    refine d_F_copyValues_3 a1 a2 a3 a4 _ _ ⟨fun h => ?_, fun _ => ⟨t_vp p1 (by omega), t_vp p2 (by omega), fun σ1 e1 => ?_⟩⟩
    · rw [t_le, h3, h4] at h; omega
    · rw [t_nat p1, t_nat p2, s_at, cvF_s (by omega), s_ss] at e1
      rw [e1]
      exact ih (k + 1) (a4 + 1) h4' (by omega)
theorem e_copyValues2 {a1 a2 a3 : Int32} {a b n : Nat} (h1 : a1.toInt = a) (h2 : a2.toInt = b) (h3 : a3.toInt = n) (ha : a + n ≤ 256) (hb : b + n ≤ 256) (hd : a + n ≤ b ∨ b + n ≤ a) (σ : sm_S) : xC xD j_F_copyValues [.ref 1, .int a1, .int a2, .int a3] σ (sm_V (fun σ' => σ' = sm_set σ 7 (cvF (σ 7) a b n))) := by
  refine d_F_copyValues a1 a2 a3 σ _ ?_
  have := l_copyValues2 h1 h2 h3 ha hb hd σ n 0 0 rfl (by omega)
  rw [cvF_0, s_id] at this
  exact this
def bnC (c : sm_S) (b : Nat) (x2 x3 x4 x5 : Int32) : sm_S := sm_set (sm_set (sm_set (sm_set (sm_set (sm_set (sm_set c 9 (upd (c 9) b x2)) 10 (upd (c 10) b x3)) 11 (upd (c 11) b x4)) 12 (upd (c 12) b x5)) 13 (upd (c 13) b 0)) 14 (upd (c 14) b (-1))) 15 (upd (c 15) b 0)
theorem e_begin2 {a1 : Int32} {b : Nat} (h1 : a1.toInt = b) (hb : b < 96) (a2 a3 a4 a5 : Int32) (σ : sm_S) : xC xD j_B_begin [.ref 8, .int a1, .int a2, .int a3, .int a4, .int a5] σ (sm_V (fun σ' => σ' = bnC σ b a2 a3 a4 a5)) := by
  have v := t_vp h1 hb
  refine d_B_begin a1 a2 a3 a4 a5 σ _ ?_
  rw [t_nat h1]
  refine ⟨v, fun σ1 e1 => ⟨v, fun σ2 e2 => ⟨v, fun σ3 e3 => ⟨v, fun σ4 e4 => ⟨v, fun σ5 e5 => ⟨v, fun σ6 e6 => ⟨v, fun σ7 e7 => ⟨rfl, ?_⟩⟩⟩⟩⟩⟩⟩⟩
  rw [e7, e6, e5, e4, e3, e2, e1]
  rfl
theorem e_noteDrop2 {a1 : Int32} {b n : Nat} (h1 : a1.toInt = b) (hb : b < 96) (σ : sm_S) (h5 : (σ 34 5).toInt = n) (hn : n < 60) : xC xD j_Y_noteDrop [.ref 0, .int a1] σ (sm_V (fun σ' => σ' = laC (sm_set σ 40 (upd (σ 40) 5 (σ 40 5 + 1))) n (σ 0 7) 6 a1 (σ 9 b))) := by
  refine d_Y_noteDrop a1 σ _ ⟨t_vp (n := 5) rfl (by omega), t_vp (n := 5) rfl (by omega), fun σ1 e1 => ⟨t_vp h1 hb, ?_⟩⟩
  have f34 : σ1 34 = σ 34 := by rw [e1, s_ne (by decide)]
  have f0 : σ1 0 = σ 0 := by rw [e1, s_ne (by decide)]
  have f9 : σ1 9 = σ 9 := by rw [e1, s_ne (by decide)]
  rw [t_nat h1, f0, f9]
  refine (e_add2 _ _ _ _ σ1 (by rw [f34]; exact h5) hn).void ?_
  rintro _ rfl
  refine ⟨rfl, ?_⟩
  rw [e1]
  rfl
end
section
/-! ===== the simulation: a block comes, goes with a note, moves at once: the reference, to the last number ===== -/
/-- the frames from fr on, n of them, have state s and block x *less 1* -/
def hsF (v : Nat → Int32) (fr n : Nat) (s x : Int32) : Nat → Int32 := fun i => if 18 + 3 * fr ≤ i ∧ i < 18 + 3 * (fr + n) then (if (i - 18) % 3 = 0 then s else if (i - 18) % 3 = 1 then x else v i) else v i
theorem hsF_0 (v : Nat → Int32) (fr : Nat) (s x : Int32) : hsF v fr 0 s x = v := by
  funext i
  exact if_neg (by omega)
theorem hsF_out {v : Nat → Int32} {fr n i : Nat} {s x : Int32} (h : i < 18 + 3 * fr ∨ 18 + 3 * (fr + n) ≤ i) : hsF v fr n s x i = v i := if_neg (by omega)
theorem hsF_in {v : Nat → Int32} {fr n f : Nat} {s x : Int32} (h1 : fr ≤ f) (h2 : f < fr + n) : hsF v fr n s x (18 + 3 * f) = s ∧ hsF v fr n s x (18 + 3 * f + 1) = x ∧ hsF v fr n s x (18 + 3 * f + 2) = v (18 + 3 * f + 2) := by
  unfold hsF
  refine ⟨?_, ?_, ?_⟩
  · rw [if_pos (by omega), if_pos (by omega)]
  · rw [if_pos (by omega), if_neg (by omega), if_pos (by omega)]
  · rw [if_pos (by omega), if_neg (by omega), if_neg (by omega)]
theorem hsF_s (v : Nat → Int32) (fr n : Nat) (s x : Int32) : hsF v fr (n + 1) s x = upd (upd (hsF v fr n s x) (18 + 3 * (fr + n)) s) (18 + 3 * (fr + n) + 1) x := by
  funext i
  by_cases b : i = 18 + 3 * (fr + n) + 1
  · rw [b, u_at]
    unfold hsF
    rw [if_pos (by omega), if_neg (by omega), if_pos (by omega)]
  · rw [u_ne b]
    by_cases c : i = 18 + 3 * (fr + n)
    · rw [c, u_at]
      unfold hsF
      rw [if_pos (by omega), if_pos (by omega)]
    · rw [u_ne c]
      unfold hsF
      by_cases d : 18 + 3 * fr ≤ i ∧ i < 18 + 3 * (fr + n)
      · rw [if_pos d, if_pos (by omega)]
      · rw [if_neg d]
        by_cases e : i = 18 + 3 * (fr + n) + 2
        · rw [if_pos (by omega), if_neg (by omega), if_neg (by omega)]
        · rw [if_neg (by omega)]
theorem l_comes732 {a1 a2 a3 a4 a5 a6 : Int32} {o fr : Nat} (h2 : a2.toInt = fr) (h3 : a3.toInt = o) (ho : o ≤ 4) (hle : fr + 2 ^ o ≤ 256) (σ : sm_S) : ∀ (d k : Nat) (a7 : Int32), a7.toInt = k → k + d = 2 ^ o →
    xE xM m_M_comes 73 [.ref 0, .int a1, .int a2, .int a3, .int a4, .int a5, .int a6, .int a7] [] (sm_set σ 1 (hsF (σ 1) fr k 3 (a1 + 1))) (sm_V (fun σ' => σ' = sm_set σ 1 (hsF (σ 1) fr (2 ^ o) 3 (a1 + 1)))) := by
  have hp := t_pw (k := o) (by omega)
  intro d
  induction d with
  | zero =>
    intro k a7 h7 hk
    have hk : k = 2 ^ o := by omega
    refine w_M_comes_73 a1 a2 a3 a4 a5 a6 a7 _ _ ⟨fun _ => ⟨rfl, by rw [hk]⟩, fun h => absurd ?_ h⟩
    rw [t_le, t_pow h3 (by omega), h7]
    omega
  | succ d ih =>
    intro k a7 h7 hk
    have h7' : (a7 + 1).toInt = ((k + 1 : Nat) : Int) := by
      rw [t_add h7 (y := 1) rfl (by omega) (by omega)]
      omega
    have hf3 := t_add h2 h7 (by omega) (by omega)
    rw [← Int.natCast_add] at hf3
    refine w_M_comes_73 a1 a2 a3 a4 a5 a6 a7 _ _ ⟨fun h => ?_, fun _ => (c_has hf3 (by omega) a1 3 _).void ?_⟩
    · rw [t_le, t_pow h3 (by omega), h7] at h
      omega
    · rintro _ rfl
      rw [s_ss, s_at, ← hsF_s]
      exact ih (k + 1) (a7 + 1) h7' (by omega)
/-- a block's row, as it begins -/
def blF (v : Nat → Int32) (n : Nat) (a2 a3 a4 a5 a6 : Int32) : Nat → Int32 := upd (upd (upd (upd (upd (upd (rg v (786 + 16 * n) 16 0) (786 + 16 * n + 0) 1) (786 + 16 * n + 1) a2) (786 + 16 * n + 2) a3) (786 + 16 * n + 3) a4) (786 + 16 * n + 4) a5) (786 + 16 * n + 8) a6
theorem blF_out {v : Nat → Int32} {n i : Nat} {a2 a3 a4 a5 a6 : Int32} (h : i < 786 + 16 * n ∨ 786 + 16 * n + 16 ≤ i) : blF v n a2 a3 a4 a5 a6 i = v i := by
  unfold blF
  rw [u_ne (by omega), u_ne (by omega), u_ne (by omega), u_ne (by omega), u_ne (by omega), u_ne (by omega), rg_out (by omega)]
theorem l_comes32 {a1 a2 a3 a4 a5 a6 : Int32} {n o fr : Nat} (h1 : a1.toInt = n) (hn : n < 96) (h2 : a2.toInt = fr) (h3 : a3.toInt = o) (ho : o ≤ 4) (hle : fr + 2 ^ o ≤ 256) (σ : sm_S) : ∀ (d k : Nat) (a7 : Int32), a7.toInt = k → k + d = 16 →
    xE xM m_M_comes 3 [.ref 0, .int a1, .int a2, .int a3, .int a4, .int a5, .int a6, .int a7] [] (sm_set σ 1 (rg (σ 1) (786 + 16 * n) k 0)) (sm_V (fun σ' => σ' = sm_set σ 1 (hsF (blF (σ 1) n a2 a3 a4 a5 a6) fr (2 ^ o) 3 (a1 + 1)))) := by
  intro d
  induction d with
  | zero =>
    intro k a7 h7 hk
    have hk : k = 16 := by omega
    subst hk
    refine w_M_comes_3 a1 a2 a3 a4 a5 a6 a7 _ _ ⟨fun _ => (c_lay (k := 0) (j := 0) h1 rfl (by omega) 1 _).void ?_, fun h => absurd ?_ h⟩
    · rintro _ rfl
      refine (c_lay (k := 1) (j := 1) h1 rfl (by omega) a2 _).void ?_
      rintro _ rfl
      refine (c_lay (k := 2) (j := 2) h1 rfl (by omega) a3 _).void ?_
      rintro _ rfl
      refine (c_lay (k := 3) (j := 3) h1 rfl (by omega) a4 _).void ?_
      rintro _ rfl
      refine (c_lay (k := 4) (j := 4) h1 rfl (by omega) a5 _).void ?_
      rintro _ rfl
      refine (c_lay (k := 8) (j := 8) h1 rfl (by omega) a6 _).void ?_
      rintro _ rfl
      simp only [s_at, s_ss]
      have := l_comes732 (a1 := a1) (a4 := a4) (a5 := a5) (a6 := a6) h2 h3 ho hle (sm_set σ 1 (blF (σ 1) n a2 a3 a4 a5 a6)) (2 ^ o) 0 0 rfl (by omega)
      rw [hsF_0, s_at, s_ss, s_ss] at this
      exact this
    · rw [t_le, h7]
      show (16 : Int) ≤ _
      omega
  | succ d ih =>
    intro k a7 h7 hk
    have h7' : (a7 + 1).toInt = ((k + 1 : Nat) : Int) := by
      rw [t_add h7 (y := 1) rfl (by omega) (by omega)]
      omega
    refine w_M_comes_3 a1 a2 a3 a4 a5 a6 a7 _ _ ⟨fun h => ?_, fun _ => (c_lay (j := k) h1 h7 (by omega) 0 _).void ?_⟩
    · rw [t_le, h7] at h
      have h : (16 : Int) ≤ _ := h
      omega
    · rintro _ rfl
      rw [s_ss, s_at, ← rg_s]
      exact ih (k + 1) (a7 + 1) h7' (by omega)
theorem c_comes2 {a1 a2 a3 : Int32} {n o fr : Nat} (h1 : a1.toInt = n) (hn : n < 96) (h2 : a2.toInt = fr) (h3 : a3.toInt = o) (ho : o ≤ 4) (hle : fr + 2 ^ o ≤ 256) (a4 a5 a6 : Int32) (σ : sm_S) : xC xM j_M_comes [.ref 0, .int a1, .int a2, .int a3, .int a4, .int a5, .int a6] σ (sm_V (fun σ' => σ' = sm_set σ 1 (hsF (blF (σ 1) n a2 a3 a4 a5 a6) fr (2 ^ o) 3 (a1 + 1)))) := by
  refine w_M_comes a1 a2 a3 a4 a5 a6 σ _ ?_
  have := l_comes32 (a4 := a4) (a5 := a5) (a6 := a6) h1 hn h2 h3 ho hle σ 16 0 0 rfl rfl
  rw [rg_0, s_id] at this
  exact this
/-- a count grows -/
def cnF (v : Nat → Int32) (k : Nat) (x : Int32) : Nat → Int32 := upd v (7 + k) (v (7 + k) + x)
theorem c_drops2 {b : Int32} {n o fr N : Nat} (hb : b.toInt = n) (hn : n < 96) (ho : o ≤ 4) (hal : fr + 2 ^ o ≤ 256) (σ : sm_S) (h5 : (σ 1 5).toInt = N) (ho2 : (σ 1 (786 + 16 * n + 2)).toInt = o) (hf2 : (σ 1 (786 + 16 * n + 1)).toInt = fr) : xC xM j_M_drops [.ref 0, .int b] σ (sm_V (fun σ' => σ' = sm_set σ 1 (upd (lvF (cnF (wrF (σ 1) N 6 b (σ 1 (786 + 16 * n + 1))) 5 1) fr (2 ^ o)) (786 + 16 * n + 0) 0))) := by
  have hm : N % 60 < 60 := Nat.mod_lt _ (by decide)
  have keep : ∀ i, 786 ≤ i → i < 2422 → cnF (wrF (σ 1) N 6 b (σ 1 (786 + 16 * n + 1))) 5 1 i = σ 1 i := fun i h1 h2 => by
    unfold cnF wrF
    rw [u_ne (by omega), u_ne (by omega), u_ne (by omega), u_ne (by omega), u_ne (by omega), u_ne (by omega)]
  refine w_M_drops b σ _ ((c_frameOf hb hn σ).int ?_)
  rintro _ _ ⟨rfl, rfl⟩
  refine (c_writes2 6 b _ _ h5).void ?_
  rintro _ rfl
  refine (c_counts (k := 5) (j := 5) rfl (by decide) 1 _).void ?_
  rintro _ rfl
  rw [s_at, s_ss]
  refine (c_goes2 hb hn ho hal _ (by rw [s_at]; exact (congrArg Int32.toInt (keep _ (by omega) (by omega))).trans ho2) (by rw [s_at]; exact (congrArg Int32.toInt (keep _ (by omega) (by omega))).trans hf2)).void ?_
  rintro _ rfl
  refine ⟨rfl, ?_⟩
  rw [s_at, s_ss]
  rfl
/-- frame by frame a block moves at once -/
def mvF (v : Nat → Int32) (p fr : Nat) (x : Int32) : Nat → Nat → Int32
  | 0 => v
  | k + 1 => upd (upd (upd (upd (upd (upd (mvF v p fr x k) (18 + 3 * (p + k)) 3) (18 + 3 * (p + k) + 1) x) (18 + 3 * (p + k) + 2) (mvF v p fr x k (18 + 3 * (fr + k) + 2))) (18 + 3 * (fr + k)) (shV (mvF v p fr x k) (fr + k))) (18 + 3 * (fr + k) + 1) 0) (18 + 3 * (fr + k) + 2) 0
/-- it is: given the new frames, with the values, and left the old ones -/
theorem mvF_at {v : Nat → Int32} {p fr : Nat} {x : Int32} : ∀ {k : Nat}, p + k ≤ 256 → fr + k ≤ 256 → (p + k ≤ fr ∨ fr + k ≤ p) → ∀ i, mvF v p fr x k i = (if 18 + 3 * fr ≤ i ∧ i < 18 + 3 * (fr + k) then (if (i - 18) % 3 = 0 then shV v ((i - 18) / 3) else 0) else if 18 + 3 * p ≤ i ∧ i < 18 + 3 * (p + k) then (if (i - 18) % 3 = 0 then 3 else if (i - 18) % 3 = 1 then x else v (i - 3 * p + 3 * fr)) else v i)
  | 0, _, _, _, i => by
    rw [if_neg (by omega), if_neg (by omega)]
    rfl
  | k + 1, h1, h2, h3, i => by
    have ih := mvF_at (v := v) (p := p) (fr := fr) (x := x) (k := k) (by omega) (by omega) (by omega)
    have hv : mvF v p fr x k (18 + 3 * (fr + k) + 2) = v (18 + 3 * (fr + k) + 2) := by
      rw [ih, if_neg (by omega), if_neg (by omega)]
    have hq : mvF v p fr x k (2358 + 8 * ((fr + k) / 32) + 2) = v (2358 + 8 * ((fr + k) / 32) + 2) := by
      rw [ih, if_neg (by omega), if_neg (by omega)]
    have hs : shV (mvF v p fr x k) (fr + k) = shV v (fr + k) := by
      unfold shV
      rw [hq]
    show upd (upd (upd (upd (upd (upd (mvF v p fr x k) (18 + 3 * (p + k)) 3) (18 + 3 * (p + k) + 1) x) (18 + 3 * (p + k) + 2) (mvF v p fr x k (18 + 3 * (fr + k) + 2))) (18 + 3 * (fr + k)) (shV (mvF v p fr x k) (fr + k))) (18 + 3 * (fr + k) + 1) 0) (18 + 3 * (fr + k) + 2) 0 i = _
    rw [hv, hs]
    by_cases a1 : i = 18 + 3 * (fr + k) + 2
    · rw [a1, u_at, if_pos (by omega), if_neg (by omega)]
    · rw [u_ne a1]
      by_cases a2 : i = 18 + 3 * (fr + k) + 1
      · rw [a2, u_at, if_pos (by omega), if_neg (by omega)]
      · rw [u_ne a2]
        by_cases a3 : i = 18 + 3 * (fr + k)
        · rw [a3, u_at, if_pos (by omega), if_pos (by omega)]
          exact congrArg (shV v) (by omega)
        · rw [u_ne a3]
          by_cases a4 : i = 18 + 3 * (p + k) + 2
          · rw [a4, u_at, if_neg (by omega), if_pos (by omega), if_neg (by omega), if_neg (by omega)]
            exact congrArg v (by omega)
          · rw [u_ne a4]
            by_cases a5 : i = 18 + 3 * (p + k) + 1
            · rw [a5, u_at, if_neg (by omega), if_pos (by omega), if_neg (by omega), if_pos (by omega)]
            · rw [u_ne a5]
              by_cases a6 : i = 18 + 3 * (p + k)
              · rw [a6, u_at, if_neg (by omega), if_pos (by omega), if_pos (by omega)]
              · rw [u_ne a6, ih]
                by_cases b1 : 18 + 3 * fr ≤ i ∧ i < 18 + 3 * (fr + k)
                · rw [if_pos b1, if_pos (show 18 + 3 * fr ≤ i ∧ i < 18 + 3 * (fr + (k + 1)) by omega)]
                · rw [if_neg b1, if_neg (show ¬ (18 + 3 * fr ≤ i ∧ i < 18 + 3 * (fr + (k + 1))) by omega)]
                  by_cases b2 : 18 + 3 * p ≤ i ∧ i < 18 + 3 * (p + k)
                  · rw [if_pos b2, if_pos (show 18 + 3 * p ≤ i ∧ i < 18 + 3 * (p + (k + 1)) by omega)]
                  · rw [if_neg b2, if_neg (by omega)]
theorem l_movesTo2 {a1 a2 a3 : Int32} {n o p fr : Nat} (h1 : a1.toInt = n) (hn : n < 96) (h2 : a2.toInt = p) (h3 : a3.toInt = fr) (ho : o ≤ 4) (hp2 : p + 2 ^ o ≤ 256) (hf2 : fr + 2 ^ o ≤ 256) (hd : p + 2 ^ o ≤ fr ∨ fr + 2 ^ o ≤ p) (σ : sm_S) (ho2 : (σ 1 (786 + 16 * n + 2)).toInt = o) : ∀ (d k : Nat) (a4 : Int32), a4.toInt = k → k + d = 2 ^ o →
    xE xM m_M_movesTo 9 [.ref 0, .int a1, .int a2, .int a3, .int a4] [] (sm_set σ 1 (mvF (σ 1) p fr (a1 + 1) k)) (sm_V (fun σ' => σ' = sm_set σ 1 (cnF (upd (mvF (σ 1) p fr (a1 + 1) (2 ^ o)) (786 + 16 * n + 1) a2) 10 1))) := by
  have hp := t_pw (k := o) (by omega)
  have far : ∀ k, k ≤ 2 ^ o → mvF (σ 1) p fr (a1 + 1) k (786 + 16 * n + 2) = σ 1 (786 + 16 * n + 2) := fun k hk => by
    rw [mvF_at (by omega) (by omega) (by omega), if_neg (by omega), if_neg (by omega)]
  intro d
  induction d with
  | zero =>
    intro k a4 h4 hk
    have hk : k = 2 ^ o := by omega
    refine w_M_movesTo_9 a1 a2 a3 a4 _ _ ((c_longOf h1 hn _).int ?_)
    rintro _ _ ⟨rfl, rfl⟩
    rw [s_at, far k (by omega)]
    refine ⟨fun _ => (c_lay (k := 1) (j := 1) h1 rfl (by omega) a2 _).void ?_, fun h => absurd ?_ h⟩
    · rintro _ rfl
      refine (c_counts (k := 10) (j := 10) rfl (by decide) 1 _).void ?_
      rintro _ rfl
      refine ⟨rfl, ?_⟩
      simp only [s_at, s_ss, hk]
      rfl
    · rw [t_le, t_pow ho2 (by omega), h4]
      omega
  | succ d ih =>
    intro k a4 h4 hk
    have h4' : (a4 + 1).toInt = ((k + 1 : Nat) : Int) := by
      rw [t_add h4 (y := 1) rfl (by omega) (by omega)]
      omega
    have q2 := t_add h2 h4 (by omega) (by omega)
    have q3 := t_add h3 h4 (by omega) (by omega)
    rw [← Int.natCast_add] at q2 q3
    refine w_M_movesTo_9 a1 a2 a3 a4 _ _ ((c_longOf h1 hn _).int ?_)
    rintro _ _ ⟨rfl, rfl⟩
    rw [s_at, far k (by omega)]
    refine ⟨fun h => ?_, fun _ => (c_has q2 (by omega) a1 3 _).void ?_⟩
    · rw [t_le, t_pow ho2 (by omega), h4] at h
      omega
    · rintro _ rfl
      refine (c_valueOf q3 (by omega) _).int ?_
      rintro _ _ ⟨rfl, rfl⟩
      refine (c_lays q2 (by omega) _ _).void ?_
      rintro _ rfl
      refine (c_leaves2 q3 (by omega) _).void ?_
      rintro _ rfl
      have e1 : shV (upd (upd (upd (mvF (σ 1) p fr (a1 + 1) k) (18 + 3 * (p + k)) 3) (18 + 3 * (p + k) + 1) (a1 + 1)) (18 + 3 * (p + k) + 2) (mvF (σ 1) p fr (a1 + 1) k (18 + 3 * (fr + k) + 2))) (fr + k) = shV (mvF (σ 1) p fr (a1 + 1) k) (fr + k) := by
        unfold shV
        rw [u_ne (by omega), u_ne (by omega), u_ne (by omega)]
      have e2 : upd (upd (mvF (σ 1) p fr (a1 + 1) k) (18 + 3 * (p + k)) 3) (18 + 3 * (p + k) + 1) (a1 + 1) (18 + 3 * (fr + k) + 2) = mvF (σ 1) p fr (a1 + 1) k (18 + 3 * (fr + k) + 2) := by
        rw [u_ne (by omega), u_ne (by omega)]
      simp only [s_at, s_ss]
      rw [e2, e1]
      exact ih (k + 1) (a4 + 1) h4' (by omega)
theorem c_movesTo2 {a1 a2 : Int32} {n o p fr : Nat} (h1 : a1.toInt = n) (hn : n < 96) (h2 : a2.toInt = p) (ho : o ≤ 4) (hp2 : p + 2 ^ o ≤ 256) (hf2 : fr + 2 ^ o ≤ 256) (hd : p + 2 ^ o ≤ fr ∨ fr + 2 ^ o ≤ p) (σ : sm_S) (hf : (σ 1 (786 + 16 * n + 1)).toInt = fr) (ho2 : (σ 1 (786 + 16 * n + 2)).toInt = o) : xC xM j_M_movesTo [.ref 0, .int a1, .int a2] σ (sm_V (fun σ' => σ' = sm_set σ 1 (cnF (upd (mvF (σ 1) p fr (a1 + 1) (2 ^ o)) (786 + 16 * n + 1) a2) 10 1))) := by
  refine w_M_movesTo a1 a2 σ _ ((c_frameOf h1 hn σ).int ?_)
  rintro _ _ ⟨rfl, rfl⟩
  have := l_movesTo2 h1 hn h2 hf ho hp2 hf2 hd _ ho2 (2 ^ o) 0 0 rfl (by omega)
  simp only [mvF] at this
  rw [s_id] at this
  exact this
end
section
/-! ===== the simulation: what touches neither frames nor blocks nor spans nor tasks ===== -/
theorem sim0.n0 {c c' : sm_S} {v v' : Nat → Int32} (h : sim0 c v) (hk : ∀ b, b < 96 → bk_ok v b) (hc : ∀ k, 2 ≤ k → k ≤ 33 → k ≠ 8 → c' k = c k) (hv : ∀ i, 18 ≤ i → i < 2422 → v' i = v i) (hN : sN c' v') : sim0 c' v' := by
  refine ⟨fun f hf => ?_, fun b hb => ?_, fun s hs => ?_, fun t ht => ?_, ?_, hN, ?_⟩
  · exact (h.F f hf).cg (by rw [hc 2 (by decide) (by decide) (by decide)]) (by rw [hc 3 (by decide) (by decide) (by decide)]) (by rw [hc 4 (by decide) (by decide) (by decide)]) (by rw [hc 5 (by decide) (by decide) (by decide)]) (by rw [hc 6 (by decide) (by decide) (by decide)]) (by rw [hc 7 (by decide) (by decide) (by decide)]) (hv _ (by omega) (by omega)) (hv _ (by omega) (by omega)) (hv _ (by omega) (by omega))
  · exact (h.B b hb).cg (by rw [hc 9 (by decide) (by decide) (by decide)]) (by rw [hc 10 (by decide) (by decide) (by decide)]) (by rw [hc 11 (by decide) (by decide) (by decide)]) (by rw [hc 12 (by decide) (by decide) (by decide)]) (by rw [hc 13 (by decide) (by decide) (by decide)]) (by rw [hc 14 (by decide) (by decide) (by decide)]) (by rw [hc 15 (by decide) (by decide) (by decide)]) (by rw [hc 16 (by decide) (by decide) (by decide)]) (fun k hk => hv _ (by omega) (by omega))
  · exact (h.S s hs).cg (fun k h1 h2 => by rw [hc k (by omega) (by omega) (by omega)]) (fun k hk => hv _ (by omega) (by omega))
  · exact (h.T t ht).cg (fun k h1 h2 => by rw [hc k (by omega) (by omega) (by omega)]) (fun k hk => hv _ (by omega) (by omega))
  · obtain ⟨L, hL⟩ := h.Q
    exact ⟨L, hL.cg (by rw [hc 26 (by decide) (by decide) (by decide)]) (hc 28 (by decide) (by decide) (by decide)) (hc 33 (by decide) (by decide) (by decide)) (fun b k h1 h2 h3 => hv _ (by omega) (by omega))⟩
  · exact h.O.cg (fun i h1 h2 _ => hv i h1 (by omega)) (fun b k h1 h2 => hv _ (by omega) (by omega)) (fun s hs => hv _ (by omega) (by omega)) hk
theorem sim_cnt {c : sm_S} {v : Nat → Int32} {k : Nat} (x : Int32) (h : sim0 c v) (hk : ∀ b, b < 96 → bk_ok v b) (h11 : k < 11) : sim0 (sm_set c 40 (upd (c 40) k (c 40 k + x))) (cnF v k x) := by
  have g := h.N
  have e : ∀ i, i ≠ 7 + k → cnF v k x i = v i := fun i hi => u_ne hi
  refine h.n0 hk (fun j h1 h2 h3 => s_ne (by omega)) (fun i h1 h2 => e i (by omega)) ⟨?_, ?_, ?_, ?_, fun j hj => ?_, ?_, ?_⟩
  · rw [s_ne (by decide), e 0 (by omega)]; exact g.rat
  · rw [s_ne (by decide), e 1 (by omega)]; exact g.tri
  · rw [s_ne (by decide), e 2 (by omega)]; exact g.rto
  · rw [s_ne (by decide), e 3 (by omega)]; exact g.pau
  · rw [s_at]
    by_cases q : j = k
    · subst q
      rw [u_at, g.cnt j hj]
      exact u_at.symm
    · rw [u_ne q, e (7 + j) (by omega)]
      exact g.cnt j hj
  · rw [s_ne (by decide), e 4 (by omega)]; exact g.tic
  · rw [s_ne (by decide), e 6 (by omega)]; exact g.use
theorem wrF_lo {v : Nat → Int32} {n i : Nat} {a b c : Int32} (h : i < 2422) (h5 : i ≠ 5) : wrF v n a b c i = v i := by
  unfold wrF
  rw [u_ne h5, u_ne (by omega), u_ne (by omega), u_ne (by omega), u_ne (by omega)]
theorem laC_o {c : sm_S} {n k : Nat} {a1 a2 a3 a4 : Int32} (h : k < 34 ∨ 38 < k) : laC c n a1 a2 a3 a4 k = c k := by
  unfold laC
  rw [s_ne (by omega), s_ne (by omega), s_ne (by omega), s_ne (by omega), s_ne (by omega)]
theorem sim_log0 {c : sm_S} {v : Nat → Int32} {n m : Nat} {a1 a2 a3 a4 b1 b2 b3 : Int32} (h : sim0 c v) (hk : ∀ b, b < 96 → bk_ok v b) : sim0 (laC c n a1 a2 a3 a4) (wrF v m b1 b2 b3) :=
  h.n0 hk (fun k h1 h2 h3 => laC_o (by omega)) (fun i h1 h2 => wrF_lo (by omega) (by omega)) (h.N.cg (laC_o (by omega)) (laC_o (by omega)) (by rw [laC_o (by omega)]) (by rw [laC_o (by omega)]) (fun i hi h5 => wrF_lo (by omega) h5))
/-- a line on both sides -/
theorem sL_log {c : sm_S} {v : Nat → Int32} {n : Nat} {a2 a3 a4 : Int32} (h : sL c v) (h5 : (v 5).toInt = n) (hn : n < 2000000000) (ht : c 0 7 = v 4) : sL (laC c (n % 60) (c 0 7) a2 a3 a4) (wrF v n a2 a3 a4) := by
  have hm : n % 60 < 60 := Nat.mod_lt _ (by decide)
  have w5 : wrF v n a2 a3 a4 5 = v 5 + 1 := u_at
  have w5i : (v 5 + 1).toInt = ((n + 1 : Nat) : Int) := by
    rw [t_add h5 (y := 1) rfl (by omega) (by omega)]
    omega
  refine ⟨?_, ⟨n + 1, by rw [w5]; exact w5i, ?_⟩, fun k hk => ?_⟩
  · rw [w5]
    have q : laC c (n % 60) (c 0 7) a2 a3 a4 34 4 = c 34 4 + 1 := rfl
    rw [q, h.lns]
  · show (upd (upd (c 34) 5 (if n % 60 + 1 < 60 then nI (n % 60 + 1) else 0)) 4 (c 34 4 + 1) 5).toInt = _
    rw [u_ne (by decide), u_at]
    by_cases q : n % 60 + 1 < 60
    · rw [if_pos q, show (n + 1) % 60 = n % 60 + 1 by omega]
      exact nI_toInt (by omega)
    · rw [if_neg q, show (n + 1) % 60 = 0 by omega]
      rfl
  · obtain ⟨g1, g2, g3, g4⟩ := h.ent k hk
    have q35 : laC c (n % 60) (c 0 7) a2 a3 a4 35 = upd (c 35) (n % 60) (c 0 7) := rfl
    have q36 : laC c (n % 60) (c 0 7) a2 a3 a4 36 = upd (c 36) (n % 60) a2 := rfl
    have q37 : laC c (n % 60) (c 0 7) a2 a3 a4 37 = upd (c 37) (n % 60) a3 := rfl
    have q38 : laC c (n % 60) (c 0 7) a2 a3 a4 38 = upd (c 38) (n % 60) a4 := rfl
    rw [q35, q36, q37, q38]
    unfold wrF
    by_cases q : k = n % 60
    · subst q
      rw [u_at, u_at, u_at, u_at, u_ne (by omega), u_ne (by omega), u_ne (by omega), u_ne (by omega), u_at, u_ne (by omega), u_ne (by omega), u_ne (by omega), u_at, u_ne (by omega), u_ne (by omega), u_at, u_ne (by omega), u_at]
      exact ⟨ht.symm, rfl, rfl, rfl⟩
    · rw [u_ne q, u_ne q, u_ne q, u_ne q, u_ne (by omega), u_ne (by omega), u_ne (by omega), u_ne (by omega), u_ne (by omega), u_ne (by omega), u_ne (by omega), u_ne (by omega), u_ne (by omega), u_ne (by omega), u_ne (by omega), u_ne (by omega), u_ne (by omega), u_ne (by omega), u_ne (by omega), u_ne (by omega), u_ne (by omega), u_ne (by omega), u_ne (by omega), u_ne (by omega)]
      exact ⟨g1, g2, g3, g4⟩
end
section
/-! ===== the simulation: frames are given and held ===== -/
/-- frames that were free are given, on both sides -/
theorem sF_gv4 {c : sm_S} {v : Nat → Int32} {fr o f : Nat} {b : Int32} (g : sF c v f) (ho : o ≤ 4) (hal : fr % 2 ^ o = 0) (hin : fr ≤ f → f < fr + 2 ^ o → v (18 + 3 * f) = 1) : sF (gvC c 4 b fr o) (hsF v fr (2 ^ o) 3 (b + 1)) f := by
  have ha := t_al (k := o) (by omega) hal
  have hi : f % 32 < 32 := Nat.mod_lt _ (by decide)
  have hpf : fr % 32 < 32 := Nat.mod_lt _ (by decide)
  have c2 : gvC c 4 b fr o 2 = upd (c 2) (fr / 32) (c 2 (fr / 32) &&& (rgB (fr % 32) o ^^^ (-1))) := rfl
  have c3 : gvC c 4 b fr o 3 = c 3 := rfl
  have cK : gvC c 4 b fr o 4 = upd (c 4) (fr / 32) (c 4 (fr / 32) ||| rgB (fr % 32) o) := rfl
  have cJ : gvC c 4 b fr o 5 = c 5 := rfl
  have c6 : gvC c 4 b fr o 6 = rg (c 6) fr (2 ^ o) b := rfl
  have c7 : gvC c 4 b fr o 7 = c 7 := rfl
  by_cases hr : fr ≤ f ∧ f < fr + 2 ^ o
  · have hs : f / 32 = fr / 32 := by omega
    obtain ⟨e0, e1, e2⟩ := hsF_in (v := v) (s := 3) (x := b + 1) hr.1 hr.2
    have hrg : bit (rgB (fr % 32) o) (f % 32) := (rgB_iff ho hpf hi).mpr (by omega)
    have h1 := hin hr.1 hr.2
    have n3 : ¬ bit (c 3 (f / 32)) (f % 32) := fun z => by
      rw [g.apa, h1] at z
      exact absurd z (by decide)
    have nJ : ¬ bit (c 5 (f / 32)) (f % 32) := fun z => by
      rw [g.hel, h1] at z
      exact absurd z (by decide)
    have kK : bit (gvC c 4 b fr o 4 (f / 32)) (f % 32) := by
      rw [cK, hs, u_at, bit_or]
      exact Or.inr hrg
    refine ⟨?_, ?_, ?_, ?_, ?_, ?_, ?_⟩
    · rw [e0]
      decide
    · rw [e0, c2, hs, u_at, bit_and, bit_not hi]
      exact ⟨fun z => absurd hrg z.2, fun z => absurd z (by decide)⟩
    · rw [e0, c3]
      exact ⟨fun z => absurd z n3, fun z => absurd z (by decide)⟩
    · rw [e0]
      exact ⟨fun _ => rfl, fun _ => kK⟩
    · rw [e0]
      rw [cJ]
      exact ⟨fun z => absurd z nJ, fun z => absurd z (by decide)⟩
    · rw [e1, c6, rg_in hr.1 hr.2]
    · rw [e2, c7]
      exact g.val
  · have e0 : hsF v fr (2 ^ o) 3 (b + 1) (18 + 3 * f) = v (18 + 3 * f) := hsF_out (by omega)
    have e1 : hsF v fr (2 ^ o) 3 (b + 1) (18 + 3 * f + 1) = v (18 + 3 * f + 1) := hsF_out (by omega)
    have e2 : hsF v fr (2 ^ o) 3 (b + 1) (18 + 3 * f + 2) = v (18 + 3 * f + 2) := hsF_out (by omega)
    by_cases hs : f / 32 = fr / 32
    · have hrg : ¬ bit (rgB (fr % 32) o) (f % 32) := fun z => by
        have := (rgB_iff ho hpf hi).mp z
        omega
      have k2 := g.fre
      have kK := g.tak
      rw [hs] at k2 kK
      have r2 : bit (gvC c 4 b fr o 2 (f / 32)) (f % 32) ↔ v (18 + 3 * f) = 1 := by
        rw [c2, hs, u_at, bit_and, bit_not hi, ← k2]
        exact ⟨fun z => z.1, fun z => ⟨z, hrg⟩⟩
      have rK : bit (gvC c 4 b fr o 4 (f / 32)) (f % 32) ↔ v (18 + 3 * f) = 3 := by
        rw [cK, hs, u_at, bit_or, ← kK]
        exact ⟨fun z => z.elim id (fun z => absurd z hrg), Or.inl⟩
      have rJ : bit (gvC c 4 b fr o 5 (f / 32)) (f % 32) ↔ v (18 + 3 * f) = 4 := by
        rw [cJ]
        exact g.hel
      exact ⟨by rw [e0]; exact g.rng, by rw [e0]; exact r2, by rw [e0, c3]; exact g.apa, by rw [e0]; exact rK, by rw [e0]; exact rJ, by rw [e1, c6, rg_out (by omega)]; exact g.blk, by rw [e2, c7]; exact g.val⟩
    · exact g.cg (by rw [c2, u_ne hs]) (by rw [c3]) (by rw [cK, u_ne hs]) (by rw [cJ]) (by rw [c6, rg_out (by omega)]) (by rw [c7]) e0 e1 e2
/-- frames that were free are held, on both sides -/
theorem sF_gv5 {c : sm_S} {v : Nat → Int32} {fr o f : Nat} {b : Int32} (g : sF c v f) (ho : o ≤ 4) (hal : fr % 2 ^ o = 0) (hin : fr ≤ f → f < fr + 2 ^ o → v (18 + 3 * f) = 1) : sF (gvC c 5 b fr o) (hsF v fr (2 ^ o) 4 (b + 1)) f := by
  have ha := t_al (k := o) (by omega) hal
  have hi : f % 32 < 32 := Nat.mod_lt _ (by decide)
  have hpf : fr % 32 < 32 := Nat.mod_lt _ (by decide)
  have c2 : gvC c 5 b fr o 2 = upd (c 2) (fr / 32) (c 2 (fr / 32) &&& (rgB (fr % 32) o ^^^ (-1))) := rfl
  have c3 : gvC c 5 b fr o 3 = c 3 := rfl
  have cK : gvC c 5 b fr o 5 = upd (c 5) (fr / 32) (c 5 (fr / 32) ||| rgB (fr % 32) o) := rfl
  have cJ : gvC c 5 b fr o 4 = c 4 := rfl
  have c6 : gvC c 5 b fr o 6 = rg (c 6) fr (2 ^ o) b := rfl
  have c7 : gvC c 5 b fr o 7 = c 7 := rfl
  by_cases hr : fr ≤ f ∧ f < fr + 2 ^ o
  · have hs : f / 32 = fr / 32 := by omega
    obtain ⟨e0, e1, e2⟩ := hsF_in (v := v) (s := 4) (x := b + 1) hr.1 hr.2
    have hrg : bit (rgB (fr % 32) o) (f % 32) := (rgB_iff ho hpf hi).mpr (by omega)
    have h1 := hin hr.1 hr.2
    have n3 : ¬ bit (c 3 (f / 32)) (f % 32) := fun z => by
      rw [g.apa, h1] at z
      exact absurd z (by decide)
    have nJ : ¬ bit (c 4 (f / 32)) (f % 32) := fun z => by
      rw [g.tak, h1] at z
      exact absurd z (by decide)
    have kK : bit (gvC c 5 b fr o 5 (f / 32)) (f % 32) := by
      rw [cK, hs, u_at, bit_or]
      exact Or.inr hrg
    refine ⟨?_, ?_, ?_, ?_, ?_, ?_, ?_⟩
    · rw [e0]
      decide
    · rw [e0, c2, hs, u_at, bit_and, bit_not hi]
      exact ⟨fun z => absurd hrg z.2, fun z => absurd z (by decide)⟩
    · rw [e0, c3]
      exact ⟨fun z => absurd z n3, fun z => absurd z (by decide)⟩
    · rw [e0]
      rw [cJ]
      exact ⟨fun z => absurd z nJ, fun z => absurd z (by decide)⟩
    · rw [e0]
      exact ⟨fun _ => rfl, fun _ => kK⟩
    · rw [e1, c6, rg_in hr.1 hr.2]
    · rw [e2, c7]
      exact g.val
  · have e0 : hsF v fr (2 ^ o) 4 (b + 1) (18 + 3 * f) = v (18 + 3 * f) := hsF_out (by omega)
    have e1 : hsF v fr (2 ^ o) 4 (b + 1) (18 + 3 * f + 1) = v (18 + 3 * f + 1) := hsF_out (by omega)
    have e2 : hsF v fr (2 ^ o) 4 (b + 1) (18 + 3 * f + 2) = v (18 + 3 * f + 2) := hsF_out (by omega)
    by_cases hs : f / 32 = fr / 32
    · have hrg : ¬ bit (rgB (fr % 32) o) (f % 32) := fun z => by
        have := (rgB_iff ho hpf hi).mp z
        omega
      have k2 := g.fre
      have kK := g.hel
      rw [hs] at k2 kK
      have r2 : bit (gvC c 5 b fr o 2 (f / 32)) (f % 32) ↔ v (18 + 3 * f) = 1 := by
        rw [c2, hs, u_at, bit_and, bit_not hi, ← k2]
        exact ⟨fun z => z.1, fun z => ⟨z, hrg⟩⟩
      have rK : bit (gvC c 5 b fr o 5 (f / 32)) (f % 32) ↔ v (18 + 3 * f) = 4 := by
        rw [cK, hs, u_at, bit_or, ← kK]
        exact ⟨fun z => z.elim id (fun z => absurd z hrg), Or.inl⟩
      have rJ : bit (gvC c 5 b fr o 4 (f / 32)) (f % 32) ↔ v (18 + 3 * f) = 3 := by
        rw [cJ]
        exact g.tak
      exact ⟨by rw [e0]; exact g.rng, by rw [e0]; exact r2, by rw [e0, c3]; exact g.apa, by rw [e0]; exact rJ, by rw [e0]; exact rK, by rw [e1, c6, rg_out (by omega)]; exact g.blk, by rw [e2, c7]; exact g.val⟩
    · exact g.cg (by rw [c2, u_ne hs]) (by rw [c3]) (by rw [cJ]) (by rw [cK, u_ne hs]) (by rw [c6, rg_out (by omega)]) (by rw [c7]) e0 e1 e2
end
section
/-! ===== the simulation: a block comes ===== -/
theorem bnC_o {c : sm_S} {b k : Nat} {x2 x3 x4 x5 : Int32} (h : k < 9 ∨ 15 < k) : bnC c b x2 x3 x4 x5 k = c k := by
  unfold bnC
  rw [s_ne (by omega), s_ne (by omega), s_ne (by omega), s_ne (by omega), s_ne (by omega), s_ne (by omega), s_ne (by omega)]
theorem gvC_o {c : sm_S} {m k : Nat} {b : Int32} {fr o : Nat} (h : k ≠ 2 ∧ k ≠ 6 ∧ k ≠ m) : gvC c m b fr o k = c k := by
  unfold gvC clC
  rw [s_ne h.2.2, s_ne h.2.1, s_ne h.1]
/-- the block b as it begins, on the class's side -/
def cmC (c : sm_S) (b : Nat) (x2 x3 x4 x5 x6 : Int32) : sm_S := sm_set (bnC c b x2 x3 x4 x5) 16 (upd (c 16) b x6)
theorem cmC_o {c : sm_S} {b k : Nat} {x2 x3 x4 x5 x6 : Int32} (h : k < 9 ∨ 16 < k) : cmC c b x2 x3 x4 x5 x6 k = c k := by
  unfold cmC
  rw [s_ne (by omega), bnC_o (by omega)]
theorem blF_0 {v : Nat → Int32} {n : Nat} {a2 a3 a4 a5 a6 : Int32} : blF v n a2 a3 a4 a5 a6 (786 + 16 * n + 0) = 1 ∧ blF v n a2 a3 a4 a5 a6 (786 + 16 * n + 1) = a2 ∧ blF v n a2 a3 a4 a5 a6 (786 + 16 * n + 2) = a3 ∧ blF v n a2 a3 a4 a5 a6 (786 + 16 * n + 3) = a4 ∧ blF v n a2 a3 a4 a5 a6 (786 + 16 * n + 4) = a5 ∧ blF v n a2 a3 a4 a5 a6 (786 + 16 * n + 8) = a6 := by
  unfold blF
  refine ⟨?_, ?_, ?_, ?_, ?_, ?_⟩
  · rw [u_ne (by omega), u_ne (by omega), u_ne (by omega), u_ne (by omega), u_ne (by omega), u_at]
  · rw [u_ne (by omega), u_ne (by omega), u_ne (by omega), u_ne (by omega), u_at]
  · rw [u_ne (by omega), u_ne (by omega), u_ne (by omega), u_at]
  · rw [u_ne (by omega), u_ne (by omega), u_at]
  · rw [u_ne (by omega), u_at]
  · rw [u_at]
theorem blF_z {v : Nat → Int32} {n j : Nat} {a2 a3 a4 a5 a6 : Int32} (h : j < 16) (h5 : 5 ≤ j) (h8 : j ≠ 8) : blF v n a2 a3 a4 a5 a6 (786 + 16 * n + j) = 0 := by
  unfold blF
  rw [u_ne (by omega), u_ne (by omega), u_ne (by omega), u_ne (by omega), u_ne (by omega), u_ne (by omega), rg_in (by omega) (by omega)]
theorem sim_comes {c : sm_S} {v : Nat → Int32} {b fr o : Nat} {bI x2 x3 x4 x5 x6 : Int32} (h : sim0 c v) (hk : ∀ b, b < 96 → bk_ok v b) (hb : b < 96) (hbI : bI.toInt = b) (h0 : v (786 + 16 * b + 0) = 0) (h9 : v (786 + 16 * b + 9) = 0) (h2 : x2.toInt = fr) (h3 : x3.toInt = o) (ho : o ≤ 4) (hfr : fr < 256) (hal : fr % 2 ^ o = 0) (hfree : ∀ j, j < 2 ^ o → v (18 + 3 * (fr + j)) = 1) : sim0 (gvC (cmC c b x2 x3 x4 x5 x6) 4 bI fr o) (hsF (blF v b x2 x3 x4 x5 x6) fr (2 ^ o) 3 (bI + 1)) := by
  have hle := al_le ho hfr hal
  have hb1 : (bI + 1).toInt = ((b + 1 : Nat) : Int) := by
    rw [t_add hbI (y := 1) rfl (by omega) (by omega)]
    omega
  have hx2 : x2 ≠ -1 := ne_m1 h2
  have frin : ∀ f, fr ≤ f → f < fr + 2 ^ o → v (18 + 3 * f) = 1 := fun f a1 a2 => by
    have := hfree (f - fr) (by omega)
    rw [show fr + (f - fr) = f by omega] at this
    exact this
  have hi : ∀ i, 786 ≤ i → hsF (blF v b x2 x3 x4 x5 x6) fr (2 ^ o) 3 (bI + 1) i = blF v b x2 x3 x4 x5 x6 i := fun i h1 => hsF_out (by omega)
  have old : ∀ i, 786 ≤ i → (i < 786 + 16 * b ∨ 786 + 16 * b + 16 ≤ i) → hsF (blF v b x2 x3 x4 x5 x6) fr (2 ^ o) 3 (bI + 1) i = v i := fun i h1 h2 => by rw [hi i h1, blF_out h2]
  have oldB : ∀ b' k, b' < 96 → k < 16 → b' ≠ b → hsF (blF v b x2 x3 x4 x5 x6) fr (2 ^ o) 3 (bI + 1) (786 + 16 * b' + k) = v (786 + 16 * b' + k) := fun b' k h1 h2 h3 => old _ (by omega) (by omega)
  have lo : ∀ i, i < 18 → hsF (blF v b x2 x3 x4 x5 x6) fr (2 ^ o) 3 (bI + 1) i = v i := fun i h1 => by rw [hsF_out (by omega), blF_out (by omega)]
  have out0 : ∀ f, f < 256 → ¬ (fr ≤ f ∧ f < fr + 2 ^ o) → hsF (blF v b x2 x3 x4 x5 x6) fr (2 ^ o) 3 (bI + 1) (18 + 3 * f) = v (18 + 3 * f) ∧ hsF (blF v b x2 x3 x4 x5 x6) fr (2 ^ o) 3 (bI + 1) (18 + 3 * f + 1) = v (18 + 3 * f + 1) := fun f a1 a2 => ⟨by rw [hsF_out (by omega), blF_out (by omega)], by rw [hsF_out (by omega), blF_out (by omega)]⟩
  have cg : ∀ k, k ≠ 2 → k ≠ 6 → k ≠ 4 → (k < 9 ∨ 16 < k) → gvC (cmC c b x2 x3 x4 x5 x6) 4 bI fr o k = c k := fun k h1 h2 h3 h4 => by rw [gvC_o ⟨h1, h2, h3⟩, cmC_o h4]
  have cgB : ∀ k, 9 ≤ k → k ≤ 16 → gvC (cmC c b x2 x3 x4 x5 x6) 4 bI fr o k = cmC c b x2 x3 x4 x5 x6 k := fun k h1 h2 => gvC_o (by omega)
  have c9 : cmC c b x2 x3 x4 x5 x6 9 = upd (c 9) b x2 := rfl
  have c10 : cmC c b x2 x3 x4 x5 x6 10 = upd (c 10) b x3 := rfl
  have c11 : cmC c b x2 x3 x4 x5 x6 11 = upd (c 11) b x4 := rfl
  have c12 : cmC c b x2 x3 x4 x5 x6 12 = upd (c 12) b x5 := rfl
  have c13 : cmC c b x2 x3 x4 x5 x6 13 = upd (c 13) b 0 := rfl
  have c14 : cmC c b x2 x3 x4 x5 x6 14 = upd (c 14) b (-1) := rfl
  have c15 : cmC c b x2 x3 x4 x5 x6 15 = upd (c 15) b 0 := rfl
  have c16 : cmC c b x2 x3 x4 x5 x6 16 = upd (c 16) b x6 := rfl
  obtain ⟨r0, r1, r2, r3, r4, r8⟩ := blF_0 (v := v) (n := b) (a2 := x2) (a3 := x3) (a4 := x4) (a5 := x5) (a6 := x6)
  refine ⟨fun f hf => ?_, fun b' hb' => ?_, fun s hs => ?_, fun t ht => ?_, ?_, ?_, ?_⟩
  · have g : sF (cmC c b x2 x3 x4 x5 x6) (blF v b x2 x3 x4 x5 x6) f := (h.F f hf).cg (by rw [cmC_o (by omega)]) (by rw [cmC_o (by omega)]) (by rw [cmC_o (by omega)]) (by rw [cmC_o (by omega)]) (by rw [cmC_o (by omega)]) (by rw [cmC_o (by omega)]) (blF_out (by omega)) (blF_out (by omega)) (blF_out (by omega))
    exact sF_gv4 g ho hal (fun a1 a2 => by rw [blF_out (by omega)]; exact frin f a1 a2)
  · by_cases e : b' = b
    · subst e
      refine Or.inr ⟨?_, ?_, ?_, ?_, ?_, ?_, ?_, ?_, ?_, ?_⟩
      · rw [cgB 9 (by decide) (by decide), c9, u_at]; exact hx2
      · rw [hi _ (by omega)]; exact r0
      · rw [hi _ (by omega), cgB 9 (by decide) (by decide), c9, u_at]; exact r1
      · rw [hi _ (by omega), cgB 10 (by decide) (by decide), c10, u_at]; exact r2
      · rw [hi _ (by omega), cgB 11 (by decide) (by decide), c11, u_at]; exact r3
      · rw [hi _ (by omega), cgB 12 (by decide) (by decide), c12, u_at]; exact r4
      · rw [hi _ (by omega), cgB 13 (by decide) (by decide), c13, u_at]; exact blF_z (by decide) (by decide) (by decide)
      · rw [hi _ (by omega), cgB 14 (by decide) (by decide), c14, u_at]; exact blF_z (by decide) (by decide) (by decide)
      · rw [hi _ (by omega), cgB 15 (by decide) (by decide), c15, u_at]; exact blF_z (by decide) (by decide) (by decide)
      · rw [hi _ (by omega), cgB 16 (by decide) (by decide), c16, u_at]; exact r8
    · exact (h.B b' hb').cg (by rw [cgB 9 (by decide) (by decide), c9, u_ne e]) (by rw [cgB 10 (by decide) (by decide), c10, u_ne e]) (by rw [cgB 11 (by decide) (by decide), c11, u_ne e]) (by rw [cgB 12 (by decide) (by decide), c12, u_ne e]) (by rw [cgB 13 (by decide) (by decide), c13, u_ne e]) (by rw [cgB 14 (by decide) (by decide), c14, u_ne e]) (by rw [cgB 15 (by decide) (by decide), c15, u_ne e]) (by rw [cgB 16 (by decide) (by decide), c16, u_ne e]) (fun k hk => oldB b' k hb' (by omega) e)
  · exact (h.S s hs).cg (fun k h1 h2 => by rw [cg k (by omega) (by omega) (by omega) (by omega)]) (fun k hk => old _ (by omega) (by omega))
  · exact (h.T t ht).cg (fun k h1 h2 => by rw [cg k (by omega) (by omega) (by omega) (by omega)]) (fun k hk => old _ (by omega) (by omega))
  · obtain ⟨L, hL⟩ := h.Q
    have h26 : gvC (cmC c b x2 x3 x4 x5 x6) 4 bI fr o 26 = c 26 := cg 26 (by decide) (by decide) (by decide) (by decide)
    have h28 : gvC (cmC c b x2 x3 x4 x5 x6) 4 bI fr o 28 = c 28 := cg 28 (by decide) (by decide) (by decide) (by decide)
    have h33 : gvC (cmC c b x2 x3 x4 x5 x6) 4 bI fr o 33 = c 33 := cg 33 (by decide) (by decide) (by decide) (by decide)
    have hl : lnC (gvC (cmC c b x2 x3 x4 x5 x6) 4 bI fr o) L = lnC c L := lnC_cg (fun k _ => by rw [h33])
    refine ⟨L, by rw [h26]; exact hL.len, hL.le6, by rw [h28, h33]; exact hL.tsk, by rw [hl]; exact hL.nod, by rw [h28, h33]; exact hL.all, fun b' hb' => ?_⟩
    obtain ⟨m, g1, g2⟩ := hL.lin b' hb'
    by_cases e : b' = b
    · subst e
      rw [h9] at g1
      have g1 : (0 : Int) = (m : Int) := g1
      have e0 : m = 0 := by omega
      subst e0
      refine ⟨0, ?_, ?_⟩
      · rw [hi _ (by omega), blF_z (by decide) (by decide) (by decide)]
        rfl
      · rw [hl, h28]
        exact g2
    · have hm : m ≤ 6 := by
        have a := congrArg List.length g2
        have lf := List.length_filter_le (fun t => decide ((c 28 t.toNatClampNeg).toInt = b')) (lnC c L)
        have d : (lnC c L).length = L := by unfold lnC; rw [List.length_map, List.length_range]
        have d2 : (lnV v b' m).length = m := by unfold lnV; rw [List.length_map, List.length_range]
        have := hL.le6
        omega
      refine ⟨m, by rw [oldB b' 9 hb' (by decide) e]; exact g1, ?_⟩
      rw [lnV_cg (fun n hn => oldB b' (10 + n) hb' (by omega) e), hl, h28]
      exact g2
  · exact h.N.cg (cg 39 (by decide) (by decide) (by decide) (by decide)) (cg 40 (by decide) (by decide) (by decide) (by decide)) (by rw [cg 0 (by decide) (by decide) (by decide) (by decide)]) (by rw [cg 8 (by decide) (by decide) (by decide) (by decide)]) (fun i hi _ => lo i hi)
  · have in3 : ∀ f, fr ≤ f → f < fr + 2 ^ o → hsF (blF v b x2 x3 x4 x5 x6) fr (2 ^ o) 3 (bI + 1) (18 + 3 * f) = 3 ∧ (hsF (blF v b x2 x3 x4 x5 x6) fr (2 ^ o) 3 (bI + 1) (18 + 3 * f + 1)).toInt = ((b + 1 : Nat) : Int) := fun f a1 a2 => by
      obtain ⟨q0, q1, -⟩ := hsF_in (v := blF v b x2 x3 x4 x5 x6) (s := 3) (x := bI + 1) a1 a2
      exact ⟨q0, by rw [q1]; exact hb1⟩
    refine ⟨fun b' fr' o' hb' g0 g1 g2 j hj => ?_, fun b' t' o' hb' g0 g6 g2 => ?_, fun f hf g3 => ?_, fun f hf g4 => ?_, fun f hf g3 g4 => ?_, fun f hf => ?_⟩
    · by_cases e : b' = b
      · subst e
        rw [hi _ (by omega), r1, h2] at g1
        rw [hi _ (by omega), r2, h3] at g2
        have e1 : fr' = fr := by omega
        have e2 : o' = o := by omega
        subst e1 e2
        exact in3 _ (by omega) (by omega)
      · rw [oldB b' 0 hb' (by decide) e] at g0
        rw [oldB b' 1 hb' (by decide) e] at g1
        rw [oldB b' 2 hb' (by decide) e] at g2
        have hx := h.O.hs b' fr' o' hb' g0 g1 g2 j hj
        obtain ⟨o2, fr2, p1, p2, p3, p4, p5, -⟩ := hk b' hb'
        have e1 : o2 = o' := by omega
        have e2 : fr2 = fr' := by omega
        subst e1 e2
        have hl := al_le p2 p4 p5
        have hout : ¬ (fr ≤ fr2 + j ∧ fr2 + j < fr + 2 ^ o) := fun z => by
          have hy := frin _ z.1 z.2
          rw [hx.1] at hy
          exact absurd hy (by decide)
        rw [(out0 _ (by omega) hout).1, (out0 _ (by omega) hout).2]
        exact hx
    · by_cases e : b' = b
      · subst e
        rw [hi _ (by omega), blF_z (by decide) (by decide) (by decide)] at g6
        have g6 : (0 : Int) = _ := g6
        omega
      · rw [oldB b' 0 hb' (by decide) e] at g0
        rw [oldB b' 6 hb' (by decide) e] at g6
        rw [oldB b' 2 hb' (by decide) e] at g2
        obtain ⟨hx1, hx2⟩ := h.O.hd b' t' o' hb' g0 g6 g2
        refine ⟨by rw [oldB b' 3 hb' (by decide) e]; exact hx1, fun j hj => ?_⟩
        have hx := hx2 j hj
        have hl := bk_to (hk b' hb') g6 g2
        have hout : ¬ (fr ≤ t' + j ∧ t' + j < fr + 2 ^ o) := fun z => by
          have hy := frin _ z.1 z.2
          rw [hx.1] at hy
          exact absurd hy (by decide)
        rw [(out0 _ (by omega) hout).1, (out0 _ (by omega) hout).2]
        exact hx
    · by_cases z : fr ≤ f ∧ f < fr + 2 ^ o
      · exact ⟨b, fr, o, hb, (in3 f z.1 z.2).2, by rw [hi _ (by omega)]; exact r0, by rw [hi _ (by omega), r1]; exact h2, by rw [hi _ (by omega), r2]; exact h3, z.1, z.2⟩
      · obtain ⟨k0, k1⟩ := out0 f hf z
        rw [k0] at g3
        obtain ⟨b', fr', o', p1, p2, p3, p4, p5, p6, p7⟩ := h.O.tk f hf g3
        have e : b' ≠ b := fun q => by
          subst q
          rw [h0] at p3
          exact absurd p3 (by decide)
        exact ⟨b', fr', o', p1, by rw [k1]; exact p2, by rw [oldB b' 0 p1 (by decide) e]; exact p3, by rw [oldB b' 1 p1 (by decide) e]; exact p4, by rw [oldB b' 2 p1 (by decide) e]; exact p5, p6, p7⟩
    · by_cases z : fr ≤ f ∧ f < fr + 2 ^ o
      · rw [(in3 f z.1 z.2).1] at g4
        exact absurd g4 (by decide)
      · obtain ⟨k0, k1⟩ := out0 f hf z
        rw [k0] at g4
        obtain ⟨b', t', o', p1, p2, p3, p4, p5, p6, p7⟩ := h.O.hl f hf g4
        have e : b' ≠ b := fun q => by
          subst q
          rw [h0] at p3
          exact absurd p3 (by decide)
        exact ⟨b', t', o', p1, by rw [k1]; exact p2, by rw [oldB b' 0 p1 (by decide) e]; exact p3, by rw [oldB b' 6 p1 (by decide) e]; exact p4, by rw [oldB b' 2 p1 (by decide) e]; exact p5, p6, p7⟩
    · by_cases z : fr ≤ f ∧ f < fr + 2 ^ o
      · exact absurd (in3 f z.1 z.2).1 g3
      · obtain ⟨k0, k1⟩ := out0 f hf z
        rw [k0] at g3 g4
        rw [k1]
        exact h.O.no f hf g3 g4
    · rw [old (2358 + 8 * (f / 32) + 0) (by omega) (by omega)]
      by_cases z : fr ≤ f ∧ f < fr + 2 ^ o
      · rw [(in3 f z.1 z.2).1, ← h.O.of f hf, frin f z.1 z.2]
        decide
      · rw [(out0 f hf z).1]
        exact h.O.of f hf
end
section
/-! ===== the simulation: values, pins, uses, what was read, homes, settings ===== -/
/-- values alone -/
theorem sim0.fv {c c' : sm_S} {v v' : Nat → Int32} (h : sim0 c v) (hk : ∀ b, b < 96 → bk_ok v b) (F' : ∀ f, f < 256 → sF c' v' f) (hc : ∀ k, k < 2 ∨ 7 < k → c' k = c k) (hv : ∀ i, i < 18 ∨ 786 ≤ i → v' i = v i) (hv2 : ∀ i, 18 ≤ i → i < 786 → i % 3 ≠ 2 → v' i = v i) : sim0 c' v' := by
  refine ⟨F', fun b hb => ?_, fun s hs => ?_, fun t ht => ?_, ?_, ?_, ?_⟩
  · exact (h.B b hb).cg (by rw [hc 9 (by omega)]) (by rw [hc 10 (by omega)]) (by rw [hc 11 (by omega)]) (by rw [hc 12 (by omega)]) (by rw [hc 13 (by omega)]) (by rw [hc 14 (by omega)]) (by rw [hc 15 (by omega)]) (by rw [hc 16 (by omega)]) (fun k hk => hv _ (by omega))
  · exact (h.S s hs).cg (fun k h1 h2 => by rw [hc k (by omega)]) (fun k hk => hv _ (by omega))
  · exact (h.T t ht).cg (fun k h1 h2 => by rw [hc k (by omega)]) (fun k hk => hv _ (by omega))
  · obtain ⟨L, hL⟩ := h.Q
    exact ⟨L, hL.cg (by rw [hc 26 (by omega)]) (hc 28 (by omega)) (hc 33 (by omega)) (fun b k h1 h2 h3 => hv _ (by omega))⟩
  · exact h.N.cg (hc 39 (by omega)) (hc 40 (by omega)) (by rw [hc 0 (by omega)]) (by rw [hc 8 (by omega)]) (fun i hi _ => hv i (by omega))
  · exact h.O.cg hv2 (fun b k h1 h2 => hv _ (by omega)) (fun s hs => hv _ (by omega)) hk
/-- blocks' rows alone, but not what frames, lines and spans lean on; and numbers -/
theorem sim0.bv {c c' : sm_S} {v v' : Nat → Int32} (h : sim0 c v) (hk : ∀ b, b < 96 → bk_ok v b) (B' : ∀ b, b < 96 → sB c' v' b) (hN : sN c' v') (hc : ∀ k, 2 ≤ k → k ≤ 33 → (k < 8 ∨ 16 < k) → c' k = c k) (hv : ∀ i, 18 ≤ i → i < 2422 → (i < 786 ∨ 2322 ≤ i) → v' i = v i) (hv2 : ∀ b k, b < 96 → k < 16 → (k = 0 ∨ k = 1 ∨ k = 2 ∨ k = 3 ∨ k = 6 ∨ 9 ≤ k) → v' (786 + 16 * b + k) = v (786 + 16 * b + k)) : sim0 c' v' := by
  refine ⟨fun f hf => ?_, B', fun s hs => ?_, fun t ht => ?_, ?_, hN, ?_⟩
  · exact (h.F f hf).cg (by rw [hc 2 (by omega) (by omega) (by omega)]) (by rw [hc 3 (by omega) (by omega) (by omega)]) (by rw [hc 4 (by omega) (by omega) (by omega)]) (by rw [hc 5 (by omega) (by omega) (by omega)]) (by rw [hc 6 (by omega) (by omega) (by omega)]) (by rw [hc 7 (by omega) (by omega) (by omega)]) (hv _ (by omega) (by omega) (by omega)) (hv _ (by omega) (by omega) (by omega)) (hv _ (by omega) (by omega) (by omega))
  · exact (h.S s hs).cg (fun k h1 h2 => by rw [hc k (by omega) (by omega) (by omega)]) (fun k hk => hv _ (by omega) (by omega) (by omega))
  · exact (h.T t ht).cg (fun k h1 h2 => by rw [hc k (by omega) (by omega) (by omega)]) (fun k hk => hv _ (by omega) (by omega) (by omega))
  · obtain ⟨L, hL⟩ := h.Q
    exact ⟨L, hL.cg (by rw [hc 26 (by omega) (by omega) (by omega)]) (hc 28 (by omega) (by omega) (by omega)) (hc 33 (by omega) (by omega) (by omega)) (fun b k h1 h2 h3 => hv2 b k h1 h3 (by omega))⟩
  · exact h.O.cg (fun i h1 h2 _ => hv i h1 (by omega) (by omega)) (fun b k h1 h2 => hv2 b k h1 (by omega) (by omega)) (fun s hs => hv _ (by omega) (by omega) (by omega)) hk
/-- tasks alone, but not who waits -/
theorem sim0.tv {c c' : sm_S} {v v' : Nat → Int32} (h : sim0 c v) (hk : ∀ b, b < 96 → bk_ok v b) (T' : ∀ t, t < 6 → sT c' v' t) (hc : ∀ k, k < 27 ∨ 32 < k ∨ k = 28 → c' k = c k) (hv : ∀ i, i < 2322 ∨ (2358 ≤ i ∧ i < 2422) → v' i = v i) : sim0 c' v' := by
  refine ⟨fun f hf => ?_, fun b hb => ?_, fun s hs => ?_, T', ?_, ?_, ?_⟩
  · exact (h.F f hf).cg (by rw [hc 2 (by omega)]) (by rw [hc 3 (by omega)]) (by rw [hc 4 (by omega)]) (by rw [hc 5 (by omega)]) (by rw [hc 6 (by omega)]) (by rw [hc 7 (by omega)]) (hv _ (by omega)) (hv _ (by omega)) (hv _ (by omega))
  · exact (h.B b hb).cg (by rw [hc 9 (by omega)]) (by rw [hc 10 (by omega)]) (by rw [hc 11 (by omega)]) (by rw [hc 12 (by omega)]) (by rw [hc 13 (by omega)]) (by rw [hc 14 (by omega)]) (by rw [hc 15 (by omega)]) (by rw [hc 16 (by omega)]) (fun k hk => hv _ (by omega))
  · exact (h.S s hs).cg (fun k h1 h2 => by rw [hc k (by omega)]) (fun k hk => hv _ (by omega))
  · obtain ⟨L, hL⟩ := h.Q
    exact ⟨L, hL.cg (by rw [hc 26 (by omega)]) (hc 28 (by omega)) (hc 33 (by omega)) (fun b k h1 h2 h3 => hv _ (by omega))⟩
  · exact h.N.cg (hc 39 (by omega)) (hc 40 (by omega)) (by rw [hc 0 (by omega)]) (by rw [hc 8 (by omega)]) (fun i hi _ => hv i (by omega))
  · exact h.O.cg (fun i h1 h2 _ => hv i (by omega)) (fun b k h1 h2 => hv _ (by omega)) (fun s hs => hv _ (by omega)) hk
theorem sim_val {c : sm_S} {v : Nat → Int32} {f : Nat} (x : Int32) (h : sim0 c v) (hk : ∀ b, b < 96 → bk_ok v b) (hf : f < 256) : sim0 (sm_set c 7 (upd (c 7) f x)) (upd v (18 + 3 * f + 2) x) := by
  refine h.fv hk (fun f' hf' => ?_) (fun k hk => s_ne (by omega)) (fun i hi => u_ne (by omega)) (fun i h1 h2 h3 => u_ne (by omega))
  have g := h.F f' hf'
  have e0 : upd v (18 + 3 * f + 2) x (18 + 3 * f') = v (18 + 3 * f') := u_ne (by omega)
  have e1 : upd v (18 + 3 * f + 2) x (18 + 3 * f' + 1) = v (18 + 3 * f' + 1) := u_ne (by omega)
  refine ⟨by rw [e0]; exact g.rng, by rw [e0, s_ne (by decide)]; exact g.fre, by rw [e0, s_ne (by decide)]; exact g.apa, by rw [e0, s_ne (by decide)]; exact g.tak, by rw [e0, s_ne (by decide)]; exact g.hel, by rw [e1, s_ne (by decide)]; exact g.blk, ?_⟩
  rw [s_at]
  by_cases q : f' = f
  · subst q
    rw [u_at, u_at]
  · rw [u_ne q, u_ne (by omega)]
    exact g.val
theorem sim_pin {c : sm_S} {v : Nat → Int32} {b : Nat} (x : Int32) (h : sim0 c v) (hk : ∀ b, b < 96 → bk_ok v b) (hb : b < 96) : sim0 (sm_set c 13 (upd (c 13) b x)) (upd v (786 + 16 * b + 5) x) := by
  refine h.bv hk (fun b' hb' => ?_) (h.N.cg (s_ne (by decide)) (s_ne (by decide)) (by rw [s_ne (by decide)]) (by rw [s_ne (by decide)]) (fun i hi _ => u_ne (by omega))) (fun k h1 h2 h3 => s_ne (by omega)) (fun i h1 h2 h3 => u_ne (by omega)) (fun b' k h1 h2 h3 => u_ne (by omega))
  by_cases q : b' = b
  · subst q
    have e : ∀ k, k < 9 → k ≠ 5 → upd v (786 + 16 * b' + 5) x (786 + 16 * b' + k) = v (786 + 16 * b' + k) := fun k _ hk => u_ne (by omega)
    rcases h.B b' hb' with ⟨g1, g2⟩ | ⟨g1, g2, g⟩
    · exact Or.inl ⟨by rw [s_ne (by decide)]; exact g1, by rw [e 0 (by decide) (by decide)]; exact g2⟩
    · exact Or.inr ⟨by rw [s_ne (by decide)]; exact g1, by rw [e 0 (by decide) (by decide)]; exact g2, ⟨by rw [e 1 (by decide) (by decide), s_ne (by decide)]; exact g.fir, by rw [e 2 (by decide) (by decide), s_ne (by decide)]; exact g.ord, by rw [e 3 (by decide) (by decide), s_ne (by decide)]; exact g.kin, by rw [e 4 (by decide) (by decide), s_ne (by decide)]; exact g.own, by rw [u_at, s_at, u_at], by rw [e 6 (by decide) (by decide), s_ne (by decide)]; exact g.tgt, by rw [e 7 (by decide) (by decide), s_ne (by decide)]; exact g.cop, by rw [e 8 (by decide) (by decide), s_ne (by decide)]; exact g.use⟩⟩
  · exact (h.B b' hb').cg (by rw [s_ne (by decide)]) (by rw [s_ne (by decide)]) (by rw [s_ne (by decide)]) (by rw [s_ne (by decide)]) (by rw [s_at, u_ne q]) (by rw [s_ne (by decide)]) (by rw [s_ne (by decide)]) (by rw [s_ne (by decide)]) (fun k hk => u_ne (by omega))
/-- one more use, of block b -/
def usC (c : sm_S) (b : Nat) : sm_S := sm_set (sm_set c 8 (upd (c 8) 8 (c 8 8 + 1))) 16 (upd (c 16) b (c 8 8 + 1))
def usF (v : Nat → Int32) (b : Nat) : Nat → Int32 := upd (upd v 6 (v 6 + 1)) (786 + 16 * b + 8) (v 6 + 1)
theorem sim_use {c : sm_S} {v : Nat → Int32} {b : Nat} (h : sim0 c v) (hk : ∀ b, b < 96 → bk_ok v b) (hb : b < 96) : sim0 (usC c b) (usF v b) := by
  have g0 := h.N
  have e : ∀ i, i ≠ 6 → i ≠ 786 + 16 * b + 8 → usF v b i = v i := fun i h1 h2 => by
    unfold usF
    rw [u_ne h2, u_ne h1]
  have ec : ∀ k, k ≠ 8 → k ≠ 16 → usC c b k = c k := fun k h1 h2 => by
    unfold usC
    rw [s_ne h2, s_ne h1]
  have e6 : usF v b 6 = v 6 + 1 := by
    unfold usF
    rw [u_ne (by omega), u_at]
  have e8 : usF v b (786 + 16 * b + 8) = v 6 + 1 := u_at
  have c8 : usC c b 8 8 = c 8 8 + 1 := rfl
  have c16 : usC c b 16 = upd (c 16) b (c 8 8 + 1) := rfl
  refine h.bv hk (fun b' hb' => ?_) ⟨?_, ?_, ?_, ?_, fun k hk => ?_, ?_, ?_⟩ (fun k h1 h2 h3 => ec k (by omega) (by omega)) (fun i h1 h2 h3 => e i (by omega) (by omega)) (fun b' k h1 h2 h3 => e _ (by omega) (by omega))
  · by_cases q : b' = b
    · subst q
      rcases h.B b' hb' with ⟨g1, g2⟩ | ⟨g1, g2, g⟩
      · exact Or.inl ⟨by rw [ec 9 (by decide) (by decide)]; exact g1, by rw [e _ (by omega) (by omega)]; exact g2⟩
      · exact Or.inr ⟨by rw [ec 9 (by decide) (by decide)]; exact g1, by rw [e _ (by omega) (by omega)]; exact g2, ⟨by rw [e _ (by omega) (by omega), ec 9 (by decide) (by decide)]; exact g.fir, by rw [e _ (by omega) (by omega), ec 10 (by decide) (by decide)]; exact g.ord, by rw [e _ (by omega) (by omega), ec 11 (by decide) (by decide)]; exact g.kin, by rw [e _ (by omega) (by omega), ec 12 (by decide) (by decide)]; exact g.own, by rw [e _ (by omega) (by omega), ec 13 (by decide) (by decide)]; exact g.pin, by rw [e _ (by omega) (by omega), ec 14 (by decide) (by decide)]; exact g.tgt, by rw [e _ (by omega) (by omega), ec 15 (by decide) (by decide)]; exact g.cop, by rw [e8, c16, u_at, g0.use]⟩⟩
    · exact (h.B b' hb').cg (by rw [ec 9 (by decide) (by decide)]) (by rw [ec 10 (by decide) (by decide)]) (by rw [ec 11 (by decide) (by decide)]) (by rw [ec 12 (by decide) (by decide)]) (by rw [ec 13 (by decide) (by decide)]) (by rw [ec 14 (by decide) (by decide)]) (by rw [ec 15 (by decide) (by decide)]) (by rw [c16, u_ne q]) (fun k hk => e _ (by omega) (by omega))
  · rw [ec 39 (by decide) (by decide), e 0 (by decide) (by omega)]; exact g0.rat
  · rw [ec 39 (by decide) (by decide), e 1 (by decide) (by omega)]; exact g0.tri
  · rw [ec 39 (by decide) (by decide), e 2 (by decide) (by omega)]; exact g0.rto
  · rw [ec 39 (by decide) (by decide), e 3 (by decide) (by omega)]; exact g0.pau
  · rw [ec 40 (by decide) (by decide), e (7 + k) (by omega) (by omega)]; exact g0.cnt k hk
  · rw [ec 0 (by decide) (by decide), e 4 (by decide) (by omega)]; exact g0.tic
  · rw [c8, e6, g0.use]
theorem sim_read {c : sm_S} {v : Nat → Int32} {t : Nat} (x : Int32) (h : sim0 c v) (hk : ∀ b, b < 96 → bk_ok v b) (ht : t < 6) : sim0 (sm_set c 29 (upd (c 29) t x)) (upd v (2322 + 6 * t + 5) x) := by
  refine h.tv hk (fun t' ht' => ?_) (fun k hk => s_ne (by omega)) (fun i hi => u_ne (by omega))
  have g := h.T t' ht'
  have e : ∀ k, k < 5 → upd v (2322 + 6 * t + 5) x (2322 + 6 * t' + k) = v (2322 + 6 * t' + k) := fun k hk => u_ne (by omega)
  refine ⟨by rw [e 0 (by decide), s_ne (by decide)]; exact g.hom, by rw [e 1 (by decide), s_ne (by decide)]; exact g.wai, ?_, by rw [e 2 (by decide), s_ne (by decide), s_ne (by decide)]; exact g.wis, by rw [e 3 (by decide), s_ne (by decide), s_ne (by decide)]; exact g.wat, by rw [e 4 (by decide), s_ne (by decide), s_ne (by decide)]; exact g.wva⟩
  rw [s_at]
  by_cases q : t' = t
  · subst q
    rw [u_at, u_at]
  · rw [u_ne q, u_ne (by omega)]
    exact g.rea
theorem sim_home {c : sm_S} {v : Nat → Int32} {t : Nat} (x : Int32) (h : sim0 c v) (hk : ∀ b, b < 96 → bk_ok v b) (ht : t < 6) : sim0 (sm_set c 27 (upd (c 27) t x)) (upd v (2322 + 6 * t + 0) x) := by
  refine h.tv hk (fun t' ht' => ?_) (fun k hk => s_ne (by omega)) (fun i hi => u_ne (by omega))
  have g := h.T t' ht'
  have e : ∀ k, 0 < k → k < 6 → upd v (2322 + 6 * t + 0) x (2322 + 6 * t' + k) = v (2322 + 6 * t' + k) := fun k h1 h2 => u_ne (by omega)
  refine ⟨?_, by rw [e 1 (by decide) (by decide), s_ne (by decide)]; exact g.wai, by rw [e 5 (by decide) (by decide), s_ne (by decide)]; exact g.rea, by rw [e 2 (by decide) (by decide), s_ne (by decide), s_ne (by decide)]; exact g.wis, by rw [e 3 (by decide) (by decide), s_ne (by decide), s_ne (by decide)]; exact g.wat, by rw [e 4 (by decide) (by decide), s_ne (by decide), s_ne (by decide)]; exact g.wva⟩
  rw [s_at]
  by_cases q : t' = t
  · subst q
    rw [u_at, u_at]
  · rw [u_ne q, u_ne (by omega)]
    exact g.hom
/-- what a task wishes who doesn't wait: nobody looks at it -/
theorem sim_wish {c : sm_S} {v : Nat → Int32} {t : Nat} (x y z : Int32) (h : sim0 c v) (hk : ∀ b, b < 96 → bk_ok v b) (ht : t < 6) (hw : c 28 t = -1) : sim0 (sm_set (sm_set (sm_set c 30 (upd (c 30) t x)) 31 (upd (c 31) t y)) 32 (upd (c 32) t z)) v := by
  have ec : ∀ k, k ≠ 30 → k ≠ 31 → k ≠ 32 → sm_set (sm_set (sm_set c 30 (upd (c 30) t x)) 31 (upd (c 31) t y)) 32 (upd (c 32) t z) k = c k := fun k h1 h2 h3 => by rw [s_ne h3, s_ne h2, s_ne h1]
  refine h.tv hk (fun t' ht' => ?_) (fun k hk => ec k (by omega) (by omega) (by omega)) (fun i hi => rfl)
  have g := h.T t' ht'
  have k30 : sm_set (sm_set (sm_set c 30 (upd (c 30) t x)) 31 (upd (c 31) t y)) 32 (upd (c 32) t z) 30 = upd (c 30) t x := rfl
  have k31 : sm_set (sm_set (sm_set c 30 (upd (c 30) t x)) 31 (upd (c 31) t y)) 32 (upd (c 32) t z) 31 = upd (c 31) t y := rfl
  have k32 : sm_set (sm_set (sm_set c 30 (upd (c 30) t x)) 31 (upd (c 31) t y)) 32 (upd (c 32) t z) 32 = upd (c 32) t z := rfl
  refine ⟨by rw [ec 27 (by decide) (by decide) (by decide)]; exact g.hom, by rw [ec 28 (by decide) (by decide) (by decide)]; exact g.wai, by rw [ec 29 (by decide) (by decide) (by decide)]; exact g.rea, fun q => ?_, fun q => ?_, fun q => ?_⟩
  all_goals
    rw [ec 28 (by decide) (by decide) (by decide)] at q
    have ne : t' ≠ t := fun r => q (by rw [r]; exact hw)
  · rw [k30, u_ne ne]; exact g.wis q
  · rw [k31, u_ne ne]; exact g.wat q
  · rw [k32, u_ne ne]; exact g.wva q
end
