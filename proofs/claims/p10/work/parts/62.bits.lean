/-! ===== the class: bits ===== -/
theorem odd_part : ∀ (n m : Nat), m ≤ n → m ≠ 0 → ∃ p q, m = 2 ^ p * (2 * q + 1)
  | 0, m, h, h0 => absurd (by omega) h0
  | n + 1, m, h, h0 => by
    by_cases hm : m % 2 = 1
    · exact ⟨0, m / 2, by omega⟩
    · obtain ⟨p, q, e⟩ := odd_part n (m / 2) (by omega) (by omega)
      refine ⟨p + 1, q, ?_⟩
      rw [Nat.pow_succ, Nat.mul_right_comm, ← e]
      omega
theorem ntz_key (x : Int32) (hx : x ≠ 0) : ∃ p, p < 32 ∧ ((x ^^^ (-1)) &&& (x - 1)) = nI (2 ^ p - 1) ∧ x.toBitVec.getLsbD p = true := by
  have hm : x.toBitVec.toNat ≠ 0 := fun h => hx (Int32.toBitVec_inj.mp (BitVec.eq_of_toNat_eq h))
  have hlt := x.toBitVec.isLt
  obtain ⟨p, q, hpq⟩ := odd_part _ _ (Nat.le_refl _) hm
  have hp2 : 2 ^ p ≤ x.toBitVec.toNat := by
    rw [hpq]
    exact Nat.le_mul_of_pos_right _ (by omega)
  have hp : p < 32 := (Nat.pow_lt_pow_iff_right (by decide : 1 < 2)).mp (Nat.lt_of_le_of_lt hp2 hlt)
  have hpos : 0 < 2 ^ p := Nat.two_pow_pos p
  have e1 : x.toBitVec.toNat - 1 = 2 ^ (p + 1) * q + (2 ^ p - 1) := by
    rw [hpq, Nat.pow_succ, Nat.mul_add, Nat.mul_one, ← Nat.mul_assoc]
    omega
  have e2 : x.toBitVec.toNat = 2 ^ (p + 1) * q + 2 ^ p := by
    rw [hpq, Nat.pow_succ, Nat.mul_add, Nat.mul_one, ← Nat.mul_assoc]
  have l1 : 2 ^ p - 1 < 2 ^ (p + 1) := by rw [Nat.pow_succ]; omega
  have l2 : 2 ^ p < 2 ^ (p + 1) := by rw [Nat.pow_succ]; omega
  have hsub : (x.toBitVec - (1 : Int32).toBitVec).toNat = x.toBitVec.toNat - 1 := by
    rw [BitVec.toNat_sub]
    show (2 ^ 32 - 1 + x.toBitVec.toNat) % 2 ^ 32 = _
    omega
  have tb : ∀ i, x.toBitVec.toNat.testBit i = if i < p + 1 then decide (p = i) else q.testBit (i - (p + 1)) := by
    intro i
    rw [e2, Nat.testBit_two_pow_mul_add q l2 i, Nat.testBit_two_pow]
  have ts : ∀ i, (x.toBitVec.toNat - 1).testBit i = if i < p + 1 then decide (i < p) else q.testBit (i - (p + 1)) := by
    intro i
    rw [e1, Nat.testBit_two_pow_mul_add q l1 i, Nat.testBit_two_pow_sub_one]
  refine ⟨p, hp, ?_, ?_⟩
  · apply Int32.toBitVec_inj.mp
    apply BitVec.eq_of_getLsbD_eq
    intro i hi
    have h1 : ((-1 : Int32)).toBitVec.getLsbD i = true := by
      show (BitVec.allOnes 32).getLsbD i = true
      rw [BitVec.getLsbD_allOnes]
      exact decide_eq_true hi
    have h3 : (nI (2 ^ p - 1)).toBitVec.getLsbD i = decide (i < p) := by
      show (BitVec.ofNat 32 (2 ^ p - 1)).getLsbD i = _
      rw [BitVec.getLsbD_ofNat, Nat.testBit_two_pow_sub_one]
      simp [hi]
    rw [Int32.toBitVec_and, Int32.toBitVec_xor, Int32.toBitVec_sub, BitVec.getLsbD_and, BitVec.getLsbD_xor, h1, h3]
    have h4 : (x.toBitVec - (1 : Int32).toBitVec).getLsbD i = (x.toBitVec.toNat - 1).testBit i := by
      rw [← hsub]; rfl
    have h5 : x.toBitVec.getLsbD i = x.toBitVec.toNat.testBit i := rfl
    rw [h4, h5, tb, ts]
    by_cases c : i < p + 1
    · rw [if_pos c, if_pos c]
      by_cases d : i < p
      · have : ¬ p = i := by omega
        simp [d, this]
      · simp [d]
    · rw [if_neg c, if_neg c]
      have : ¬ i < p := by omega
      simp [this]
  · show x.toBitVec.toNat.testBit p = true
    rw [tb, if_pos (by omega)]
    simp
theorem c_ntz (x : Int32) (σ : sm_S) : xC xD j_I_numberOfTrailingZeros [.int x] σ (sm_I (fun y σ' => ((x = 0 ∧ y = 32) ∨ ∃ p : Nat, p < 32 ∧ y.toInt = p ∧ x.toBitVec.getLsbD p = true) ∧ σ' = σ)) := by
  refine d_I_numberOfTrailingZeros x σ _ ?_
  by_cases h0 : x = 0
  · have e : ((x ^^^ (-1)) &&& (x - 1)) = -1 := by rw [h0]; decide
    rw [e]
    exact ⟨fun h => absurd h (by decide), fun _ => ⟨_, rfl, Or.inl ⟨h0, rfl⟩, rfl⟩⟩
  · obtain ⟨p, hp, e, hb⟩ := ntz_key x h0
    rw [e]
    have fin : ∀ y : Int32, y.toInt = p → sm_I (fun y σ' => ((x = 0 ∧ y = 32) ∨ ∃ p : Nat, p < 32 ∧ y.toInt = p ∧ x.toBitVec.getLsbD p = true) ∧ σ' = σ) (some (.int y)) σ := fun y hy => ⟨y, rfl, Or.inr ⟨p, hp, hy, hb⟩, rfl⟩
    clear hb e h0
    rcases (show p = 0 ∨ p = 1 ∨ p = 2 ∨ p = 3 ∨ p = 4 ∨ p = 5 ∨ p = 6 ∨ p = 7 ∨ p = 8 ∨ p = 9 ∨ p = 10 ∨ p = 11 ∨ p = 12 ∨ p = 13 ∨ p = 14 ∨ p = 15 ∨ p = 16 ∨ p = 17 ∨ p = 18 ∨ p = 19 ∨ p = 20 ∨ p = 21 ∨ p = 22 ∨ p = 23 ∨ p = 24 ∨ p = 25 ∨ p = 26 ∨ p = 27 ∨ p = 28 ∨ p = 29 ∨ p = 30 ∨ p = 31 by omega) with rfl | rfl | rfl | rfl | rfl | rfl | rfl | rfl | rfl | rfl | rfl | rfl | rfl | rfl | rfl | rfl | rfl | rfl | rfl | rfl | rfl | rfl | rfl | rfl | rfl | rfl | rfl | rfl | rfl | rfl | rfl | rfl
    all_goals repeat' (first | exact fin _ rfl | (refine ⟨fun h => ?_, fun h => ?_⟩ <;> first | exact absurd h (by decide) | skip))
theorem c_bitCount (x : Int32) (σ : sm_S) : xC xD j_I_bitCount [.int x] σ (sm_I (fun _ σ' => σ' = σ)) := d_I_bitCount x σ _ ⟨_, rfl, rfl⟩
/-- a bit at each multiple of 2 to the k -/
def mlt (k : Nat) : Int32 := (xT 2).getD k 0
def wd (r : Int32) (k : Nat) : Int32 := r &&& (((r.toUInt32 >>> (((1 : Int32) <<< (nI k &&& 31)).toUInt32 &&& Int32.toUInt32 31)).toInt32) &&& mlt (k + 1))
/-- the starts of an order -/
def st (f : Int32) : Nat → Int32
  | 0 => f
  | k + 1 => wd (st f k) k
theorem and_bit {x y : Int32} {p : Nat} (h : (x &&& y).toBitVec.getLsbD p = true) : x.toBitVec.getLsbD p = true ∧ y.toBitVec.getLsbD p = true := by
  rw [Int32.toBitVec_and, BitVec.getLsbD_and] at h
  exact Bool.and_eq_true_iff.mp h
theorem mlt_al : ∀ k, k ≤ 5 → ∀ p, p < 32 → (mlt k).toBitVec.getLsbD p = true → p % 2 ^ k = 0 := by decide
theorem st_al {f : Int32} {k p : Nat} (hk : k ≤ 5) (hp : p < 32) (h : (st f k).toBitVec.getLsbD p = true) : p % 2 ^ k = 0 := by
  cases k with
  | zero => exact Nat.mod_one p
  | succ k => exact mlt_al (k + 1) hk p hp (and_bit (and_bit h).2).2
theorem l_starts {a0 a1 : Int32} {o : Nat} (h1 : a1.toInt = o) (ho : o ≤ 5) (σ : sm_S) : ∀ (d k : Nat) (a3 : Int32), a3.toInt = k → k + d = o → xE xD m_R_starts 4 [.int a0, .int a1, .int (st a0 k), .int a3] [] σ (sm_I (fun y σ' => y = st a0 o ∧ σ' = σ)) := by
  intro d
  induction d with
  | zero =>
    intro k a3 h3 hk
    have hk : k = o := by omega
    subst hk
    exact d_R_starts_4 a0 a1 _ a3 σ _ ⟨fun _ => ⟨_, rfl, rfl, rfl⟩, fun h => absurd (by rw [t_le, h1, h3]; omega) h⟩
  | succ d ih =>
    intro k a3 h3 hk
    have h3' : (a3 + 1).toInt = ((k + 1 : Nat) : Int) := by
      rw [t_add h3 (y := 1) rfl (by omega) (by omega)]
      omega
    refine d_R_starts_4 a0 a1 _ a3 σ _ ⟨fun h => ?_, fun _ => ⟨fun h => ?_, fun _ => ⟨t_vp h3' (show k + 1 < 6 by omega), ?_⟩⟩⟩
    · rw [t_le, h1, h3] at h; omega
    · rw [t_le, h3] at h
      have h : (5 : Int) ≤ k := h
      omega
    · have := ih (k + 1) (a3 + 1) h3' (by omega)
      rw [t_nat h3', t_nI h3]
      rw [t_nI h3] at this
      exact this
theorem c_starts {a1 : Int32} {o : Nat} (h1 : a1.toInt = o) (ho : o ≤ 5) (a0 : Int32) (σ : sm_S) : xC xD j_R_starts [.int a0, .int a1] σ (sm_I (fun y σ' => y = st a0 o ∧ σ' = σ)) :=
  d_R_starts a0 a1 σ _ (l_starts h1 ho σ o 0 0 rfl (by omega))
/-- those alone -/
def aln (r : Int32) (k : Nat) : Int32 := r &&& ((wd r k ||| (wd r k <<< (((1 : Int32) <<< (nI k &&& 31)) &&& 31))) ^^^ (-1))
def al5 (r : Int32) (k : Nat) : Int32 := if k < 5 then aln r k else r
theorem wd0 {r : Int32} {k : Nat} (hr : r ≠ 0) (h : aln r k = 0) : wd r k ≠ 0 := by
  intro z
  unfold aln at h
  rw [z] at h
  have e : ((0 : Int32) ||| (0 : Int32) <<< (((1 : Int32) <<< (nI k &&& 31)) &&& 31)) ^^^ (-1) = -1 := by
    rw [Int32.zero_shiftLeft]; decide
  rw [e, Int32.and_neg_one] at h
  exact hr h
theorem l_leastHole {a0 a1 f : Int32} {o : Nat} (σ : sm_S) : ∀ (d k : Nat) (a3 : Int32) (v4 v5 : Value), a3.toInt = k → k + d = 5 → o ≤ k → st f k ≠ 0 → xE xD m_R_leastHole 4 [.int a0, .int a1, .int (st f k), .int a3, v4, v5] [] σ (sm_I (fun y σ' => (∃ h : Nat, y.toInt = h ∧ o ≤ h ∧ h ≤ 5 ∧ al5 (st f h) h ≠ 0) ∧ σ' = σ)) := by
  intro d
  induction d with
  | zero =>
    intro k a3 v4 v5 h3 hk hok hs
    have hk : k = 5 := by omega
    subst hk
    have fin : sm_I (fun y σ' => (∃ h : Nat, y.toInt = h ∧ o ≤ h ∧ h ≤ 5 ∧ al5 (st f h) h ≠ 0) ∧ σ' = σ) (some (.int 5)) σ := ⟨5, rfl, ⟨5, rfl, hok, by omega, hs⟩, rfl⟩
    refine d_R_leastHole_4 a0 a1 _ a3 v4 v5 σ _ ⟨fun _ => fin, fun _ => ⟨fun _ => fin, fun h => absurd ?_ h⟩⟩
    rw [t_le, h3]; decide
  | succ d ih =>
    intro k a3 v4 v5 h3 hk hok hs
    have h3' : (a3 + 1).toInt = ((k + 1 : Nat) : Int) := by
      rw [t_add h3 (y := 1) rfl (by omega) (by omega)]
      omega
    refine d_R_leastHole_4 a0 a1 _ a3 v4 v5 σ _ ⟨fun h => ?_, fun _ => ⟨fun h => ?_, fun _ => ⟨t_vp h3' (show k + 1 < 6 by omega), ?_⟩⟩⟩
    · rw [t_lt, h3] at h
      have h : (k : Int) < 0 := h
      omega
    · rw [t_le, h3] at h
      have h : (5 : Int) ≤ k := h
      omega
    · have e : (st f k &&& ((st f k).toUInt32 >>> (((1 : Int32) <<< (a3 &&& 31)).toUInt32 &&& Int32.toUInt32 31)).toInt32) &&& ((xT 2).getD ((a3 + 1)).toNatClampNeg 0) = wd (st f k) k := by
        rw [t_nat h3', t_nI h3, Int32.and_assoc]; rfl
      rw [e]
      have e2 : (st f k &&& ((wd (st f k) k ||| (wd (st f k) k <<< (((1 : Int32) <<< (a3 &&& 31)) &&& 31))) ^^^ (-1))) = aln (st f k) k := by
        rw [t_nI h3]; rfl
      rw [e2]
      refine ⟨fun z => ih (k + 1) (a3 + 1) _ _ h3' (by omega) (by omega) (wd0 hs z), fun z => ⟨_, rfl, ⟨k, h3, hok, by omega, ?_⟩, rfl⟩⟩
      unfold al5
      rw [if_pos (by omega)]
      exact z
theorem c_leastHole {a1 f : Int32} {o : Nat} (h1 : a1.toInt = o) (ho : o ≤ 5) (hs : st f o ≠ 0) (σ : sm_S) : xC xD j_R_leastHole [.int (st f o), .int a1] σ (sm_I (fun y σ' => (∃ h : Nat, y.toInt = h ∧ o ≤ h ∧ h ≤ 5 ∧ al5 (st f h) h ≠ 0) ∧ σ' = σ)) :=
  d_R_leastHole _ a1 σ _ (l_leastHole σ (5 - o) o a1 _ _ h1 (by omega) (Nat.le_refl o) hs)
theorem c_alone {a1 : Int32} {k : Nat} (h1 : a1.toInt = k) (hk : k ≤ 5) (a0 : Int32) (σ : sm_S) : xC xD j_R_alone [.int a0, .int a1] σ (sm_I (fun y σ' => y = al5 a0 k ∧ σ' = σ)) := by
  refine d_R_alone a0 a1 σ _ ⟨fun h => ?_, fun _ => ⟨fun h => ?_, fun h => ?_⟩⟩
  · rw [t_lt, h1] at h
    have h : (k : Int) < 0 := h
    omega
  · rw [t_lt, h1] at h
    have h : (k : Int) < 5 := h
    have h3' : (a1 + 1).toInt = ((k + 1 : Nat) : Int) := by
      rw [t_add h1 (y := 1) rfl (by omega) (by omega)]
      omega
    refine ⟨t_vp h3' (show k + 1 < 6 by omega), _, rfl, ?_, rfl⟩
    unfold al5
    rw [if_pos (by omega), t_nat h3', t_nI h1, Int32.and_assoc]
    rfl
  · rw [t_lt, h1] at h
    have h : ¬ (k : Int) < 5 := h
    refine ⟨_, rfl, ?_, rfl⟩
    unfold al5
    rw [if_neg (by omega)]
theorem al5_bit {r : Int32} {k p : Nat} (h : (al5 r k).toBitVec.getLsbD p = true) : r.toBitVec.getLsbD p = true := by
  unfold al5 at h
  split at h
  · exact (and_bit h).1
  · exact h
theorem l_widest (a0 : Int32) (σ : sm_S) : ∀ (d : Nat) (a1 : Int32), a1.toInt = (d : Int) - 1 → d ≤ 6 → xE xD m_R_widest 2 [.int a0, .int a1] [] σ (sm_I (fun _ σ' => σ' = σ)) := by
  intro d
  induction d with
  | zero =>
    intro a1 h1 _
    refine d_R_widest_2 a0 a1 σ _ ⟨fun _ => ⟨_, rfl, rfl⟩, fun h => absurd ?_ h⟩
    rw [t_lt, h1]; decide
  | succ d ih =>
    intro a1 h1 hd
    have h1' : a1.toInt = d := by omega
    refine d_R_widest_2 a0 a1 σ _ ⟨fun _ => ⟨_, rfl, rfl⟩, fun h => (c_starts h1' (by omega) a0 σ).int ?_⟩
    rintro x2 σ ⟨-, rfl⟩
    refine ⟨fun _ => ih _ ?_ (by omega), fun _ => ⟨_, rfl, rfl⟩⟩
    rw [t_add h1' (y := -1) rfl (by omega) (by omega)]
    omega
theorem c_widest (a0 : Int32) (σ : sm_S) : xC xD j_R_widest [.int a0] σ (sm_I (fun _ σ' => σ' = σ)) := d_R_widest a0 σ _ (l_widest a0 σ 6 5 rfl (by omega))
theorem l_holeRound (a0 a1 : Int32) (σ : sm_S) : ∀ (d k : Nat) (a2 a3 : Int32) (v4 : Value), a3.toInt = k → k + d = 6 → xE xD m_R_holeRound 4 [.int a0, .int a1, .int a2, .int a3, v4] [] σ (sm_I (fun _ σ' => σ' = σ)) := by
  intro d
  induction d with
  | zero =>
    intro k a2 a3 v4 h3 hk
    refine d_R_holeRound_4 a0 a1 a2 a3 v4 σ _ ⟨fun _ => ⟨_, rfl, rfl⟩, fun h => absurd ?_ h⟩
    rw [t_lt, h3]
    show (5 : Int) < _
    omega
  | succ d ih =>
    intro k a2 a3 v4 h3 hk
    have h3' : (a3 + 1).toInt = ((k + 1 : Nat) : Int) := by
      rw [t_add h3 (y := 1) rfl (by omega) (by omega)]
      omega
    refine d_R_holeRound_4 a0 a1 a2 a3 v4 σ _ ⟨fun _ => ⟨_, rfl, rfl⟩, fun h => (c_starts h3 (by omega) a0 σ).int ?_⟩
    rintro x2 σ ⟨-, rfl⟩
    exact ⟨fun _ => ih (k + 1) _ _ _ h3' (by omega), fun _ => ⟨_, rfl, rfl⟩⟩
theorem c_holeRound (a0 a1 : Int32) (σ : sm_S) : xC xD j_R_holeRound [.int a0, .int a1] σ (sm_I (fun _ σ' => σ' = σ)) := d_R_holeRound a0 a1 σ _ (l_holeRound a0 a1 σ 6 0 _ _ _ rfl (by omega))
theorem c_rank {a1 : Int32} {n : Nat} (h1 : a1.toInt = n) (hn : n < 8) (a2 a3 : Int32) (σ : sm_S) : xC xD j_Y_rank [.ref 0, .int a1, .int a2, .int a3] σ (sm_I (fun _ σ' => σ' = σ)) := by
  have v := t_vp h1 hn
  refine d_Y_rank a1 a2 a3 σ _ ⟨by decide, fun _ => ⟨fun _ => ⟨v, fun _ => ?_, fun _ => ?_⟩, fun _ => ⟨v, fun _ => ?_, fun _ => ?_⟩⟩, fun _ => ⟨fun _ => ⟨v, fun _ => ?_, fun _ => ?_⟩, fun _ => ⟨v, fun _ => ?_, fun _ => ?_⟩⟩⟩ <;> exact ⟨_, rfl, rfl⟩
