/-! ===== the simulation: how many bits are set ===== -/
def mkb (m : Nat) : Nat → Nat
  | 0 => 0
  | k + 1 => m + 256 * mkb m k
theorem and_peel {m M x : Nat} (hm : m < 256) : x &&& (m + 256 * M) = (x % 256 &&& m) + 256 * (x / 256 &&& M) := by
  have h1 := @Nat.and_mod_two_pow x (m + 256 * M) 8
  have h2 := @Nat.and_div_two_pow x (m + 256 * M) 8
  rw [show (2 : Nat) ^ 8 = 256 from rfl] at h1 h2
  rw [show (m + 256 * M) % 256 = m by omega] at h1
  rw [show (m + 256 * M) / 256 = M by omega] at h2
  rw [← h1, ← h2]
  omega
def bc_1 (a : Nat) : Nat := a - (a / 2 &&& 85)
def bc_2 (a : Nat) : Nat := (a &&& 51) + (a / 4 &&& 51)
def bc_3 (a : Nat) : Nat := (a + a / 16) &&& 15
def tc_1 (k x : Nat) : Nat := x - (x / 2 &&& mkb 85 k)
def tc_2 (k x : Nat) : Nat := (x &&& mkb 51 k) + (x / 4 &&& mkb 51 k)
def tc_3 (k x : Nat) : Nat := (x + x / 16) &&& mkb 15 k
theorem d_b1 : ∀ a, a < 256 → ∀ q, q < 2 → ((a / 2 + 128 * q) &&& 85) = (a / 2 &&& 85) := by decide +kernel
theorem d_b2 : ∀ a, a < 256 → ∀ q, q < 4 → ((a / 4 + 64 * q) &&& 51) = (a / 4 &&& 51) := by decide +kernel
theorem d_g1 : ∀ a, a < 256 → bc_1 a < 256 := by decide +kernel
theorem d_g2 : ∀ a, a < 256 → bc_2 (bc_1 a) % 16 ≤ 4 ∧ bc_2 (bc_1 a) / 16 ≤ 4 := by decide +kernel
theorem d_g3 : ∀ a, a < 256 → ∀ q, q < 5 → ((bc_2 (bc_1 a) + bc_2 (bc_1 a) / 16 + 16 * q) &&& 15) = bc_3 (bc_2 (bc_1 a)) := by decide +kernel
theorem d_g4 : ∀ a, a < 256 → bc_3 (bc_2 (bc_1 a)) = a % 2 + a / 2 % 2 + a / 4 % 2 + a / 8 % 2 + a / 16 % 2 + a / 32 % 2 + a / 64 % 2 + a / 128 % 2 := by decide +kernel
theorem tc_1s (k x : Nat) : tc_1 (k + 1) x = bc_1 (x % 256) + 256 * tc_1 k (x / 256) := by
  unfold tc_1 bc_1
  show x - (x / 2 &&& (85 + 256 * mkb 85 k)) = _
  rw [and_peel (by decide), show x / 2 % 256 = x % 256 / 2 + 128 * (x / 256 % 2) by omega, d_b1 _ (by omega) _ (by omega), show x / 2 / 256 = x / 256 / 2 by omega]
  have h1 := @Nat.and_le_left (x % 256 / 2) 85
  have h2 := @Nat.and_le_left (x / 256 / 2) (mkb 85 k)
  omega
theorem tc_2s {k c d : Nat} (hc : c < 256) : tc_2 (k + 1) (c + 256 * d) = bc_2 c + 256 * tc_2 k d := by
  unfold tc_2 bc_2
  show ((c + 256 * d) &&& (51 + 256 * mkb 51 k)) + ((c + 256 * d) / 4 &&& (51 + 256 * mkb 51 k)) = _
  rw [and_peel (by decide), and_peel (by decide), show (c + 256 * d) / 4 % 256 = c / 4 + 64 * (d % 4) by omega, d_b2 _ hc _ (by omega), show (c + 256 * d) / 4 / 256 = d / 4 by omega, show (c + 256 * d) % 256 = c by omega, show (c + 256 * d) / 256 = d by omega]
  omega
theorem tc_3s {k a d : Nat} (ha : a < 256) (hd : d % 16 ≤ 4) : tc_3 (k + 1) (bc_2 (bc_1 a) + 256 * d) = bc_3 (bc_2 (bc_1 a)) + 256 * tc_3 k d := by
  obtain ⟨g1, g2⟩ := d_g2 a ha
  have g3 := d_g3 a ha (d % 16) (by omega)
  unfold tc_3
  show ((bc_2 (bc_1 a) + 256 * d) + (bc_2 (bc_1 a) + 256 * d) / 16 &&& (15 + 256 * mkb 15 k)) = _
  generalize hc : bc_2 (bc_1 a) = c at g1 g2 g3 ⊢
  rw [and_peel (by decide), show (c + 256 * d + (c + 256 * d) / 16) % 256 = c + c / 16 + 16 * (d % 16) by omega, g3, show (c + 256 * d + (c + 256 * d) / 16) / 256 = d + d / 16 by omega]
/-- a byte's bits -/
def gby (a : Nat) : Nat := bc_3 (bc_2 (bc_1 (a % 256)))
theorem gb_le (a : Nat) : gby a ≤ 8 := by
  unfold gby
  rw [d_g4 _ (by omega)]
  omega
theorem t_all {x : Nat} (hx : x < 4294967296) : tc_3 4 (tc_2 4 (tc_1 4 x)) = gby x + 256 * (gby (x / 256) + 256 * (gby (x / 65536) + 256 * gby (x / 16777216))) := by
  have e0 : ∀ y, tc_1 0 y = y := fun y => by unfold tc_1; rw [show mkb 85 0 = 0 from rfl, Nat.and_zero]; omega
  have z2 : ∀ y, tc_2 0 y = 0 := fun y => by unfold tc_2; rw [show mkb 51 0 = 0 from rfl, Nat.and_zero, Nat.and_zero]
  have z3 : ∀ y, tc_3 0 y = 0 := fun y => by unfold tc_3; rw [show mkb 15 0 = 0 from rfl, Nat.and_zero]
  have m0 : x % 256 < 256 := by omega
  have m1 : x / 256 % 256 < 256 := by omega
  have m2 : x / 256 / 256 % 256 < 256 := by omega
  have m3 : x / 256 / 256 / 256 % 256 < 256 := by omega
  rw [tc_1s 3 x, tc_1s 2 (x / 256), tc_1s 1 (x / 256 / 256), tc_1s 0 (x / 256 / 256 / 256), e0, show x / 256 / 256 / 256 / 256 = 0 by omega]
  rw [tc_2s (d_g1 _ m0), tc_2s (d_g1 _ m1), tc_2s (d_g1 _ m2), tc_2s (d_g1 _ m3), z2]
  have q1 := (d_g2 _ m1).1
  have q2 := (d_g2 _ m2).1
  have q3 := (d_g2 _ m3).1
  rw [tc_3s m0 (by omega), tc_3s m1 (by omega), tc_3s m2 (by omega), tc_3s m3 (by omega), z3]
  unfold gby
  rw [show x / 65536 = x / 256 / 256 by omega, show x / 16777216 = x / 256 / 256 / 256 by omega]
  omega
theorem sumN_split {F : Nat → Nat} (m : Nat) : ∀ n, sumN F (m + n) = sumN F m + sumN (fun i => F (m + i)) n
  | 0 => rfl
  | n + 1 => by
    show sumN F (m + n) + F (m + n) = _
    rw [sumN_split m n]
    show _ = sumN F m + (sumN (fun i => F (m + i)) n + F (m + n))
    omega
theorem sumN_cg {F G : Nat → Nat} : ∀ {n : Nat}, (∀ i, i < n → F i = G i) → sumN F n = sumN G n
  | 0, _ => rfl
  | n + 1, h => by
    show sumN F n + F n = sumN G n + G n
    rw [sumN_cg (fun i hi => h i (by omega)), h n (by omega)]
theorem gb_sum (x : Nat) : gby x = sumN (fun i => x / 2 ^ i % 2) 8 := by
  unfold gby
  rw [d_g4 _ (by omega)]
  show _ = 0 + x / 2 ^ 0 % 2 + x / 2 ^ 1 % 2 + x / 2 ^ 2 % 2 + x / 2 ^ 3 % 2 + x / 2 ^ 4 % 2 + x / 2 ^ 5 % 2 + x / 2 ^ 6 % 2 + x / 2 ^ 7 % 2
  simp only [Nat.reducePow]
  omega
def pcn (x : Int32) : Nat := sumN (fun i => x.toBitVec.toNat / 2 ^ i % 2) 32
theorem pc_gb (x : Nat) : sumN (fun i => x / 2 ^ i % 2) 32 = gby x + gby (x / 256) + gby (x / 65536) + gby (x / 16777216) := by
  rw [show (32 : Nat) = 8 + (8 + (8 + 8)) from rfl, sumN_split 8, sumN_split 8, sumN_split 8, gb_sum, gb_sum, gb_sum, gb_sum]
  have e1 : ∀ i, x / 2 ^ (8 + i) = x / 256 / 2 ^ i := fun i => by rw [Nat.pow_add, ← Nat.div_div_eq_div_mul]
  have e2 : ∀ i, x / 2 ^ (8 + (8 + i)) = x / 65536 / 2 ^ i := fun i => by rw [← Nat.add_assoc, Nat.pow_add, ← Nat.div_div_eq_div_mul]
  have e3 : ∀ i, x / 2 ^ (8 + (8 + (8 + i))) = x / 16777216 / 2 ^ i := fun i => by rw [← Nat.add_assoc, ← Nat.add_assoc, Nat.pow_add, ← Nat.div_div_eq_div_mul]
  rw [sumN_cg (F := fun i => x / 2 ^ (8 + i) % 2) (fun i _ => by show x / 2 ^ (8 + i) % 2 = _; rw [e1 i]), sumN_cg (F := fun i => x / 2 ^ (8 + (8 + i)) % 2) (fun i _ => by show x / 2 ^ (8 + (8 + i)) % 2 = _; rw [e2 i]), sumN_cg (F := fun i => x / 2 ^ (8 + (8 + (8 + i))) % 2) (fun i _ => by show x / 2 ^ (8 + (8 + (8 + i))) % 2 = _; rw [e3 i])]
  omega
/-- numbers of words -/
def uwd (x : Int32) : Nat := x.toBitVec.toNat
theorem uw_lt (x : Int32) : uwd x < 4294967296 := x.toBitVec.isLt
theorem uw_and (x y : Int32) : uwd (x &&& y) = uwd x &&& uwd y := by
  unfold uwd
  rw [Int32.toBitVec_and, BitVec.toNat_and]
theorem uw_add {x y : Int32} (h : uwd x + uwd y < 4294967296) : uwd (x + y) = uwd x + uwd y := by
  unfold uwd at h ⊢
  rw [Int32.toBitVec_add, BitVec.toNat_add]
  exact Nat.mod_eq_of_lt h
theorem uw_sub {x y : Int32} (h : uwd y ≤ uwd x) : uwd (x - y) = uwd x - uwd y := by
  have h2 := uw_lt x
  unfold uwd at h h2 ⊢
  rw [Int32.toBitVec_sub, BitVec.toNat_sub]
  show (4294967296 - _ + _) % 4294967296 = _
  omega
theorem am_b : ∀ n, n < 32 → (Int32.toUInt32 (nI n) &&& Int32.toUInt32 31) = UInt32.ofNat n := by decide
theorem uw_shr {x c : Int32} {n : Nat} (hn : n < 32) (hc : c = nI n) : uwd ((x.toUInt32 >>> (c.toUInt32 &&& Int32.toUInt32 31)).toInt32) = uwd x / 2 ^ n := by
  rw [hc, am_b n hn]
  show ((x.toUInt32 >>> UInt32.ofNat n).toBitVec).toNat = _
  rw [UInt32.toBitVec_shiftRight, BitVec.ushiftRight_eq', sh_u n hn, BitVec.toNat_ushiftRight, Nat.shiftRight_eq_div_pow]
  rfl
theorem c_bitCount2 (x : Int32) (σ : sm_S) : xC xD j_I_bitCount [.int x] σ (sm_I (fun y σ' => y.toInt = ((pcn x : Nat) : Int) ∧ σ' = σ)) := by
  refine d_I_bitCount x σ _ ⟨_, rfl, ?_, rfl⟩
  have hx := uw_lt x
  have s1 : uwd (x - (((x.toUInt32 >>> ((1 : Int32).toUInt32 &&& Int32.toUInt32 31)).toInt32) &&& 1431655765)) = tc_1 4 (uwd x) := by
    have e : uwd (((x.toUInt32 >>> ((1 : Int32).toUInt32 &&& Int32.toUInt32 31)).toInt32) &&& 1431655765) = (uwd x / 2 &&& mkb 85 4) := by
      rw [uw_and, uw_shr (c := 1) (n := 1) (by decide) rfl]
      rfl
    have h2 := @Nat.and_le_left (uwd x / 2) (mkb 85 4)
    rw [uw_sub (by omega), e]
    rfl
  generalize x - (((x.toUInt32 >>> ((1 : Int32).toUInt32 &&& Int32.toUInt32 31)).toInt32) &&& 1431655765) = y1 at s1 ⊢
  have s2 : uwd ((y1 &&& 858993459) + (((y1.toUInt32 >>> ((2 : Int32).toUInt32 &&& Int32.toUInt32 31)).toInt32) &&& 858993459)) = tc_2 4 (uwd y1) := by
    have e1 : uwd (y1 &&& 858993459) = (uwd y1 &&& mkb 51 4) := by
      rw [uw_and]
      rfl
    have e2 : uwd (((y1.toUInt32 >>> ((2 : Int32).toUInt32 &&& Int32.toUInt32 31)).toInt32) &&& 858993459) = (uwd y1 / 4 &&& mkb 51 4) := by
      rw [uw_and, uw_shr (c := 2) (n := 2) (by decide) rfl]
      rfl
    have h1 := @Nat.and_le_right (uwd y1) (mkb 51 4)
    have h2 := @Nat.and_le_right (uwd y1 / 4) (mkb 51 4)
    have h3 : mkb 51 4 = 858993459 := rfl
    rw [uw_add (by omega), e1, e2]
    rfl
  generalize (y1 &&& 858993459) + (((y1.toUInt32 >>> ((2 : Int32).toUInt32 &&& Int32.toUInt32 31)).toInt32) &&& 858993459) = y2 at s2 ⊢
  have b2' : uwd y2 ≤ 1717986918 := by
    rw [s2]
    have h1 := @Nat.and_le_right (uwd y1) (mkb 51 4)
    have h2 := @Nat.and_le_right (uwd y1 / 4) (mkb 51 4)
    have h3 : mkb 51 4 = 858993459 := rfl
    show (uwd y1 &&& mkb 51 4) + (uwd y1 / 4 &&& mkb 51 4) ≤ _
    omega
  have s3 : uwd ((y2 + ((y2.toUInt32 >>> ((4 : Int32).toUInt32 &&& Int32.toUInt32 31)).toInt32)) &&& 252645135) = tc_3 4 (uwd y2) := by
    have e : uwd ((y2.toUInt32 >>> ((4 : Int32).toUInt32 &&& Int32.toUInt32 31)).toInt32) = uwd y2 / 16 := uw_shr (n := 4) (by decide) rfl
    rw [uw_and, uw_add (by omega), e]
    rfl
  generalize (y2 + ((y2.toUInt32 >>> ((4 : Int32).toUInt32 &&& Int32.toUInt32 31)).toInt32)) &&& 252645135 = y3 at s3 ⊢
  have ev : uwd y3 = gby (uwd x) + 256 * (gby (uwd x / 256) + 256 * (gby (uwd x / 65536) + 256 * gby (uwd x / 16777216))) := by
    rw [s3, s2, s1, t_all hx]
  have l0 := gb_le (uwd x)
  have l1 := gb_le (uwd x / 256)
  have l2 := gb_le (uwd x / 65536)
  have l3 := gb_le (uwd x / 16777216)
  have hp : pcn x = gby (uwd x) + gby (uwd x / 256) + gby (uwd x / 65536) + gby (uwd x / 16777216) := pc_gb (uwd x)
  generalize gby (uwd x) = g0 at ev l0 hp
  generalize gby (uwd x / 256) = g1 at ev l1 hp
  generalize gby (uwd x / 65536) = g2 at ev l2 hp
  generalize gby (uwd x / 16777216) = g3 at ev l3 hp
  have s4 : uwd (y3 + ((y3.toUInt32 >>> ((8 : Int32).toUInt32 &&& Int32.toUInt32 31)).toInt32)) = uwd y3 + uwd y3 / 256 := by
    have e : uwd ((y3.toUInt32 >>> ((8 : Int32).toUInt32 &&& Int32.toUInt32 31)).toInt32) = uwd y3 / 256 := uw_shr (n := 8) (by decide) rfl
    rw [uw_add (by omega), e]
  generalize y3 + ((y3.toUInt32 >>> ((8 : Int32).toUInt32 &&& Int32.toUInt32 31)).toInt32) = y4 at s4 ⊢
  have s5 : uwd (y4 + ((y4.toUInt32 >>> ((16 : Int32).toUInt32 &&& Int32.toUInt32 31)).toInt32)) = uwd y4 + uwd y4 / 65536 := by
    have e : uwd ((y4.toUInt32 >>> ((16 : Int32).toUInt32 &&& Int32.toUInt32 31)).toInt32) = uwd y4 / 65536 := uw_shr (n := 16) (by decide) rfl
    rw [uw_add (by omega), e]
  generalize y4 + ((y4.toUInt32 >>> ((16 : Int32).toUInt32 &&& Int32.toUInt32 31)).toInt32) = y5 at s5 ⊢
  have s6 : uwd (y5 &&& 63) = uwd y5 % 64 := by
    rw [uw_and]
    exact Nat.and_two_pow_sub_one_eq_mod (uwd y5) 6
  have s7 : uwd (y5 &&& 63) = pcn x := by
    have q1 : (g0 + 256 * (g1 + 256 * (g2 + 256 * g3))) / 256 = g1 + 256 * (g2 + 256 * g3) := by omega
    have q2 : (g0 + 256 * (g1 + 256 * (g2 + 256 * g3)) + (g1 + 256 * (g2 + 256 * g3))) / 65536 = g2 + 256 * g3 + g3 := by omega
    rw [s6, s5, s4, ev, q1, q2, hp]
    omega
  have s8 : (y5 &&& 63).toInt = ((uwd (y5 &&& 63) : Nat) : Int) := by
    show (y5 &&& 63).toBitVec.toInt = _
    rw [BitVec.toInt_eq_toNat_cond]
    have : 2 * (y5 &&& 63).toBitVec.toNat < 2 ^ 32 := by
      have : uwd (y5 &&& 63) < 64 := by rw [s6]; omega
      unfold uwd at this
      omega
    rw [if_pos this]
    rfl
  rw [s8, s7]
theorem pc_bit (x : Int32) : pcn x = sumN (fun i => if x.toBitVec.getLsbD i = true then 1 else 0) 32 := sumN_cg (fun i _ => by
  show uwd x / 2 ^ i % 2 = if (uwd x).testBit i = true then 1 else 0
  rw [Nat.testBit_eq_decide_div_mod_eq]
  by_cases h : uwd x / 2 ^ i % 2 = 1
  · rw [if_pos (decide_eq_true h)]
    exact h
  · rw [if_neg (by rw [decide_eq_true_iff]; exact h)]
    omega)
theorem pc_le (x : Int32) : pcn x ≤ 32 := by
  have := sumN_bd (F := fun i => x.toBitVec.toNat / 2 ^ i % 2) (K := 1) (n := 32) (fun i => by show x.toBitVec.toNat / 2 ^ i % 2 ≤ 1; omega)
  unfold pcn
  omega
