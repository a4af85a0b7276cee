section
/-! ===== the simulation: questions with one answer ===== -/
theorem CLe {jA jM B : Nat} {asA asM : List Value} {σ : sm_S} (h : LR B σ) (a : xC xF jA asA σ (sm_I (fun _ σ' => BQ σ σ'))) (m : ∀ σ1, LQ B σ1 → xC xF jM asM σ1 (sm_I (fun _ σ' => mQ (B + 1488000) σ1 σ'))) (k : ∀ σ1, LQ B σ1 → xC xF jM asM σ1 (sm_I (fun _ σ' => kQ σ1 σ'))) (r : Int32) (ra : xC xF jA asA σ (sm_I (fun x _ => x = r))) (rm : ∀ σ1 : sm_S, σ1 169 = σ 169 → xC xF jM asM σ1 (sm_I (fun y _ => y = r))) : two (fun x y => x = y) jA jM asA asM B σ := by
  obtain ⟨hL, ⟨N, hN, ht⟩, him⟩ := h
  refine (a.and ra).mono ?_
  rintro r0 σ1 ⟨⟨x0, e9, hA, o1⟩, x, e0, hx⟩
  refine ⟨x, e0, ?_⟩
  have hL1 := hL.a hA
  refine (((m σ1 hL1).and (k σ1 hL1)).and (rm σ1 (o1 169 (by omega)))).mono ?_
  rintro r3 σ2 ⟨⟨⟨y0, e8, hm⟩, y2, -, w1, w2⟩, y, e3, hy⟩
  refine ⟨y, e3, hx.trans hy.symm, hL1.m hm, ⟨N, by omega, ?_⟩, fun z => ?_⟩
  · refine ht.eq (eqT.of (fun k hk => ?_)) (fun i hi => ?_)
    · rw [hm.2.1 k (by omega), o1 k (by omega)]
    · rw [w1 i hi, o1 169 (by omega)]
  · rw [hm.2.1 42 (by omega), o1 42 (by omega)] at z
    obtain ⟨N2, hN2, t2⟩ := him z
    refine ⟨N2, by omega, ?_⟩
    rw [w2, o1 173 (by omega)]
    refine t2.eq (eqT.of (fun k hk => ?_)) (fun _ _ => rfl)
    show σ2 (127 + k) = σ (127 + k)
    rw [hm.2.1 _ (by omega), o1 _ (by omega)]
/-- an answer of the reference, in the world of all -/
theorem rmU {j : Nat} {as as' : List Value} {r : Int32} {v : Nat → Int32} (ha : as.map (sm_cv rM) = as') (h : ∀ σ : sm_S, σ 1 = v → xC xM j as σ (sm_I (fun y _ => y = r))) : ∀ σ1 : sm_S, σ1 169 = v → xC xF j as' σ1 (sm_I (fun y _ => y = r)) := fun σ1 e => by
  subst ha
  refine (x_up shMF (h (sh rM σ1) e)).mono ?_
  rintro r1 σ' ⟨r2, τ, rfl, ⟨x, rfl, hx⟩, -, -⟩
  exact ⟨x, rfl, hx⟩
end
section
/-! ===== the simulation: count answers the same ===== -/
theorem ce_count {B : Nat} (a1 : Int32) (σ : sm_S) (hB : B < 1500000000) (h : LR B σ) : two (fun x y => x = y) j_A_count j_M_count [.ref 42, .int a1] [.ref 168, .int a1] B σ := by
  have h2 := h
  obtain ⟨hL, ⟨N, hN, ht⟩, -⟩ := h2
  have l0 : a1 < 0 ↔ a1.toInt < 0 := by rw [t_lt]; exact Iff.rfl
  have l11 : a1 < 11 ↔ a1.toInt < 11 := by rw [t_lt]; exact Iff.rfl
  have key : ∃ r : Int32, xC xF j_A_count [.ref 42, .int a1] σ (sm_I (fun x _ => x = r)) ∧ ∀ σ2 : sm_S, σ2 1 = σ 169 → xC xM j_M_count [.ref 0, .int a1] σ2 (sm_I (fun y _ => y = r)) := by
    by_cases k1 : 0 ≤ a1.toInt ∧ a1.toInt < 11
    · obtain ⟨n, hn⟩ := t_of k1.1
      refine ⟨σ 169 (7 + n), f_A_count a1 σ _ ⟨fun z => absurd (l0.mp z) (by omega), fun _ => ⟨fun _ => ⟨t_vp hn (by omega), _, rfl, ?_⟩, fun z => absurd (l11.mpr k1.2) z⟩⟩, fun σ2 e2 => ?_⟩
      · rw [t_nat hn]
        exact ht.1.s.N.cnt n (by omega)
      · refine w_M_count a1 σ2 _ (fun σ1 e1 => (c_isInX (L := 0) (H := 10) rfl rfl a1 σ1).int ?_)
        obtain ⟨f1, -⟩ := told1 e2 e1
        rintro x2 σ3 ⟨hx2, es⟩
        rw [es]
        have h7 : (7 + a1).toInt = ((7 + n : Nat) : Int) := by
          rw [t_add (x := 7) rfl hn (by omega) (by omega)]
          omega
        refine ⟨fun z => absurd ⟨k1.1, by omega⟩ (hx2.b.1.mp z), fun _ => ⟨t_vp h7 (by omega), _, rfl, ?_⟩⟩
        rw [t_nat h7, f1]
    · refine ⟨-1, f_A_count a1 σ _ ⟨fun _ => ⟨_, rfl, rfl⟩, fun z => ⟨fun w => absurd ⟨(by rw [l0] at z; omega), l11.mp w⟩ k1, fun _ => ⟨_, rfl, rfl⟩⟩⟩, fun σ2 e2 => ?_⟩
      · refine w_M_count a1 σ2 _ (fun σ1 e1 => (c_isInX (L := 0) (H := 10) rfl rfl a1 σ1).int ?_)
        rintro x2 σ3 ⟨hx2, es⟩
        rw [es]
        refine ⟨fun _ => ⟨_, rfl, rfl⟩, fun z => absurd ?_ k1⟩
        have := hx2.b.2.mp z
        omega
  obtain ⟨r, ra, rm⟩ := key
  exact CLe h (a_countQ a1 σ h.1.1) (fun σ1 q => m_count a1 σ1 hB q.2.1) (fun σ1 q => by
    obtain ⟨N, hN, hj⟩ := (lw_bs q.2.1).1
    exact qU (as := [.ref 0, .int a1]) rfl (k_count (N := N) a1 (sh rM σ1) hj)) r ra (rmU (as := [.ref 0, .int a1]) rfl rm)
end
section
/-! ===== the simulation: how many bits are set ===== -/
def mkb (m : Nat) : Nat → Nat
  | 0 => 0
  | k + 1 => m + 256 * mkb m k
theorem and_peel {m M x : Nat} (hm : m < 256) : x &&& (m + 256 * M) = (x % 256 &&& m) + 256 * (x / 256 &&& M) := by
  have h1 := @Nat.and_mod_two_pow x (m + 256 * M) 8
  have h2 := @Nat.and_div_two_pow x (m + 256 * M) 8
  rw [show (2 : Nat) ^ 8 = 256 from rfl] at h1 h2
  rw [show (m + 256 * M) % 256 = m by omega] at h1
  rw [show (m + 256 * M) / 256 = M by omega] at h2
  rw [← h1, ← h2]
  omega
def bc_1 (a : Nat) : Nat := a - (a / 2 &&& 85)
def bc_2 (a : Nat) : Nat := (a &&& 51) + (a / 4 &&& 51)
def bc_3 (a : Nat) : Nat := (a + a / 16) &&& 15
def tc_1 (k x : Nat) : Nat := x - (x / 2 &&& mkb 85 k)
def tc_2 (k x : Nat) : Nat := (x &&& mkb 51 k) + (x / 4 &&& mkb 51 k)
def tc_3 (k x : Nat) : Nat := (x + x / 16) &&& mkb 15 k
theorem d_b1 : ∀ a, a < 256 → ∀ q, q < 2 → ((a / 2 + 128 * q) &&& 85) = (a / 2 &&& 85) := by decide +kernel
theorem d_b2 : ∀ a, a < 256 → ∀ q, q < 4 → ((a / 4 + 64 * q) &&& 51) = (a / 4 &&& 51) := by decide +kernel
theorem d_g1 : ∀ a, a < 256 → bc_1 a < 256 := by decide +kernel
theorem d_g2 : ∀ a, a < 256 → bc_2 (bc_1 a) % 16 ≤ 4 ∧ bc_2 (bc_1 a) / 16 ≤ 4 := by decide +kernel
theorem d_g3 : ∀ a, a < 256 → ∀ q, q < 5 → ((bc_2 (bc_1 a) + bc_2 (bc_1 a) / 16 + 16 * q) &&& 15) = bc_3 (bc_2 (bc_1 a)) := by decide +kernel
theorem d_g4 : ∀ a, a < 256 → bc_3 (bc_2 (bc_1 a)) = a % 2 + a / 2 % 2 + a / 4 % 2 + a / 8 % 2 + a / 16 % 2 + a / 32 % 2 + a / 64 % 2 + a / 128 % 2 := by decide +kernel
theorem tc_1s (k x : Nat) : tc_1 (k + 1) x = bc_1 (x % 256) + 256 * tc_1 k (x / 256) := by
  unfold tc_1 bc_1
  show x - (x / 2 &&& (85 + 256 * mkb 85 k)) = _
  rw [and_peel (by decide), show x / 2 % 256 = x % 256 / 2 + 128 * (x / 256 % 2) by omega, d_b1 _ (by omega) _ (by omega), show x / 2 / 256 = x / 256 / 2 by omega]
  have h1 := @Nat.and_le_left (x % 256 / 2) 85
  have h2 := @Nat.and_le_left (x / 256 / 2) (mkb 85 k)
  omega
theorem tc_2s {k c d : Nat} (hc : c < 256) : tc_2 (k + 1) (c + 256 * d) = bc_2 c + 256 * tc_2 k d := by
  unfold tc_2 bc_2
  show ((c + 256 * d) &&& (51 + 256 * mkb 51 k)) + ((c + 256 * d) / 4 &&& (51 + 256 * mkb 51 k)) = _
  rw [and_peel (by decide), and_peel (by decide), show (c + 256 * d) / 4 % 256 = c / 4 + 64 * (d % 4) by omega, d_b2 _ hc _ (by omega), show (c + 256 * d) / 4 / 256 = d / 4 by omega, show (c + 256 * d) % 256 = c by omega, show (c + 256 * d) / 256 = d by omega]
  omega
theorem tc_3s {k a d : Nat} (ha : a < 256) (hd : d % 16 ≤ 4) : tc_3 (k + 1) (bc_2 (bc_1 a) + 256 * d) = bc_3 (bc_2 (bc_1 a)) + 256 * tc_3 k d := by
  obtain ⟨g1, g2⟩ := d_g2 a ha
  have g3 := d_g3 a ha (d % 16) (by omega)
  unfold tc_3
  show ((bc_2 (bc_1 a) + 256 * d) + (bc_2 (bc_1 a) + 256 * d) / 16 &&& (15 + 256 * mkb 15 k)) = _
  generalize hc : bc_2 (bc_1 a) = c at g1 g2 g3 ⊢
  rw [and_peel (by decide), show (c + 256 * d + (c + 256 * d) / 16) % 256 = c + c / 16 + 16 * (d % 16) by omega, g3, show (c + 256 * d + (c + 256 * d) / 16) / 256 = d + d / 16 by omega]
/-- a byte's bits -/
def gby (a : Nat) : Nat := bc_3 (bc_2 (bc_1 (a % 256)))
theorem gb_le (a : Nat) : gby a ≤ 8 := by
  unfold gby
  rw [d_g4 _ (by omega)]
  omega
theorem t_all {x : Nat} (hx : x < 4294967296) : tc_3 4 (tc_2 4 (tc_1 4 x)) = gby x + 256 * (gby (x / 256) + 256 * (gby (x / 65536) + 256 * gby (x / 16777216))) := by
  have e0 : ∀ y, tc_1 0 y = y := fun y => by unfold tc_1; rw [show mkb 85 0 = 0 from rfl, Nat.and_zero]; omega
  have z2 : ∀ y, tc_2 0 y = 0 := fun y => by unfold tc_2; rw [show mkb 51 0 = 0 from rfl, Nat.and_zero, Nat.and_zero]
  have z3 : ∀ y, tc_3 0 y = 0 := fun y => by unfold tc_3; rw [show mkb 15 0 = 0 from rfl, Nat.and_zero]
  have m0 : x % 256 < 256 := by omega
  have m1 : x / 256 % 256 < 256 := by omega
  have m2 : x / 256 / 256 % 256 < 256 := by omega
  have m3 : x / 256 / 256 / 256 % 256 < 256 := by omega
  rw [tc_1s 3 x, tc_1s 2 (x / 256), tc_1s 1 (x / 256 / 256), tc_1s 0 (x / 256 / 256 / 256), e0, show x / 256 / 256 / 256 / 256 = 0 by omega]
  rw [tc_2s (d_g1 _ m0), tc_2s (d_g1 _ m1), tc_2s (d_g1 _ m2), tc_2s (d_g1 _ m3), z2]
  have q1 := (d_g2 _ m1).1
  have q2 := (d_g2 _ m2).1
  have q3 := (d_g2 _ m3).1
  rw [tc_3s m0 (by omega), tc_3s m1 (by omega), tc_3s m2 (by omega), tc_3s m3 (by omega), z3]
  unfold gby
  rw [show x / 65536 = x / 256 / 256 by omega, show x / 16777216 = x / 256 / 256 / 256 by omega]
  omega
theorem sumN_split {F : Nat → Nat} (m : Nat) : ∀ n, sumN F (m + n) = sumN F m + sumN (fun i => F (m + i)) n
  | 0 => rfl
  | n + 1 => by
    show sumN F (m + n) + F (m + n) = _
    rw [sumN_split m n]
    show _ = sumN F m + (sumN (fun i => F (m + i)) n + F (m + n))
    omega
theorem sumN_cg {F G : Nat → Nat} : ∀ {n : Nat}, (∀ i, i < n → F i = G i) → sumN F n = sumN G n
  | 0, _ => rfl
  | n + 1, h => by
    show sumN F n + F n = sumN G n + G n
    rw [sumN_cg (fun i hi => h i (by omega)), h n (by omega)]
theorem gb_sum (x : Nat) : gby x = sumN (fun i => x / 2 ^ i % 2) 8 := by
  unfold gby
  rw [d_g4 _ (by omega)]
  show _ = 0 + x / 2 ^ 0 % 2 + x / 2 ^ 1 % 2 + x / 2 ^ 2 % 2 + x / 2 ^ 3 % 2 + x / 2 ^ 4 % 2 + x / 2 ^ 5 % 2 + x / 2 ^ 6 % 2 + x / 2 ^ 7 % 2
  simp only [Nat.reducePow]
  omega
def pcn (x : Int32) : Nat := sumN (fun i => x.toBitVec.toNat / 2 ^ i % 2) 32
theorem pc_gb (x : Nat) : sumN (fun i => x / 2 ^ i % 2) 32 = gby x + gby (x / 256) + gby (x / 65536) + gby (x / 16777216) := by
  rw [show (32 : Nat) = 8 + (8 + (8 + 8)) from rfl, sumN_split 8, sumN_split 8, sumN_split 8, gb_sum, gb_sum, gb_sum, gb_sum]
  have e1 : ∀ i, x / 2 ^ (8 + i) = x / 256 / 2 ^ i := fun i => by rw [Nat.pow_add, ← Nat.div_div_eq_div_mul]
  have e2 : ∀ i, x / 2 ^ (8 + (8 + i)) = x / 65536 / 2 ^ i := fun i => by rw [← Nat.add_assoc, Nat.pow_add, ← Nat.div_div_eq_div_mul]
  have e3 : ∀ i, x / 2 ^ (8 + (8 + (8 + i))) = x / 16777216 / 2 ^ i := fun i => by rw [← Nat.add_assoc, ← Nat.add_assoc, Nat.pow_add, ← Nat.div_div_eq_div_mul]
  rw [sumN_cg (F := fun i => x / 2 ^ (8 + i) % 2) (fun i _ => by show x / 2 ^ (8 + i) % 2 = _; rw [e1 i]), sumN_cg (F := fun i => x / 2 ^ (8 + (8 + i)) % 2) (fun i _ => by show x / 2 ^ (8 + (8 + i)) % 2 = _; rw [e2 i]), sumN_cg (F := fun i => x / 2 ^ (8 + (8 + (8 + i))) % 2) (fun i _ => by show x / 2 ^ (8 + (8 + (8 + i))) % 2 = _; rw [e3 i])]
  omega
/-- numbers of words -/
def uwd (x : Int32) : Nat := x.toBitVec.toNat
theorem uw_lt (x : Int32) : uwd x < 4294967296 := x.toBitVec.isLt
theorem uw_and (x y : Int32) : uwd (x &&& y) = uwd x &&& uwd y := by
  unfold uwd
  rw [Int32.toBitVec_and, BitVec.toNat_and]
theorem uw_add {x y : Int32} (h : uwd x + uwd y < 4294967296) : uwd (x + y) = uwd x + uwd y := by
  unfold uwd at h ⊢
  rw [Int32.toBitVec_add, BitVec.toNat_add]
  exact Nat.mod_eq_of_lt h
theorem uw_sub {x y : Int32} (h : uwd y ≤ uwd x) : uwd (x - y) = uwd x - uwd y := by
  have h2 := uw_lt x
  unfold uwd at h h2 ⊢
  rw [Int32.toBitVec_sub, BitVec.toNat_sub]
  show (4294967296 - _ + _) % 4294967296 = _
  omega
theorem am_b : ∀ n, n < 32 → (Int32.toUInt32 (nI n) &&& Int32.toUInt32 31) = UInt32.ofNat n := by decide
theorem uw_shr {x c : Int32} {n : Nat} (hn : n < 32) (hc : c = nI n) : uwd ((x.toUInt32 >>> (c.toUInt32 &&& Int32.toUInt32 31)).toInt32) = uwd x / 2 ^ n := by
  rw [hc, am_b n hn]
  show ((x.toUInt32 >>> UInt32.ofNat n).toBitVec).toNat = _
  rw [UInt32.toBitVec_shiftRight, BitVec.ushiftRight_eq', sh_u n hn, BitVec.toNat_ushiftRight, Nat.shiftRight_eq_div_pow]
  rfl
theorem c_bitCount2 (x : Int32) (σ : sm_S) : xC xD j_I_bitCount [.int x] σ (sm_I (fun y σ' => y.toInt = ((pcn x : Nat) : Int) ∧ σ' = σ)) := by
  refine d_I_bitCount x σ _ ⟨_, rfl, ?_, rfl⟩
  have hx := uw_lt x
  have s1 : uwd (x - (((x.toUInt32 >>> ((1 : Int32).toUInt32 &&& Int32.toUInt32 31)).toInt32) &&& 1431655765)) = tc_1 4 (uwd x) := by
    have e : uwd (((x.toUInt32 >>> ((1 : Int32).toUInt32 &&& Int32.toUInt32 31)).toInt32) &&& 1431655765) = (uwd x / 2 &&& mkb 85 4) := by
      rw [uw_and, uw_shr (c := 1) (n := 1) (by decide) rfl]
      rfl
    have h2 := @Nat.and_le_left (uwd x / 2) (mkb 85 4)
    rw [uw_sub (by omega), e]
    rfl
  generalize x - (((x.toUInt32 >>> ((1 : Int32).toUInt32 &&& Int32.toUInt32 31)).toInt32) &&& 1431655765) = y1 at s1 ⊢
  have s2 : uwd ((y1 &&& 858993459) + (((y1.toUInt32 >>> ((2 : Int32).toUInt32 &&& Int32.toUInt32 31)).toInt32) &&& 858993459)) = tc_2 4 (uwd y1) := by
    have e1 : uwd (y1 &&& 858993459) = (uwd y1 &&& mkb 51 4) := by
      rw [uw_and]
      rfl
    have e2 : uwd (((y1.toUInt32 >>> ((2 : Int32).toUInt32 &&& Int32.toUInt32 31)).toInt32) &&& 858993459) = (uwd y1 / 4 &&& mkb 51 4) := by
      rw [uw_and, uw_shr (c := 2) (n := 2) (by decide) rfl]
      rfl
    have h1 := @Nat.and_le_right (uwd y1) (mkb 51 4)
    have h2 := @Nat.and_le_right (uwd y1 / 4) (mkb 51 4)
    have h3 : mkb 51 4 = 858993459 := rfl
    rw [uw_add (by omega), e1, e2]
    rfl
  generalize (y1 &&& 858993459) + (((y1.toUInt32 >>> ((2 : Int32).toUInt32 &&& Int32.toUInt32 31)).toInt32) &&& 858993459) = y2 at s2 ⊢
  have b2' : uwd y2 ≤ 1717986918 := by
    rw [s2]
    have h1 := @Nat.and_le_right (uwd y1) (mkb 51 4)
    have h2 := @Nat.and_le_right (uwd y1 / 4) (mkb 51 4)
    have h3 : mkb 51 4 = 858993459 := rfl
    show (uwd y1 &&& mkb 51 4) + (uwd y1 / 4 &&& mkb 51 4) ≤ _
    omega
  have s3 : uwd ((y2 + ((y2.toUInt32 >>> ((4 : Int32).toUInt32 &&& Int32.toUInt32 31)).toInt32)) &&& 252645135) = tc_3 4 (uwd y2) := by
    have e : uwd ((y2.toUInt32 >>> ((4 : Int32).toUInt32 &&& Int32.toUInt32 31)).toInt32) = uwd y2 / 16 := uw_shr (n := 4) (by decide) rfl
    rw [uw_and, uw_add (by omega), e]
    rfl
  generalize (y2 + ((y2.toUInt32 >>> ((4 : Int32).toUInt32 &&& Int32.toUInt32 31)).toInt32)) &&& 252645135 = y3 at s3 ⊢
  have ev : uwd y3 = gby (uwd x) + 256 * (gby (uwd x / 256) + 256 * (gby (uwd x / 65536) + 256 * gby (uwd x / 16777216))) := by
    rw [s3, s2, s1, t_all hx]
  have l0 := gb_le (uwd x)
  have l1 := gb_le (uwd x / 256)
  have l2 := gb_le (uwd x / 65536)
  have l3 := gb_le (uwd x / 16777216)
  have hp : pcn x = gby (uwd x) + gby (uwd x / 256) + gby (uwd x / 65536) + gby (uwd x / 16777216) := pc_gb (uwd x)
  generalize gby (uwd x) = g0 at ev l0 hp
  generalize gby (uwd x / 256) = g1 at ev l1 hp
  generalize gby (uwd x / 65536) = g2 at ev l2 hp
  generalize gby (uwd x / 16777216) = g3 at ev l3 hp
  have s4 : uwd (y3 + ((y3.toUInt32 >>> ((8 : Int32).toUInt32 &&& Int32.toUInt32 31)).toInt32)) = uwd y3 + uwd y3 / 256 := by
    have e : uwd ((y3.toUInt32 >>> ((8 : Int32).toUInt32 &&& Int32.toUInt32 31)).toInt32) = uwd y3 / 256 := uw_shr (n := 8) (by decide) rfl
    rw [uw_add (by omega), e]
  generalize y3 + ((y3.toUInt32 >>> ((8 : Int32).toUInt32 &&& Int32.toUInt32 31)).toInt32) = y4 at s4 ⊢
  have s5 : uwd (y4 + ((y4.toUInt32 >>> ((16 : Int32).toUInt32 &&& Int32.toUInt32 31)).toInt32)) = uwd y4 + uwd y4 / 65536 := by
    have e : uwd ((y4.toUInt32 >>> ((16 : Int32).toUInt32 &&& Int32.toUInt32 31)).toInt32) = uwd y4 / 65536 := uw_shr (n := 16) (by decide) rfl
    rw [uw_add (by omega), e]
  generalize y4 + ((y4.toUInt32 >>> ((16 : Int32).toUInt32 &&& Int32.toUInt32 31)).toInt32) = y5 at s5 ⊢
  have s6 : uwd (y5 &&& 63) = uwd y5 % 64 := by
    rw [uw_and]
    exact Nat.and_two_pow_sub_one_eq_mod (uwd y5) 6
  have s7 : uwd (y5 &&& 63) = pcn x := by
    have q1 : (g0 + 256 * (g1 + 256 * (g2 + 256 * g3))) / 256 = g1 + 256 * (g2 + 256 * g3) := by omega
    have q2 : (g0 + 256 * (g1 + 256 * (g2 + 256 * g3)) + (g1 + 256 * (g2 + 256 * g3))) / 65536 = g2 + 256 * g3 + g3 := by omega
    rw [s6, s5, s4, ev, q1, q2, hp]
    omega
  have s8 : (y5 &&& 63).toInt = ((uwd (y5 &&& 63) : Nat) : Int) := by
    show (y5 &&& 63).toBitVec.toInt = _
    rw [BitVec.toInt_eq_toNat_cond]
    have : 2 * (y5 &&& 63).toBitVec.toNat < 2 ^ 32 := by
      have : uwd (y5 &&& 63) < 64 := by rw [s6]; omega
      unfold uwd at this
      omega
    rw [if_pos this]
    rfl
  rw [s8, s7]
theorem pc_bit (x : Int32) : pcn x = sumN (fun i => if x.toBitVec.getLsbD i = true then 1 else 0) 32 := sumN_cg (fun i _ => by
  show uwd x / 2 ^ i % 2 = if (uwd x).testBit i = true then 1 else 0
  rw [Nat.testBit_eq_decide_div_mod_eq]
  by_cases h : uwd x / 2 ^ i % 2 = 1
  · rw [if_pos (decide_eq_true h)]
    exact h
  · rw [if_neg (by rw [decide_eq_true_iff]; exact h)]
    omega)
theorem pc_le (x : Int32) : pcn x ≤ 32 := by
  have := sumN_bd (F := fun i => x.toBitVec.toNat / 2 ^ i % 2) (K := 1) (n := 32) (fun i => by show x.toBitVec.toNat / 2 ^ i % 2 ≤ 1; omega)
  unfold pcn
  omega
end
section
/-! ===== the simulation: questions, tools; frame, block, task, place ===== -/
def ky (jA jM : Nat) (asA asM : List Value) (σ : sm_S) : Prop := ∃ r : Int32, xC xF jA asA σ (sm_I (fun x _ => x = r)) ∧ ∀ σ2 : sm_S, σ2 1 = σ 169 → xC xM jM asM σ2 (sm_I (fun y _ => y = r))
theorem an_ {r y : Int32} {σ : sm_S} (h : y = r) : sm_I (fun x _ => x = r) (some (.int y)) σ := ⟨y, rfl, h⟩
theorem anC {j : Nat} {as : List Value} {σ : sm_S} {r : Int32} (h : xC xD j as σ (sm_I (fun x σ' => x = r ∧ σ' = σ))) : xC xF j as σ (sm_ri False (fun x σ' => sm_I (fun x _ => x = r) (some (.int x)) σ')) := (nw0 h).int (fun x _ e => ⟨x, rfl, e.1⟩)
theorem anM {j : Nat} {as : List Value} {σ : sm_S} {r : Int32} (h : xC xM j as σ (sm_I (fun x σ' => x = r ∧ σ' = σ))) : xC xM j as σ (sm_ri False (fun x σ' => sm_I (fun x _ => x = r) (some (.int x)) σ')) := h.int (fun x _ e => ⟨x, rfl, e.1⟩)
theorem toN {D : List sm_Sh} {j n : Nat} {as : List Value} {σ : sm_S} (h : sm_C sm_TB sm_MS D j as σ (sm_I (fun x σ' => x.toInt = ((n : Nat) : Int) ∧ σ' = σ))) : sm_C sm_TB sm_MS D j as σ (sm_I (fun x σ' => x = nI n ∧ σ' = σ)) := h.mono (by
  rintro r σ' ⟨x, e, h1, h2⟩
  exact ⟨x, e, t_nI h1, h2⟩)
theorem CLk {jA jM B : Nat} {asA asM asM' : List Value} {σ : sm_S} (h : LR B σ) (a : xC xF jA asA σ (sm_I (fun _ σ' => BQ σ σ'))) (m : ∀ σ1, LQ B σ1 → xC xF jM asM' σ1 (sm_I (fun _ σ' => mQ (B + 1488000) σ1 σ'))) (k : ∀ σ1, LQ B σ1 → xC xF jM asM' σ1 (sm_I (fun _ σ' => kQ σ1 σ'))) (ha : asM.map (sm_cv rM) = asM') (q : ky jA jM asA asM σ) : two (fun x y => x = y) jA jM asA asM' B σ := by
  obtain ⟨r, ra, rm⟩ := q
  exact CLe h a m k r ra (rmU ha rm)
theorem b1_dec : ∀ p, p < 32 → ∀ i, i < 32 → (((1 : Int32) <<< (nI p &&& 31)).toBitVec.getLsbD i = true ↔ i = p) := by decide +kernel
theorem bt0 {x r : Int32} {p : Nat} (hr : r.toInt = p) (hp : p < 32) : (x &&& ((1 : Int32) <<< (r &&& 31))) = 0 ↔ ¬ bit x p := by
  rw [t_nI hr]
  constructor
  · intro z q
    have : bit (x &&& ((1 : Int32) <<< (nI p &&& 31))) p := bit_and.mpr ⟨q, (b1_dec p hp p hp).mpr rfl⟩
    rw [z] at this
    exact bit_0 this
  · intro q
    refine bit_ext (fun i hi => ⟨fun z => ?_, fun z => absurd z bit_0⟩)
    obtain ⟨z1, z2⟩ := bit_and.mp z
    rw [(b1_dec p hp i hi).mp z2] at z1
    exact absurd z1 q
theorem e_stateOf2 {a1 : Int32} {n : Nat} {v : Nat → Int32} (h1 : a1.toInt = n) (hn : n < 256) (σ : sm_S) (h : sF σ v n) : xC xD j_F_stateOf [.ref 1, .int a1] σ (sm_I (fun x σ' => x = v (18 + 3 * n) ∧ σ' = σ)) := by
  have hs : (a1 / (32 : Int32)).toInt = ((n / 32 : Nat) : Int) := t_div h1 rfl (by decide)
  have hr : (a1 - a1 / (32 : Int32) * (32 : Int32)).toInt = ((n % 32 : Nat) : Int) := t_rem h1 rfl (by decide)
  have hp : n % 32 < 32 := by omega
  have d32 : ¬ (32 : Int32) = 0 := by decide
  have vv := t_vp (N := 8) hs (by omega)
  refine d_F_stateOf a1 σ _ ?_
  rw [t_nat hs]
  refine ⟨d32, d32, vv, fun z2 => ⟨vv, fun z3 => ⟨vv, fun z4 => ⟨vv, fun z5 => ⟨_, rfl, ?_, rfl⟩, fun z5 => ⟨_, rfl, ?_, rfl⟩⟩, fun z4 => ⟨_, rfl, ?_, rfl⟩⟩, fun z3 => ⟨_, rfl, ?_, rfl⟩⟩, fun z2 => ⟨_, rfl, ?_, rfl⟩⟩
  · rw [bt0 hr hp] at z2 z3 z4 z5
    rcases h.rng with q | q | q | q | q
    · exact q.symm
    · exact absurd (h.fre.mpr q) z2
    · exact absurd (h.apa.mpr q) z3
    · exact absurd (h.tak.mpr q) z4
    · exact absurd (h.hel.mpr q) z5
  · rw [bt0 hr hp, Classical.not_not] at z5
    exact (h.hel.mp z5).symm
  · rw [bt0 hr hp, Classical.not_not] at z4
    exact (h.tak.mp z4).symm
  · rw [bt0 hr hp, Classical.not_not] at z3
    exact (h.apa.mp z3).symm
  · rw [bt0 hr hp, Classical.not_not] at z2
    exact (h.fre.mp z2).symm
theorem sub1 {x y : Int32} (h : x = y + 1) : y = x - 1 := by rw [h, Int32.add_sub_cancel]
theorem cs3 {a : Int32} (h : 0 ≤ a.toInt ∧ a.toInt < 3) : a = 0 ∨ a = 1 ∨ a = 2 := by
  rcases (show a.toInt = 0 ∨ a.toInt = 1 ∨ a.toInt = 2 by omega) with q | q | q
  · exact Or.inl (t_inj q)
  · exact Or.inr (Or.inl (t_inj q))
  · exact Or.inr (Or.inr (t_inj q))
theorem cs6 {a : Int32} (h : 0 ≤ a.toInt ∧ a.toInt < 6) : a = 0 ∨ a = 1 ∨ a = 2 ∨ a = 3 ∨ a = 4 ∨ a = 5 := by
  rcases (show a.toInt = 0 ∨ a.toInt = 1 ∨ a.toInt = 2 ∨ a.toInt = 3 ∨ a.toInt = 4 ∨ a.toInt = 5 by omega) with q | q | q | q | q | q
  · exact Or.inl (t_inj q)
  · exact Or.inr (Or.inl (t_inj q))
  · exact Or.inr (Or.inr (Or.inl (t_inj q)))
  · exact Or.inr (Or.inr (Or.inr (Or.inl (t_inj q))))
  · exact Or.inr (Or.inr (Or.inr (Or.inr (Or.inl (t_inj q)))))
  · exact Or.inr (Or.inr (Or.inr (Or.inr (Or.inr (t_inj q)))))
theorem cs9 {a : Int32} (h : 0 ≤ a.toInt ∧ a.toInt < 9) : a = 0 ∨ a = 1 ∨ a = 2 ∨ a = 3 ∨ a = 4 ∨ a = 5 ∨ a = 6 ∨ a = 7 ∨ a = 8 := by
  rcases (show a.toInt = 0 ∨ a.toInt = 1 ∨ a.toInt = 2 ∨ a.toInt = 3 ∨ a.toInt = 4 ∨ a.toInt = 5 ∨ a.toInt = 6 ∨ a.toInt = 7 ∨ a.toInt = 8 by omega) with q | q | q | q | q | q | q | q | q
  · exact Or.inl (t_inj q)
  · exact Or.inr (Or.inl (t_inj q))
  · exact Or.inr (Or.inr (Or.inl (t_inj q)))
  · exact Or.inr (Or.inr (Or.inr (Or.inl (t_inj q))))
  · exact Or.inr (Or.inr (Or.inr (Or.inr (Or.inl (t_inj q)))))
  · exact Or.inr (Or.inr (Or.inr (Or.inr (Or.inr (Or.inl (t_inj q))))))
  · exact Or.inr (Or.inr (Or.inr (Or.inr (Or.inr (Or.inr (Or.inl (t_inj q)))))))
  · exact Or.inr (Or.inr (Or.inr (Or.inr (Or.inr (Or.inr (Or.inr (Or.inl (t_inj q))))))))
  · exact Or.inr (Or.inr (Or.inr (Or.inr (Or.inr (Or.inr (Or.inr (Or.inr (t_inj q))))))))
theorem cs11 {a : Int32} (h : 0 ≤ a.toInt ∧ a.toInt < 11) : a = 0 ∨ a = 1 ∨ a = 2 ∨ a = 3 ∨ a = 4 ∨ a = 5 ∨ a = 6 ∨ a = 7 ∨ a = 8 ∨ a = 9 ∨ a = 10 := by
  rcases (show a.toInt = 0 ∨ a.toInt = 1 ∨ a.toInt = 2 ∨ a.toInt = 3 ∨ a.toInt = 4 ∨ a.toInt = 5 ∨ a.toInt = 6 ∨ a.toInt = 7 ∨ a.toInt = 8 ∨ a.toInt = 9 ∨ a.toInt = 10 by omega) with q | q | q | q | q | q | q | q | q | q | q
  · exact Or.inl (t_inj q)
  · exact Or.inr (Or.inl (t_inj q))
  · exact Or.inr (Or.inr (Or.inl (t_inj q)))
  · exact Or.inr (Or.inr (Or.inr (Or.inl (t_inj q))))
  · exact Or.inr (Or.inr (Or.inr (Or.inr (Or.inl (t_inj q)))))
  · exact Or.inr (Or.inr (Or.inr (Or.inr (Or.inr (Or.inl (t_inj q))))))
  · exact Or.inr (Or.inr (Or.inr (Or.inr (Or.inr (Or.inr (Or.inl (t_inj q)))))))
  · exact Or.inr (Or.inr (Or.inr (Or.inr (Or.inr (Or.inr (Or.inr (Or.inl (t_inj q))))))))
  · exact Or.inr (Or.inr (Or.inr (Or.inr (Or.inr (Or.inr (Or.inr (Or.inr (Or.inl (t_inj q)))))))))
  · exact Or.inr (Or.inr (Or.inr (Or.inr (Or.inr (Or.inr (Or.inr (Or.inr (Or.inr (Or.inl (t_inj q))))))))))
  · exact Or.inr (Or.inr (Or.inr (Or.inr (Or.inr (Or.inr (Or.inr (Or.inr (Or.inr (Or.inr (t_inj q))))))))))
theorem cs15 {a : Int32} (h : 0 ≤ a.toInt ∧ a.toInt < 15) : a = 0 ∨ a = 1 ∨ a = 2 ∨ a = 3 ∨ a = 4 ∨ a = 5 ∨ a = 6 ∨ a = 7 ∨ a = 8 ∨ a = 9 ∨ a = 10 ∨ a = 11 ∨ a = 12 ∨ a = 13 ∨ a = 14 := by
  rcases (show a.toInt = 0 ∨ a.toInt = 1 ∨ a.toInt = 2 ∨ a.toInt = 3 ∨ a.toInt = 4 ∨ a.toInt = 5 ∨ a.toInt = 6 ∨ a.toInt = 7 ∨ a.toInt = 8 ∨ a.toInt = 9 ∨ a.toInt = 10 ∨ a.toInt = 11 ∨ a.toInt = 12 ∨ a.toInt = 13 ∨ a.toInt = 14 by omega) with q | q | q | q | q | q | q | q | q | q | q | q | q | q | q
  · exact Or.inl (t_inj q)
  · exact Or.inr (Or.inl (t_inj q))
  · exact Or.inr (Or.inr (Or.inl (t_inj q)))
  · exact Or.inr (Or.inr (Or.inr (Or.inl (t_inj q))))
  · exact Or.inr (Or.inr (Or.inr (Or.inr (Or.inl (t_inj q)))))
  · exact Or.inr (Or.inr (Or.inr (Or.inr (Or.inr (Or.inl (t_inj q))))))
  · exact Or.inr (Or.inr (Or.inr (Or.inr (Or.inr (Or.inr (Or.inl (t_inj q)))))))
  · exact Or.inr (Or.inr (Or.inr (Or.inr (Or.inr (Or.inr (Or.inr (Or.inl (t_inj q))))))))
  · exact Or.inr (Or.inr (Or.inr (Or.inr (Or.inr (Or.inr (Or.inr (Or.inr (Or.inl (t_inj q)))))))))
  · exact Or.inr (Or.inr (Or.inr (Or.inr (Or.inr (Or.inr (Or.inr (Or.inr (Or.inr (Or.inl (t_inj q))))))))))
  · exact Or.inr (Or.inr (Or.inr (Or.inr (Or.inr (Or.inr (Or.inr (Or.inr (Or.inr (Or.inr (Or.inl (t_inj q)))))))))))
  · exact Or.inr (Or.inr (Or.inr (Or.inr (Or.inr (Or.inr (Or.inr (Or.inr (Or.inr (Or.inr (Or.inr (Or.inl (t_inj q))))))))))))
  · exact Or.inr (Or.inr (Or.inr (Or.inr (Or.inr (Or.inr (Or.inr (Or.inr (Or.inr (Or.inr (Or.inr (Or.inr (Or.inl (t_inj q)))))))))))))
  · exact Or.inr (Or.inr (Or.inr (Or.inr (Or.inr (Or.inr (Or.inr (Or.inr (Or.inr (Or.inr (Or.inr (Or.inr (Or.inr (Or.inl (t_inj q))))))))))))))
  · exact Or.inr (Or.inr (Or.inr (Or.inr (Or.inr (Or.inr (Or.inr (Or.inr (Or.inr (Or.inr (Or.inr (Or.inr (Or.inr (Or.inr (t_inj q))))))))))))))
theorem ky_frame {N : Nat} (a1 a2 : Int32) (σ : sm_S) (ht : tie True N σ (σ 169)) : ky j_A_frame j_M_frame [.ref 42, .int a1, .int a2] [.ref 0, .int a1, .int a2] σ := by
  have l0 : a1 < 0 ↔ a1.toInt < 0 := by rw [t_lt]; exact Iff.rfl
  have l1 : a1 < 256 ↔ a1.toInt < 256 := by rw [t_lt]; exact Iff.rfl
  by_cases k1 : 0 ≤ a1.toInt ∧ a1.toInt < 256
  · obtain ⟨n, hn⟩ := t_of k1.1
    have hF := ht.s.F n (by omega)
    have vv := t_vp (N := 256) hn (by omega)
    by_cases k2 : 0 ≤ a2.toInt ∧ a2.toInt < 3
    · have ref : ∀ j : Nat, a2.toInt = j → ∀ r : Int32, (a2 ≠ 1 → σ 169 (18 + 3 * n + j) = r) → (¬ a2 ≠ 1 → σ 169 (18 + 3 * n + j) - 1 = r) → ∀ σ2 : sm_S, σ2 1 = σ 169 → xC xM j_M_frame [.ref 0, .int a1, .int a2] σ2 (sm_I (fun y _ => y = r)) := fun j hj r r1 r2 σ2 e2 => by
        refine w_M_frame a1 a2 σ2 _ (fun σ1 e1 => (c_isInX (L := 0) (H := 255) rfl rfl a1 σ1).int ?_)
        obtain ⟨f1, -⟩ := told1 e2 e1
        rintro x3 σ3 ⟨hx3, es3⟩
        rw [es3]
        refine ⟨fun z => absurd ⟨k1.1, by omega⟩ (hx3.b.1.mp z), fun _ => (c_isInX (L := 0) (H := 2) rfl rfl a2 σ1).int ?_⟩
        rintro x5 σ5 ⟨hx5, es5⟩
        rw [es5]
        refine ⟨fun _ => (c_frameAt a1 σ1).int ?_, fun z => absurd (hx5.b.2.mpr ⟨k2.1, by omega⟩) z⟩
        rintro x7 σ7 ⟨ex7, es7⟩
        rw [ex7, es7]
        have ix := t_ix (c := 18) (m := 3) (C := 18) (M := 3) rfl rfl hn hj (by omega)
        rw [t_nat ix, f1]
        exact ⟨t_vp ix (by omega), fun z => an_ (r1 z), fun z => an_ (r2 z)⟩
      rcases cs3 k2 with q | q | q
      · subst q
        exact ⟨σ 169 (18 + 3 * n), f_A_frame a1 0 σ _ ⟨fun z => absurd (l0.mp z) (by omega), fun _ => ⟨fun _ => ⟨fun _ => anC (e_stateOf2 hn (by omega) σ hF), fun z => absurd rfl z⟩, fun z => absurd (l1.mpr k1.2) z⟩⟩, ref 0 rfl _ (fun z => rfl) (fun z => absurd (by decide) z)⟩
      · subst q
        exact ⟨σ 169 (18 + 3 * n + 1) - 1, f_A_frame a1 1 σ _ ⟨fun z => absurd (l0.mp z) (by omega), fun _ => ⟨fun _ => ⟨fun z => absurd z (by decide), fun _ => ⟨fun _ => ⟨vv, an_ (by rw [t_nat hn]; exact sub1 hF.blk)⟩, fun z => absurd rfl z⟩⟩, fun z => absurd (l1.mpr k1.2) z⟩⟩, ref 1 rfl _ (fun z => absurd rfl z) (fun z => rfl)⟩
      · subst q
        exact ⟨σ 169 (18 + 3 * n + 2), f_A_frame a1 2 σ _ ⟨fun z => absurd (l0.mp z) (by omega), fun _ => ⟨fun _ => ⟨fun z => absurd z (by decide), fun _ => ⟨fun z => absurd z (by decide), fun _ => ⟨fun _ => ⟨vv, an_ (by rw [t_nat hn]; exact hF.val.symm)⟩, fun z => absurd rfl z⟩⟩⟩, fun z => absurd (l1.mpr k1.2) z⟩⟩, ref 2 rfl _ (fun z => rfl) (fun z => absurd (by decide) z)⟩
    · refine ⟨-1, f_A_frame a1 a2 σ _ ⟨fun _ => an_ rfl, fun _ => ⟨fun _ => ⟨fun z => absurd (by rw [z]; decide) k2, fun _ => ⟨fun z => absurd (by rw [z]; decide) k2, fun _ => ⟨fun z => absurd (by rw [z]; decide) k2, fun _ => an_ rfl⟩⟩⟩, fun _ => an_ rfl⟩⟩, fun σ2 e2 => ?_⟩
      refine w_M_frame a1 a2 σ2 _ (fun σ1 e1 => (c_isInX (L := 0) (H := 255) rfl rfl a1 σ1).int ?_)
      rintro x3 σ3 ⟨hx3, es3⟩
      rw [es3]
      refine ⟨fun _ => an_ rfl, fun _ => (c_isInX (L := 0) (H := 2) rfl rfl a2 σ1).int ?_⟩
      rintro x5 σ5 ⟨hx5, es5⟩
      exact ⟨fun z => absurd (by have := hx5.b.2.mp z; omega) k2, fun _ => an_ rfl⟩
  · refine ⟨-1, f_A_frame a1 a2 σ _ ⟨fun _ => an_ rfl, fun z => ⟨fun w => absurd ⟨(by rw [l0] at z; omega), l1.mp w⟩ k1, fun _ => an_ rfl⟩⟩, fun σ2 e2 => ?_⟩
    refine w_M_frame a1 a2 σ2 _ (fun σ1 e1 => (c_isInX (L := 0) (H := 255) rfl rfl a1 σ1).int ?_)
    rintro x3 σ3 ⟨hx3, es3⟩
    exact ⟨fun _ => an_ rfl, fun z => absurd (by have := hx3.b.2.mp z; omega) k1⟩
theorem ce_frame {B : Nat} (a1 a2 : Int32) (σ : sm_S) (hB : B < 1500000000) (h : LR B σ) : two (fun x y => x = y) j_A_frame j_M_frame [.ref 42, .int a1, .int a2] [.ref 168, .int a1, .int a2] B σ := by
  have h2 := h
  obtain ⟨hL, ⟨N, hN, ht⟩, -⟩ := h2
  exact CLk h (a_frameQ a1 a2 σ h.1.1) (fun σ1 q => m_frame a1 a2 σ1 hB q.2.1) (fun σ1 q => by
    obtain ⟨N, hN, hj⟩ := (lw_bs q.2.1).1
    exact qU (as := [.ref 0, .int a1, .int a2]) rfl (k_frame (N := N) a1 a2 (sh rM σ1) hj)) (asM := [.ref 0, .int a1, .int a2]) rfl (ky_frame a1 a2 σ ht.1)
theorem rng_len (p : Nat → Prop) (dp : ∀ t, Decidable (p t)) : ∀ k, ((List.range k).filter (fun t => decide (p t))).length = sumN (fun t => if p t then 1 else 0) k := by
  intro k
  induction k with
  | zero => rfl
  | succ k ih =>
    rw [List.range_succ, List.filter_append, List.length_append, ih]
    show _ = sumN (fun t => if p t then 1 else 0) k + (if p k then 1 else 0)
    by_cases h : p k
    · rw [List.filter_cons_of_pos (p := fun t => decide (p t)) (decide_eq_true h), if_pos h]
      rfl
    · rw [List.filter_cons_of_neg (p := fun t => decide (p t)) (by show ¬ decide (p k) = true; rw [decide_eq_true_iff]; exact h), if_neg h]
      rfl
theorem nI_t {t : Nat} (h : t < 2147483648) : (nI t).toInt = (t : Int) := nI_toInt h
theorem ln_cnt {c : sm_S} {v : Nat → Int32} {L b m : Nat} {bI : Int32} (q : sQ c v L) (hb : b < 96) (hbI : bI.toInt = b) (hm : (v (786 + 16 * b + 9)).toInt = m) : sumN (fun t => if c 28 t = bI then 1 else 0) 6 = m := by
  obtain ⟨-, g2⟩ := q.m_le hb hm
  have a := congrArg List.length g2
  rw [lnV_len] at a
  rw [a, ← rng_len (fun t => c 28 t = bI) (fun t => inferInstance) 6]
  have hbn : bI ≠ -1 := ne_m1 hbI
  have nd1 : ((lnC c L).filter (fun t => decide ((c 28 t.toNatClampNeg).toInt = b))).Nodup := List.Pairwise.filter _ q.nod
  have nd0 : ((List.range 6).filter (fun t => decide (c 28 t = bI))).Nodup := List.Pairwise.filter _ List.nodup_range
  have nd2 : (((List.range 6).filter (fun t => decide (c 28 t = bI))).map nI).Nodup := by
    have nd0' := nd0
    rw [List.nodup_iff_pairwise_ne, List.pairwise_iff_getElem] at nd0'
    rw [List.nodup_iff_pairwise_ne, List.pairwise_iff_getElem]
    intro i j hi hj hij e
    rw [List.getElem_map, List.getElem_map] at e
    rw [List.length_map] at hi hj
    have m1 := List.getElem_mem hi
    have m2 := List.getElem_mem hj
    have r1 := List.mem_range.mp (List.mem_filter.mp m1).1
    have r2 := List.mem_range.mp (List.mem_filter.mp m2).1
    have e' := congrArg Int32.toInt e
    rw [nI_t (by omega), nI_t (by omega)] at e'
    exact nd0' i j hi hj hij (by omega)
  have pm := (List.perm_ext_iff_of_nodup nd1 nd2).mpr (fun x => by
    rw [List.mem_filter, List.mem_map]
    constructor
    · rintro ⟨h1, h2⟩
      obtain ⟨t, t1, t2, t3⟩ := q.mem h1
      rw [t_nat t2, decide_eq_true_iff] at h2
      refine ⟨t, List.mem_filter.mpr ⟨List.mem_range.mpr t1, decide_eq_true (t_inj (by rw [h2, hbI]))⟩, (t_nI t2).symm⟩
    · rintro ⟨t, h1, h2⟩
      obtain ⟨h3, h4⟩ := List.mem_filter.mp h1
      have h3 := List.mem_range.mp h3
      have h4 : c 28 t = bI := of_decide_eq_true h4
      obtain ⟨k, k1, k2⟩ := q.all t h3 (by rw [h4]; exact hbn)
      have e : c 33 k = x := by rw [← h2]; exact t_nI k2
      rw [← e]
      refine ⟨lnC_in k1, decide_eq_true ?_⟩
      rw [t_nat k2, h4, hbI])
  have := pm.length_eq
  rw [List.length_map] at this
  omega
theorem l_lineOf2 (a1 : Int32) (σ : sm_S) : ∀ (d k : Nat) (a2 a3 : Int32), a3.toInt = k → k + d = 6 → a2.toInt = ((sumN (fun t => if σ 28 t = a1 then 1 else 0) k : Nat) : Int) → xE xD m_K_lineOf 4 [.ref 26, .int a1, .int a2, .int a3] [] σ (sm_I (fun x σ' => x.toInt = ((sumN (fun t => if σ 28 t = a1 then 1 else 0) 6 : Nat) : Int) ∧ σ' = σ)) := by
  have bd : ∀ k, sumN (fun t => if σ 28 t = a1 then 1 else 0) k ≤ 1 * k := fun k => sumN_bd (fun i => by split <;> omega)
  intro d
  induction d with
  | zero =>
    intro k a2 a3 h3 hk h2
    have hk : k = 6 := by omega
    subst hk
    exact d_K_lineOf_4 a1 a2 a3 σ _ ⟨fun _ => ⟨_, rfl, h2, rfl⟩, fun h => absurd (by rw [t_le, h3]; show (6 : Int) ≤ _; omega) h⟩
  | succ d ih =>
    intro k a2 a3 h3 hk h2
    have h3' : (a3 + 1).toInt = ((k + 1 : Nat) : Int) := by
      rw [t_add h3 (y := 1) rfl (by omega) (by omega)]
      omega
    have b := bd k
    refine d_K_lineOf_4 a1 a2 a3 σ _ ⟨fun z => ?_, fun _ => ?_⟩
    · rw [t_le, h3] at z
      have z : (6 : Int) ≤ k := z
      omega
    · rw [t_nat h3]
      refine ⟨t_vp h3 (by omega), fun q => ih (k + 1) (a2 + 0) (a3 + 1) h3' (by omega) ?_, fun q => ih (k + 1) (a2 + 1) (a3 + 1) h3' (by omega) ?_⟩
      · rw [Int32.add_zero, h2]
        show _ = ((sumN (fun t => if σ 28 t = a1 then 1 else 0) k + (if σ 28 k = a1 then 1 else 0) : Nat) : Int)
        rw [if_neg q]
        rfl
      · rw [t_add h2 (y := 1) rfl (by omega) (by omega)]
        show _ = ((sumN (fun t => if σ 28 t = a1 then 1 else 0) k + (if σ 28 k = a1 then 1 else 0) : Nat) : Int)
        rw [if_pos (Classical.not_not.mp q)]
        omega
theorem e_lineOf2 {a1 : Int32} {n : Nat} {v : Nat → Int32} (h1 : a1.toInt = n) (hn : n < 96) (σ : sm_S) (h : sim0 σ v) : xC xD j_K_lineOf [.ref 26, .int a1] σ (sm_I (fun x σ' => x = v (786 + 16 * n + 9) ∧ σ' = σ)) := by
  obtain ⟨L, q⟩ := h.Q
  obtain ⟨m, hm, -⟩ := q.lin n hn
  refine (d_K_lineOf a1 σ _ (l_lineOf2 a1 σ 6 0 0 0 rfl rfl rfl)).mono ?_
  rintro r σ' ⟨x, e, hx, es⟩
  refine ⟨x, e, t_inj ?_, es⟩
  rw [hx, hm, ln_cnt q hn h1 hm]
theorem ky_block {N : Nat} (a1 a2 : Int32) (σ : sm_S) (ht : tie True N σ (σ 169)) : ky j_A_block j_M_block [.ref 42, .int a1, .int a2] [.ref 0, .int a1, .int a2] σ := by
  by_cases k1 : ∃ n : Nat, n < 96 ∧ a1.toInt = n ∧ σ 169 (786 + 16 * n) = 1
  · obtain ⟨n, hn1, hn, hI⟩ := k1
    obtain ⟨gb, gb9⟩ := (ht.s.B n hn1).al hI
    have vv := t_vp (N := 96) hn hn1
    have cla : ∀ (Q : Int32 → sm_S → Prop), (∀ x, x ≠ 0 → Q x σ) → xC xF j_B_has [.ref 8, .int a1] σ (sm_ri False Q) := fun Q hQ => (nw0 (e_has2 a1 σ)).int (by
      rintro x σ1 ⟨hx, es⟩
      rw [es]
      refine hQ x ?_
      rcases hx with ⟨x1, -⟩ | ⟨-, hx⟩
      · rw [x1]; decide
      · exfalso
        rcases hx with hx | ⟨m, m1, m2, m3⟩
        · omega
        · have e : m = n := by omega
          rw [e] at m3
          exact gb9 m3)
    by_cases k2 : 0 ≤ a2.toInt ∧ a2.toInt < 9
    · have ref : ∀ j : Nat, a2.toInt = j → ∀ r : Int32, (a2 + 1 ≠ 6 → σ 169 (786 + 16 * n + (j + 1)) = r) → (¬ a2 + 1 ≠ 6 → σ 169 (786 + 16 * n + (j + 1)) - 1 = r) → ∀ σ2 : sm_S, σ2 1 = σ 169 → xC xM j_M_block [.ref 0, .int a1, .int a2] σ2 (sm_I (fun y _ => y = r)) := fun j hj r r1 r2 σ2 e2 => by
        refine w_M_block a1 a2 σ2 _ (fun σ1 e1 => (c_isBlock a1 σ1).int ?_)
        obtain ⟨f1, -⟩ := told1 e2 e1
        rintro x3 σ3 ⟨hx3, es3⟩
        rw [es3]
        refine ⟨fun z => ?_, fun _ => (c_isInX (L := 0) (H := 8) rfl rfl a2 σ1).int ?_⟩
        · exfalso
          rw [z] at hx3
          rcases hx3 with ⟨w, -⟩ | ⟨-, w⟩
          · exact absurd w (by decide)
          · rcases w with w | ⟨m, m1, m2, m3⟩
            · omega
            · have e : m = n := by omega
              rw [e, f1] at m3
              exact m3 hI
        · rintro x5 σ5 ⟨hx5, es5⟩
          rw [es5]
          have hj1 : (a2 + 1).toInt = ((j + 1 : Nat) : Int) := by
            rw [t_add hj (y := 1) rfl (by omega) (by omega)]
            omega
          refine ⟨fun _ => (c_of hn hj1 (by omega) σ1).int ?_, fun z => absurd (hx5.b.2.mpr ⟨k2.1, by omega⟩) z⟩
          rintro x7 σ7 ⟨ex7, es7⟩
          rw [ex7, f1]
          exact ⟨fun z => an_ (r1 z), fun z => an_ (r2 z)⟩
      rcases cs9 k2 with q | q | q | q | q | q | q | q | q
      · subst q
        exact ⟨σ 169 (786 + 16 * n + 1), f_A_block a1 0 σ _ (cla _ (fun x hx => ⟨fun _ => ⟨fun _ => ⟨vv, an_ (by rw [t_nat hn]; exact gb.fir.symm)⟩, fun z => absurd rfl z⟩, fun z => absurd hx z⟩)), ref 0 rfl _ (fun z => rfl) (fun z => absurd (by decide) z)⟩
      · subst q
        exact ⟨σ 169 (786 + 16 * n + 2), f_A_block a1 1 σ _ (cla _ (fun x hx => ⟨fun _ => ⟨fun z => absurd z (by decide), fun _ => ⟨fun _ => ⟨vv, an_ (by rw [t_nat hn]; exact gb.ord.symm)⟩, fun z => absurd rfl z⟩⟩, fun z => absurd hx z⟩)), ref 1 rfl _ (fun z => rfl) (fun z => absurd (by decide) z)⟩
      · subst q
        exact ⟨σ 169 (786 + 16 * n + 3), f_A_block a1 2 σ _ (cla _ (fun x hx => ⟨fun _ => ⟨fun z => absurd z (by decide), fun _ => ⟨fun z => absurd z (by decide), fun _ => ⟨fun _ => ⟨vv, an_ (by rw [t_nat hn]; exact gb.kin.symm)⟩, fun z => absurd rfl z⟩⟩⟩, fun z => absurd hx z⟩)), ref 2 rfl _ (fun z => rfl) (fun z => absurd (by decide) z)⟩
      · subst q
        exact ⟨σ 169 (786 + 16 * n + 4), f_A_block a1 3 σ _ (cla _ (fun x hx => ⟨fun _ => ⟨fun z => absurd z (by decide), fun _ => ⟨fun z => absurd z (by decide), fun _ => ⟨fun z => absurd z (by decide), fun _ => ⟨fun _ => ⟨vv, an_ (by rw [t_nat hn]; exact gb.own.symm)⟩, fun z => absurd rfl z⟩⟩⟩⟩, fun z => absurd hx z⟩)), ref 3 rfl _ (fun z => rfl) (fun z => absurd (by decide) z)⟩
      · subst q
        exact ⟨σ 169 (786 + 16 * n + 5), f_A_block a1 4 σ _ (cla _ (fun x hx => ⟨fun _ => ⟨fun z => absurd z (by decide), fun _ => ⟨fun z => absurd z (by decide), fun _ => ⟨fun z => absurd z (by decide), fun _ => ⟨fun z => absurd z (by decide), fun _ => ⟨fun _ => ⟨vv, an_ (by rw [t_nat hn]; exact gb.pin.symm)⟩, fun z => absurd rfl z⟩⟩⟩⟩⟩, fun z => absurd hx z⟩)), ref 4 rfl _ (fun z => rfl) (fun z => absurd (by decide) z)⟩
      · subst q
        exact ⟨σ 169 (786 + 16 * n + 6) - 1, f_A_block a1 5 σ _ (cla _ (fun x hx => ⟨fun _ => ⟨fun z => absurd z (by decide), fun _ => ⟨fun z => absurd z (by decide), fun _ => ⟨fun z => absurd z (by decide), fun _ => ⟨fun z => absurd z (by decide), fun _ => ⟨fun z => absurd z (by decide), fun _ => ⟨fun _ => ⟨vv, an_ (by rw [t_nat hn]; exact sub1 gb.tgt)⟩, fun z => absurd rfl z⟩⟩⟩⟩⟩⟩, fun z => absurd hx z⟩)), ref 5 rfl _ (fun z => absurd (by decide) z) (fun z => rfl)⟩
      · subst q
        exact ⟨σ 169 (786 + 16 * n + 7), f_A_block a1 6 σ _ (cla _ (fun x hx => ⟨fun _ => ⟨fun z => absurd z (by decide), fun _ => ⟨fun z => absurd z (by decide), fun _ => ⟨fun z => absurd z (by decide), fun _ => ⟨fun z => absurd z (by decide), fun _ => ⟨fun z => absurd z (by decide), fun _ => ⟨fun z => absurd z (by decide), fun _ => ⟨fun _ => ⟨vv, an_ (by rw [t_nat hn]; exact gb.cop.symm)⟩, fun z => absurd rfl z⟩⟩⟩⟩⟩⟩⟩, fun z => absurd hx z⟩)), ref 6 rfl _ (fun z => rfl) (fun z => absurd (by decide) z)⟩
      · subst q
        exact ⟨σ 169 (786 + 16 * n + 8), f_A_block a1 7 σ _ (cla _ (fun x hx => ⟨fun _ => ⟨fun z => absurd z (by decide), fun _ => ⟨fun z => absurd z (by decide), fun _ => ⟨fun z => absurd z (by decide), fun _ => ⟨fun z => absurd z (by decide), fun _ => ⟨fun z => absurd z (by decide), fun _ => ⟨fun z => absurd z (by decide), fun _ => ⟨fun z => absurd z (by decide), fun _ => ⟨fun _ => ⟨vv, an_ (by rw [t_nat hn]; exact gb.use.symm)⟩, fun z => absurd rfl z⟩⟩⟩⟩⟩⟩⟩⟩, fun z => absurd hx z⟩)), ref 7 rfl _ (fun z => rfl) (fun z => absurd (by decide) z)⟩
      · subst q
        exact ⟨σ 169 (786 + 16 * n + 9), f_A_block a1 8 σ _ (cla _ (fun x hx => ⟨fun _ => ⟨fun z => absurd z (by decide), fun _ => ⟨fun z => absurd z (by decide), fun _ => ⟨fun z => absurd z (by decide), fun _ => ⟨fun z => absurd z (by decide), fun _ => ⟨fun z => absurd z (by decide), fun _ => ⟨fun z => absurd z (by decide), fun _ => ⟨fun z => absurd z (by decide), fun _ => ⟨fun z => absurd z (by decide), fun _ => ⟨fun _ => anC (e_lineOf2 hn hn1 σ ht.s), fun z => absurd rfl z⟩⟩⟩⟩⟩⟩⟩⟩⟩, fun z => absurd hx z⟩)), ref 8 rfl _ (fun z => rfl) (fun z => absurd (by decide) z)⟩
    · refine ⟨-1, f_A_block a1 a2 σ _ (cla _ (fun x hx => ⟨fun _ => ⟨fun z => absurd (by rw [z]; decide) k2, fun _ => ⟨fun z => absurd (by rw [z]; decide) k2, fun _ => ⟨fun z => absurd (by rw [z]; decide) k2, fun _ => ⟨fun z => absurd (by rw [z]; decide) k2, fun _ => ⟨fun z => absurd (by rw [z]; decide) k2, fun _ => ⟨fun z => absurd (by rw [z]; decide) k2, fun _ => ⟨fun z => absurd (by rw [z]; decide) k2, fun _ => ⟨fun z => absurd (by rw [z]; decide) k2, fun _ => ⟨fun z => absurd (by rw [z]; decide) k2, fun _ => an_ rfl⟩⟩⟩⟩⟩⟩⟩⟩⟩, fun _ => an_ rfl⟩)), fun σ2 e2 => ?_⟩
      refine w_M_block a1 a2 σ2 _ (fun σ1 e1 => (c_isBlock a1 σ1).int ?_)
      rintro x3 σ3 ⟨hx3, es3⟩
      rw [es3]
      refine ⟨fun _ => an_ rfl, fun _ => (c_isInX (L := 0) (H := 8) rfl rfl a2 σ1).int ?_⟩
      rintro x5 σ5 ⟨hx5, es5⟩
      exact ⟨fun z => absurd (by have := hx5.b.2.mp z; omega) k2, fun _ => an_ rfl⟩
  · refine ⟨-1, f_A_block a1 a2 σ _ ((nw0 (e_has2 a1 σ)).int ?_), fun σ2 e2 => ?_⟩
    · rintro x σ1 ⟨hx, es⟩
      rw [es]
      refine ⟨fun z => ?_, fun _ => an_ rfl⟩
      exfalso
      rcases hx with ⟨x1, m, m1, m2, m3⟩ | ⟨x0, -⟩
      · rcases ht.s.B m m1 with ⟨w, -⟩ | ⟨-, w, -⟩
        · exact m3 w
        · exact k1 ⟨m, m1, m2, w⟩
      · exact z x0
    · refine w_M_block a1 a2 σ2 _ (fun σ1 e1 => (c_isBlock a1 σ1).int ?_)
      obtain ⟨f1, -⟩ := told1 e2 e1
      rintro x3 σ3 ⟨hx3, es3⟩
      refine ⟨fun _ => an_ rfl, fun z => ?_⟩
      exfalso
      rcases hx3 with ⟨-, m, m1, m2, m3⟩ | ⟨x0, -⟩
      · rw [f1] at m3
        exact k1 ⟨m, m1, m2, m3⟩
      · exact z x0
theorem ce_block {B : Nat} (a1 a2 : Int32) (σ : sm_S) (hB : B < 1500000000) (h : LR B σ) : two (fun x y => x = y) j_A_block j_M_block [.ref 42, .int a1, .int a2] [.ref 168, .int a1, .int a2] B σ := by
  have h2 := h
  obtain ⟨hL, ⟨N, hN, ht⟩, -⟩ := h2
  exact CLk h (a_blockQ a1 a2 σ h.1.1) (fun σ1 q => m_block a1 a2 σ1 hB q.2.1) (fun σ1 q => by
    obtain ⟨N, hN, hj⟩ := (lw_bs q.2.1).1
    exact qU (as := [.ref 0, .int a1, .int a2]) rfl (k_block (N := N) a1 a2 (sh rM σ1) hj)) (asM := [.ref 0, .int a1, .int a2]) rfl (ky_block a1 a2 σ ht.1)
theorem l_owned2 {v : Nat → Int32} (a1 : Int32) (σ : sm_S) (h : sim0 σ v) : ∀ (d k : Nat) (a a3 : Int32), a3.toInt = k → k + d = 96 → ∃ r : Int32, xE xD m_B_ownedBy 4 [.ref 8, .int a1, .int a, .int a3] [] σ (sm_I (fun x σ' => x = r ∧ σ' = σ)) ∧ ∀ σ2 : sm_S, σ2 1 = v → xE xM m_M_ownsMany 5 [.ref 0, .int a1, .int 1, .int a, .int a3] [] σ2 (sm_I (fun x σ' => x = r ∧ σ' = σ2)) := by
  intro d
  induction d with
  | zero =>
    intro k a a3 h3 hk
    have l : (96 : Int32) ≤ a3 := by rw [t_le, h3]; show (96 : Int) ≤ _; omega
    exact ⟨a, d_B_ownedBy_4 a1 a a3 σ _ ⟨fun _ => ⟨_, rfl, rfl, rfl⟩, fun z => absurd l z⟩, fun σ2 _ => w_M_ownsMany_5 a1 1 a a3 σ2 _ ⟨fun _ => ⟨_, rfl, rfl, rfl⟩, fun z => absurd l z⟩⟩
  | succ d ih =>
    intro k a a3 h3 hk
    have h3' : (a3 + 1).toInt = ((k + 1 : Nat) : Int) := by
      rw [t_add h3 (y := 1) rfl (by omega) (by omega)]
      omega
    have l : ¬ (96 : Int32) ≤ a3 := by rw [t_le, h3]; show ¬ (96 : Int) ≤ _; omega
    have vv := t_vp (N := 96) h3 (by omega)
    rcases h.B k (by omega) with ⟨g1, g2⟩ | ⟨g1, g2, gb⟩
    · obtain ⟨r, r1, r2⟩ := ih (k + 1) a (a3 + 1) h3' (by omega)
      refine ⟨r, d_B_ownedBy_4 a1 a a3 σ _ ⟨fun z => absurd z l, fun _ => ?_⟩, fun σ2 e2 => w_M_ownsMany_5 a1 1 a a3 σ2 _ ⟨fun z => absurd z l, fun _ => (c_isBlock a3 σ2).int ?_⟩⟩
      · rw [t_nat h3, Int32.add_zero]
        exact ⟨vv, fun _ => r1, fun z => absurd g1 z⟩
      · rintro x2 σ3 ⟨hx2, es⟩
        rw [es]
        refine ⟨fun _ => r2 σ2 e2, fun z => ?_⟩
        exfalso
        rcases hx2 with ⟨-, m, m1, m2, m3⟩ | ⟨x0, -⟩
        · have e : m = k := by omega
          rw [e, e2] at m3
          have g2 : v (786 + 16 * k) = 0 := g2
          rw [g2] at m3
          exact absurd m3 (by decide)
        · exact z x0
    · obtain ⟨r, r1, r2⟩ := ih (k + 1) (if σ 12 k ≠ a1 then a else a + 1) (a3 + 1) h3' (by omega)
      refine ⟨r, d_B_ownedBy_4 a1 a a3 σ _ ⟨fun z => absurd z l, fun _ => ?_⟩, fun σ2 e2 => w_M_ownsMany_5 a1 1 a a3 σ2 _ ⟨fun z => absurd z l, fun _ => (c_isBlock a3 σ2).int ?_⟩⟩
      · rw [t_nat h3, Int32.add_zero]
        refine ⟨vv, fun z => absurd z g1, fun _ => ⟨vv, fun z => ?_, fun z => ?_⟩⟩
        · rw [if_pos z] at r1
          exact r1
        · rw [if_neg z] at r1
          exact r1
      · rintro x2 σ3 ⟨hx2, es⟩
        rw [es]
        refine ⟨fun z => ?_, fun _ => ⟨fun z => absurd z (by decide), fun _ => (c_of (k := 4) (j := 4) h3 rfl (by omega) σ2).int ?_⟩⟩
        · exfalso
          rcases hx2 with ⟨x1, -⟩ | ⟨-, hx⟩
          · rw [z] at x1
            exact absurd x1 (by decide)
          · rcases hx with hx | ⟨m, m1, m2, m3⟩
            · omega
            · have e : m = k := by omega
              rw [e, e2] at m3
              exact m3 g2
        · rintro x6 σ5 ⟨ex6, es5⟩
          rw [ex6, es5, e2, gb.own]
          refine ⟨fun z => ?_, fun z => ?_⟩
          · rw [if_pos z] at r2
            exact r2 σ2 e2
          · rw [if_neg z] at r2
            exact r2 σ2 e2
theorem l_pinned2 {v : Nat → Int32} (a1 : Int32) (σ : sm_S) (h : sim0 σ v) : ∀ (d k : Nat) (a a3 : Int32), a3.toInt = k → k + d = 96 → ∃ r : Int32, xE xD m_B_pinnedBy 4 [.ref 8, .int a1, .int a, .int a3] [] σ (sm_I (fun x σ' => x = r ∧ σ' = σ)) ∧ ∀ σ2 : sm_S, σ2 1 = v → xE xM m_M_ownsMany 5 [.ref 0, .int a1, .int 0, .int a, .int a3] [] σ2 (sm_I (fun x σ' => x = r ∧ σ' = σ2)) := by
  intro d
  induction d with
  | zero =>
    intro k a a3 h3 hk
    have l : (96 : Int32) ≤ a3 := by rw [t_le, h3]; show (96 : Int) ≤ _; omega
    exact ⟨a, d_B_pinnedBy_4 a1 a a3 σ _ ⟨fun _ => ⟨_, rfl, rfl, rfl⟩, fun z => absurd l z⟩, fun σ2 _ => w_M_ownsMany_5 a1 0 a a3 σ2 _ ⟨fun _ => ⟨_, rfl, rfl, rfl⟩, fun z => absurd l z⟩⟩
  | succ d ih =>
    intro k a a3 h3 hk
    have h3' : (a3 + 1).toInt = ((k + 1 : Nat) : Int) := by
      rw [t_add h3 (y := 1) rfl (by omega) (by omega)]
      omega
    have l : ¬ (96 : Int32) ≤ a3 := by rw [t_le, h3]; show ¬ (96 : Int) ≤ _; omega
    have vv := t_vp (N := 96) h3 (by omega)
    rcases h.B k (by omega) with ⟨g1, g2⟩ | ⟨g1, g2, gb⟩
    · obtain ⟨r, r1, r2⟩ := ih (k + 1) a (a3 + 1) h3' (by omega)
      refine ⟨r, d_B_pinnedBy_4 a1 a a3 σ _ ⟨fun z => absurd z l, fun _ => ?_⟩, fun σ2 e2 => w_M_ownsMany_5 a1 0 a a3 σ2 _ ⟨fun z => absurd z l, fun _ => (c_isBlock a3 σ2).int ?_⟩⟩
      · rw [t_nat h3, Int32.add_zero]
        exact ⟨vv, fun _ => r1, fun z => absurd g1 z⟩
      · rintro x2 σ3 ⟨hx2, es⟩
        rw [es]
        refine ⟨fun _ => r2 σ2 e2, fun z => ?_⟩
        exfalso
        rcases hx2 with ⟨-, m, m1, m2, m3⟩ | ⟨x0, -⟩
        · have e : m = k := by omega
          rw [e, e2] at m3
          have g2 : v (786 + 16 * k) = 0 := g2
          rw [g2] at m3
          exact absurd m3 (by decide)
        · exact z x0
    · obtain ⟨r, r1, r2⟩ := ih (k + 1) (a + ((σ 13 k >>> (a1 &&& 31)) &&& 1)) (a3 + 1) h3' (by omega)
      refine ⟨r, d_B_pinnedBy_4 a1 a a3 σ _ ⟨fun z => absurd z l, fun _ => ?_⟩, fun σ2 e2 => w_M_ownsMany_5 a1 0 a a3 σ2 _ ⟨fun z => absurd z l, fun _ => (c_isBlock a3 σ2).int ?_⟩⟩
      · rw [t_nat h3, Int32.add_zero]
        exact ⟨vv, fun z => absurd z g1, fun _ => ⟨vv, r1⟩⟩
      · rintro x2 σ3 ⟨hx2, es⟩
        rw [es]
        refine ⟨fun z => ?_, fun _ => ⟨fun _ => (c_hasPinX h3 (by omega) σ2).int ?_, fun z => absurd rfl z⟩⟩
        · exfalso
          rcases hx2 with ⟨x1, -⟩ | ⟨-, hx⟩
          · rw [z] at x1
            exact absurd x1 (by decide)
          · rcases hx with hx | ⟨m, m1, m2, m3⟩
            · omega
            · have e : m = k := by omega
              rw [e, e2] at m3
              exact m3 g2
        · rintro x4 σ5 ⟨hx4, es5⟩
          rw [es5]
          have hx4 := hx4.b
          unfold hPin at hx4
          rw [e2, gb.pin] at hx4
          refine ⟨fun z => ?_, fun z => ?_⟩
          · rw [Classical.not_not.mp (hx4.1.mp z), Int32.add_zero] at r2
            exact r2 σ2 e2
          · rw [(and01 _).resolve_left (hx4.2.mp z)] at r2
            exact r2 σ2 e2
theorem t_wt {σ : sm_S} {v : Nat → Int32} {t : Nat} (hk : kk σ) (h : sim0 σ v) (ht : t < 6) : v (2322 + 6 * t + 1) ≤ 0 ↔ σ 28 t = -1 := by
  obtain ⟨L, -, -, -, l4⟩ := hk.2.2.1
  rw [(h.T t ht).wai, t_le]
  rcases l4 t ht with g | ⟨-, b, o, a, q1, q2, -⟩
  · rw [g]
    exact ⟨fun _ => rfl, fun _ => by decide⟩
  · rw [t_add q2 (y := 1) rfl (by omega) (by omega)]
    refine ⟨fun z => ?_, fun z => absurd z (ne_m1 q2)⟩
    have z : (b : Int) + 1 ≤ 0 := z
    omega
theorem ky_task {N : Nat} (a1 a2 : Int32) (σ : sm_S) (ht : tie True N σ (σ 169)) (hk : kk σ) : ky j_A_task j_M_task [.ref 42, .int a1, .int a2] [.ref 0, .int a1, .int a2] σ := by
  by_cases k1 : 0 ≤ a1.toInt ∧ a1.toInt < 6
  · obtain ⟨n, hn⟩ := t_of k1.1
    have hn6 : n < 6 := by omega
    have hT := ht.s.T n hn6
    have vv := t_vp (N := 6) hn hn6
    have w01 := t_wt hk ht.s hn6
    have cla : ∀ (Q : Int32 → sm_S → Prop), (∀ x, x ≠ 0 → Q x σ) → xC xF j_A_isTask [.int a1] σ (sm_ri False Q) := fun Q hQ => (nw0 (e_isTaskX a1 σ)).int (by
      rintro x σ1 ⟨hx, es⟩
      rw [es]
      exact hQ x (hx.b.2.mpr k1))
    by_cases k2 : 0 ≤ a2.toInt ∧ a2.toInt < 6
    · have ref : ∀ (Q : Option Value → sm_S → Prop) (σ2 : sm_S), σ2 1 = σ 169 → (∀ σ1 : sm_S, σ1 1 = σ 169 → ((a2 ≠ 0 → ((a2 ≠ 1 → ((a2 ≠ 2 → ((a2 ≠ 3 → ((a2 ≠ 4 → xC xM j_M_ownsMany [.ref 0, .int a1, .int 0] σ1 (sm_ri False (fun x9 σ8 => Q (some (.int x9)) σ8))) ∧ (¬ (a2 ≠ 4) → xC xM j_M_ownsMany [.ref 0, .int a1, .int 1] σ1 (sm_ri False (fun x11 σ10 => Q (some (.int x11)) σ10))))) ∧ (¬ (a2 ≠ 3) → Q (some (.int (σ 169 (2322 + 6 * n + 5)))) σ1))) ∧ (¬ (a2 ≠ 2) → Q (some (.int ((σ 169 (2322 + 6 * n + 1)) - 1))) σ1))) ∧ (¬ (a2 ≠ 1) → ((σ 169 (2322 + 6 * n + 1) ≤ 0 → Q (some (.int 0)) σ1) ∧ (¬ (σ 169 (2322 + 6 * n + 1) ≤ 0) → Q (some (.int 1)) σ1))))) ∧ (¬ (a2 ≠ 0) → Q (some (.int (σ 169 (2322 + 6 * n + 0)))) σ1))) → xC xM j_M_task [.ref 0, .int a1, .int a2] σ2 Q := fun Q σ2 e2 hQ => by
        refine w_M_task a1 a2 σ2 _ (fun σ1 e1 => (c_isTaskX a1 σ1).int ?_)
        obtain ⟨f1, -⟩ := told1 e2 e1
        rintro x3 σ3 ⟨hx3, es3⟩
        rw [es3]
        refine ⟨fun z => absurd k1 (hx3.b.1.mp z), fun _ => (c_isInX (L := 0) (H := 5) rfl rfl a2 σ1).int ?_⟩
        rintro x5 σ5 ⟨hx5, es5⟩
        rw [es5]
        refine ⟨fun _ => (c_taskAt a1 σ1).int ?_, fun z => absurd (hx5.b.2.mpr ⟨k2.1, by omega⟩) z⟩
        rintro x7 σ7 ⟨ex7, es7⟩
        rw [ex7, es7]
        have i0 := t_ix (c := 2322) (m := 6) (C := 2322) (M := 6) (k := 0) (j := 0) rfl rfl hn rfl (by omega)
        have i1 := t_ix (c := 2322) (m := 6) (C := 2322) (M := 6) (k := 1) (j := 1) rfl rfl hn rfl (by omega)
        have i5 := t_ix (c := 2322) (m := 6) (C := 2322) (M := 6) (k := 5) (j := 5) rfl rfl hn rfl (by omega)
        rw [t_nat i0, t_nat i1, t_nat i5, f1]
        have q := hQ σ1 f1
        exact ⟨fun z0 => ⟨fun z1 => ⟨fun z2 => ⟨fun z3 => (((q.1 z0).1 z1).1 z2).1 z3, fun z3 => ⟨t_vp i5 (by omega), (((q.1 z0).1 z1).1 z2).2 z3⟩⟩, fun z2 => ⟨t_vp i1 (by omega), ((q.1 z0).1 z1).2 z2⟩⟩, fun z1 => ⟨t_vp i1 (by omega), (q.1 z0).2 z1⟩⟩, fun z0 => ⟨t_vp i0 (by omega), q.2 z0⟩⟩
      obtain ⟨ro, o1, o2⟩ := l_owned2 a1 σ ht.s 96 0 0 0 rfl rfl
      obtain ⟨rp, p1, p2⟩ := l_pinned2 a1 σ ht.s 96 0 0 0 rfl rfl
      rcases cs6 k2 with q | q | q | q | q | q
      · subst q
        exact ⟨σ 169 (2322 + 6 * n + 0), f_A_task a1 0 σ _ (cla _ (fun x hx => ⟨fun _ => ⟨fun _ => ⟨vv, an_ (by rw [t_nat hn]; exact hT.hom.symm)⟩, fun z => absurd rfl z⟩, fun z => absurd hx z⟩)), fun σ2 e2 => ref _ σ2 e2 (fun σ1 f1 => ⟨fun z => absurd rfl z, fun _ => an_ rfl⟩)⟩
      · subst q
        exact ⟨(if σ 28 n = -1 then 0 else 1), f_A_task a1 1 σ _ (cla _ (fun x hx => ⟨fun _ => ⟨fun z => absurd z (by decide), fun _ => ⟨fun _ => ⟨vv, fun z => an_ (by rw [t_nat hn] at z; exact (if_neg z).symm), fun z => an_ (by rw [t_nat hn] at z; exact (if_pos (Classical.not_not.mp z)).symm)⟩, fun z => absurd rfl z⟩⟩, fun z => absurd hx z⟩)), fun σ2 e2 => ref _ σ2 e2 (fun σ1 f1 => ⟨fun _ => ⟨fun z => absurd rfl z, fun _ => ⟨fun z => an_ (if_pos (w01.mp z)).symm, fun z => an_ (if_neg (fun w => z (w01.mpr w))).symm⟩⟩, fun z => absurd (by decide) z⟩)⟩
      · subst q
        exact ⟨σ 169 (2322 + 6 * n + 1) - 1, f_A_task a1 2 σ _ (cla _ (fun x hx => ⟨fun _ => ⟨fun z => absurd z (by decide), fun _ => ⟨fun z => absurd z (by decide), fun _ => ⟨fun _ => ⟨vv, an_ (by rw [t_nat hn]; exact sub1 hT.wai)⟩, fun z => absurd rfl z⟩⟩⟩, fun z => absurd hx z⟩)), fun σ2 e2 => ref _ σ2 e2 (fun σ1 f1 => ⟨fun _ => ⟨fun _ => ⟨fun z => absurd rfl z, fun _ => an_ rfl⟩, fun z => absurd (by decide) z⟩, fun z => absurd (by decide) z⟩)⟩
      · subst q
        exact ⟨σ 169 (2322 + 6 * n + 5), f_A_task a1 3 σ _ (cla _ (fun x hx => ⟨fun _ => ⟨fun z => absurd z (by decide), fun _ => ⟨fun z => absurd z (by decide), fun _ => ⟨fun z => absurd z (by decide), fun _ => ⟨fun _ => ⟨vv, an_ (by rw [t_nat hn]; exact hT.rea.symm)⟩, fun z => absurd rfl z⟩⟩⟩⟩, fun z => absurd hx z⟩)), fun σ2 e2 => ref _ σ2 e2 (fun σ1 f1 => ⟨fun _ => ⟨fun _ => ⟨fun _ => ⟨fun z => absurd rfl z, fun _ => an_ rfl⟩, fun z => absurd (by decide) z⟩, fun z => absurd (by decide) z⟩, fun z => absurd (by decide) z⟩)⟩
      · subst q
        exact ⟨ro, f_A_task a1 4 σ _ (cla _ (fun x hx => ⟨fun _ => ⟨fun z => absurd z (by decide), fun _ => ⟨fun z => absurd z (by decide), fun _ => ⟨fun z => absurd z (by decide), fun _ => ⟨fun z => absurd z (by decide), fun _ => ⟨fun _ => anC (d_B_ownedBy a1 σ _ o1), fun z => absurd rfl z⟩⟩⟩⟩⟩, fun z => absurd hx z⟩)), fun σ2 e2 => ref _ σ2 e2 (fun σ1 f1 => ⟨fun _ => ⟨fun _ => ⟨fun _ => ⟨fun _ => ⟨fun z => absurd rfl z, fun _ => anM (w_M_ownsMany a1 1 σ1 _ (o2 σ1 f1))⟩, fun z => absurd (by decide) z⟩, fun z => absurd (by decide) z⟩, fun z => absurd (by decide) z⟩, fun z => absurd (by decide) z⟩)⟩
      · subst q
        exact ⟨rp, f_A_task a1 5 σ _ (cla _ (fun x hx => ⟨fun _ => ⟨fun z => absurd z (by decide), fun _ => ⟨fun z => absurd z (by decide), fun _ => ⟨fun z => absurd z (by decide), fun _ => ⟨fun z => absurd z (by decide), fun _ => ⟨fun z => absurd z (by decide), fun _ => ⟨fun _ => anC (d_B_pinnedBy a1 σ _ p1), fun z => absurd rfl z⟩⟩⟩⟩⟩⟩, fun z => absurd hx z⟩)), fun σ2 e2 => ref _ σ2 e2 (fun σ1 f1 => ⟨fun _ => ⟨fun _ => ⟨fun _ => ⟨fun _ => ⟨fun _ => anM (w_M_ownsMany a1 0 σ1 _ (p2 σ1 f1)), fun z => absurd (by decide) z⟩, fun z => absurd (by decide) z⟩, fun z => absurd (by decide) z⟩, fun z => absurd (by decide) z⟩, fun z => absurd (by decide) z⟩)⟩
    · refine ⟨-1, f_A_task a1 a2 σ _ (cla _ (fun x hx => ⟨fun _ => ⟨fun z => absurd (by rw [z]; decide) k2, fun _ => ⟨fun z => absurd (by rw [z]; decide) k2, fun _ => ⟨fun z => absurd (by rw [z]; decide) k2, fun _ => ⟨fun z => absurd (by rw [z]; decide) k2, fun _ => ⟨fun z => absurd (by rw [z]; decide) k2, fun _ => ⟨fun z => absurd (by rw [z]; decide) k2, fun _ => an_ rfl⟩⟩⟩⟩⟩⟩, fun _ => an_ rfl⟩)), fun σ2 e2 => ?_⟩
      refine w_M_task a1 a2 σ2 _ (fun σ1 e1 => (c_isTaskX a1 σ1).int ?_)
      rintro x3 σ3 ⟨hx3, es3⟩
      rw [es3]
      refine ⟨fun _ => an_ rfl, fun _ => (c_isInX (L := 0) (H := 5) rfl rfl a2 σ1).int ?_⟩
      rintro x5 σ5 ⟨hx5, es5⟩
      exact ⟨fun z => absurd (by have := hx5.b.2.mp z; omega) k2, fun _ => an_ rfl⟩
  · refine ⟨-1, f_A_task a1 a2 σ _ ((nw0 (e_isTaskX a1 σ)).int ?_), fun σ2 e2 => ?_⟩
    · rintro x σ1 ⟨hx, es⟩
      exact ⟨fun z => absurd (hx.b.2.mp z) k1, fun _ => an_ rfl⟩
    · refine w_M_task a1 a2 σ2 _ (fun σ1 e1 => (c_isTaskX a1 σ1).int ?_)
      rintro x3 σ3 ⟨hx3, es3⟩
      exact ⟨fun _ => an_ rfl, fun z => absurd (hx3.b.2.mp z) k1⟩
theorem ce_task {B : Nat} (a1 a2 : Int32) (σ : sm_S) (hB : B < 1500000000) (h : LR B σ) : two (fun x y => x = y) j_A_task j_M_task [.ref 42, .int a1, .int a2] [.ref 168, .int a1, .int a2] B σ := by
  have h2 := h
  obtain ⟨hL, ⟨N, hN, ht⟩, -⟩ := h2
  exact CLk h (a_taskQ a1 a2 σ h.1.1) (fun σ1 q => m_task a1 a2 σ1 hB q.2.1) (fun σ1 q => by
    obtain ⟨N, hN, hj⟩ := (lw_bs q.2.1).1
    exact qU (as := [.ref 0, .int a1, .int a2]) rfl (k_task (N := N) a1 a2 (sh rM σ1) hj)) (asM := [.ref 0, .int a1, .int a2]) rfl (ky_task a1 a2 σ ht.1 h.1.1.1)
theorem ky_place {N : Nat} (a1 a2 a3 : Int32) (σ : sm_S) (ht : tie True N σ (σ 169)) (hx : jx (σ 169)) : ky j_A_place j_M_place [.ref 42, .int a1, .int a2, .int a3] [.ref 0, .int a1, .int a2, .int a3] σ := by
  by_cases ok : (0 ≤ a1.toInt ∧ a1.toInt < 6) ∧ (0 ≤ a2.toInt ∧ a2.toInt < 3) ∧ (0 ≤ a3.toInt ∧ a3.toInt < 5)
  · obtain ⟨k1, k2, k3⟩ := ok
    obtain ⟨m, hm⟩ := t_of k1.1
    obtain ⟨o, ho⟩ := t_of k3.1
    obtain ⟨y, ry, rcy, -⟩ := p_best (a1 := a1) (a2 := a2) (a3 := a3) (a4 := 0) ht.s hx hm (by omega) ho (by omega)
    refine ⟨y, ?_, fun σ2 e2 => ?_⟩
    · refine f_A_place a1 a2 a3 σ _ ((nw0 (e_isTaskX a1 σ)).int ?_)
      rintro x2 σ1 ⟨hx2, es⟩
      rw [es]
      refine ⟨fun z => absurd k1 (hx2.b.1.mp z), fun _ => (nw0 (e_isKindX a2 σ)).int ?_⟩
      rintro x4 σ3 ⟨hx4, es3⟩
      rw [es3]
      refine ⟨fun z => absurd k2 (hx4.b.1.mp z), fun _ => (nw0 (e_isOrderX a3 σ)).int ?_⟩
      rintro x6 σ5 ⟨hx6, es5⟩
      rw [es5]
      exact ⟨fun _ => anC rcy, fun z => absurd (hx6.b.2.mpr k3) z⟩
    · refine w_M_place a1 a2 a3 σ2 _ (fun σ1 e1 => (c_isTaskX a1 σ1).int ?_)
      obtain ⟨f1, -⟩ := told1 e2 e1
      rintro x2 σ3 ⟨hx2, es⟩
      rw [es]
      refine ⟨fun z => absurd k1 (hx2.b.1.mp z), fun _ => (c_isInX (L := 0) (H := 2) rfl rfl a2 σ1).int ?_⟩
      rintro x4 σ4 ⟨hx4, es4⟩
      rw [es4]
      refine ⟨fun z => absurd ⟨k2.1, by omega⟩ (hx4.b.1.mp z), fun _ => (c_isInX (L := 0) (H := 4) rfl rfl a3 σ1).int ?_⟩
      rintro x6 σ5 ⟨hx6, es5⟩
      rw [es5]
      refine ⟨fun z => absurd ⟨k3.1, by omega⟩ (hx6.b.1.mp z), fun _ => (ry σ1 f1).int ?_⟩
      rintro z1 σ6 ⟨ez1, es6⟩
      exact an_ ez1
  · refine ⟨-1, ?_, fun σ2 e2 => ?_⟩
    · refine f_A_place a1 a2 a3 σ _ ((nw0 (e_isTaskX a1 σ)).int ?_)
      rintro x2 σ1 ⟨hx2, es⟩
      rw [es]
      refine ⟨fun z => an_ rfl, fun n2 => (nw0 (e_isKindX a2 σ)).int ?_⟩
      rintro x4 σ3 ⟨hx4, es3⟩
      rw [es3]
      refine ⟨fun z => an_ rfl, fun n4 => (nw0 (e_isOrderX a3 σ)).int ?_⟩
      rintro x6 σ5 ⟨hx6, es5⟩
      exact ⟨fun n6 => absurd ⟨hx2.b.2.mp n2, hx4.b.2.mp n4, hx6.b.2.mp n6⟩ ok, fun _ => an_ rfl⟩
    · refine w_M_place a1 a2 a3 σ2 _ (fun σ1 e1 => (c_isTaskX a1 σ1).int ?_)
      rintro x2 σ3 ⟨hx2, es⟩
      rw [es]
      refine ⟨fun z => an_ rfl, fun n2 => (c_isInX (L := 0) (H := 2) rfl rfl a2 σ1).int ?_⟩
      rintro x4 σ4 ⟨hx4, es4⟩
      rw [es4]
      refine ⟨fun z => an_ rfl, fun n4 => (c_isInX (L := 0) (H := 4) rfl rfl a3 σ1).int ?_⟩
      rintro x6 σ5 ⟨hx6, es5⟩
      refine ⟨fun _ => an_ rfl, fun n6 => absurd ⟨hx2.b.2.mp n2, ?_, ?_⟩ ok⟩
      · have := hx4.b.2.mp n4
        omega
      · have := hx6.b.2.mp n6
        omega
theorem ce_place {B : Nat} (a1 a2 a3 : Int32) (σ : sm_S) (hB : B < 1500000000) (h : LR B σ) : two (fun x y => x = y) j_A_place j_M_place [.ref 42, .int a1, .int a2, .int a3] [.ref 168, .int a1, .int a2, .int a3] B σ := by
  have h2 := h
  obtain ⟨hL, ⟨N, hN, ht⟩, -⟩ := h2
  exact CLk h (a_placeQ a1 a2 a3 σ h.1.1) (fun σ1 q => m_place a1 a2 a3 σ1 hB q.2.1) (fun σ1 q => by
    obtain ⟨N, hN, hj⟩ := (lw_bs q.2.1).1
    exact qU (as := [.ref 0, .int a1, .int a2, .int a3]) rfl (k_place (N := N) a1 a2 a3 (sh rM σ1) hj)) (asM := [.ref 0, .int a1, .int a2, .int a3]) rfl (ky_place a1 a2 a3 σ ht.1 ht.2.2)
end
section
/-! ===== the simulation: log, hole, span answer the same ===== -/
theorem cs4 {a : Int32} (h : 0 ≤ a.toInt ∧ a.toInt < 4) : a = 0 ∨ a = 1 ∨ a = 2 ∨ a = 3 := by
  rcases (show a.toInt = 0 ∨ a.toInt = 1 ∨ a.toInt = 2 ∨ a.toInt = 3 by omega) with q | q | q | q
  · exact Or.inl (t_inj q)
  · exact Or.inr (Or.inl (t_inj q))
  · exact Or.inr (Or.inr (Or.inl (t_inj q)))
  · exact Or.inr (Or.inr (Or.inr (t_inj q)))
theorem ky_log {N : Nat} (a1 a2 : Int32) (σ : sm_S) (ht : tie True N σ (σ 169)) : ky j_A_log j_M_log [.ref 42, .int a1, .int a2] [.ref 0, .int a1, .int a2] σ := by
  have hl := ht.l trivial
  obtain ⟨n, hn, hx⟩ := hl.nxt
  have l0 : a1 < 0 ↔ a1.toInt < 0 := by rw [t_lt]; exact Iff.rfl
  have l60 : 60 ≤ a1 ↔ 60 ≤ a1.toInt := by rw [t_le]; exact Iff.rfl
  have ln4 : a1 < σ 34 4 ↔ a1.toInt < n := by rw [hl.lns, t_lt, hn]
  have ln5 : σ 169 5 ≤ a1 ↔ (n : Int) ≤ a1.toInt := by rw [t_le, hn]
  have h5 : (5 : Int32).toNatClampNeg = 5 := rfl
  have v5 : vp_in (5 : Int32) 2662 := t_vp (n := 5) rfl (by decide)
  have bn := t_bd (σ 169 5)
  by_cases ok : 0 ≤ a1.toInt ∧ a1.toInt < 60 ∧ a1.toInt < n
  · obtain ⟨i, hi⟩ := t_of ok.1
    have hi6 : i < 60 := by omega
    have hin : i < n := by omega
    have p60 : (n - 1 - i) % 60 < 60 := by omega
    have ixA : σ 34 5 ≤ a1 → (((σ 34 5 - 1) - a1) + 60).toInt = (((n - 1 - i) % 60 : Nat) : Int) := fun z => by
      rw [t_le, hx, hi] at z
      rw [t_add (t_sub (t_sub hx (y := 1) rfl (by omega) (by omega)) hi (by omega) (by omega)) (y := 60) rfl (by omega) (by omega)]
      omega
    have ixB : ¬ σ 34 5 ≤ a1 → ((σ 34 5 - 1) - a1).toInt = (((n - 1 - i) % 60 : Nat) : Int) := fun z => by
      rw [t_le, hx, hi] at z
      rw [t_sub (t_sub hx (y := 1) rfl (by omega) (by omega)) hi (by omega) (by omega)]
      omega
    obtain ⟨g0, g1, g2, g3⟩ := hl.ent ((n - 1 - i) % 60) p60
    by_cases k2 : 0 ≤ a2.toInt ∧ a2.toInt < 4
    · have ref : ∀ j : Nat, a2.toInt = j → ∀ σ2 : sm_S, σ2 1 = σ 169 → xC xM j_M_log [.ref 0, .int a1, .int a2] σ2 (sm_I (fun y _ => y = σ 169 (2422 + 4 * ((n - 1 - i) % 60) + j))) := fun j hj σ2 e2 => by
        refine w_M_log a1 a2 σ2 _ (fun σ1 e1 => ?_)
        obtain ⟨f1, -⟩ := told1 e2 e1
        rw [h5, f1]
        refine ⟨fun z => absurd (l0.mp z) (by omega), fun _ => ⟨fun z => absurd (l60.mp z) (by omega), fun _ => ⟨v5, fun z => absurd (ln5.mp z) (by omega), fun _ => (c_isInX (L := 0) (H := 3) rfl rfl a2 σ1).int ?_⟩⟩⟩
        rintro x3 σ3 ⟨hx3, es3⟩
        rw [es3, f1]
        have hq : ((σ 169 5 - 1) - a1).toInt = ((n - 1 - i : Nat) : Int) := by
          rw [t_sub (t_sub hn (y := 1) rfl (by omega) (by omega)) hi (by omega) (by omega)]
          omega
        have hr := t_rem (b := 60) (d := 60) hq rfl (by decide)
        have ix := t_ix (c := 2422) (m := 4) (C := 2422) (M := 4) rfl rfl hr hj (by omega)
        rw [t_nat ix]
        exact ⟨fun _ => ⟨v5, by decide, t_vp ix (by omega), an_ rfl⟩, fun z => absurd (hx3.b.2.mpr ⟨k2.1, by omega⟩) z⟩
      rcases cs4 k2 with q | q | q | q
      · subst q
        exact ⟨_, f_A_log a1 0 σ _ (anC (d_L_cell a1 0 σ _ ⟨fun z => absurd (l0.mp z) (by omega), fun _ => ⟨fun z => absurd (l60.mp z) (by omega), fun _ => ⟨fun _ => ⟨fun z => ⟨fun _ => ⟨t_vp (ixA z) p60, _, rfl, by rw [t_nat (ixA z)]; exact g0.symm, rfl⟩, fun w => absurd rfl w⟩, fun z => ⟨fun _ => ⟨t_vp (ixB z) p60, _, rfl, by rw [t_nat (ixB z)]; exact g0.symm, rfl⟩, fun w => absurd rfl w⟩⟩, fun z => absurd (ln4.mpr (by omega)) z⟩⟩⟩)), ref 0 rfl⟩
      · subst q
        exact ⟨_, f_A_log a1 1 σ _ (anC (d_L_cell a1 1 σ _ ⟨fun z => absurd (l0.mp z) (by omega), fun _ => ⟨fun z => absurd (l60.mp z) (by omega), fun _ => ⟨fun _ => ⟨fun z => ⟨fun w => absurd w (by decide), fun _ => ⟨fun _ => ⟨t_vp (ixA z) p60, _, rfl, by rw [t_nat (ixA z)]; exact g1.symm, rfl⟩, fun w => absurd rfl w⟩⟩, fun z => ⟨fun w => absurd w (by decide), fun _ => ⟨fun _ => ⟨t_vp (ixB z) p60, _, rfl, by rw [t_nat (ixB z)]; exact g1.symm, rfl⟩, fun w => absurd rfl w⟩⟩⟩, fun z => absurd (ln4.mpr (by omega)) z⟩⟩⟩)), ref 1 rfl⟩
      · subst q
        exact ⟨_, f_A_log a1 2 σ _ (anC (d_L_cell a1 2 σ _ ⟨fun z => absurd (l0.mp z) (by omega), fun _ => ⟨fun z => absurd (l60.mp z) (by omega), fun _ => ⟨fun _ => ⟨fun z => ⟨fun w => absurd w (by decide), fun _ => ⟨fun w => absurd w (by decide), fun _ => ⟨fun _ => ⟨t_vp (ixA z) p60, _, rfl, by rw [t_nat (ixA z)]; exact g2.symm, rfl⟩, fun w => absurd rfl w⟩⟩⟩, fun z => ⟨fun w => absurd w (by decide), fun _ => ⟨fun w => absurd w (by decide), fun _ => ⟨fun _ => ⟨t_vp (ixB z) p60, _, rfl, by rw [t_nat (ixB z)]; exact g2.symm, rfl⟩, fun w => absurd rfl w⟩⟩⟩⟩, fun z => absurd (ln4.mpr (by omega)) z⟩⟩⟩)), ref 2 rfl⟩
      · subst q
        exact ⟨_, f_A_log a1 3 σ _ (anC (d_L_cell a1 3 σ _ ⟨fun z => absurd (l0.mp z) (by omega), fun _ => ⟨fun z => absurd (l60.mp z) (by omega), fun _ => ⟨fun _ => ⟨fun z => ⟨fun w => absurd w (by decide), fun _ => ⟨fun w => absurd w (by decide), fun _ => ⟨fun w => absurd w (by decide), fun _ => ⟨fun _ => ⟨t_vp (ixA z) p60, _, rfl, by rw [t_nat (ixA z)]; exact g3.symm, rfl⟩, fun w => absurd rfl w⟩⟩⟩⟩, fun z => ⟨fun w => absurd w (by decide), fun _ => ⟨fun w => absurd w (by decide), fun _ => ⟨fun w => absurd w (by decide), fun _ => ⟨fun _ => ⟨t_vp (ixB z) p60, _, rfl, by rw [t_nat (ixB z)]; exact g3.symm, rfl⟩, fun w => absurd rfl w⟩⟩⟩⟩⟩, fun z => absurd (ln4.mpr (by omega)) z⟩⟩⟩)), ref 3 rfl⟩
    · refine ⟨-1, f_A_log a1 a2 σ _ (anC (d_L_cell a1 a2 σ _ ⟨fun _ => ⟨_, rfl, rfl, rfl⟩, fun _ => ⟨fun _ => ⟨_, rfl, rfl, rfl⟩, fun _ => ⟨fun _ => ⟨fun _ => ⟨fun z => absurd (by rw [z]; decide) k2, fun _ => ⟨fun z => absurd (by rw [z]; decide) k2, fun _ => ⟨fun z => absurd (by rw [z]; decide) k2, fun _ => ⟨fun z => absurd (by rw [z]; decide) k2, fun _ => ⟨_, rfl, rfl, rfl⟩⟩⟩⟩⟩, fun _ => ⟨fun z => absurd (by rw [z]; decide) k2, fun _ => ⟨fun z => absurd (by rw [z]; decide) k2, fun _ => ⟨fun z => absurd (by rw [z]; decide) k2, fun _ => ⟨fun z => absurd (by rw [z]; decide) k2, fun _ => ⟨_, rfl, rfl, rfl⟩⟩⟩⟩⟩⟩, fun _ => ⟨_, rfl, rfl, rfl⟩⟩⟩⟩)), fun σ2 e2 => w_M_log a1 a2 σ2 _ (fun σ1 e1 => ?_)⟩
      rw [h5]
      refine ⟨fun _ => an_ rfl, fun _ => ⟨fun _ => an_ rfl, fun _ => ⟨v5, fun _ => an_ rfl, fun _ => (c_isInX (L := 0) (H := 3) rfl rfl a2 σ1).int ?_⟩⟩⟩
      rintro x3 σ3 ⟨hx3, es3⟩
      exact ⟨fun z => absurd (by have := hx3.b.2.mp z; omega) k2, fun _ => an_ rfl⟩
  · refine ⟨-1, f_A_log a1 a2 σ _ (anC (d_L_cell a1 a2 σ _ ⟨fun _ => ⟨_, rfl, rfl, rfl⟩, fun z0 => ⟨fun _ => ⟨_, rfl, rfl, rfl⟩, fun z6 => ⟨fun z => ?_, fun _ => ⟨_, rfl, rfl, rfl⟩⟩⟩⟩)), fun σ2 e2 => w_M_log a1 a2 σ2 _ (fun σ1 e1 => ?_)⟩
    · rw [l0] at z0
      rw [l60] at z6
      rw [ln4] at z
      exact absurd ⟨by omega, by omega, z⟩ ok
    · obtain ⟨f1, -⟩ := told1 e2 e1
      rw [h5, f1]
      refine ⟨fun _ => an_ rfl, fun z0 => ⟨fun _ => an_ rfl, fun z6 => ⟨v5, fun _ => an_ rfl, fun z => ?_⟩⟩⟩
      rw [l0] at z0
      rw [l60] at z6
      rw [ln5] at z
      exact absurd ⟨by omega, by omega, by omega⟩ ok
theorem ce_log {B : Nat} (a1 a2 : Int32) (σ : sm_S) (hB : B < 1500000000) (h : LR B σ) : two (fun x y => x = y) j_A_log j_M_log [.ref 42, .int a1, .int a2] [.ref 168, .int a1, .int a2] B σ := by
  have h2 := h
  obtain ⟨hL, ⟨N, hN, ht⟩, -⟩ := h2
  exact CLk h (a_logQ a1 a2 σ h.1.1) (fun σ1 q => m_log a1 a2 σ1 hB q.2.1) (fun σ1 q => by
    obtain ⟨N, hN, hj⟩ := (lw_bs q.2.1).1
    exact qU (as := [.ref 0, .int a1, .int a2]) rfl (k_log (N := N) a1 a2 (sh rM σ1) hj)) (asM := [.ref 0, .int a1, .int a2]) rfl (ky_log a1 a2 σ ht.1)
theorem fl_dec : ∀ p, p < 32 → ∀ k, k < 6 → (nI p >>> (nI k &&& 31)) <<< (nI k &&& 31) = nI (p / 2 ^ k * 2 ^ k) := by decide +kernel
theorem bt1 {x q : Int32} {p : Nat} (hq : q = nI p) (hp : p < 32) : (((x.toUInt32 >>> (q.toUInt32 &&& Int32.toUInt32 31)).toInt32) &&& 1) ≠ 0 ↔ bit x p := by
  rw [hq, am_b p hp, bit_ne]
  constructor
  · rintro ⟨i, hi, h⟩
    obtain ⟨h1, h2⟩ := bit_and.mp h
    rw [(bit_1 hi).mp h2, bit_shr hp, Nat.add_zero] at h1
    exact h1
  · intro h
    exact ⟨0, by decide, bit_and.mpr ⟨by rw [bit_shr hp, Nat.add_zero]; exact h, (bit_1 (by decide)).mpr rfl⟩⟩
theorem l_holeRound2 {a0 a1 : Int32} {p : Nat} (h1 : a1.toInt = p) (hp : p < 32) (σ : sm_S) : ∀ (d k : Nat) (a2 a3 : Int32) (v4 : Value), a3.toInt = k → k + d = 6 → a2.toInt = (k : Int) - 1 → (∀ j, j < k → frb a0 p j) → xE xD m_R_holeRound 4 [.int a0, .int a1, .int a2, .int a3, v4] [] σ (sm_I (fun x σ' => ((x = -1 ∧ ¬ frb a0 p 0) ∨ ∃ h : Nat, x.toInt = h ∧ hol a0 p 0 h) ∧ σ' = σ)) := by
  intro d
  induction d with
  | zero =>
    intro k a2 a3 v4 h3 hk h2 hf
    refine d_R_holeRound_4 a0 a1 a2 a3 v4 σ _ ⟨fun _ => ⟨_, rfl, Or.inr ⟨5, by omega, by omega, by omega, hf 5 (by omega), Or.inl rfl⟩, rfl⟩, fun z => absurd ?_ z⟩
    rw [t_lt, h3]
    show (5 : Int) < _
    omega
  | succ d ih =>
    intro k a2 a3 v4 h3 hk h2 hf
    have h3' : (a3 + 1).toInt = ((k + 1 : Nat) : Int) := by
      rw [t_add h3 (y := 1) rfl (by omega) (by omega)]
      omega
    have l : ¬ (5 : Int32) < a3 := by rw [t_lt, h3]; show ¬ (5 : Int) < _; omega
    have e : (a1 >>> (a3 &&& 31)) <<< (a3 &&& 31) = nI (p / 2 ^ k * 2 ^ k) := by rw [t_nI h1, t_nI h3, fl_dec p hp k (by omega)]
    have hb : p / 2 ^ k * 2 ^ k < 32 := by
      have := base_lt (i := p) (k := k)
      omega
    have hs : bit (st a0 k) (p / 2 ^ k * 2 ^ k) ↔ frb a0 p k := by
      rw [st_iff (by omega) hb]
      refine ⟨fun z j hj => ?_, fun z => ⟨base_b p k, frb_base z⟩⟩
      have := z.2 j hj
      rw [al_pow (base_b p k)] at this
      exact this
    refine d_R_holeRound_4 a0 a1 a2 a3 v4 σ _ ⟨fun z => absurd z l, fun _ => (c_starts h3 (by omega) a0 σ).int ?_⟩
    rintro x2 σ1 ⟨ex2, es⟩
    rw [ex2, es]
    refine ⟨fun z => ih (k + 1) a3 (a3 + 1) _ h3' (by omega) (by rw [h3]; omega) (fun j hj => ?_), fun z => ⟨_, rfl, ?_, rfl⟩⟩
    · rw [bt1 e hb, hs] at z
      by_cases q : j = k
      · rw [q]; exact z
      · exact hf j (by omega)
    · rw [bt1 e hb, hs] at z
      cases k with
      | zero => exact Or.inl ⟨t_inj (by rw [h2]; rfl), z⟩
      | succ k => exact Or.inr ⟨k, by rw [h2]; omega, by omega, by omega, hf k (by omega), Or.inr z⟩
theorem l_holeOf2 {a1 : Int32} {n : Nat} (h1 : a1.toInt = n) (hn : n < 700) (σ : sm_S) : ∀ (d k : Nat) (a3 : Int32), a3.toInt = k → k + d = 5 → frF (frV (σ 1)) n k → xE xM m_M_holeOf 2 [.ref 0, .int a1, .int a3] [] σ (sm_I (fun x σ' => (∃ j : Nat, x.toInt = j ∧ holF (frV (σ 1)) n 0 j) ∧ σ' = σ)) := by
  intro d
  induction d with
  | zero =>
    intro k a3 h2 hk hf
    refine w_M_holeOf_2 a1 a3 σ _ ⟨fun _ => ⟨_, rfl, ⟨k, h2, by omega, by omega, hf, Or.inl (by omega)⟩, rfl⟩, fun h => absurd ?_ h⟩
    rw [t_le, h2]
    show (5 : Int) ≤ _
    omega
  | succ d ih =>
    intro k a3 h2 hk hf
    have h3 : (a3 + 1).toInt = ((k + 1 : Nat) : Int) := by
      rw [t_add h2 (y := 1) rfl (by omega) (by omega)]
      omega
    refine w_M_holeOf_2 a1 a3 σ _ ⟨fun h => ?_, fun h => (c_areFree h1 hn h3 (by omega) σ).int ?_⟩
    · rw [t_le, h2] at h
      have h : (5 : Int) ≤ k := h
      omega
    · rintro x σ1 ⟨hx, es⟩
      rw [es]
      refine ⟨fun z => ⟨_, rfl, ⟨k, h2, by omega, by omega, hf, Or.inr ?_⟩, rfl⟩, fun z => ih (k + 1) _ h3 (by omega) ?_⟩
      · rcases hx with ⟨q, -⟩ | ⟨-, j, q1, q2⟩
        · rw [q] at z; exact absurd z (by decide)
        · exact fun g => q2 (g j q1)
      · rcases hx with ⟨-, q⟩ | ⟨q, -⟩
        · exact q
        · exact absurd q z
theorem sim_fr {c : sm_S} {v : Nat → Int32} (h : sim0 c v) : ∀ f, f < 256 → (frV v f ↔ frC c f) := fun f hf => (h.F f hf).fre.symm
theorem ky_hole {N : Nat} (a1 : Int32) (σ : sm_S) (ht : tie True N σ (σ 169)) : ky j_A_hole j_M_hole [.ref 42, .int a1] [.ref 0, .int a1] σ := by
  have l0 : a1 < 0 ↔ a1.toInt < 0 := by rw [t_lt]; exact Iff.rfl
  have l1 : a1 < 256 ↔ a1.toInt < 256 := by rw [t_lt]; exact Iff.rfl
  have d32 : ¬ (32 : Int32) = 0 := by decide
  by_cases k1 : 0 ≤ a1.toInt ∧ a1.toInt < 256
  · obtain ⟨n, hn⟩ := t_of k1.1
    have hF := ht.s.F n (by omega)
    have hs : (a1 / (32 : Int32)).toInt = ((n / 32 : Nat) : Int) := t_div hn rfl (by decide)
    have hr : (a1 - a1 / (32 : Int32) * (32 : Int32)).toInt = ((n % 32 : Nat) : Int) := t_rem hn rfl (by decide)
    have vv := t_vp (N := 8) hs (by omega)
    obtain ⟨r, hr1, hr2⟩ := pick (d_R_holeRound (σ 2 (n / 32)) _ σ _ (l_holeRound2 (a0 := σ 2 (n / 32)) hr (by omega) σ 6 0 (-1) 0 .null rfl rfl rfl (fun j hj => by omega)))
    have f0 : frb (σ 2 (n / 32)) (n % 32) 0 ↔ σ 169 (18 + 3 * n) = 1 := by
      rw [← hF.fre]
      refine ⟨fun z => ?_, fun z j hj => ?_⟩
      · have := z 0 (by decide)
        simpa using this
      · rw [show j = 0 by simpa using hj]
        simpa using z
    refine ⟨r, f_A_hole a1 σ _ ⟨fun z => absurd (l0.mp z) (by omega), fun _ => ⟨fun _ => ⟨d32, vv, d32, ?_⟩, fun z => absurd (l1.mpr k1.2) z⟩⟩, fun σ2 e2 => ?_⟩
    · rw [t_nat hs]
      exact anC hr2
    · refine w_M_hole a1 σ2 _ (fun σ1 e1 => (c_isInX (L := 0) (H := 255) rfl rfl a1 σ1).int ?_)
      obtain ⟨f1, -⟩ := told1 e2 e1
      rintro x3 σ3 ⟨hx3, es3⟩
      rw [es3]
      refine ⟨fun z => absurd ⟨k1.1, by omega⟩ (hx3.b.1.mp z), fun _ => (c_isFree hn (by omega) σ1).int ?_⟩
      rintro x5 σ5 ⟨hx5, es5⟩
      rw [es5]
      rw [f1] at hx5
      refine ⟨fun z => an_ ?_, fun z => (w_M_holeOf a1 σ1 _ (l_holeOf2 hn (by omega) σ1 5 0 0 rfl rfl ?_)).int ?_⟩
      · rcases hr1 with ⟨q, -⟩ | ⟨h, -, q⟩
        · exact q.symm
        · exfalso
          rcases hx5 with ⟨w, -⟩ | ⟨-, w⟩
          · rw [w] at z; exact absurd z (by decide)
          · exact w (f0.mp (frb_le (by omega) q.2.2.1))
      · rw [f1]
        intro j hj
        rw [show j = 0 by simpa using hj]
        have : σ 169 (18 + 3 * n) = 1 := by
          rcases hx5 with ⟨-, w⟩ | ⟨w, -⟩
          · exact w
          · exact absurd w z
        show σ 169 (18 + 3 * (n / 2 ^ 0 * 2 ^ 0 + 0)) = 1
        simpa using this
      · rintro y σ7 ⟨⟨h, hy, hh⟩, es7⟩
        refine an_ ?_
        rw [f1] at hh
        have hc := holF_b.mp (holF_cg (by omega) (sim_fr ht.s) hh)
        rcases hr1 with ⟨-, q⟩ | ⟨h', q1, q2⟩
        · exact absurd (frb_le (by omega) hc.2.2.1) q
        · apply t_inj
          rw [hy, q1, hol_un hc q2]
  · refine ⟨-1, f_A_hole a1 σ _ ⟨fun _ => an_ rfl, fun z => ⟨fun w => absurd ⟨(by rw [l0] at z; omega), l1.mp w⟩ k1, fun _ => an_ rfl⟩⟩, fun σ2 e2 => ?_⟩
    refine w_M_hole a1 σ2 _ (fun σ1 e1 => (c_isInX (L := 0) (H := 255) rfl rfl a1 σ1).int ?_)
    rintro x3 σ3 ⟨hx3, es3⟩
    exact ⟨fun _ => an_ rfl, fun z => absurd (by have := hx3.b.2.mp z; omega) k1⟩
theorem ce_hole {B : Nat} (a1 : Int32) (σ : sm_S) (hB : B < 1500000000) (h : LR B σ) : two (fun x y => x = y) j_A_hole j_M_hole [.ref 42, .int a1] [.ref 168, .int a1] B σ := by
  have h2 := h
  obtain ⟨hL, ⟨N, hN, ht⟩, -⟩ := h2
  exact CLk h (a_holeQ a1 σ h.1.1) (fun σ1 q => m_hole a1 σ1 hB q.2.1) (fun σ1 q => by
    obtain ⟨N, hN, hj⟩ := (lw_bs q.2.1).1
    exact qU (as := [.ref 0, .int a1]) rfl (k_hole (N := N) a1 (sh rM σ1) hj)) (asM := [.ref 0, .int a1]) rfl (ky_hole a1 σ ht.1)
theorem pc_S {c : sm_S} {v : Nat → Int32} {s : Nat} {x a : Int32} (hs : s < 8) (h : ∀ i, i < 32 → (bit x i ↔ v (18 + 3 * (32 * s + i)) = a)) : pcn x = cnS v s a := by
  rw [pc_bit]
  exact sumN_cg (fun i hi => by
    have q := h i hi
    unfold bit at q
    by_cases z : v (18 + 3 * (32 * s + i)) = a
    · rw [if_pos (q.mpr z), if_pos z]
    · rw [if_neg (fun w => z (q.mp w)), if_neg z])
theorem pc_fr {c : sm_S} {v : Nat → Int32} {s : Nat} (h : sim0 c v) (hs : s < 8) : pcn (c 2 s) = cnS v s 1 ∧ pcn (c 3 s) = cnS v s 2 ∧ pcn (c 4 s) = cnS v s 3 ∧ pcn (c 5 s) = cnS v s 4 := by
  have e1 : ∀ i, i < 32 → (32 * s + i) / 32 = s := fun i hi => by omega
  have e2 : ∀ i, i < 32 → (32 * s + i) % 32 = i := fun i hi => by omega
  refine ⟨pc_S (c := c) hs (fun i hi => ?_), pc_S (c := c) hs (fun i hi => ?_), pc_S (c := c) hs (fun i hi => ?_), pc_S (c := c) hs (fun i hi => ?_)⟩
  · have := (h.F (32 * s + i) (by omega)).fre
    rw [e1 i hi, e2 i hi] at this
    exact this
  · have := (h.F (32 * s + i) (by omega)).apa
    rw [e1 i hi, e2 i hi] at this
    exact this
  · have := (h.F (32 * s + i) (by omega)).tak
    rw [e1 i hi, e2 i hi] at this
    exact this
  · have := (h.F (32 * s + i) (by omega)).hel
    rw [e1 i hi, e2 i hi] at this
    exact this
theorem ky_span {N : Nat} (a1 a2 : Int32) (σ : sm_S) (ht : tie True N σ (σ 169)) : ky j_A_span j_M_span [.ref 42, .int a1, .int a2] [.ref 0, .int a1, .int a2] σ := by
  by_cases k1 : 0 ≤ a1.toInt ∧ a1.toInt < 8
  · obtain ⟨n, hn⟩ := t_of k1.1
    have hn8 : n < 8 := by omega
    have hS := ht.s.S n hn8
    have vv := t_vp (N := 8) hn hn8
    obtain ⟨u2, u3, u4, u5⟩ := pc_fr ht.s hn8
    have cla : ∀ (Q : Int32 → sm_S → Prop), (∀ x, x ≠ 0 → Q x σ) → xC xF j_A_isSpan [.int a1] σ (sm_ri False Q) := fun Q hQ => (nw0 (e_isSpanX a1 σ)).int (by
      rintro x σ1 ⟨hx, es⟩
      rw [es]
      exact hQ x (hx.b.2.mpr k1))
    have bc : ∀ (x : Int32) (m : Nat), pcn x = m → xC xF j_I_bitCount [.int x] σ (sm_ri False (fun x σ' => sm_I (fun x _ => x = nI m) (some (.int x)) σ')) := fun x m e => by
      rw [← e]
      exact anC (toN (c_bitCount2 x σ))
    by_cases k2 : 0 ≤ a2.toInt ∧ a2.toInt < 11
    · have ref : ∀ (Q : Option Value → sm_S → Prop) (σ2 : sm_S), σ2 1 = σ 169 → (∀ σ1 : sm_S, σ1 1 = σ 169 → ((a2 ≠ 0 → ((a2 ≠ 1 → ((6 ≤ a2 → ((a2 ≠ 6 → ((a2 ≠ 7 → ((a2 ≠ 8 → ((a2 ≠ 9 → Q (some (.int ((σ 169 (2358 + 8 * n + 7)) - 1))) σ1) ∧ (¬ (a2 ≠ 9) → Q (some (.int ((σ 169 (2358 + 8 * n + 6)) - 1))) σ1))) ∧ (¬ (a2 ≠ 8) → Q (some (.int (σ 169 (2358 + 8 * n + 4)))) σ1))) ∧ (¬ (a2 ≠ 7) → Q (some (.int (σ 169 (2358 + 8 * n + 3)))) σ1))) ∧ (¬ (a2 ≠ 6) → Q (some (.int (σ 169 (2358 + 8 * n + 2)))) σ1))) ∧ (¬ (6 ≤ a2) → Q (some (.int (nI (cnS (σ 169) n (a2 - 1))))) σ1))) ∧ (¬ (a2 ≠ 1) → Q (some (.int (zV (σ 169) n))) σ1))) ∧ (¬ (a2 ≠ 0) → Q (some (.int (σ 169 (2358 + 8 * n + 0)))) σ1))) → xC xM j_M_span [.ref 0, .int a1, .int a2] σ2 Q := fun Q σ2 e2 hQ => by
        refine w_M_span a1 a2 σ2 _ (fun σ1 e1 => (c_isSpanX a1 σ1).int ?_)
        obtain ⟨f1, -⟩ := told1 e2 e1
        rintro x3 σ3 ⟨hx3, es3⟩
        rw [es3]
        refine ⟨fun z => absurd k1 (hx3.b.1.mp z), fun _ => (c_isInX (L := 0) (H := 10) rfl rfl a2 σ1).int ?_⟩
        rintro x5 σ5 ⟨hx5, es5⟩
        rw [es5]
        refine ⟨fun _ => (c_spanAt a1 σ1).int ?_, fun z => absurd (hx5.b.2.mpr ⟨k2.1, by omega⟩) z⟩
        rintro x7 σ7 ⟨ex7, es7⟩
        rw [ex7, es7]
        have ix : ∀ (k : Int32) (j : Nat), k.toInt = j → j < 8 → (2358 + 8 * a1 + k).toInt = ((2358 + 8 * n + j : Nat) : Int) := fun k j hk hj => t_ix (c := 2358) (m := 8) (C := 2358) (M := 8) rfl rfl hn hk (by omega)
        have i0 := ix 0 0 rfl (by decide)
        have i2 := ix 2 2 rfl (by decide)
        have i3 := ix 3 3 rfl (by decide)
        have i4 := ix 4 4 rfl (by decide)
        have i6 := ix 6 6 rfl (by decide)
        have i7 := ix 7 7 rfl (by decide)
        rw [t_nat i0, t_nat i2, t_nat i3, t_nat i4, t_nat i6, t_nat i7, f1]
        have q := hQ σ1 f1
        refine ⟨fun z0 => ⟨fun z1 => ⟨fun z6 => ⟨fun y6 => ⟨fun y7 => ⟨fun y8 => ⟨fun y9 => ⟨t_vp i7 (by omega), ((((((q.1 z0).1 z1).1 z6).1 y6).1 y7).1 y8).1 y9⟩, fun y9 => ⟨t_vp i6 (by omega), ((((((q.1 z0).1 z1).1 z6).1 y6).1 y7).1 y8).2 y9⟩⟩, fun y8 => ⟨t_vp i4 (by omega), (((((q.1 z0).1 z1).1 z6).1 y6).1 y7).2 y8⟩⟩, fun y7 => ⟨t_vp i3 (by omega), ((((q.1 z0).1 z1).1 z6).1 y6).2 y7⟩⟩, fun y6 => ⟨t_vp i2 (by omega), (((q.1 z0).1 z1).1 z6).2 y6⟩⟩, fun z6 => (c_manyIn2 hn hn8 (a2 - 1) σ1).int ?_⟩, fun z1 => (c_zoneOf2 hn hn8 σ1).int ?_⟩, fun z0 => ⟨t_vp i0 (by omega), q.2 z0⟩⟩
        · rintro x9 σ9 ⟨ex9, es9⟩
          rw [f1] at ex9
          rw [t_nI ex9, es9]
          exact ((q.1 z0).1 z1).2 z6
        · rintro x11 σ11 ⟨ex11, es11⟩
          rw [ex11, es11, f1]
          exact (q.1 z0).2 z1
      rcases cs11 k2 with q | q | q | q | q | q | q | q | q | q | q
      · subst q
        exact ⟨σ 169 (2358 + 8 * n + 0), f_A_span a1 0 σ _ (cla _ (fun x hx => ⟨fun _ => ⟨fun _ => ⟨vv, an_ (by rw [t_nat hn]; exact hS.sta.symm)⟩, fun z => absurd rfl z⟩, fun z => absurd hx z⟩)), fun σ2 e2 => ref _ σ2 e2 (fun σ1 f1 => ⟨fun z => absurd rfl z, fun _ => an_ rfl⟩)⟩
      · subst q
        exact ⟨zV (σ 169) n, f_A_span a1 1 σ _ (cla _ (fun x hx => ⟨fun _ => ⟨fun z => absurd z (by decide), fun _ => ⟨fun _ => ⟨vv, an_ (by rw [t_nat hn]; exact sim_zone ht.s hn8)⟩, fun z => absurd rfl z⟩⟩, fun z => absurd hx z⟩)), fun σ2 e2 => ref _ σ2 e2 (fun σ1 f1 => ⟨fun _ => ⟨fun z => absurd rfl z, fun _ => an_ rfl⟩, fun z => absurd (by decide) z⟩)⟩
      · subst q
        exact ⟨nI (cnS (σ 169) n 1), f_A_span a1 2 σ _ (cla _ (fun x hx => ⟨fun _ => ⟨fun z => absurd z (by decide), fun _ => ⟨fun z => absurd z (by decide), fun _ => ⟨fun _ => ⟨vv, by rw [t_nat hn]; exact bc _ _ u2⟩, fun z => absurd rfl z⟩⟩⟩, fun z => absurd hx z⟩)), fun σ2 e2 => ref _ σ2 e2 (fun σ1 f1 => ⟨fun _ => ⟨fun _ => ⟨fun z => absurd z (by decide), fun _ => an_ rfl⟩, fun z => absurd (by decide) z⟩, fun z => absurd (by decide) z⟩)⟩
      · subst q
        exact ⟨nI (cnS (σ 169) n 2), f_A_span a1 3 σ _ (cla _ (fun x hx => ⟨fun _ => ⟨fun z => absurd z (by decide), fun _ => ⟨fun z => absurd z (by decide), fun _ => ⟨fun z => absurd z (by decide), fun _ => ⟨fun _ => ⟨vv, by rw [t_nat hn]; exact bc _ _ u3⟩, fun z => absurd rfl z⟩⟩⟩⟩, fun z => absurd hx z⟩)), fun σ2 e2 => ref _ σ2 e2 (fun σ1 f1 => ⟨fun _ => ⟨fun _ => ⟨fun z => absurd z (by decide), fun _ => an_ rfl⟩, fun z => absurd (by decide) z⟩, fun z => absurd (by decide) z⟩)⟩
      · subst q
        exact ⟨nI (cnS (σ 169) n 3), f_A_span a1 4 σ _ (cla _ (fun x hx => ⟨fun _ => ⟨fun z => absurd z (by decide), fun _ => ⟨fun z => absurd z (by decide), fun _ => ⟨fun z => absurd z (by decide), fun _ => ⟨fun z => absurd z (by decide), fun _ => ⟨fun _ => ⟨vv, by rw [t_nat hn]; exact bc _ _ u4⟩, fun z => absurd rfl z⟩⟩⟩⟩⟩, fun z => absurd hx z⟩)), fun σ2 e2 => ref _ σ2 e2 (fun σ1 f1 => ⟨fun _ => ⟨fun _ => ⟨fun z => absurd z (by decide), fun _ => an_ rfl⟩, fun z => absurd (by decide) z⟩, fun z => absurd (by decide) z⟩)⟩
      · subst q
        exact ⟨nI (cnS (σ 169) n 4), f_A_span a1 5 σ _ (cla _ (fun x hx => ⟨fun _ => ⟨fun z => absurd z (by decide), fun _ => ⟨fun z => absurd z (by decide), fun _ => ⟨fun z => absurd z (by decide), fun _ => ⟨fun z => absurd z (by decide), fun _ => ⟨fun z => absurd z (by decide), fun _ => ⟨fun _ => ⟨vv, by rw [t_nat hn]; exact bc _ _ u5⟩, fun z => absurd rfl z⟩⟩⟩⟩⟩⟩, fun z => absurd hx z⟩)), fun σ2 e2 => ref _ σ2 e2 (fun σ1 f1 => ⟨fun _ => ⟨fun _ => ⟨fun z => absurd z (by decide), fun _ => an_ rfl⟩, fun z => absurd (by decide) z⟩, fun z => absurd (by decide) z⟩)⟩
      · subst q
        exact ⟨σ 169 (2358 + 8 * n + 2), f_A_span a1 6 σ _ (cla _ (fun x hx => ⟨fun _ => ⟨fun z => absurd z (by decide), fun _ => ⟨fun z => absurd z (by decide), fun _ => ⟨fun z => absurd z (by decide), fun _ => ⟨fun z => absurd z (by decide), fun _ => ⟨fun z => absurd z (by decide), fun _ => ⟨fun z => absurd z (by decide), fun _ => ⟨fun _ => ⟨vv, an_ (by rw [t_nat hn]; exact hS.par.symm)⟩, fun z => absurd rfl z⟩⟩⟩⟩⟩⟩⟩, fun z => absurd hx z⟩)), fun σ2 e2 => ref _ σ2 e2 (fun σ1 f1 => ⟨fun _ => ⟨fun _ => ⟨fun _ => ⟨fun z => absurd rfl z, fun _ => an_ rfl⟩, fun z => absurd (by decide) z⟩, fun z => absurd (by decide) z⟩, fun z => absurd (by decide) z⟩)⟩
      · subst q
        exact ⟨σ 169 (2358 + 8 * n + 3), f_A_span a1 7 σ _ (cla _ (fun x hx => ⟨fun _ => ⟨fun z => absurd z (by decide), fun _ => ⟨fun z => absurd z (by decide), fun _ => ⟨fun z => absurd z (by decide), fun _ => ⟨fun z => absurd z (by decide), fun _ => ⟨fun z => absurd z (by decide), fun _ => ⟨fun z => absurd z (by decide), fun _ => ⟨fun z => absurd z (by decide), fun _ => ⟨fun _ => ⟨vv, an_ (by rw [t_nat hn]; exact hS.pas.symm)⟩, fun z => absurd rfl z⟩⟩⟩⟩⟩⟩⟩⟩, fun z => absurd hx z⟩)), fun σ2 e2 => ref _ σ2 e2 (fun σ1 f1 => ⟨fun _ => ⟨fun _ => ⟨fun _ => ⟨fun _ => ⟨fun z => absurd rfl z, fun _ => an_ rfl⟩, fun z => absurd (by decide) z⟩, fun z => absurd (by decide) z⟩, fun z => absurd (by decide) z⟩, fun z => absurd (by decide) z⟩)⟩
      · subst q
        exact ⟨σ 169 (2358 + 8 * n + 4), f_A_span a1 8 σ _ (cla _ (fun x hx => ⟨fun _ => ⟨fun z => absurd z (by decide), fun _ => ⟨fun z => absurd z (by decide), fun _ => ⟨fun z => absurd z (by decide), fun _ => ⟨fun z => absurd z (by decide), fun _ => ⟨fun z => absurd z (by decide), fun _ => ⟨fun z => absurd z (by decide), fun _ => ⟨fun z => absurd z (by decide), fun _ => ⟨fun z => absurd z (by decide), fun _ => ⟨fun _ => ⟨vv, an_ (by rw [t_nat hn]; exact hS.pau.symm)⟩, fun z => absurd rfl z⟩⟩⟩⟩⟩⟩⟩⟩⟩, fun z => absurd hx z⟩)), fun σ2 e2 => ref _ σ2 e2 (fun σ1 f1 => ⟨fun _ => ⟨fun _ => ⟨fun _ => ⟨fun _ => ⟨fun _ => ⟨fun z => absurd rfl z, fun _ => an_ rfl⟩, fun z => absurd (by decide) z⟩, fun z => absurd (by decide) z⟩, fun z => absurd (by decide) z⟩, fun z => absurd (by decide) z⟩, fun z => absurd (by decide) z⟩)⟩
      · subst q
        exact ⟨σ 169 (2358 + 8 * n + 6) - 1, f_A_span a1 9 σ _ (cla _ (fun x hx => ⟨fun _ => ⟨fun z => absurd z (by decide), fun _ => ⟨fun z => absurd z (by decide), fun _ => ⟨fun z => absurd z (by decide), fun _ => ⟨fun z => absurd z (by decide), fun _ => ⟨fun z => absurd z (by decide), fun _ => ⟨fun z => absurd z (by decide), fun _ => ⟨fun z => absurd z (by decide), fun _ => ⟨fun z => absurd z (by decide), fun _ => ⟨fun z => absurd z (by decide), fun _ => ⟨fun _ => ⟨vv, an_ (by rw [t_nat hn]; exact sub1 hS.lea)⟩, fun z => absurd rfl z⟩⟩⟩⟩⟩⟩⟩⟩⟩⟩, fun z => absurd hx z⟩)), fun σ2 e2 => ref _ σ2 e2 (fun σ1 f1 => ⟨fun _ => ⟨fun _ => ⟨fun _ => ⟨fun _ => ⟨fun _ => ⟨fun _ => ⟨fun z => absurd rfl z, fun _ => an_ rfl⟩, fun z => absurd (by decide) z⟩, fun z => absurd (by decide) z⟩, fun z => absurd (by decide) z⟩, fun z => absurd (by decide) z⟩, fun z => absurd (by decide) z⟩, fun z => absurd (by decide) z⟩)⟩
      · subst q
        exact ⟨σ 169 (2358 + 8 * n + 7) - 1, f_A_span a1 10 σ _ (cla _ (fun x hx => ⟨fun _ => ⟨fun z => absurd z (by decide), fun _ => ⟨fun z => absurd z (by decide), fun _ => ⟨fun z => absurd z (by decide), fun _ => ⟨fun z => absurd z (by decide), fun _ => ⟨fun z => absurd z (by decide), fun _ => ⟨fun z => absurd z (by decide), fun _ => ⟨fun z => absurd z (by decide), fun _ => ⟨fun z => absurd z (by decide), fun _ => ⟨fun z => absurd z (by decide), fun _ => ⟨fun z => absurd z (by decide), fun _ => ⟨fun _ => ⟨vv, an_ (by rw [t_nat hn]; exact sub1 hS.why)⟩, fun z => absurd rfl z⟩⟩⟩⟩⟩⟩⟩⟩⟩⟩⟩, fun z => absurd hx z⟩)), fun σ2 e2 => ref _ σ2 e2 (fun σ1 f1 => ⟨fun _ => ⟨fun _ => ⟨fun _ => ⟨fun _ => ⟨fun _ => ⟨fun _ => ⟨fun _ => an_ rfl, fun z => absurd (by decide) z⟩, fun z => absurd (by decide) z⟩, fun z => absurd (by decide) z⟩, fun z => absurd (by decide) z⟩, fun z => absurd (by decide) z⟩, fun z => absurd (by decide) z⟩, fun z => absurd (by decide) z⟩)⟩
    · refine ⟨-1, f_A_span a1 a2 σ _ (cla _ (fun x hx => ⟨fun _ => ⟨fun z => absurd (by rw [z]; decide) k2, fun _ => ⟨fun z => absurd (by rw [z]; decide) k2, fun _ => ⟨fun z => absurd (by rw [z]; decide) k2, fun _ => ⟨fun z => absurd (by rw [z]; decide) k2, fun _ => ⟨fun z => absurd (by rw [z]; decide) k2, fun _ => ⟨fun z => absurd (by rw [z]; decide) k2, fun _ => ⟨fun z => absurd (by rw [z]; decide) k2, fun _ => ⟨fun z => absurd (by rw [z]; decide) k2, fun _ => ⟨fun z => absurd (by rw [z]; decide) k2, fun _ => ⟨fun z => absurd (by rw [z]; decide) k2, fun _ => ⟨fun z => absurd (by rw [z]; decide) k2, fun _ => an_ rfl⟩⟩⟩⟩⟩⟩⟩⟩⟩⟩⟩, fun _ => an_ rfl⟩)), fun σ2 e2 => ?_⟩
      refine w_M_span a1 a2 σ2 _ (fun σ1 e1 => (c_isSpanX a1 σ1).int ?_)
      rintro x3 σ3 ⟨hx3, es3⟩
      rw [es3]
      refine ⟨fun _ => an_ rfl, fun _ => (c_isInX (L := 0) (H := 10) rfl rfl a2 σ1).int ?_⟩
      rintro x5 σ5 ⟨hx5, es5⟩
      exact ⟨fun z => absurd (by have := hx5.b.2.mp z; omega) k2, fun _ => an_ rfl⟩
  · refine ⟨-1, f_A_span a1 a2 σ _ ((nw0 (e_isSpanX a1 σ)).int ?_), fun σ2 e2 => ?_⟩
    · rintro x σ1 ⟨hx, es⟩
      exact ⟨fun z => absurd (hx.b.2.mp z) k1, fun _ => an_ rfl⟩
    · refine w_M_span a1 a2 σ2 _ (fun σ1 e1 => (c_isSpanX a1 σ1).int ?_)
      rintro x3 σ3 ⟨hx3, es3⟩
      exact ⟨fun _ => an_ rfl, fun z => absurd (hx3.b.2.mp z) k1⟩
theorem ce_span {B : Nat} (a1 a2 : Int32) (σ : sm_S) (hB : B < 1500000000) (h : LR B σ) : two (fun x y => x = y) j_A_span j_M_span [.ref 42, .int a1, .int a2] [.ref 168, .int a1, .int a2] B σ := by
  have h2 := h
  obtain ⟨hL, ⟨N, hN, ht⟩, -⟩ := h2
  exact CLk h (a_spanQ a1 a2 σ h.1.1) (fun σ1 q => m_span a1 a2 σ1 hB q.2.1) (fun σ1 q => by
    obtain ⟨N, hN, hj⟩ := (lw_bs q.2.1).1
    exact qU (as := [.ref 0, .int a1, .int a2]) rfl (k_span (N := N) a1 a2 (sh rM σ1) hj)) (asM := [.ref 0, .int a1, .int a2]) rfl (ky_span a1 a2 σ ht.1)
end
