section
/-! ===== the simulation: questions with one answer ===== -/
theorem CLe {jA jM B : Nat} {asA asM : List Value} {σ : sm_S} (h : LR B σ) (a : xC xF jA asA σ (sm_I (fun _ σ' => BQ σ σ'))) (m : ∀ σ1, LQ B σ1 → xC xF jM asM σ1 (sm_I (fun _ σ' => mQ (B + 1488000) σ1 σ'))) (k : ∀ σ1, LQ B σ1 → xC xF jM asM σ1 (sm_I (fun _ σ' => kQ σ1 σ'))) (r : Int32) (ra : xC xF jA asA σ (sm_I (fun x _ => x = r))) (rm : ∀ σ1 : sm_S, σ1 169 = σ 169 → xC xF jM asM σ1 (sm_I (fun y _ => y = r))) : two (fun x y => x = y) jA jM asA asM B σ := by
  obtain ⟨hL, ⟨N, hN, ht⟩, him⟩ := h
  refine (a.and ra).mono ?_
  rintro r0 σ1 ⟨⟨x0, e9, hA, o1⟩, x, e0, hx⟩
  refine ⟨x, e0, ?_⟩
  have hL1 := hL.a hA
  refine (((m σ1 hL1).and (k σ1 hL1)).and (rm σ1 (o1 169 (by omega)))).mono ?_
  rintro r3 σ2 ⟨⟨⟨y0, e8, hm⟩, y2, -, w1, w2⟩, y, e3, hy⟩
  refine ⟨y, e3, hx.trans hy.symm, hL1.m hm, ⟨N, by omega, ?_⟩, fun z => ?_⟩
  · refine ht.eq (eqT.of (fun k hk => ?_)) (fun i hi => ?_)
    · rw [hm.2.1 k (by omega), o1 k (by omega)]
    · rw [w1 i hi, o1 169 (by omega)]
  · rw [hm.2.1 42 (by omega), o1 42 (by omega)] at z
    obtain ⟨N2, hN2, t2⟩ := him z
    refine ⟨N2, by omega, ?_⟩
    rw [w2, o1 173 (by omega)]
    refine t2.eq (eqT.of (fun k hk => ?_)) (fun _ _ => rfl)
    show σ2 (127 + k) = σ (127 + k)
    rw [hm.2.1 _ (by omega), o1 _ (by omega)]
/-- an answer of the reference, in the world of all -/
theorem rmU {j : Nat} {as as' : List Value} {r : Int32} {v : Nat → Int32} (ha : as.map (sm_cv rM) = as') (h : ∀ σ : sm_S, σ 1 = v → xC xM j as σ (sm_I (fun y _ => y = r))) : ∀ σ1 : sm_S, σ1 169 = v → xC xF j as' σ1 (sm_I (fun y _ => y = r)) := fun σ1 e => by
  subst ha
  refine (x_up shMF (h (sh rM σ1) e)).mono ?_
  rintro r1 σ' ⟨r2, τ, rfl, ⟨x, rfl, hx⟩, -, -⟩
  exact ⟨x, rfl, hx⟩
end
section
/-! ===== the simulation: count answers the same ===== -/
theorem ce_count {B : Nat} (a1 : Int32) (σ : sm_S) (hB : B < 1500000000) (h : LR B σ) : two (fun x y => x = y) j_A_count j_M_count [.ref 42, .int a1] [.ref 168, .int a1] B σ := by
  have h2 := h
  obtain ⟨hL, ⟨N, hN, ht⟩, -⟩ := h2
  have l0 : a1 < 0 ↔ a1.toInt < 0 := by rw [t_lt]; exact Iff.rfl
  have l11 : a1 < 11 ↔ a1.toInt < 11 := by rw [t_lt]; exact Iff.rfl
  have key : ∃ r : Int32, xC xF j_A_count [.ref 42, .int a1] σ (sm_I (fun x _ => x = r)) ∧ ∀ σ2 : sm_S, σ2 1 = σ 169 → xC xM j_M_count [.ref 0, .int a1] σ2 (sm_I (fun y _ => y = r)) := by
    by_cases k1 : 0 ≤ a1.toInt ∧ a1.toInt < 11
    · obtain ⟨n, hn⟩ := t_of k1.1
      refine ⟨σ 169 (7 + n), f_A_count a1 σ _ ⟨fun z => absurd (l0.mp z) (by omega), fun _ => ⟨fun _ => ⟨t_vp hn (by omega), _, rfl, ?_⟩, fun z => absurd (l11.mpr k1.2) z⟩⟩, fun σ2 e2 => ?_⟩
      · rw [t_nat hn]
        exact ht.1.s.N.cnt n (by omega)
      · refine w_M_count a1 σ2 _ (fun σ1 e1 => (c_isInX (L := 0) (H := 10) rfl rfl a1 σ1).int ?_)
        obtain ⟨f1, -⟩ := told1 e2 e1
        rintro x2 σ3 ⟨hx2, es⟩
        rw [es]
        have h7 : (7 + a1).toInt = ((7 + n : Nat) : Int) := by
          rw [t_add (x := 7) rfl hn (by omega) (by omega)]
          omega
        refine ⟨fun z => absurd ⟨k1.1, by omega⟩ (hx2.b.1.mp z), fun _ => ⟨t_vp h7 (by omega), _, rfl, ?_⟩⟩
        rw [t_nat h7, f1]
    · refine ⟨-1, f_A_count a1 σ _ ⟨fun _ => ⟨_, rfl, rfl⟩, fun z => ⟨fun w => absurd ⟨(by rw [l0] at z; omega), l11.mp w⟩ k1, fun _ => ⟨_, rfl, rfl⟩⟩⟩, fun σ2 e2 => ?_⟩
      · refine w_M_count a1 σ2 _ (fun σ1 e1 => (c_isInX (L := 0) (H := 10) rfl rfl a1 σ1).int ?_)
        rintro x2 σ3 ⟨hx2, es⟩
        rw [es]
        refine ⟨fun _ => ⟨_, rfl, rfl⟩, fun z => absurd ?_ k1⟩
        have := hx2.b.2.mp z
        omega
  obtain ⟨r, ra, rm⟩ := key
  exact CLe h (a_countQ a1 σ h.1.1) (fun σ1 q => m_count a1 σ1 hB q.2.1) (fun σ1 q => by
    obtain ⟨N, hN, hj⟩ := (lw_bs q.2.1).1
    exact qU (as := [.ref 0, .int a1]) rfl (k_count (N := N) a1 (sh rM σ1) hj)) r ra (rmU (as := [.ref 0, .int a1]) rfl rm)
end
section
/-! ===== the simulation: how many bits are set ===== -/
def mkb (m : Nat) : Nat → Nat
  | 0 => 0
  | k + 1 => m + 256 * mkb m k
theorem and_peel {m M x : Nat} (hm : m < 256) : x &&& (m + 256 * M) = (x % 256 &&& m) + 256 * (x / 256 &&& M) := by
  have h1 := @Nat.and_mod_two_pow x (m + 256 * M) 8
  have h2 := @Nat.and_div_two_pow x (m + 256 * M) 8
  rw [show (2 : Nat) ^ 8 = 256 from rfl] at h1 h2
  rw [show (m + 256 * M) % 256 = m by omega] at h1
  rw [show (m + 256 * M) / 256 = M by omega] at h2
  rw [← h1, ← h2]
  omega
def bc_1 (a : Nat) : Nat := a - (a / 2 &&& 85)
def bc_2 (a : Nat) : Nat := (a &&& 51) + (a / 4 &&& 51)
def bc_3 (a : Nat) : Nat := (a + a / 16) &&& 15
def tc_1 (k x : Nat) : Nat := x - (x / 2 &&& mkb 85 k)
def tc_2 (k x : Nat) : Nat := (x &&& mkb 51 k) + (x / 4 &&& mkb 51 k)
def tc_3 (k x : Nat) : Nat := (x + x / 16) &&& mkb 15 k
theorem d_b1 : ∀ a, a < 256 → ∀ q, q < 2 → ((a / 2 + 128 * q) &&& 85) = (a / 2 &&& 85) := by decide +kernel
theorem d_b2 : ∀ a, a < 256 → ∀ q, q < 4 → ((a / 4 + 64 * q) &&& 51) = (a / 4 &&& 51) := by decide +kernel
theorem d_g1 : ∀ a, a < 256 → bc_1 a < 256 := by decide +kernel
theorem d_g2 : ∀ a, a < 256 → bc_2 (bc_1 a) % 16 ≤ 4 ∧ bc_2 (bc_1 a) / 16 ≤ 4 := by decide +kernel
theorem d_g3 : ∀ a, a < 256 → ∀ q, q < 5 → ((bc_2 (bc_1 a) + bc_2 (bc_1 a) / 16 + 16 * q) &&& 15) = bc_3 (bc_2 (bc_1 a)) := by decide +kernel
theorem d_g4 : ∀ a, a < 256 → bc_3 (bc_2 (bc_1 a)) = a % 2 + a / 2 % 2 + a / 4 % 2 + a / 8 % 2 + a / 16 % 2 + a / 32 % 2 + a / 64 % 2 + a / 128 % 2 := by decide +kernel
theorem tc_1s (k x : Nat) : tc_1 (k + 1) x = bc_1 (x % 256) + 256 * tc_1 k (x / 256) := by
  unfold tc_1 bc_1
  show x - (x / 2 &&& (85 + 256 * mkb 85 k)) = _
  rw [and_peel (by decide), show x / 2 % 256 = x % 256 / 2 + 128 * (x / 256 % 2) by omega, d_b1 _ (by omega) _ (by omega), show x / 2 / 256 = x / 256 / 2 by omega]
  have h1 := @Nat.and_le_left (x % 256 / 2) 85
  have h2 := @Nat.and_le_left (x / 256 / 2) (mkb 85 k)
  omega
theorem tc_2s {k c d : Nat} (hc : c < 256) : tc_2 (k + 1) (c + 256 * d) = bc_2 c + 256 * tc_2 k d := by
  unfold tc_2 bc_2
  show ((c + 256 * d) &&& (51 + 256 * mkb 51 k)) + ((c + 256 * d) / 4 &&& (51 + 256 * mkb 51 k)) = _
  rw [and_peel (by decide), and_peel (by decide), show (c + 256 * d) / 4 % 256 = c / 4 + 64 * (d % 4) by omega, d_b2 _ hc _ (by omega), show (c + 256 * d) / 4 / 256 = d / 4 by omega, show (c + 256 * d) % 256 = c by omega, show (c + 256 * d) / 256 = d by omega]
  omega
theorem tc_3s {k a d : Nat} (ha : a < 256) (hd : d % 16 ≤ 4) : tc_3 (k + 1) (bc_2 (bc_1 a) + 256 * d) = bc_3 (bc_2 (bc_1 a)) + 256 * tc_3 k d := by
  obtain ⟨g1, g2⟩ := d_g2 a ha
  have g3 := d_g3 a ha (d % 16) (by omega)
  unfold tc_3
  show ((bc_2 (bc_1 a) + 256 * d) + (bc_2 (bc_1 a) + 256 * d) / 16 &&& (15 + 256 * mkb 15 k)) = _
  generalize hc : bc_2 (bc_1 a) = c at g1 g2 g3 ⊢
  rw [and_peel (by decide), show (c + 256 * d + (c + 256 * d) / 16) % 256 = c + c / 16 + 16 * (d % 16) by omega, g3, show (c + 256 * d + (c + 256 * d) / 16) / 256 = d + d / 16 by omega]
/-- a byte's bits -/
def gby (a : Nat) : Nat := bc_3 (bc_2 (bc_1 (a % 256)))
theorem gb_le (a : Nat) : gby a ≤ 8 := by
  unfold gby
  rw [d_g4 _ (by omega)]
  omega
theorem t_all {x : Nat} (hx : x < 4294967296) : tc_3 4 (tc_2 4 (tc_1 4 x)) = gby x + 256 * (gby (x / 256) + 256 * (gby (x / 65536) + 256 * gby (x / 16777216))) := by
  have e0 : ∀ y, tc_1 0 y = y := fun y => by unfold tc_1; rw [show mkb 85 0 = 0 from rfl, Nat.and_zero]; omega
  have z2 : ∀ y, tc_2 0 y = 0 := fun y => by unfold tc_2; rw [show mkb 51 0 = 0 from rfl, Nat.and_zero, Nat.and_zero]
  have z3 : ∀ y, tc_3 0 y = 0 := fun y => by unfold tc_3; rw [show mkb 15 0 = 0 from rfl, Nat.and_zero]
  have m0 : x % 256 < 256 := by omega
  have m1 : x / 256 % 256 < 256 := by omega
  have m2 : x / 256 / 256 % 256 < 256 := by omega
  have m3 : x / 256 / 256 / 256 % 256 < 256 := by omega
  rw [tc_1s 3 x, tc_1s 2 (x / 256), tc_1s 1 (x / 256 / 256), tc_1s 0 (x / 256 / 256 / 256), e0, show x / 256 / 256 / 256 / 256 = 0 by omega]
  rw [tc_2s (d_g1 _ m0), tc_2s (d_g1 _ m1), tc_2s (d_g1 _ m2), tc_2s (d_g1 _ m3), z2]
  have q1 := (d_g2 _ m1).1
  have q2 := (d_g2 _ m2).1
  have q3 := (d_g2 _ m3).1
  rw [tc_3s m0 (by omega), tc_3s m1 (by omega), tc_3s m2 (by omega), tc_3s m3 (by omega), z3]
  unfold gby
  rw [show x / 65536 = x / 256 / 256 by omega, show x / 16777216 = x / 256 / 256 / 256 by omega]
  omega
theorem sumN_split {F : Nat → Nat} (m : Nat) : ∀ n, sumN F (m + n) = sumN F m + sumN (fun i => F (m + i)) n
  | 0 => rfl
  | n + 1 => by
    show sumN F (m + n) + F (m + n) = _
    rw [sumN_split m n]
    show _ = sumN F m + (sumN (fun i => F (m + i)) n + F (m + n))
    omega
theorem sumN_cg {F G : Nat → Nat} : ∀ {n : Nat}, (∀ i, i < n → F i = G i) → sumN F n = sumN G n
  | 0, _ => rfl
  | n + 1, h => by
    show sumN F n + F n = sumN G n + G n
    rw [sumN_cg (fun i hi => h i (by omega)), h n (by omega)]
theorem gb_sum (x : Nat) : gby x = sumN (fun i => x / 2 ^ i % 2) 8 := by
  unfold gby
  rw [d_g4 _ (by omega)]
  show _ = 0 + x / 2 ^ 0 % 2 + x / 2 ^ 1 % 2 + x / 2 ^ 2 % 2 + x / 2 ^ 3 % 2 + x / 2 ^ 4 % 2 + x / 2 ^ 5 % 2 + x / 2 ^ 6 % 2 + x / 2 ^ 7 % 2
  simp only [Nat.reducePow]
  omega
def pcn (x : Int32) : Nat := sumN (fun i => x.toBitVec.toNat / 2 ^ i % 2) 32
theorem pc_gb (x : Nat) : sumN (fun i => x / 2 ^ i % 2) 32 = gby x + gby (x / 256) + gby (x / 65536) + gby (x / 16777216) := by
  rw [show (32 : Nat) = 8 + (8 + (8 + 8)) from rfl, sumN_split 8, sumN_split 8, sumN_split 8, gb_sum, gb_sum, gb_sum, gb_sum]
  have e1 : ∀ i, x / 2 ^ (8 + i) = x / 256 / 2 ^ i := fun i => by rw [Nat.pow_add, ← Nat.div_div_eq_div_mul]
  have e2 : ∀ i, x / 2 ^ (8 + (8 + i)) = x / 65536 / 2 ^ i := fun i => by rw [← Nat.add_assoc, Nat.pow_add, ← Nat.div_div_eq_div_mul]
  have e3 : ∀ i, x / 2 ^ (8 + (8 + (8 + i))) = x / 16777216 / 2 ^ i := fun i => by rw [← Nat.add_assoc, ← Nat.add_assoc, Nat.pow_add, ← Nat.div_div_eq_div_mul]
  rw [sumN_cg (F := fun i => x / 2 ^ (8 + i) % 2) (fun i _ => by show x / 2 ^ (8 + i) % 2 = _; rw [e1 i]), sumN_cg (F := fun i => x / 2 ^ (8 + (8 + i)) % 2) (fun i _ => by show x / 2 ^ (8 + (8 + i)) % 2 = _; rw [e2 i]), sumN_cg (F := fun i => x / 2 ^ (8 + (8 + (8 + i))) % 2) (fun i _ => by show x / 2 ^ (8 + (8 + (8 + i))) % 2 = _; rw [e3 i])]
  omega
/-- numbers of words -/
def uwd (x : Int32) : Nat := x.toBitVec.toNat
theorem uw_lt (x : Int32) : uwd x < 4294967296 := x.toBitVec.isLt
theorem uw_and (x y : Int32) : uwd (x &&& y) = uwd x &&& uwd y := by
  unfold uwd
  rw [Int32.toBitVec_and, BitVec.toNat_and]
theorem uw_add {x y : Int32} (h : uwd x + uwd y < 4294967296) : uwd (x + y) = uwd x + uwd y := by
  unfold uwd at h ⊢
  rw [Int32.toBitVec_add, BitVec.toNat_add]
  exact Nat.mod_eq_of_lt h
theorem uw_sub {x y : Int32} (h : uwd y ≤ uwd x) : uwd (x - y) = uwd x - uwd y := by
  have h2 := uw_lt x
  unfold uwd at h h2 ⊢
  rw [Int32.toBitVec_sub, BitVec.toNat_sub]
  show (4294967296 - _ + _) % 4294967296 = _
  omega
theorem am_b : ∀ n, n < 32 → (Int32.toUInt32 (nI n) &&& Int32.toUInt32 31) = UInt32.ofNat n := by decide
theorem uw_shr {x c : Int32} {n : Nat} (hn : n < 32) (hc : c = nI n) : uwd ((x.toUInt32 >>> (c.toUInt32 &&& Int32.toUInt32 31)).toInt32) = uwd x / 2 ^ n := by
  rw [hc, am_b n hn]
  show ((x.toUInt32 >>> UInt32.ofNat n).toBitVec).toNat = _
  rw [UInt32.toBitVec_shiftRight, BitVec.ushiftRight_eq', sh_u n hn, BitVec.toNat_ushiftRight, Nat.shiftRight_eq_div_pow]
  rfl
theorem c_bitCount2 (x : Int32) (σ : sm_S) : xC xD j_I_bitCount [.int x] σ (sm_I (fun y σ' => y.toInt = ((pcn x : Nat) : Int) ∧ σ' = σ)) := by
  refine d_I_bitCount x σ _ ⟨_, rfl, ?_, rfl⟩
  have hx := uw_lt x
  have s1 : uwd (x - (((x.toUInt32 >>> ((1 : Int32).toUInt32 &&& Int32.toUInt32 31)).toInt32) &&& 1431655765)) = tc_1 4 (uwd x) := by
    have e : uwd (((x.toUInt32 >>> ((1 : Int32).toUInt32 &&& Int32.toUInt32 31)).toInt32) &&& 1431655765) = (uwd x / 2 &&& mkb 85 4) := by
      rw [uw_and, uw_shr (c := 1) (n := 1) (by decide) rfl]
      rfl
    have h2 := @Nat.and_le_left (uwd x / 2) (mkb 85 4)
    rw [uw_sub (by omega), e]
    rfl
  generalize x - (((x.toUInt32 >>> ((1 : Int32).toUInt32 &&& Int32.toUInt32 31)).toInt32) &&& 1431655765) = y1 at s1 ⊢
  have s2 : uwd ((y1 &&& 858993459) + (((y1.toUInt32 >>> ((2 : Int32).toUInt32 &&& Int32.toUInt32 31)).toInt32) &&& 858993459)) = tc_2 4 (uwd y1) := by
    have e1 : uwd (y1 &&& 858993459) = (uwd y1 &&& mkb 51 4) := by
      rw [uw_and]
      rfl
    have e2 : uwd (((y1.toUInt32 >>> ((2 : Int32).toUInt32 &&& Int32.toUInt32 31)).toInt32) &&& 858993459) = (uwd y1 / 4 &&& mkb 51 4) := by
      rw [uw_and, uw_shr (c := 2) (n := 2) (by decide) rfl]
      rfl
    have h1 := @Nat.and_le_right (uwd y1) (mkb 51 4)
    have h2 := @Nat.and_le_right (uwd y1 / 4) (mkb 51 4)
    have h3 : mkb 51 4 = 858993459 := rfl
    rw [uw_add (by omega), e1, e2]
    rfl
  generalize (y1 &&& 858993459) + (((y1.toUInt32 >>> ((2 : Int32).toUInt32 &&& Int32.toUInt32 31)).toInt32) &&& 858993459) = y2 at s2 ⊢
  have b2' : uwd y2 ≤ 1717986918 := by
    rw [s2]
    have h1 := @Nat.and_le_right (uwd y1) (mkb 51 4)
    have h2 := @Nat.and_le_right (uwd y1 / 4) (mkb 51 4)
    have h3 : mkb 51 4 = 858993459 := rfl
    show (uwd y1 &&& mkb 51 4) + (uwd y1 / 4 &&& mkb 51 4) ≤ _
    omega
  have s3 : uwd ((y2 + ((y2.toUInt32 >>> ((4 : Int32).toUInt32 &&& Int32.toUInt32 31)).toInt32)) &&& 252645135) = tc_3 4 (uwd y2) := by
    have e : uwd ((y2.toUInt32 >>> ((4 : Int32).toUInt32 &&& Int32.toUInt32 31)).toInt32) = uwd y2 / 16 := uw_shr (n := 4) (by decide) rfl
    rw [uw_and, uw_add (by omega), e]
    rfl
  generalize (y2 + ((y2.toUInt32 >>> ((4 : Int32).toUInt32 &&& Int32.toUInt32 31)).toInt32)) &&& 252645135 = y3 at s3 ⊢
  have ev : uwd y3 = gby (uwd x) + 256 * (gby (uwd x / 256) + 256 * (gby (uwd x / 65536) + 256 * gby (uwd x / 16777216))) := by
    rw [s3, s2, s1, t_all hx]
  have l0 := gb_le (uwd x)
  have l1 := gb_le (uwd x / 256)
  have l2 := gb_le (uwd x / 65536)
  have l3 := gb_le (uwd x / 16777216)
  have hp : pcn x = gby (uwd x) + gby (uwd x / 256) + gby (uwd x / 65536) + gby (uwd x / 16777216) := pc_gb (uwd x)
  generalize gby (uwd x) = g0 at ev l0 hp
  generalize gby (uwd x / 256) = g1 at ev l1 hp
  generalize gby (uwd x / 65536) = g2 at ev l2 hp
  generalize gby (uwd x / 16777216) = g3 at ev l3 hp
  have s4 : uwd (y3 + ((y3.toUInt32 >>> ((8 : Int32).toUInt32 &&& Int32.toUInt32 31)).toInt32)) = uwd y3 + uwd y3 / 256 := by
    have e : uwd ((y3.toUInt32 >>> ((8 : Int32).toUInt32 &&& Int32.toUInt32 31)).toInt32) = uwd y3 / 256 := uw_shr (n := 8) (by decide) rfl
    rw [uw_add (by omega), e]
  generalize y3 + ((y3.toUInt32 >>> ((8 : Int32).toUInt32 &&& Int32.toUInt32 31)).toInt32) = y4 at s4 ⊢
  have s5 : uwd (y4 + ((y4.toUInt32 >>> ((16 : Int32).toUInt32 &&& Int32.toUInt32 31)).toInt32)) = uwd y4 + uwd y4 / 65536 := by
    have e : uwd ((y4.toUInt32 >>> ((16 : Int32).toUInt32 &&& Int32.toUInt32 31)).toInt32) = uwd y4 / 65536 := uw_shr (n := 16) (by decide) rfl
    rw [uw_add (by omega), e]
  generalize y4 + ((y4.toUInt32 >>> ((16 : Int32).toUInt32 &&& Int32.toUInt32 31)).toInt32) = y5 at s5 ⊢
  have s6 : uwd (y5 &&& 63) = uwd y5 % 64 := by
    rw [uw_and]
    exact Nat.and_two_pow_sub_one_eq_mod (uwd y5) 6
  have s7 : uwd (y5 &&& 63) = pcn x := by
    have q1 : (g0 + 256 * (g1 + 256 * (g2 + 256 * g3))) / 256 = g1 + 256 * (g2 + 256 * g3) := by omega
    have q2 : (g0 + 256 * (g1 + 256 * (g2 + 256 * g3)) + (g1 + 256 * (g2 + 256 * g3))) / 65536 = g2 + 256 * g3 + g3 := by omega
    rw [s6, s5, s4, ev, q1, q2, hp]
    omega
  have s8 : (y5 &&& 63).toInt = ((uwd (y5 &&& 63) : Nat) : Int) := by
    show (y5 &&& 63).toBitVec.toInt = _
    rw [BitVec.toInt_eq_toNat_cond]
    have : 2 * (y5 &&& 63).toBitVec.toNat < 2 ^ 32 := by
      have : uwd (y5 &&& 63) < 64 := by rw [s6]; omega
      unfold uwd at this
      omega
    rw [if_pos this]
    rfl
  rw [s8, s7]
theorem pc_bit (x : Int32) : pcn x = sumN (fun i => if x.toBitVec.getLsbD i = true then 1 else 0) 32 := sumN_cg (fun i _ => by
  show uwd x / 2 ^ i % 2 = if (uwd x).testBit i = true then 1 else 0
  rw [Nat.testBit_eq_decide_div_mod_eq]
  by_cases h : uwd x / 2 ^ i % 2 = 1
  · rw [if_pos (decide_eq_true h)]
    exact h
  · rw [if_neg (by rw [decide_eq_true_iff]; exact h)]
    omega)
theorem pc_le (x : Int32) : pcn x ≤ 32 := by
  have := sumN_bd (F := fun i => x.toBitVec.toNat / 2 ^ i % 2) (K := 1) (n := 32) (fun i => by show x.toBitVec.toNat / 2 ^ i % 2 ≤ 1; omega)
  unfold pcn
  omega
end
section
/-! ===== the simulation: questions, tools; frame, block, task, place ===== -/
def ky (jA jM : Nat) (asA asM : List Value) (σ : sm_S) : Prop := ∃ r : Int32, xC xF jA asA σ (sm_I (fun x _ => x = r)) ∧ ∀ σ2 : sm_S, σ2 1 = σ 169 → xC xM jM asM σ2 (sm_I (fun y _ => y = r))
theorem an_ {r y : Int32} {σ : sm_S} (h : y = r) : sm_I (fun x _ => x = r) (some (.int y)) σ := ⟨y, rfl, h⟩
theorem anC {j : Nat} {as : List Value} {σ : sm_S} {r : Int32} (h : xC xD j as σ (sm_I (fun x σ' => x = r ∧ σ' = σ))) : xC xF j as σ (sm_ri False (fun x σ' => sm_I (fun x _ => x = r) (some (.int x)) σ')) := (nw0 h).int (fun x _ e => ⟨x, rfl, e.1⟩)
theorem anM {j : Nat} {as : List Value} {σ : sm_S} {r : Int32} (h : xC xM j as σ (sm_I (fun x σ' => x = r ∧ σ' = σ))) : xC xM j as σ (sm_ri False (fun x σ' => sm_I (fun x _ => x = r) (some (.int x)) σ')) := h.int (fun x _ e => ⟨x, rfl, e.1⟩)
theorem toN {D : List sm_Sh} {j n : Nat} {as : List Value} {σ : sm_S} (h : sm_C sm_TB sm_MS D j as σ (sm_I (fun x σ' => x.toInt = ((n : Nat) : Int) ∧ σ' = σ))) : sm_C sm_TB sm_MS D j as σ (sm_I (fun x σ' => x = nI n ∧ σ' = σ)) := h.mono (by
  rintro r σ' ⟨x, e, h1, h2⟩
  exact ⟨x, e, t_nI h1, h2⟩)
theorem CLk {jA jM B : Nat} {asA asM asM' : List Value} {σ : sm_S} (h : LR B σ) (a : xC xF jA asA σ (sm_I (fun _ σ' => BQ σ σ'))) (m : ∀ σ1, LQ B σ1 → xC xF jM asM' σ1 (sm_I (fun _ σ' => mQ (B + 1488000) σ1 σ'))) (k : ∀ σ1, LQ B σ1 → xC xF jM asM' σ1 (sm_I (fun _ σ' => kQ σ1 σ'))) (ha : asM.map (sm_cv rM) = asM') (q : ky jA jM asA asM σ) : two (fun x y => x = y) jA jM asA asM' B σ := by
  obtain ⟨r, ra, rm⟩ := q
  exact CLe h a m k r ra (rmU ha rm)
theorem b1_dec : ∀ p, p < 32 → ∀ i, i < 32 → (((1 : Int32) <<< (nI p &&& 31)).toBitVec.getLsbD i = true ↔ i = p) := by decide +kernel
theorem bt0 {x r : Int32} {p : Nat} (hr : r.toInt = p) (hp : p < 32) : (x &&& ((1 : Int32) <<< (r &&& 31))) = 0 ↔ ¬ bit x p := by
  rw [t_nI hr]
  constructor
  · intro z q
    have : bit (x &&& ((1 : Int32) <<< (nI p &&& 31))) p := bit_and.mpr ⟨q, (b1_dec p hp p hp).mpr rfl⟩
    rw [z] at this
    exact bit_0 this
  · intro q
    refine bit_ext (fun i hi => ⟨fun z => ?_, fun z => absurd z bit_0⟩)
    obtain ⟨z1, z2⟩ := bit_and.mp z
    rw [(b1_dec p hp i hi).mp z2] at z1
    exact absurd z1 q
theorem e_stateOf2 {a1 : Int32} {n : Nat} {v : Nat → Int32} (h1 : a1.toInt = n) (hn : n < 256) (σ : sm_S) (h : sF σ v n) : xC xD j_F_stateOf [.ref 1, .int a1] σ (sm_I (fun x σ' => x = v (18 + 3 * n) ∧ σ' = σ)) := by
  have hs : (a1 / (32 : Int32)).toInt = ((n / 32 : Nat) : Int) := t_div h1 rfl (by decide)
  have hr : (a1 - a1 / (32 : Int32) * (32 : Int32)).toInt = ((n % 32 : Nat) : Int) := t_rem h1 rfl (by decide)
  have hp : n % 32 < 32 := by omega
  have d32 : ¬ (32 : Int32) = 0 := by decide
  have vv := t_vp (N := 8) hs (by omega)
  refine d_F_stateOf a1 σ _ ?_
  rw [t_nat hs]
  refine ⟨d32, d32, vv, fun z2 => ⟨vv, fun z3 => ⟨vv, fun z4 => ⟨vv, fun z5 => ⟨_, rfl, ?_, rfl⟩, fun z5 => ⟨_, rfl, ?_, rfl⟩⟩, fun z4 => ⟨_, rfl, ?_, rfl⟩⟩, fun z3 => ⟨_, rfl, ?_, rfl⟩⟩, fun z2 => ⟨_, rfl, ?_, rfl⟩⟩
  · rw [bt0 hr hp] at z2 z3 z4 z5
    rcases h.rng with q | q | q | q | q
    · exact q.symm
    · exact absurd (h.fre.mpr q) z2
    · exact absurd (h.apa.mpr q) z3
    · exact absurd (h.tak.mpr q) z4
    · exact absurd (h.hel.mpr q) z5
  · rw [bt0 hr hp, Classical.not_not] at z5
    exact (h.hel.mp z5).symm
  · rw [bt0 hr hp, Classical.not_not] at z4
    exact (h.tak.mp z4).symm
  · rw [bt0 hr hp, Classical.not_not] at z3
    exact (h.apa.mp z3).symm
  · rw [bt0 hr hp, Classical.not_not] at z2
    exact (h.fre.mp z2).symm
theorem sub1 {x y : Int32} (h : x = y + 1) : y = x - 1 := by rw [h, Int32.add_sub_cancel]
theorem cs3 {a : Int32} (h : 0 ≤ a.toInt ∧ a.toInt < 3) : a = 0 ∨ a = 1 ∨ a = 2 := by
  rcases (show a.toInt = 0 ∨ a.toInt = 1 ∨ a.toInt = 2 by omega) with q | q | q
  · exact Or.inl (t_inj q)
  · exact Or.inr (Or.inl (t_inj q))
  · exact Or.inr (Or.inr (t_inj q))
theorem cs6 {a : Int32} (h : 0 ≤ a.toInt ∧ a.toInt < 6) : a = 0 ∨ a = 1 ∨ a = 2 ∨ a = 3 ∨ a = 4 ∨ a = 5 := by
  rcases (show a.toInt = 0 ∨ a.toInt = 1 ∨ a.toInt = 2 ∨ a.toInt = 3 ∨ a.toInt = 4 ∨ a.toInt = 5 by omega) with q | q | q | q | q | q
  · exact Or.inl (t_inj q)
  · exact Or.inr (Or.inl (t_inj q))
  · exact Or.inr (Or.inr (Or.inl (t_inj q)))
  · exact Or.inr (Or.inr (Or.inr (Or.inl (t_inj q))))
  · exact Or.inr (Or.inr (Or.inr (Or.inr (Or.inl (t_inj q)))))
  · exact Or.inr (Or.inr (Or.inr (Or.inr (Or.inr (t_inj q)))))
theorem cs9 {a : Int32} (h : 0 ≤ a.toInt ∧ a.toInt < 9) : a = 0 ∨ a = 1 ∨ a = 2 ∨ a = 3 ∨ a = 4 ∨ a = 5 ∨ a = 6 ∨ a = 7 ∨ a = 8 := by
  rcases (show a.toInt = 0 ∨ a.toInt = 1 ∨ a.toInt = 2 ∨ a.toInt = 3 ∨ a.toInt = 4 ∨ a.toInt = 5 ∨ a.toInt = 6 ∨ a.toInt = 7 ∨ a.toInt = 8 by omega) with q | q | q | q | q | q | q | q | q
  · exact Or.inl (t_inj q)
  · exact Or.inr (Or.inl (t_inj q))
  · exact Or.inr (Or.inr (Or.inl (t_inj q)))
  · exact Or.inr (Or.inr (Or.inr (Or.inl (t_inj q))))
  · exact Or.inr (Or.inr (Or.inr (Or.inr (Or.inl (t_inj q)))))
  · exact Or.inr (Or.inr (Or.inr (Or.inr (Or.inr (Or.inl (t_inj q))))))
  · exact Or.inr (Or.inr (Or.inr (Or.inr (Or.inr (Or.inr (Or.inl (t_inj q)))))))
  · exact Or.inr (Or.inr (Or.inr (Or.inr (Or.inr (Or.inr (Or.inr (Or.inl (t_inj q))))))))
  · exact Or.inr (Or.inr (Or.inr (Or.inr (Or.inr (Or.inr (Or.inr (Or.inr (t_inj q))))))))
theorem cs11 {a : Int32} (h : 0 ≤ a.toInt ∧ a.toInt < 11) : a = 0 ∨ a = 1 ∨ a = 2 ∨ a = 3 ∨ a = 4 ∨ a = 5 ∨ a = 6 ∨ a = 7 ∨ a = 8 ∨ a = 9 ∨ a = 10 := by
  rcases (show a.toInt = 0 ∨ a.toInt = 1 ∨ a.toInt = 2 ∨ a.toInt = 3 ∨ a.toInt = 4 ∨ a.toInt = 5 ∨ a.toInt = 6 ∨ a.toInt = 7 ∨ a.toInt = 8 ∨ a.toInt = 9 ∨ a.toInt = 10 by omega) with q | q | q | q | q | q | q | q | q | q | q
  · exact Or.inl (t_inj q)
  · exact Or.inr (Or.inl (t_inj q))
  · exact Or.inr (Or.inr (Or.inl (t_inj q)))
  · exact Or.inr (Or.inr (Or.inr (Or.inl (t_inj q))))
  · exact Or.inr (Or.inr (Or.inr (Or.inr (Or.inl (t_inj q)))))
  · exact Or.inr (Or.inr (Or.inr (Or.inr (Or.inr (Or.inl (t_inj q))))))
  · exact Or.inr (Or.inr (Or.inr (Or.inr (Or.inr (Or.inr (Or.inl (t_inj q)))))))
  · exact Or.inr (Or.inr (Or.inr (Or.inr (Or.inr (Or.inr (Or.inr (Or.inl (t_inj q))))))))
  · exact Or.inr (Or.inr (Or.inr (Or.inr (Or.inr (Or.inr (Or.inr (Or.inr (Or.inl (t_inj q)))))))))
  · exact Or.inr (Or.inr (Or.inr (Or.inr (Or.inr (Or.inr (Or.inr (Or.inr (Or.inr (Or.inl (t_inj q))))))))))
  · exact Or.inr (Or.inr (Or.inr (Or.inr (Or.inr (Or.inr (Or.inr (Or.inr (Or.inr (Or.inr (t_inj q))))))))))
theorem cs15 {a : Int32} (h : 0 ≤ a.toInt ∧ a.toInt < 15) : a = 0 ∨ a = 1 ∨ a = 2 ∨ a = 3 ∨ a = 4 ∨ a = 5 ∨ a = 6 ∨ a = 7 ∨ a = 8 ∨ a = 9 ∨ a = 10 ∨ a = 11 ∨ a = 12 ∨ a = 13 ∨ a = 14 := by
  rcases (show a.toInt = 0 ∨ a.toInt = 1 ∨ a.toInt = 2 ∨ a.toInt = 3 ∨ a.toInt = 4 ∨ a.toInt = 5 ∨ a.toInt = 6 ∨ a.toInt = 7 ∨ a.toInt = 8 ∨ a.toInt = 9 ∨ a.toInt = 10 ∨ a.toInt = 11 ∨ a.toInt = 12 ∨ a.toInt = 13 ∨ a.toInt = 14 by omega) with q | q | q | q | q | q | q | q | q | q | q | q | q | q | q
  · exact Or.inl (t_inj q)
  · exact Or.inr (Or.inl (t_inj q))
  · exact Or.inr (Or.inr (Or.inl (t_inj q)))
  · exact Or.inr (Or.inr (Or.inr (Or.inl (t_inj q))))
  · exact Or.inr (Or.inr (Or.inr (Or.inr (Or.inl (t_inj q)))))
  · exact Or.inr (Or.inr (Or.inr (Or.inr (Or.inr (Or.inl (t_inj q))))))
  · exact Or.inr (Or.inr (Or.inr (Or.inr (Or.inr (Or.inr (Or.inl (t_inj q)))))))
  · exact Or.inr (Or.inr (Or.inr (Or.inr (Or.inr (Or.inr (Or.inr (Or.inl (t_inj q))))))))
  · exact Or.inr (Or.inr (Or.inr (Or.inr (Or.inr (Or.inr (Or.inr (Or.inr (Or.inl (t_inj q)))))))))
  · exact Or.inr (Or.inr (Or.inr (Or.inr (Or.inr (Or.inr (Or.inr (Or.inr (Or.inr (Or.inl (t_inj q))))))))))
  · exact Or.inr (Or.inr (Or.inr (Or.inr (Or.inr (Or.inr (Or.inr (Or.inr (Or.inr (Or.inr (Or.inl (t_inj q)))))))))))
  · exact Or.inr (Or.inr (Or.inr (Or.inr (Or.inr (Or.inr (Or.inr (Or.inr (Or.inr (Or.inr (Or.inr (Or.inl (t_inj q))))))))))))
  · exact Or.inr (Or.inr (Or.inr (Or.inr (Or.inr (Or.inr (Or.inr (Or.inr (Or.inr (Or.inr (Or.inr (Or.inr (Or.inl (t_inj q)))))))))))))
  · exact Or.inr (Or.inr (Or.inr (Or.inr (Or.inr (Or.inr (Or.inr (Or.inr (Or.inr (Or.inr (Or.inr (Or.inr (Or.inr (Or.inl (t_inj q))))))))))))))
  · exact Or.inr (Or.inr (Or.inr (Or.inr (Or.inr (Or.inr (Or.inr (Or.inr (Or.inr (Or.inr (Or.inr (Or.inr (Or.inr (Or.inr (t_inj q))))))))))))))
theorem ky_frame {N : Nat} (a1 a2 : Int32) (σ : sm_S) (ht : tie True N σ (σ 169)) : ky j_A_frame j_M_frame [.ref 42, .int a1, .int a2] [.ref 0, .int a1, .int a2] σ := by
  have l0 : a1 < 0 ↔ a1.toInt < 0 := by rw [t_lt]; exact Iff.rfl
  have l1 : a1 < 256 ↔ a1.toInt < 256 := by rw [t_lt]; exact Iff.rfl
  by_cases k1 : 0 ≤ a1.toInt ∧ a1.toInt < 256
  · obtain ⟨n, hn⟩ := t_of k1.1
    have hF := ht.s.F n (by omega)
    have vv := t_vp (N := 256) hn (by omega)
    by_cases k2 : 0 ≤ a2.toInt ∧ a2.toInt < 3
    · have ref : ∀ j : Nat, a2.toInt = j → ∀ r : Int32, (a2 ≠ 1 → σ 169 (18 + 3 * n + j) = r) → (¬ a2 ≠ 1 → σ 169 (18 + 3 * n + j) - 1 = r) → ∀ σ2 : sm_S, σ2 1 = σ 169 → xC xM j_M_frame [.ref 0, .int a1, .int a2] σ2 (sm_I (fun y _ => y = r)) := fun j hj r r1 r2 σ2 e2 => by
        refine w_M_frame a1 a2 σ2 _ (fun σ1 e1 => (c_isInX (L := 0) (H := 255) rfl rfl a1 σ1).int ?_)
        obtain ⟨f1, -⟩ := told1 e2 e1
        rintro x3 σ3 ⟨hx3, es3⟩
        rw [es3]
        refine ⟨fun z => absurd ⟨k1.1, by omega⟩ (hx3.b.1.mp z), fun _ => (c_isInX (L := 0) (H := 2) rfl rfl a2 σ1).int ?_⟩
        rintro x5 σ5 ⟨hx5, es5⟩
        rw [es5]
        refine ⟨fun _ => (c_frameAt a1 σ1).int ?_, fun z => absurd (hx5.b.2.mpr ⟨k2.1, by omega⟩) z⟩
        rintro x7 σ7 ⟨ex7, es7⟩
        rw [ex7, es7]
        have ix := t_ix (c := 18) (m := 3) (C := 18) (M := 3) rfl rfl hn hj (by omega)
        rw [t_nat ix, f1]
        exact ⟨t_vp ix (by omega), fun z => an_ (r1 z), fun z => an_ (r2 z)⟩
      rcases cs3 k2 with q | q | q
      · subst q
        exact ⟨σ 169 (18 + 3 * n), f_A_frame a1 0 σ _ ⟨fun z => absurd (l0.mp z) (by omega), fun _ => ⟨fun _ => ⟨fun _ => anC (e_stateOf2 hn (by omega) σ hF), fun z => absurd rfl z⟩, fun z => absurd (l1.mpr k1.2) z⟩⟩, ref 0 rfl _ (fun z => rfl) (fun z => absurd (by decide) z)⟩
      · subst q
        exact ⟨σ 169 (18 + 3 * n + 1) - 1, f_A_frame a1 1 σ _ ⟨fun z => absurd (l0.mp z) (by omega), fun _ => ⟨fun _ => ⟨fun z => absurd z (by decide), fun _ => ⟨fun _ => ⟨vv, an_ (by rw [t_nat hn]; exact sub1 hF.blk)⟩, fun z => absurd rfl z⟩⟩, fun z => absurd (l1.mpr k1.2) z⟩⟩, ref 1 rfl _ (fun z => absurd rfl z) (fun z => rfl)⟩
      · subst q
        exact ⟨σ 169 (18 + 3 * n + 2), f_A_frame a1 2 σ _ ⟨fun z => absurd (l0.mp z) (by omega), fun _ => ⟨fun _ => ⟨fun z => absurd z (by decide), fun _ => ⟨fun z => absurd z (by decide), fun _ => ⟨fun _ => ⟨vv, an_ (by rw [t_nat hn]; exact hF.val.symm)⟩, fun z => absurd rfl z⟩⟩⟩, fun z => absurd (l1.mpr k1.2) z⟩⟩, ref 2 rfl _ (fun z => rfl) (fun z => absurd (by decide) z)⟩
    · refine ⟨-1, f_A_frame a1 a2 σ _ ⟨fun _ => an_ rfl, fun _ => ⟨fun _ => ⟨fun z => absurd (by rw [z]; decide) k2, fun _ => ⟨fun z => absurd (by rw [z]; decide) k2, fun _ => ⟨fun z => absurd (by rw [z]; decide) k2, fun _ => an_ rfl⟩⟩⟩, fun _ => an_ rfl⟩⟩, fun σ2 e2 => ?_⟩
      refine w_M_frame a1 a2 σ2 _ (fun σ1 e1 => (c_isInX (L := 0) (H := 255) rfl rfl a1 σ1).int ?_)
      rintro x3 σ3 ⟨hx3, es3⟩
      rw [es3]
      refine ⟨fun _ => an_ rfl, fun _ => (c_isInX (L := 0) (H := 2) rfl rfl a2 σ1).int ?_⟩
      rintro x5 σ5 ⟨hx5, es5⟩
      exact ⟨fun z => absurd (by have := hx5.b.2.mp z; omega) k2, fun _ => an_ rfl⟩
  · refine ⟨-1, f_A_frame a1 a2 σ _ ⟨fun _ => an_ rfl, fun z => ⟨fun w => absurd ⟨(by rw [l0] at z; omega), l1.mp w⟩ k1, fun _ => an_ rfl⟩⟩, fun σ2 e2 => ?_⟩
    refine w_M_frame a1 a2 σ2 _ (fun σ1 e1 => (c_isInX (L := 0) (H := 255) rfl rfl a1 σ1).int ?_)
    rintro x3 σ3 ⟨hx3, es3⟩
    exact ⟨fun _ => an_ rfl, fun z => absurd (by have := hx3.b.2.mp z; omega) k1⟩
theorem ce_frame {B : Nat} (a1 a2 : Int32) (σ : sm_S) (hB : B < 1500000000) (h : LR B σ) : two (fun x y => x = y) j_A_frame j_M_frame [.ref 42, .int a1, .int a2] [.ref 168, .int a1, .int a2] B σ := by
  have h2 := h
  obtain ⟨hL, ⟨N, hN, ht⟩, -⟩ := h2
  exact CLk h (a_frameQ a1 a2 σ h.1.1) (fun σ1 q => m_frame a1 a2 σ1 hB q.2.1) (fun σ1 q => by
    obtain ⟨N, hN, hj⟩ := (lw_bs q.2.1).1
    exact qU (as := [.ref 0, .int a1, .int a2]) rfl (k_frame (N := N) a1 a2 (sh rM σ1) hj)) (asM := [.ref 0, .int a1, .int a2]) rfl (ky_frame a1 a2 σ ht.1)
theorem rng_len (p : Nat → Prop) (dp : ∀ t, Decidable (p t)) : ∀ k, ((List.range k).filter (fun t => decide (p t))).length = sumN (fun t => if p t then 1 else 0) k := by
  intro k
  induction k with
  | zero => rfl
  | succ k ih =>
    rw [List.range_succ, List.filter_append, List.length_append, ih]
    show _ = sumN (fun t => if p t then 1 else 0) k + (if p k then 1 else 0)
    by_cases h : p k
    · rw [List.filter_cons_of_pos (p := fun t => decide (p t)) (decide_eq_true h), if_pos h]
      rfl
    · rw [List.filter_cons_of_neg (p := fun t => decide (p t)) (by show ¬ decide (p k) = true; rw [decide_eq_true_iff]; exact h), if_neg h]
      rfl
theorem nI_t {t : Nat} (h : t < 2147483648) : (nI t).toInt = (t : Int) := nI_toInt h
theorem ln_cnt {c : sm_S} {v : Nat → Int32} {L b m : Nat} {bI : Int32} (q : sQ c v L) (hb : b < 96) (hbI : bI.toInt = b) (hm : (v (786 + 16 * b + 9)).toInt = m) : sumN (fun t => if c 28 t = bI then 1 else 0) 6 = m := by
  obtain ⟨-, g2⟩ := q.m_le hb hm
  have a := congrArg List.length g2
  rw [lnV_len] at a
  rw [a, ← rng_len (fun t => c 28 t = bI) (fun t => inferInstance) 6]
  have hbn : bI ≠ -1 := ne_m1 hbI
  have nd1 : ((lnC c L).filter (fun t => decide ((c 28 t.toNatClampNeg).toInt = b))).Nodup := List.Pairwise.filter _ q.nod
  have nd0 : ((List.range 6).filter (fun t => decide (c 28 t = bI))).Nodup := List.Pairwise.filter _ List.nodup_range
  have nd2 : (((List.range 6).filter (fun t => decide (c 28 t = bI))).map nI).Nodup := by
    have nd0' := nd0
    rw [List.nodup_iff_pairwise_ne, List.pairwise_iff_getElem] at nd0'
    rw [List.nodup_iff_pairwise_ne, List.pairwise_iff_getElem]
    intro i j hi hj hij e
    rw [List.getElem_map, List.getElem_map] at e
    rw [List.length_map] at hi hj
    have m1 := List.getElem_mem hi
    have m2 := List.getElem_mem hj
    have r1 := List.mem_range.mp (List.mem_filter.mp m1).1
    have r2 := List.mem_range.mp (List.mem_filter.mp m2).1
    have e' := congrArg Int32.toInt e
    rw [nI_t (by omega), nI_t (by omega)] at e'
    exact nd0' i j hi hj hij (by omega)
  have pm := (List.perm_ext_iff_of_nodup nd1 nd2).mpr (fun x => by
    rw [List.mem_filter, List.mem_map]
    constructor
    · rintro ⟨h1, h2⟩
      obtain ⟨t, t1, t2, t3⟩ := q.mem h1
      rw [t_nat t2, decide_eq_true_iff] at h2
      refine ⟨t, List.mem_filter.mpr ⟨List.mem_range.mpr t1, decide_eq_true (t_inj (by rw [h2, hbI]))⟩, (t_nI t2).symm⟩
    · rintro ⟨t, h1, h2⟩
      obtain ⟨h3, h4⟩ := List.mem_filter.mp h1
      have h3 := List.mem_range.mp h3
      have h4 : c 28 t = bI := of_decide_eq_true h4
      obtain ⟨k, k1, k2⟩ := q.all t h3 (by rw [h4]; exact hbn)
      have e : c 33 k = x := by rw [← h2]; exact t_nI k2
      rw [← e]
      refine ⟨lnC_in k1, decide_eq_true ?_⟩
      rw [t_nat k2, h4, hbI])
  have := pm.length_eq
  rw [List.length_map] at this
  omega
theorem l_lineOf2 (a1 : Int32) (σ : sm_S) : ∀ (d k : Nat) (a2 a3 : Int32), a3.toInt = k → k + d = 6 → a2.toInt = ((sumN (fun t => if σ 28 t = a1 then 1 else 0) k : Nat) : Int) → xE xD m_K_lineOf 4 [.ref 26, .int a1, .int a2, .int a3] [] σ (sm_I (fun x σ' => x.toInt = ((sumN (fun t => if σ 28 t = a1 then 1 else 0) 6 : Nat) : Int) ∧ σ' = σ)) := by
  have bd : ∀ k, sumN (fun t => if σ 28 t = a1 then 1 else 0) k ≤ 1 * k := fun k => sumN_bd (fun i => by split <;> omega)
  intro d
  induction d with
  | zero =>
    intro k a2 a3 h3 hk h2
    have hk : k = 6 := by omega
    subst hk
    exact d_K_lineOf_4 a1 a2 a3 σ _ ⟨fun _ => ⟨_, rfl, h2, rfl⟩, fun h => absurd (by rw [t_le, h3]; show (6 : Int) ≤ _; omega) h⟩
  | succ d ih =>
    intro k a2 a3 h3 hk h2
    have h3' : (a3 + 1).toInt = ((k + 1 : Nat) : Int) := by
      rw [t_add h3 (y := 1) rfl (by omega) (by omega)]
      omega
    have b := bd k
    refine d_K_lineOf_4 a1 a2 a3 σ _ ⟨fun z => ?_, fun _ => ?_⟩
    · rw [t_le, h3] at z
      have z : (6 : Int) ≤ k := z
      omega
    · rw [t_nat h3]
      refine ⟨t_vp h3 (by omega), fun q => ih (k + 1) (a2 + 0) (a3 + 1) h3' (by omega) ?_, fun q => ih (k + 1) (a2 + 1) (a3 + 1) h3' (by omega) ?_⟩
      · rw [Int32.add_zero, h2]
        show _ = ((sumN (fun t => if σ 28 t = a1 then 1 else 0) k + (if σ 28 k = a1 then 1 else 0) : Nat) : Int)
        rw [if_neg q]
        rfl
      · rw [t_add h2 (y := 1) rfl (by omega) (by omega)]
        show _ = ((sumN (fun t => if σ 28 t = a1 then 1 else 0) k + (if σ 28 k = a1 then 1 else 0) : Nat) : Int)
        rw [if_pos (Classical.not_not.mp q)]
        omega
theorem e_lineOf2 {a1 : Int32} {n : Nat} {v : Nat → Int32} (h1 : a1.toInt = n) (hn : n < 96) (σ : sm_S) (h : sim0 σ v) : xC xD j_K_lineOf [.ref 26, .int a1] σ (sm_I (fun x σ' => x = v (786 + 16 * n + 9) ∧ σ' = σ)) := by
  obtain ⟨L, q⟩ := h.Q
  obtain ⟨m, hm, -⟩ := q.lin n hn
  refine (d_K_lineOf a1 σ _ (l_lineOf2 a1 σ 6 0 0 0 rfl rfl rfl)).mono ?_
  rintro r σ' ⟨x, e, hx, es⟩
  refine ⟨x, e, t_inj ?_, es⟩
  rw [hx, hm, ln_cnt q hn h1 hm]
theorem ky_block {N : Nat} (a1 a2 : Int32) (σ : sm_S) (ht : tie True N σ (σ 169)) : ky j_A_block j_M_block [.ref 42, .int a1, .int a2] [.ref 0, .int a1, .int a2] σ := by
  by_cases k1 : ∃ n : Nat, n < 96 ∧ a1.toInt = n ∧ σ 169 (786 + 16 * n) = 1
  · obtain ⟨n, hn1, hn, hI⟩ := k1
    obtain ⟨gb, gb9⟩ := (ht.s.B n hn1).al hI
    have vv := t_vp (N := 96) hn hn1
    have cla : ∀ (Q : Int32 → sm_S → Prop), (∀ x, x ≠ 0 → Q x σ) → xC xF j_B_has [.ref 8, .int a1] σ (sm_ri False Q) := fun Q hQ => (nw0 (e_has2 a1 σ)).int (by
      rintro x σ1 ⟨hx, es⟩
      rw [es]
      refine hQ x ?_
      rcases hx with ⟨x1, -⟩ | ⟨-, hx⟩
      · rw [x1]; decide
      · exfalso
        rcases hx with hx | ⟨m, m1, m2, m3⟩
        · omega
        · have e : m = n := by omega
          rw [e] at m3
          exact gb9 m3)
    by_cases k2 : 0 ≤ a2.toInt ∧ a2.toInt < 9
    · have ref : ∀ j : Nat, a2.toInt = j → ∀ r : Int32, (a2 + 1 ≠ 6 → σ 169 (786 + 16 * n + (j + 1)) = r) → (¬ a2 + 1 ≠ 6 → σ 169 (786 + 16 * n + (j + 1)) - 1 = r) → ∀ σ2 : sm_S, σ2 1 = σ 169 → xC xM j_M_block [.ref 0, .int a1, .int a2] σ2 (sm_I (fun y _ => y = r)) := fun j hj r r1 r2 σ2 e2 => by
        refine w_M_block a1 a2 σ2 _ (fun σ1 e1 => (c_isBlock a1 σ1).int ?_)
        obtain ⟨f1, -⟩ := told1 e2 e1
        rintro x3 σ3 ⟨hx3, es3⟩
        rw [es3]
        refine ⟨fun z => ?_, fun _ => (c_isInX (L := 0) (H := 8) rfl rfl a2 σ1).int ?_⟩
        · exfalso
          rw [z] at hx3
          rcases hx3 with ⟨w, -⟩ | ⟨-, w⟩
          · exact absurd w (by decide)
          · rcases w with w | ⟨m, m1, m2, m3⟩
            · omega
            · have e : m = n := by omega
              rw [e, f1] at m3
              exact m3 hI
        · rintro x5 σ5 ⟨hx5, es5⟩
          rw [es5]
          have hj1 : (a2 + 1).toInt = ((j + 1 : Nat) : Int) := by
            rw [t_add hj (y := 1) rfl (by omega) (by omega)]
            omega
          refine ⟨fun _ => (c_of hn hj1 (by omega) σ1).int ?_, fun z => absurd (hx5.b.2.mpr ⟨k2.1, by omega⟩) z⟩
          rintro x7 σ7 ⟨ex7, es7⟩
          rw [ex7, f1]
          exact ⟨fun z => an_ (r1 z), fun z => an_ (r2 z)⟩
      rcases cs9 k2 with q | q | q | q | q | q | q | q | q
      · subst q
        exact ⟨σ 169 (786 + 16 * n + 1), f_A_block a1 0 σ _ (cla _ (fun x hx => ⟨fun _ => ⟨fun _ => ⟨vv, an_ (by rw [t_nat hn]; exact gb.fir.symm)⟩, fun z => absurd rfl z⟩, fun z => absurd hx z⟩)), ref 0 rfl _ (fun z => rfl) (fun z => absurd (by decide) z)⟩
      · subst q
        exact ⟨σ 169 (786 + 16 * n + 2), f_A_block a1 1 σ _ (cla _ (fun x hx => ⟨fun _ => ⟨fun z => absurd z (by decide), fun _ => ⟨fun _ => ⟨vv, an_ (by rw [t_nat hn]; exact gb.ord.symm)⟩, fun z => absurd rfl z⟩⟩, fun z => absurd hx z⟩)), ref 1 rfl _ (fun z => rfl) (fun z => absurd (by decide) z)⟩
      · subst q
        exact ⟨σ 169 (786 + 16 * n + 3), f_A_block a1 2 σ _ (cla _ (fun x hx => ⟨fun _ => ⟨fun z => absurd z (by decide), fun _ => ⟨fun z => absurd z (by decide), fun _ => ⟨fun _ => ⟨vv, an_ (by rw [t_nat hn]; exact gb.kin.symm)⟩, fun z => absurd rfl z⟩⟩⟩, fun z => absurd hx z⟩)), ref 2 rfl _ (fun z => rfl) (fun z => absurd (by decide) z)⟩
      · subst q
        exact ⟨σ 169 (786 + 16 * n + 4), f_A_block a1 3 σ _ (cla _ (fun x hx => ⟨fun _ => ⟨fun z => absurd z (by decide), fun _ => ⟨fun z => absurd z (by decide), fun _ => ⟨fun z => absurd z (by decide), fun _ => ⟨fun _ => ⟨vv, an_ (by rw [t_nat hn]; exact gb.own.symm)⟩, fun z => absurd rfl z⟩⟩⟩⟩, fun z => absurd hx z⟩)), ref 3 rfl _ (fun z => rfl) (fun z => absurd (by decide) z)⟩
      · subst q
        exact ⟨σ 169 (786 + 16 * n + 5), f_A_block a1 4 σ _ (cla _ (fun x hx => ⟨fun _ => ⟨fun z => absurd z (by decide), fun _ => ⟨fun z => absurd z (by decide), fun _ => ⟨fun z => absurd z (by decide), fun _ => ⟨fun z => absurd z (by decide), fun _ => ⟨fun _ => ⟨vv, an_ (by rw [t_nat hn]; exact gb.pin.symm)⟩, fun z => absurd rfl z⟩⟩⟩⟩⟩, fun z => absurd hx z⟩)), ref 4 rfl _ (fun z => rfl) (fun z => absurd (by decide) z)⟩
      · subst q
        exact ⟨σ 169 (786 + 16 * n + 6) - 1, f_A_block a1 5 σ _ (cla _ (fun x hx => ⟨fun _ => ⟨fun z => absurd z (by decide), fun _ => ⟨fun z => absurd z (by decide), fun _ => ⟨fun z => absurd z (by decide), fun _ => ⟨fun z => absurd z (by decide), fun _ => ⟨fun z => absurd z (by decide), fun _ => ⟨fun _ => ⟨vv, an_ (by rw [t_nat hn]; exact sub1 gb.tgt)⟩, fun z => absurd rfl z⟩⟩⟩⟩⟩⟩, fun z => absurd hx z⟩)), ref 5 rfl _ (fun z => absurd (by decide) z) (fun z => rfl)⟩
      · subst q
        exact ⟨σ 169 (786 + 16 * n + 7), f_A_block a1 6 σ _ (cla _ (fun x hx => ⟨fun _ => ⟨fun z => absurd z (by decide), fun _ => ⟨fun z => absurd z (by decide), fun _ => ⟨fun z => absurd z (by decide), fun _ => ⟨fun z => absurd z (by decide), fun _ => ⟨fun z => absurd z (by decide), fun _ => ⟨fun z => absurd z (by decide), fun _ => ⟨fun _ => ⟨vv, an_ (by rw [t_nat hn]; exact gb.cop.symm)⟩, fun z => absurd rfl z⟩⟩⟩⟩⟩⟩⟩, fun z => absurd hx z⟩)), ref 6 rfl _ (fun z => rfl) (fun z => absurd (by decide) z)⟩
      · subst q
        exact ⟨σ 169 (786 + 16 * n + 8), f_A_block a1 7 σ _ (cla _ (fun x hx => ⟨fun _ => ⟨fun z => absurd z (by decide), fun _ => ⟨fun z => absurd z (by decide), fun _ => ⟨fun z => absurd z (by decide), fun _ => ⟨fun z => absurd z (by decide), fun _ => ⟨fun z => absurd z (by decide), fun _ => ⟨fun z => absurd z (by decide), fun _ => ⟨fun z => absurd z (by decide), fun _ => ⟨fun _ => ⟨vv, an_ (by rw [t_nat hn]; exact gb.use.symm)⟩, fun z => absurd rfl z⟩⟩⟩⟩⟩⟩⟩⟩, fun z => absurd hx z⟩)), ref 7 rfl _ (fun z => rfl) (fun z => absurd (by decide) z)⟩
      · subst q
        exact ⟨σ 169 (786 + 16 * n + 9), f_A_block a1 8 σ _ (cla _ (fun x hx => ⟨fun _ => ⟨fun z => absurd z (by decide), fun _ => ⟨fun z => absurd z (by decide), fun _ => ⟨fun z => absurd z (by decide), fun _ => ⟨fun z => absurd z (by decide), fun _ => ⟨fun z => absurd z (by decide), fun _ => ⟨fun z => absurd z (by decide), fun _ => ⟨fun z => absurd z (by decide), fun _ => ⟨fun z => absurd z (by decide), fun _ => ⟨fun _ => anC (e_lineOf2 hn hn1 σ ht.s), fun z => absurd rfl z⟩⟩⟩⟩⟩⟩⟩⟩⟩, fun z => absurd hx z⟩)), ref 8 rfl _ (fun z => rfl) (fun z => absurd (by decide) z)⟩
    · refine ⟨-1, f_A_block a1 a2 σ _ (cla _ (fun x hx => ⟨fun _ => ⟨fun z => absurd (by rw [z]; decide) k2, fun _ => ⟨fun z => absurd (by rw [z]; decide) k2, fun _ => ⟨fun z => absurd (by rw [z]; decide) k2, fun _ => ⟨fun z => absurd (by rw [z]; decide) k2, fun _ => ⟨fun z => absurd (by rw [z]; decide) k2, fun _ => ⟨fun z => absurd (by rw [z]; decide) k2, fun _ => ⟨fun z => absurd (by rw [z]; decide) k2, fun _ => ⟨fun z => absurd (by rw [z]; decide) k2, fun _ => ⟨fun z => absurd (by rw [z]; decide) k2, fun _ => an_ rfl⟩⟩⟩⟩⟩⟩⟩⟩⟩, fun _ => an_ rfl⟩)), fun σ2 e2 => ?_⟩
      refine w_M_block a1 a2 σ2 _ (fun σ1 e1 => (c_isBlock a1 σ1).int ?_)
      rintro x3 σ3 ⟨hx3, es3⟩
      rw [es3]
      refine ⟨fun _ => an_ rfl, fun _ => (c_isInX (L := 0) (H := 8) rfl rfl a2 σ1).int ?_⟩
      rintro x5 σ5 ⟨hx5, es5⟩
      exact ⟨fun z => absurd (by have := hx5.b.2.mp z; omega) k2, fun _ => an_ rfl⟩
  · refine ⟨-1, f_A_block a1 a2 σ _ ((nw0 (e_has2 a1 σ)).int ?_), fun σ2 e2 => ?_⟩
    · rintro x σ1 ⟨hx, es⟩
      rw [es]
      refine ⟨fun z => ?_, fun _ => an_ rfl⟩
      exfalso
      rcases hx with ⟨x1, m, m1, m2, m3⟩ | ⟨x0, -⟩
      · rcases ht.s.B m m1 with ⟨w, -⟩ | ⟨-, w, -⟩
        · exact m3 w
        · exact k1 ⟨m, m1, m2, w⟩
      · exact z x0
    · refine w_M_block a1 a2 σ2 _ (fun σ1 e1 => (c_isBlock a1 σ1).int ?_)
      obtain ⟨f1, -⟩ := told1 e2 e1
      rintro x3 σ3 ⟨hx3, es3⟩
      refine ⟨fun _ => an_ rfl, fun z => ?_⟩
      exfalso
      rcases hx3 with ⟨-, m, m1, m2, m3⟩ | ⟨x0, -⟩
      · rw [f1] at m3
        exact k1 ⟨m, m1, m2, m3⟩
      · exact z x0
theorem ce_block {B : Nat} (a1 a2 : Int32) (σ : sm_S) (hB : B < 1500000000) (h : LR B σ) : two (fun x y => x = y) j_A_block j_M_block [.ref 42, .int a1, .int a2] [.ref 168, .int a1, .int a2] B σ := by
  have h2 := h
  obtain ⟨hL, ⟨N, hN, ht⟩, -⟩ := h2
  exact CLk h (a_blockQ a1 a2 σ h.1.1) (fun σ1 q => m_block a1 a2 σ1 hB q.2.1) (fun σ1 q => by
    obtain ⟨N, hN, hj⟩ := (lw_bs q.2.1).1
    exact qU (as := [.ref 0, .int a1, .int a2]) rfl (k_block (N := N) a1 a2 (sh rM σ1) hj)) (asM := [.ref 0, .int a1, .int a2]) rfl (ky_block a1 a2 σ ht.1)
theorem l_owned2 {v : Nat → Int32} (a1 : Int32) (σ : sm_S) (h : sim0 σ v) : ∀ (d k : Nat) (a a3 : Int32), a3.toInt = k → k + d = 96 → ∃ r : Int32, xE xD m_B_ownedBy 4 [.ref 8, .int a1, .int a, .int a3] [] σ (sm_I (fun x σ' => x = r ∧ σ' = σ)) ∧ ∀ σ2 : sm_S, σ2 1 = v → xE xM m_M_ownsMany 5 [.ref 0, .int a1, .int 1, .int a, .int a3] [] σ2 (sm_I (fun x σ' => x = r ∧ σ' = σ2)) := by
  intro d
  induction d with
  | zero =>
    intro k a a3 h3 hk
    have l : (96 : Int32) ≤ a3 := by rw [t_le, h3]; show (96 : Int) ≤ _; omega
    exact ⟨a, d_B_ownedBy_4 a1 a a3 σ _ ⟨fun _ => ⟨_, rfl, rfl, rfl⟩, fun z => absurd l z⟩, fun σ2 _ => w_M_ownsMany_5 a1 1 a a3 σ2 _ ⟨fun _ => ⟨_, rfl, rfl, rfl⟩, fun z => absurd l z⟩⟩
  | succ d ih =>
    intro k a a3 h3 hk
    have h3' : (a3 + 1).toInt = ((k + 1 : Nat) : Int) := by
      rw [t_add h3 (y := 1) rfl (by omega) (by omega)]
      omega
    have l : ¬ (96 : Int32) ≤ a3 := by rw [t_le, h3]; show ¬ (96 : Int) ≤ _; omega
    have vv := t_vp (N := 96) h3 (by omega)
    rcases h.B k (by omega) with ⟨g1, g2⟩ | ⟨g1, g2, gb⟩
    · obtain ⟨r, r1, r2⟩ := ih (k + 1) a (a3 + 1) h3' (by omega)
      refine ⟨r, d_B_ownedBy_4 a1 a a3 σ _ ⟨fun z => absurd z l, fun _ => ?_⟩, fun σ2 e2 => w_M_ownsMany_5 a1 1 a a3 σ2 _ ⟨fun z => absurd z l, fun _ => (c_isBlock a3 σ2).int ?_⟩⟩
      · rw [t_nat h3, Int32.add_zero]
        exact ⟨vv, fun _ => r1, fun z => absurd g1 z⟩
      · rintro x2 σ3 ⟨hx2, es⟩
        rw [es]
        refine ⟨fun _ => r2 σ2 e2, fun z => ?_⟩
        exfalso
        rcases hx2 with ⟨-, m, m1, m2, m3⟩ | ⟨x0, -⟩
        · have e : m = k := by omega
          rw [e, e2] at m3
          have g2 : v (786 + 16 * k) = 0 := g2
          rw [g2] at m3
          exact absurd m3 (by decide)
        · exact z x0
    · obtain ⟨r, r1, r2⟩ := ih (k + 1) (if σ 12 k ≠ a1 then a else a + 1) (a3 + 1) h3' (by omega)
      refine ⟨r, d_B_ownedBy_4 a1 a a3 σ _ ⟨fun z => absurd z l, fun _ => ?_⟩, fun σ2 e2 => w_M_ownsMany_5 a1 1 a a3 σ2 _ ⟨fun z => absurd z l, fun _ => (c_isBlock a3 σ2).int ?_⟩⟩
      · rw [t_nat h3, Int32.add_zero]
        refine ⟨vv, fun z => absurd z g1, fun _ => ⟨vv, fun z => ?_, fun z => ?_⟩⟩
        · rw [if_pos z] at r1
          exact r1
        · rw [if_neg z] at r1
          exact r1
      · rintro x2 σ3 ⟨hx2, es⟩
        rw [es]
        refine ⟨fun z => ?_, fun _ => ⟨fun z => absurd z (by decide), fun _ => (c_of (k := 4) (j := 4) h3 rfl (by omega) σ2).int ?_⟩⟩
        · exfalso
          rcases hx2 with ⟨x1, -⟩ | ⟨-, hx⟩
          · rw [z] at x1
            exact absurd x1 (by decide)
          · rcases hx with hx | ⟨m, m1, m2, m3⟩
            · omega
            · have e : m = k := by omega
              rw [e, e2] at m3
              exact m3 g2
        · rintro x6 σ5 ⟨ex6, es5⟩
          rw [ex6, es5, e2, gb.own]
          refine ⟨fun z => ?_, fun z => ?_⟩
          · rw [if_pos z] at r2
            exact r2 σ2 e2
          · rw [if_neg z] at r2
            exact r2 σ2 e2
theorem l_pinned2 {v : Nat → Int32} (a1 : Int32) (σ : sm_S) (h : sim0 σ v) : ∀ (d k : Nat) (a a3 : Int32), a3.toInt = k → k + d = 96 → ∃ r : Int32, xE xD m_B_pinnedBy 4 [.ref 8, .int a1, .int a, .int a3] [] σ (sm_I (fun x σ' => x = r ∧ σ' = σ)) ∧ ∀ σ2 : sm_S, σ2 1 = v → xE xM m_M_ownsMany 5 [.ref 0, .int a1, .int 0, .int a, .int a3] [] σ2 (sm_I (fun x σ' => x = r ∧ σ' = σ2)) := by
  intro d
  induction d with
  | zero =>
    intro k a a3 h3 hk
    have l : (96 : Int32) ≤ a3 := by rw [t_le, h3]; show (96 : Int) ≤ _; omega
    exact ⟨a, d_B_pinnedBy_4 a1 a a3 σ _ ⟨fun _ => ⟨_, rfl, rfl, rfl⟩, fun z => absurd l z⟩, fun σ2 _ => w_M_ownsMany_5 a1 0 a a3 σ2 _ ⟨fun _ => ⟨_, rfl, rfl, rfl⟩, fun z => absurd l z⟩⟩
  | succ d ih =>
    intro k a a3 h3 hk
    have h3' : (a3 + 1).toInt = ((k + 1 : Nat) : Int) := by
      rw [t_add h3 (y := 1) rfl (by omega) (by omega)]
      omega
    have l : ¬ (96 : Int32) ≤ a3 := by rw [t_le, h3]; show ¬ (96 : Int) ≤ _; omega
    have vv := t_vp (N := 96) h3 (by omega)
    rcases h.B k (by omega) with ⟨g1, g2⟩ | ⟨g1, g2, gb⟩
    · obtain ⟨r, r1, r2⟩ := ih (k + 1) a (a3 + 1) h3' (by omega)
      refine ⟨r, d_B_pinnedBy_4 a1 a a3 σ _ ⟨fun z => absurd z l, fun _ => ?_⟩, fun σ2 e2 => w_M_ownsMany_5 a1 0 a a3 σ2 _ ⟨fun z => absurd z l, fun _ => (c_isBlock a3 σ2).int ?_⟩⟩
      · rw [t_nat h3, Int32.add_zero]
        exact ⟨vv, fun _ => r1, fun z => absurd g1 z⟩
      · rintro x2 σ3 ⟨hx2, es⟩
        rw [es]
        refine ⟨fun _ => r2 σ2 e2, fun z => ?_⟩
        exfalso
        rcases hx2 with ⟨-, m, m1, m2, m3⟩ | ⟨x0, -⟩
        · have e : m = k := by omega
          rw [e, e2] at m3
          have g2 : v (786 + 16 * k) = 0 := g2
          rw [g2] at m3
          exact absurd m3 (by decide)
        · exact z x0
    · obtain ⟨r, r1, r2⟩ := ih (k + 1) (a + ((σ 13 k >>> (a1 &&& 31)) &&& 1)) (a3 + 1) h3' (by omega)
      refine ⟨r, d_B_pinnedBy_4 a1 a a3 σ _ ⟨fun z => absurd z l, fun _ => ?_⟩, fun σ2 e2 => w_M_ownsMany_5 a1 0 a a3 σ2 _ ⟨fun z => absurd z l, fun _ => (c_isBlock a3 σ2).int ?_⟩⟩
      · rw [t_nat h3, Int32.add_zero]
        exact ⟨vv, fun z => absurd z g1, fun _ => ⟨vv, r1⟩⟩
      · rintro x2 σ3 ⟨hx2, es⟩
        rw [es]
        refine ⟨fun z => ?_, fun _ => ⟨fun _ => (c_hasPinX h3 (by omega) σ2).int ?_, fun z => absurd rfl z⟩⟩
        · exfalso
          rcases hx2 with ⟨x1, -⟩ | ⟨-, hx⟩
          · rw [z] at x1
            exact absurd x1 (by decide)
          · rcases hx with hx | ⟨m, m1, m2, m3⟩
            · omega
            · have e : m = k := by omega
              rw [e, e2] at m3
              exact m3 g2
        · rintro x4 σ5 ⟨hx4, es5⟩
          rw [es5]
          have hx4 := hx4.b
          unfold hPin at hx4
          rw [e2, gb.pin] at hx4
          refine ⟨fun z => ?_, fun z => ?_⟩
          · rw [Classical.not_not.mp (hx4.1.mp z), Int32.add_zero] at r2
            exact r2 σ2 e2
          · rw [(and01 _).resolve_left (hx4.2.mp z)] at r2
            exact r2 σ2 e2
theorem t_wt {σ : sm_S} {v : Nat → Int32} {t : Nat} (hk : kk σ) (h : sim0 σ v) (ht : t < 6) : v (2322 + 6 * t + 1) ≤ 0 ↔ σ 28 t = -1 := by
  obtain ⟨L, -, -, -, l4⟩ := hk.2.2.1
  rw [(h.T t ht).wai, t_le]
  rcases l4 t ht with g | ⟨-, b, o, a, q1, q2, -⟩
  · rw [g]
    exact ⟨fun _ => rfl, fun _ => by decide⟩
  · rw [t_add q2 (y := 1) rfl (by omega) (by omega)]
    refine ⟨fun z => ?_, fun z => absurd z (ne_m1 q2)⟩
    have z : (b : Int) + 1 ≤ 0 := z
    omega
theorem ky_task {N : Nat} (a1 a2 : Int32) (σ : sm_S) (ht : tie True N σ (σ 169)) (hk : kk σ) : ky j_A_task j_M_task [.ref 42, .int a1, .int a2] [.ref 0, .int a1, .int a2] σ := by
  by_cases k1 : 0 ≤ a1.toInt ∧ a1.toInt < 6
  · obtain ⟨n, hn⟩ := t_of k1.1
    have hn6 : n < 6 := by omega
    have hT := ht.s.T n hn6
    have vv := t_vp (N := 6) hn hn6
    have w01 := t_wt hk ht.s hn6
    have cla : ∀ (Q : Int32 → sm_S → Prop), (∀ x, x ≠ 0 → Q x σ) → xC xF j_A_isTask [.int a1] σ (sm_ri False Q) := fun Q hQ => (nw0 (e_isTaskX a1 σ)).int (by
      rintro x σ1 ⟨hx, es⟩
      rw [es]
      exact hQ x (hx.b.2.mpr k1))
    by_cases k2 : 0 ≤ a2.toInt ∧ a2.toInt < 6
    · have ref : ∀ (Q : Option Value → sm_S → Prop) (σ2 : sm_S), σ2 1 = σ 169 → (∀ σ1 : sm_S, σ1 1 = σ 169 → ((a2 ≠ 0 → ((a2 ≠ 1 → ((a2 ≠ 2 → ((a2 ≠ 3 → ((a2 ≠ 4 → xC xM j_M_ownsMany [.ref 0, .int a1, .int 0] σ1 (sm_ri False (fun x9 σ8 => Q (some (.int x9)) σ8))) ∧ (¬ (a2 ≠ 4) → xC xM j_M_ownsMany [.ref 0, .int a1, .int 1] σ1 (sm_ri False (fun x11 σ10 => Q (some (.int x11)) σ10))))) ∧ (¬ (a2 ≠ 3) → Q (some (.int (σ 169 (2322 + 6 * n + 5)))) σ1))) ∧ (¬ (a2 ≠ 2) → Q (some (.int ((σ 169 (2322 + 6 * n + 1)) - 1))) σ1))) ∧ (¬ (a2 ≠ 1) → ((σ 169 (2322 + 6 * n + 1) ≤ 0 → Q (some (.int 0)) σ1) ∧ (¬ (σ 169 (2322 + 6 * n + 1) ≤ 0) → Q (some (.int 1)) σ1))))) ∧ (¬ (a2 ≠ 0) → Q (some (.int (σ 169 (2322 + 6 * n + 0)))) σ1))) → xC xM j_M_task [.ref 0, .int a1, .int a2] σ2 Q := fun Q σ2 e2 hQ => by
        refine w_M_task a1 a2 σ2 _ (fun σ1 e1 => (c_isTaskX a1 σ1).int ?_)
        obtain ⟨f1, -⟩ := told1 e2 e1
        rintro x3 σ3 ⟨hx3, es3⟩
        rw [es3]
        refine ⟨fun z => absurd k1 (hx3.b.1.mp z), fun _ => (c_isInX (L := 0) (H := 5) rfl rfl a2 σ1).int ?_⟩
        rintro x5 σ5 ⟨hx5, es5⟩
        rw [es5]
        refine ⟨fun _ => (c_taskAt a1 σ1).int ?_, fun z => absurd (hx5.b.2.mpr ⟨k2.1, by omega⟩) z⟩
        rintro x7 σ7 ⟨ex7, es7⟩
        rw [ex7, es7]
        have i0 := t_ix (c := 2322) (m := 6) (C := 2322) (M := 6) (k := 0) (j := 0) rfl rfl hn rfl (by omega)
        have i1 := t_ix (c := 2322) (m := 6) (C := 2322) (M := 6) (k := 1) (j := 1) rfl rfl hn rfl (by omega)
        have i5 := t_ix (c := 2322) (m := 6) (C := 2322) (M := 6) (k := 5) (j := 5) rfl rfl hn rfl (by omega)
        rw [t_nat i0, t_nat i1, t_nat i5, f1]
        have q := hQ σ1 f1
        exact ⟨fun z0 => ⟨fun z1 => ⟨fun z2 => ⟨fun z3 => (((q.1 z0).1 z1).1 z2).1 z3, fun z3 => ⟨t_vp i5 (by omega), (((q.1 z0).1 z1).1 z2).2 z3⟩⟩, fun z2 => ⟨t_vp i1 (by omega), ((q.1 z0).1 z1).2 z2⟩⟩, fun z1 => ⟨t_vp i1 (by omega), (q.1 z0).2 z1⟩⟩, fun z0 => ⟨t_vp i0 (by omega), q.2 z0⟩⟩
      obtain ⟨ro, o1, o2⟩ := l_owned2 a1 σ ht.s 96 0 0 0 rfl rfl
      obtain ⟨rp, p1, p2⟩ := l_pinned2 a1 σ ht.s 96 0 0 0 rfl rfl
      rcases cs6 k2 with q | q | q | q | q | q
      · subst q
        exact ⟨σ 169 (2322 + 6 * n + 0), f_A_task a1 0 σ _ (cla _ (fun x hx => ⟨fun _ => ⟨fun _ => ⟨vv, an_ (by rw [t_nat hn]; exact hT.hom.symm)⟩, fun z => absurd rfl z⟩, fun z => absurd hx z⟩)), fun σ2 e2 => ref _ σ2 e2 (fun σ1 f1 => ⟨fun z => absurd rfl z, fun _ => an_ rfl⟩)⟩
      · subst q
        exact ⟨(if σ 28 n = -1 then 0 else 1), f_A_task a1 1 σ _ (cla _ (fun x hx => ⟨fun _ => ⟨fun z => absurd z (by decide), fun _ => ⟨fun _ => ⟨vv, fun z => an_ (by rw [t_nat hn] at z; exact (if_neg z).symm), fun z => an_ (by rw [t_nat hn] at z; exact (if_pos (Classical.not_not.mp z)).symm)⟩, fun z => absurd rfl z⟩⟩, fun z => absurd hx z⟩)), fun σ2 e2 => ref _ σ2 e2 (fun σ1 f1 => ⟨fun _ => ⟨fun z => absurd rfl z, fun _ => ⟨fun z => an_ (if_pos (w01.mp z)).symm, fun z => an_ (if_neg (fun w => z (w01.mpr w))).symm⟩⟩, fun z => absurd (by decide) z⟩)⟩
      · subst q
        exact ⟨σ 169 (2322 + 6 * n + 1) - 1, f_A_task a1 2 σ _ (cla _ (fun x hx => ⟨fun _ => ⟨fun z => absurd z (by decide), fun _ => ⟨fun z => absurd z (by decide), fun _ => ⟨fun _ => ⟨vv, an_ (by rw [t_nat hn]; exact sub1 hT.wai)⟩, fun z => absurd rfl z⟩⟩⟩, fun z => absurd hx z⟩)), fun σ2 e2 => ref _ σ2 e2 (fun σ1 f1 => ⟨fun _ => ⟨fun _ => ⟨fun z => absurd rfl z, fun _ => an_ rfl⟩, fun z => absurd (by decide) z⟩, fun z => absurd (by decide) z⟩)⟩
      · subst q
        exact ⟨σ 169 (2322 + 6 * n + 5), f_A_task a1 3 σ _ (cla _ (fun x hx => ⟨fun _ => ⟨fun z => absurd z (by decide), fun _ => ⟨fun z => absurd z (by decide), fun _ => ⟨fun z => absurd z (by decide), fun _ => ⟨fun _ => ⟨vv, an_ (by rw [t_nat hn]; exact hT.rea.symm)⟩, fun z => absurd rfl z⟩⟩⟩⟩, fun z => absurd hx z⟩)), fun σ2 e2 => ref _ σ2 e2 (fun σ1 f1 => ⟨fun _ => ⟨fun _ => ⟨fun _ => ⟨fun z => absurd rfl z, fun _ => an_ rfl⟩, fun z => absurd (by decide) z⟩, fun z => absurd (by decide) z⟩, fun z => absurd (by decide) z⟩)⟩
      · subst q
        exact ⟨ro, f_A_task a1 4 σ _ (cla _ (fun x hx => ⟨fun _ => ⟨fun z => absurd z (by decide), fun _ => ⟨fun z => absurd z (by decide), fun _ => ⟨fun z => absurd z (by decide), fun _ => ⟨fun z => absurd z (by decide), fun _ => ⟨fun _ => anC (d_B_ownedBy a1 σ _ o1), fun z => absurd rfl z⟩⟩⟩⟩⟩, fun z => absurd hx z⟩)), fun σ2 e2 => ref _ σ2 e2 (fun σ1 f1 => ⟨fun _ => ⟨fun _ => ⟨fun _ => ⟨fun _ => ⟨fun z => absurd rfl z, fun _ => anM (w_M_ownsMany a1 1 σ1 _ (o2 σ1 f1))⟩, fun z => absurd (by decide) z⟩, fun z => absurd (by decide) z⟩, fun z => absurd (by decide) z⟩, fun z => absurd (by decide) z⟩)⟩
      · subst q
        exact ⟨rp, f_A_task a1 5 σ _ (cla _ (fun x hx => ⟨fun _ => ⟨fun z => absurd z (by decide), fun _ => ⟨fun z => absurd z (by decide), fun _ => ⟨fun z => absurd z (by decide), fun _ => ⟨fun z => absurd z (by decide), fun _ => ⟨fun z => absurd z (by decide), fun _ => ⟨fun _ => anC (d_B_pinnedBy a1 σ _ p1), fun z => absurd rfl z⟩⟩⟩⟩⟩⟩, fun z => absurd hx z⟩)), fun σ2 e2 => ref _ σ2 e2 (fun σ1 f1 => ⟨fun _ => ⟨fun _ => ⟨fun _ => ⟨fun _ => ⟨fun _ => anM (w_M_ownsMany a1 0 σ1 _ (p2 σ1 f1)), fun z => absurd (by decide) z⟩, fun z => absurd (by decide) z⟩, fun z => absurd (by decide) z⟩, fun z => absurd (by decide) z⟩, fun z => absurd (by decide) z⟩)⟩
    · refine ⟨-1, f_A_task a1 a2 σ _ (cla _ (fun x hx => ⟨fun _ => ⟨fun z => absurd (by rw [z]; decide) k2, fun _ => ⟨fun z => absurd (by rw [z]; decide) k2, fun _ => ⟨fun z => absurd (by rw [z]; decide) k2, fun _ => ⟨fun z => absurd (by rw [z]; decide) k2, fun _ => ⟨fun z => absurd (by rw [z]; decide) k2, fun _ => ⟨fun z => absurd (by rw [z]; decide) k2, fun _ => an_ rfl⟩⟩⟩⟩⟩⟩, fun _ => an_ rfl⟩)), fun σ2 e2 => ?_⟩
      refine w_M_task a1 a2 σ2 _ (fun σ1 e1 => (c_isTaskX a1 σ1).int ?_)
      rintro x3 σ3 ⟨hx3, es3⟩
      rw [es3]
      refine ⟨fun _ => an_ rfl, fun _ => (c_isInX (L := 0) (H := 5) rfl rfl a2 σ1).int ?_⟩
      rintro x5 σ5 ⟨hx5, es5⟩
      exact ⟨fun z => absurd (by have := hx5.b.2.mp z; omega) k2, fun _ => an_ rfl⟩
  · refine ⟨-1, f_A_task a1 a2 σ _ ((nw0 (e_isTaskX a1 σ)).int ?_), fun σ2 e2 => ?_⟩
    · rintro x σ1 ⟨hx, es⟩
      exact ⟨fun z => absurd (hx.b.2.mp z) k1, fun _ => an_ rfl⟩
    · refine w_M_task a1 a2 σ2 _ (fun σ1 e1 => (c_isTaskX a1 σ1).int ?_)
      rintro x3 σ3 ⟨hx3, es3⟩
      exact ⟨fun _ => an_ rfl, fun z => absurd (hx3.b.2.mp z) k1⟩
theorem ce_task {B : Nat} (a1 a2 : Int32) (σ : sm_S) (hB : B < 1500000000) (h : LR B σ) : two (fun x y => x = y) j_A_task j_M_task [.ref 42, .int a1, .int a2] [.ref 168, .int a1, .int a2] B σ := by
  have h2 := h
  obtain ⟨hL, ⟨N, hN, ht⟩, -⟩ := h2
  exact CLk h (a_taskQ a1 a2 σ h.1.1) (fun σ1 q => m_task a1 a2 σ1 hB q.2.1) (fun σ1 q => by
    obtain ⟨N, hN, hj⟩ := (lw_bs q.2.1).1
    exact qU (as := [.ref 0, .int a1, .int a2]) rfl (k_task (N := N) a1 a2 (sh rM σ1) hj)) (asM := [.ref 0, .int a1, .int a2]) rfl (ky_task a1 a2 σ ht.1 h.1.1.1)
theorem ky_place {N : Nat} (a1 a2 a3 : Int32) (σ : sm_S) (ht : tie True N σ (σ 169)) (hx : jx (σ 169)) : ky j_A_place j_M_place [.ref 42, .int a1, .int a2, .int a3] [.ref 0, .int a1, .int a2, .int a3] σ := by
  by_cases ok : (0 ≤ a1.toInt ∧ a1.toInt < 6) ∧ (0 ≤ a2.toInt ∧ a2.toInt < 3) ∧ (0 ≤ a3.toInt ∧ a3.toInt < 5)
  · obtain ⟨k1, k2, k3⟩ := ok
    obtain ⟨m, hm⟩ := t_of k1.1
    obtain ⟨o, ho⟩ := t_of k3.1
    obtain ⟨y, ry, rcy, -⟩ := p_best (a1 := a1) (a2 := a2) (a3 := a3) (a4 := 0) ht.s hx hm (by omega) ho (by omega)
    refine ⟨y, ?_, fun σ2 e2 => ?_⟩
    · refine f_A_place a1 a2 a3 σ _ ((nw0 (e_isTaskX a1 σ)).int ?_)
      rintro x2 σ1 ⟨hx2, es⟩
      rw [es]
      refine ⟨fun z => absurd k1 (hx2.b.1.mp z), fun _ => (nw0 (e_isKindX a2 σ)).int ?_⟩
      rintro x4 σ3 ⟨hx4, es3⟩
      rw [es3]
      refine ⟨fun z => absurd k2 (hx4.b.1.mp z), fun _ => (nw0 (e_isOrderX a3 σ)).int ?_⟩
      rintro x6 σ5 ⟨hx6, es5⟩
      rw [es5]
      exact ⟨fun _ => anC rcy, fun z => absurd (hx6.b.2.mpr k3) z⟩
    · refine w_M_place a1 a2 a3 σ2 _ (fun σ1 e1 => (c_isTaskX a1 σ1).int ?_)
      obtain ⟨f1, -⟩ := told1 e2 e1
      rintro x2 σ3 ⟨hx2, es⟩
      rw [es]
      refine ⟨fun z => absurd k1 (hx2.b.1.mp z), fun _ => (c_isInX (L := 0) (H := 2) rfl rfl a2 σ1).int ?_⟩
      rintro x4 σ4 ⟨hx4, es4⟩
      rw [es4]
      refine ⟨fun z => absurd ⟨k2.1, by omega⟩ (hx4.b.1.mp z), fun _ => (c_isInX (L := 0) (H := 4) rfl rfl a3 σ1).int ?_⟩
      rintro x6 σ5 ⟨hx6, es5⟩
      rw [es5]
      refine ⟨fun z => absurd ⟨k3.1, by omega⟩ (hx6.b.1.mp z), fun _ => (ry σ1 f1).int ?_⟩
      rintro z1 σ6 ⟨ez1, es6⟩
      exact an_ ez1
  · refine ⟨-1, ?_, fun σ2 e2 => ?_⟩
    · refine f_A_place a1 a2 a3 σ _ ((nw0 (e_isTaskX a1 σ)).int ?_)
      rintro x2 σ1 ⟨hx2, es⟩
      rw [es]
      refine ⟨fun z => an_ rfl, fun n2 => (nw0 (e_isKindX a2 σ)).int ?_⟩
      rintro x4 σ3 ⟨hx4, es3⟩
      rw [es3]
      refine ⟨fun z => an_ rfl, fun n4 => (nw0 (e_isOrderX a3 σ)).int ?_⟩
      rintro x6 σ5 ⟨hx6, es5⟩
      exact ⟨fun n6 => absurd ⟨hx2.b.2.mp n2, hx4.b.2.mp n4, hx6.b.2.mp n6⟩ ok, fun _ => an_ rfl⟩
    · refine w_M_place a1 a2 a3 σ2 _ (fun σ1 e1 => (c_isTaskX a1 σ1).int ?_)
      rintro x2 σ3 ⟨hx2, es⟩
      rw [es]
      refine ⟨fun z => an_ rfl, fun n2 => (c_isInX (L := 0) (H := 2) rfl rfl a2 σ1).int ?_⟩
      rintro x4 σ4 ⟨hx4, es4⟩
      rw [es4]
      refine ⟨fun z => an_ rfl, fun n4 => (c_isInX (L := 0) (H := 4) rfl rfl a3 σ1).int ?_⟩
      rintro x6 σ5 ⟨hx6, es5⟩
      refine ⟨fun _ => an_ rfl, fun n6 => absurd ⟨hx2.b.2.mp n2, ?_, ?_⟩ ok⟩
      · have := hx4.b.2.mp n4
        omega
      · have := hx6.b.2.mp n6
        omega
theorem ce_place {B : Nat} (a1 a2 a3 : Int32) (σ : sm_S) (hB : B < 1500000000) (h : LR B σ) : two (fun x y => x = y) j_A_place j_M_place [.ref 42, .int a1, .int a2, .int a3] [.ref 168, .int a1, .int a2, .int a3] B σ := by
  have h2 := h
  obtain ⟨hL, ⟨N, hN, ht⟩, -⟩ := h2
  exact CLk h (a_placeQ a1 a2 a3 σ h.1.1) (fun σ1 q => m_place a1 a2 a3 σ1 hB q.2.1) (fun σ1 q => by
    obtain ⟨N, hN, hj⟩ := (lw_bs q.2.1).1
    exact qU (as := [.ref 0, .int a1, .int a2, .int a3]) rfl (k_place (N := N) a1 a2 a3 (sh rM σ1) hj)) (asM := [.ref 0, .int a1, .int a2, .int a3]) rfl (ky_place a1 a2 a3 σ ht.1 ht.2.2)
end
section
/-! ===== the simulation: log, hole, span answer the same ===== -/
theorem cs4 {a : Int32} (h : 0 ≤ a.toInt ∧ a.toInt < 4) : a = 0 ∨ a = 1 ∨ a = 2 ∨ a = 3 := by
  rcases (show a.toInt = 0 ∨ a.toInt = 1 ∨ a.toInt = 2 ∨ a.toInt = 3 by omega) with q | q | q | q
  · exact Or.inl (t_inj q)
  · exact Or.inr (Or.inl (t_inj q))
  · exact Or.inr (Or.inr (Or.inl (t_inj q)))
  · exact Or.inr (Or.inr (Or.inr (t_inj q)))
theorem ky_log {N : Nat} (a1 a2 : Int32) (σ : sm_S) (ht : tie True N σ (σ 169)) : ky j_A_log j_M_log [.ref 42, .int a1, .int a2] [.ref 0, .int a1, .int a2] σ := by
  have hl := ht.l trivial
  obtain ⟨n, hn, hx⟩ := hl.nxt
  have l0 : a1 < 0 ↔ a1.toInt < 0 := by rw [t_lt]; exact Iff.rfl
  have l60 : 60 ≤ a1 ↔ 60 ≤ a1.toInt := by rw [t_le]; exact Iff.rfl
  have ln4 : a1 < σ 34 4 ↔ a1.toInt < n := by rw [hl.lns, t_lt, hn]
  have ln5 : σ 169 5 ≤ a1 ↔ (n : Int) ≤ a1.toInt := by rw [t_le, hn]
  have h5 : (5 : Int32).toNatClampNeg = 5 := rfl
  have v5 : vp_in (5 : Int32) 2662 := t_vp (n := 5) rfl (by decide)
  have bn := t_bd (σ 169 5)
  by_cases ok : 0 ≤ a1.toInt ∧ a1.toInt < 60 ∧ a1.toInt < n
  · obtain ⟨i, hi⟩ := t_of ok.1
    have hi6 : i < 60 := by omega
    have hin : i < n := by omega
    have p60 : (n - 1 - i) % 60 < 60 := by omega
    have ixA : σ 34 5 ≤ a1 → (((σ 34 5 - 1) - a1) + 60).toInt = (((n - 1 - i) % 60 : Nat) : Int) := fun z => by
      rw [t_le, hx, hi] at z
      rw [t_add (t_sub (t_sub hx (y := 1) rfl (by omega) (by omega)) hi (by omega) (by omega)) (y := 60) rfl (by omega) (by omega)]
      omega
    have ixB : ¬ σ 34 5 ≤ a1 → ((σ 34 5 - 1) - a1).toInt = (((n - 1 - i) % 60 : Nat) : Int) := fun z => by
      rw [t_le, hx, hi] at z
      rw [t_sub (t_sub hx (y := 1) rfl (by omega) (by omega)) hi (by omega) (by omega)]
      omega
    obtain ⟨g0, g1, g2, g3⟩ := hl.ent ((n - 1 - i) % 60) p60
    by_cases k2 : 0 ≤ a2.toInt ∧ a2.toInt < 4
    · have ref : ∀ j : Nat, a2.toInt = j → ∀ σ2 : sm_S, σ2 1 = σ 169 → xC xM j_M_log [.ref 0, .int a1, .int a2] σ2 (sm_I (fun y _ => y = σ 169 (2422 + 4 * ((n - 1 - i) % 60) + j))) := fun j hj σ2 e2 => by
        refine w_M_log a1 a2 σ2 _ (fun σ1 e1 => ?_)
        obtain ⟨f1, -⟩ := told1 e2 e1
        rw [h5, f1]
        refine ⟨fun z => absurd (l0.mp z) (by omega), fun _ => ⟨fun z => absurd (l60.mp z) (by omega), fun _ => ⟨v5, fun z => absurd (ln5.mp z) (by omega), fun _ => (c_isInX (L := 0) (H := 3) rfl rfl a2 σ1).int ?_⟩⟩⟩
        rintro x3 σ3 ⟨hx3, es3⟩
        rw [es3, f1]
        have hq : ((σ 169 5 - 1) - a1).toInt = ((n - 1 - i : Nat) : Int) := by
          rw [t_sub (t_sub hn (y := 1) rfl (by omega) (by omega)) hi (by omega) (by omega)]
          omega
        have hr := t_rem (b := 60) (d := 60) hq rfl (by decide)
        have ix := t_ix (c := 2422) (m := 4) (C := 2422) (M := 4) rfl rfl hr hj (by omega)
        rw [t_nat ix]
        exact ⟨fun _ => ⟨v5, by decide, t_vp ix (by omega), an_ rfl⟩, fun z => absurd (hx3.b.2.mpr ⟨k2.1, by omega⟩) z⟩
      rcases cs4 k2 with q | q | q | q
      · subst q
        exact ⟨_, f_A_log a1 0 σ _ (anC (d_L_cell a1 0 σ _ ⟨fun z => absurd (l0.mp z) (by omega), fun _ => ⟨fun z => absurd (l60.mp z) (by omega), fun _ => ⟨fun _ => ⟨fun z => ⟨fun _ => ⟨t_vp (ixA z) p60, _, rfl, by rw [t_nat (ixA z)]; exact g0.symm, rfl⟩, fun w => absurd rfl w⟩, fun z => ⟨fun _ => ⟨t_vp (ixB z) p60, _, rfl, by rw [t_nat (ixB z)]; exact g0.symm, rfl⟩, fun w => absurd rfl w⟩⟩, fun z => absurd (ln4.mpr (by omega)) z⟩⟩⟩)), ref 0 rfl⟩
      · subst q
        exact ⟨_, f_A_log a1 1 σ _ (anC (d_L_cell a1 1 σ _ ⟨fun z => absurd (l0.mp z) (by omega), fun _ => ⟨fun z => absurd (l60.mp z) (by omega), fun _ => ⟨fun _ => ⟨fun z => ⟨fun w => absurd w (by decide), fun _ => ⟨fun _ => ⟨t_vp (ixA z) p60, _, rfl, by rw [t_nat (ixA z)]; exact g1.symm, rfl⟩, fun w => absurd rfl w⟩⟩, fun z => ⟨fun w => absurd w (by decide), fun _ => ⟨fun _ => ⟨t_vp (ixB z) p60, _, rfl, by rw [t_nat (ixB z)]; exact g1.symm, rfl⟩, fun w => absurd rfl w⟩⟩⟩, fun z => absurd (ln4.mpr (by omega)) z⟩⟩⟩)), ref 1 rfl⟩
      · subst q
        exact ⟨_, f_A_log a1 2 σ _ (anC (d_L_cell a1 2 σ _ ⟨fun z => absurd (l0.mp z) (by omega), fun _ => ⟨fun z => absurd (l60.mp z) (by omega), fun _ => ⟨fun _ => ⟨fun z => ⟨fun w => absurd w (by decide), fun _ => ⟨fun w => absurd w (by decide), fun _ => ⟨fun _ => ⟨t_vp (ixA z) p60, _, rfl, by rw [t_nat (ixA z)]; exact g2.symm, rfl⟩, fun w => absurd rfl w⟩⟩⟩, fun z => ⟨fun w => absurd w (by decide), fun _ => ⟨fun w => absurd w (by decide), fun _ => ⟨fun _ => ⟨t_vp (ixB z) p60, _, rfl, by rw [t_nat (ixB z)]; exact g2.symm, rfl⟩, fun w => absurd rfl w⟩⟩⟩⟩, fun z => absurd (ln4.mpr (by omega)) z⟩⟩⟩)), ref 2 rfl⟩
      · subst q
        exact ⟨_, f_A_log a1 3 σ _ (anC (d_L_cell a1 3 σ _ ⟨fun z => absurd (l0.mp z) (by omega), fun _ => ⟨fun z => absurd (l60.mp z) (by omega), fun _ => ⟨fun _ => ⟨fun z => ⟨fun w => absurd w (by decide), fun _ => ⟨fun w => absurd w (by decide), fun _ => ⟨fun w => absurd w (by decide), fun _ => ⟨fun _ => ⟨t_vp (ixA z) p60, _, rfl, by rw [t_nat (ixA z)]; exact g3.symm, rfl⟩, fun w => absurd rfl w⟩⟩⟩⟩, fun z => ⟨fun w => absurd w (by decide), fun _ => ⟨fun w => absurd w (by decide), fun _ => ⟨fun w => absurd w (by decide), fun _ => ⟨fun _ => ⟨t_vp (ixB z) p60, _, rfl, by rw [t_nat (ixB z)]; exact g3.symm, rfl⟩, fun w => absurd rfl w⟩⟩⟩⟩⟩, fun z => absurd (ln4.mpr (by omega)) z⟩⟩⟩)), ref 3 rfl⟩
    · refine ⟨-1, f_A_log a1 a2 σ _ (anC (d_L_cell a1 a2 σ _ ⟨fun _ => ⟨_, rfl, rfl, rfl⟩, fun _ => ⟨fun _ => ⟨_, rfl, rfl, rfl⟩, fun _ => ⟨fun _ => ⟨fun _ => ⟨fun z => absurd (by rw [z]; decide) k2, fun _ => ⟨fun z => absurd (by rw [z]; decide) k2, fun _ => ⟨fun z => absurd (by rw [z]; decide) k2, fun _ => ⟨fun z => absurd (by rw [z]; decide) k2, fun _ => ⟨_, rfl, rfl, rfl⟩⟩⟩⟩⟩, fun _ => ⟨fun z => absurd (by rw [z]; decide) k2, fun _ => ⟨fun z => absurd (by rw [z]; decide) k2, fun _ => ⟨fun z => absurd (by rw [z]; decide) k2, fun _ => ⟨fun z => absurd (by rw [z]; decide) k2, fun _ => ⟨_, rfl, rfl, rfl⟩⟩⟩⟩⟩⟩, fun _ => ⟨_, rfl, rfl, rfl⟩⟩⟩⟩)), fun σ2 e2 => w_M_log a1 a2 σ2 _ (fun σ1 e1 => ?_)⟩
      rw [h5]
      refine ⟨fun _ => an_ rfl, fun _ => ⟨fun _ => an_ rfl, fun _ => ⟨v5, fun _ => an_ rfl, fun _ => (c_isInX (L := 0) (H := 3) rfl rfl a2 σ1).int ?_⟩⟩⟩
      rintro x3 σ3 ⟨hx3, es3⟩
      exact ⟨fun z => absurd (by have := hx3.b.2.mp z; omega) k2, fun _ => an_ rfl⟩
  · refine ⟨-1, f_A_log a1 a2 σ _ (anC (d_L_cell a1 a2 σ _ ⟨fun _ => ⟨_, rfl, rfl, rfl⟩, fun z0 => ⟨fun _ => ⟨_, rfl, rfl, rfl⟩, fun z6 => ⟨fun z => ?_, fun _ => ⟨_, rfl, rfl, rfl⟩⟩⟩⟩)), fun σ2 e2 => w_M_log a1 a2 σ2 _ (fun σ1 e1 => ?_)⟩
    · rw [l0] at z0
      rw [l60] at z6
      rw [ln4] at z
      exact absurd ⟨by omega, by omega, z⟩ ok
    · obtain ⟨f1, -⟩ := told1 e2 e1
      rw [h5, f1]
      refine ⟨fun _ => an_ rfl, fun z0 => ⟨fun _ => an_ rfl, fun z6 => ⟨v5, fun _ => an_ rfl, fun z => ?_⟩⟩⟩
      rw [l0] at z0
      rw [l60] at z6
      rw [ln5] at z
      exact absurd ⟨by omega, by omega, by omega⟩ ok
theorem ce_log {B : Nat} (a1 a2 : Int32) (σ : sm_S) (hB : B < 1500000000) (h : LR B σ) : two (fun x y => x = y) j_A_log j_M_log [.ref 42, .int a1, .int a2] [.ref 168, .int a1, .int a2] B σ := by
  have h2 := h
  obtain ⟨hL, ⟨N, hN, ht⟩, -⟩ := h2
  exact CLk h (a_logQ a1 a2 σ h.1.1) (fun σ1 q => m_log a1 a2 σ1 hB q.2.1) (fun σ1 q => by
    obtain ⟨N, hN, hj⟩ := (lw_bs q.2.1).1
    exact qU (as := [.ref 0, .int a1, .int a2]) rfl (k_log (N := N) a1 a2 (sh rM σ1) hj)) (asM := [.ref 0, .int a1, .int a2]) rfl (ky_log a1 a2 σ ht.1)
theorem fl_dec : ∀ p, p < 32 → ∀ k, k < 6 → (nI p >>> (nI k &&& 31)) <<< (nI k &&& 31) = nI (p / 2 ^ k * 2 ^ k) := by decide +kernel
theorem bt1 {x q : Int32} {p : Nat} (hq : q = nI p) (hp : p < 32) : (((x.toUInt32 >>> (q.toUInt32 &&& Int32.toUInt32 31)).toInt32) &&& 1) ≠ 0 ↔ bit x p := by
  rw [hq, am_b p hp, bit_ne]
  constructor
  · rintro ⟨i, hi, h⟩
    obtain ⟨h1, h2⟩ := bit_and.mp h
    rw [(bit_1 hi).mp h2, bit_shr hp, Nat.add_zero] at h1
    exact h1
  · intro h
    exact ⟨0, by decide, bit_and.mpr ⟨by rw [bit_shr hp, Nat.add_zero]; exact h, (bit_1 (by decide)).mpr rfl⟩⟩
theorem l_holeRound2 {a0 a1 : Int32} {p : Nat} (h1 : a1.toInt = p) (hp : p < 32) (σ : sm_S) : ∀ (d k : Nat) (a2 a3 : Int32) (v4 : Value), a3.toInt = k → k + d = 6 → a2.toInt = (k : Int) - 1 → (∀ j, j < k → frb a0 p j) → xE xD m_R_holeRound 4 [.int a0, .int a1, .int a2, .int a3, v4] [] σ (sm_I (fun x σ' => ((x = -1 ∧ ¬ frb a0 p 0) ∨ ∃ h : Nat, x.toInt = h ∧ hol a0 p 0 h) ∧ σ' = σ)) := by
  intro d
  induction d with
  | zero =>
    intro k a2 a3 v4 h3 hk h2 hf
    refine d_R_holeRound_4 a0 a1 a2 a3 v4 σ _ ⟨fun _ => ⟨_, rfl, Or.inr ⟨5, by omega, by omega, by omega, hf 5 (by omega), Or.inl rfl⟩, rfl⟩, fun z => absurd ?_ z⟩
    rw [t_lt, h3]
    show (5 : Int) < _
    omega
  | succ d ih =>
    intro k a2 a3 v4 h3 hk h2 hf
    have h3' : (a3 + 1).toInt = ((k + 1 : Nat) : Int) := by
      rw [t_add h3 (y := 1) rfl (by omega) (by omega)]
      omega
    have l : ¬ (5 : Int32) < a3 := by rw [t_lt, h3]; show ¬ (5 : Int) < _; omega
    have e : (a1 >>> (a3 &&& 31)) <<< (a3 &&& 31) = nI (p / 2 ^ k * 2 ^ k) := by rw [t_nI h1, t_nI h3, fl_dec p hp k (by omega)]
    have hb : p / 2 ^ k * 2 ^ k < 32 := by
      have := base_lt (i := p) (k := k)
      omega
    have hs : bit (st a0 k) (p / 2 ^ k * 2 ^ k) ↔ frb a0 p k := by
      rw [st_iff (by omega) hb]
      refine ⟨fun z j hj => ?_, fun z => ⟨base_b p k, frb_base z⟩⟩
      have := z.2 j hj
      rw [al_pow (base_b p k)] at this
      exact this
    refine d_R_holeRound_4 a0 a1 a2 a3 v4 σ _ ⟨fun z => absurd z l, fun _ => (c_starts h3 (by omega) a0 σ).int ?_⟩
    rintro x2 σ1 ⟨ex2, es⟩
    rw [ex2, es]
    refine ⟨fun z => ih (k + 1) a3 (a3 + 1) _ h3' (by omega) (by rw [h3]; omega) (fun j hj => ?_), fun z => ⟨_, rfl, ?_, rfl⟩⟩
    · rw [bt1 e hb, hs] at z
      by_cases q : j = k
      · rw [q]; exact z
      · exact hf j (by omega)
    · rw [bt1 e hb, hs] at z
      cases k with
      | zero => exact Or.inl ⟨t_inj (by rw [h2]; rfl), z⟩
      | succ k => exact Or.inr ⟨k, by rw [h2]; omega, by omega, by omega, hf k (by omega), Or.inr z⟩
theorem l_holeOf2 {a1 : Int32} {n : Nat} (h1 : a1.toInt = n) (hn : n < 700) (σ : sm_S) : ∀ (d k : Nat) (a3 : Int32), a3.toInt = k → k + d = 5 → frF (frV (σ 1)) n k → xE xM m_M_holeOf 2 [.ref 0, .int a1, .int a3] [] σ (sm_I (fun x σ' => (∃ j : Nat, x.toInt = j ∧ holF (frV (σ 1)) n 0 j) ∧ σ' = σ)) := by
  intro d
  induction d with
  | zero =>
    intro k a3 h2 hk hf
    refine w_M_holeOf_2 a1 a3 σ _ ⟨fun _ => ⟨_, rfl, ⟨k, h2, by omega, by omega, hf, Or.inl (by omega)⟩, rfl⟩, fun h => absurd ?_ h⟩
    rw [t_le, h2]
    show (5 : Int) ≤ _
    omega
  | succ d ih =>
    intro k a3 h2 hk hf
    have h3 : (a3 + 1).toInt = ((k + 1 : Nat) : Int) := by
      rw [t_add h2 (y := 1) rfl (by omega) (by omega)]
      omega
    refine w_M_holeOf_2 a1 a3 σ _ ⟨fun h => ?_, fun h => (c_areFree h1 hn h3 (by omega) σ).int ?_⟩
    · rw [t_le, h2] at h
      have h : (5 : Int) ≤ k := h
      omega
    · rintro x σ1 ⟨hx, es⟩
      rw [es]
      refine ⟨fun z => ⟨_, rfl, ⟨k, h2, by omega, by omega, hf, Or.inr ?_⟩, rfl⟩, fun z => ih (k + 1) _ h3 (by omega) ?_⟩
      · rcases hx with ⟨q, -⟩ | ⟨-, j, q1, q2⟩
        · rw [q] at z; exact absurd z (by decide)
        · exact fun g => q2 (g j q1)
      · rcases hx with ⟨-, q⟩ | ⟨q, -⟩
        · exact q
        · exact absurd q z
theorem sim_fr {c : sm_S} {v : Nat → Int32} (h : sim0 c v) : ∀ f, f < 256 → (frV v f ↔ frC c f) := fun f hf => (h.F f hf).fre.symm
theorem ky_hole {N : Nat} (a1 : Int32) (σ : sm_S) (ht : tie True N σ (σ 169)) : ky j_A_hole j_M_hole [.ref 42, .int a1] [.ref 0, .int a1] σ := by
  have l0 : a1 < 0 ↔ a1.toInt < 0 := by rw [t_lt]; exact Iff.rfl
  have l1 : a1 < 256 ↔ a1.toInt < 256 := by rw [t_lt]; exact Iff.rfl
  have d32 : ¬ (32 : Int32) = 0 := by decide
  by_cases k1 : 0 ≤ a1.toInt ∧ a1.toInt < 256
  · obtain ⟨n, hn⟩ := t_of k1.1
    have hF := ht.s.F n (by omega)
    have hs : (a1 / (32 : Int32)).toInt = ((n / 32 : Nat) : Int) := t_div hn rfl (by decide)
    have hr : (a1 - a1 / (32 : Int32) * (32 : Int32)).toInt = ((n % 32 : Nat) : Int) := t_rem hn rfl (by decide)
    have vv := t_vp (N := 8) hs (by omega)
    obtain ⟨r, hr1, hr2⟩ := pick (d_R_holeRound (σ 2 (n / 32)) _ σ _ (l_holeRound2 (a0 := σ 2 (n / 32)) hr (by omega) σ 6 0 (-1) 0 .null rfl rfl rfl (fun j hj => by omega)))
    have f0 : frb (σ 2 (n / 32)) (n % 32) 0 ↔ σ 169 (18 + 3 * n) = 1 := by
      rw [← hF.fre]
      refine ⟨fun z => ?_, fun z j hj => ?_⟩
      · have := z 0 (by decide)
        simpa using this
      · rw [show j = 0 by simpa using hj]
        simpa using z
    refine ⟨r, f_A_hole a1 σ _ ⟨fun z => absurd (l0.mp z) (by omega), fun _ => ⟨fun _ => ⟨d32, vv, d32, ?_⟩, fun z => absurd (l1.mpr k1.2) z⟩⟩, fun σ2 e2 => ?_⟩
    · rw [t_nat hs]
      exact anC hr2
    · refine w_M_hole a1 σ2 _ (fun σ1 e1 => (c_isInX (L := 0) (H := 255) rfl rfl a1 σ1).int ?_)
      obtain ⟨f1, -⟩ := told1 e2 e1
      rintro x3 σ3 ⟨hx3, es3⟩
      rw [es3]
      refine ⟨fun z => absurd ⟨k1.1, by omega⟩ (hx3.b.1.mp z), fun _ => (c_isFree hn (by omega) σ1).int ?_⟩
      rintro x5 σ5 ⟨hx5, es5⟩
      rw [es5]
      rw [f1] at hx5
      refine ⟨fun z => an_ ?_, fun z => (w_M_holeOf a1 σ1 _ (l_holeOf2 hn (by omega) σ1 5 0 0 rfl rfl ?_)).int ?_⟩
      · rcases hr1 with ⟨q, -⟩ | ⟨h, -, q⟩
        · exact q.symm
        · exfalso
          rcases hx5 with ⟨w, -⟩ | ⟨-, w⟩
          · rw [w] at z; exact absurd z (by decide)
          · exact w (f0.mp (frb_le (by omega) q.2.2.1))
      · rw [f1]
        intro j hj
        rw [show j = 0 by simpa using hj]
        have : σ 169 (18 + 3 * n) = 1 := by
          rcases hx5 with ⟨-, w⟩ | ⟨w, -⟩
          · exact w
          · exact absurd w z
        show σ 169 (18 + 3 * (n / 2 ^ 0 * 2 ^ 0 + 0)) = 1
        simpa using this
      · rintro y σ7 ⟨⟨h, hy, hh⟩, es7⟩
        refine an_ ?_
        rw [f1] at hh
        have hc := holF_b.mp (holF_cg (by omega) (sim_fr ht.s) hh)
        rcases hr1 with ⟨-, q⟩ | ⟨h', q1, q2⟩
        · exact absurd (frb_le (by omega) hc.2.2.1) q
        · apply t_inj
          rw [hy, q1, hol_un hc q2]
  · refine ⟨-1, f_A_hole a1 σ _ ⟨fun _ => an_ rfl, fun z => ⟨fun w => absurd ⟨(by rw [l0] at z; omega), l1.mp w⟩ k1, fun _ => an_ rfl⟩⟩, fun σ2 e2 => ?_⟩
    refine w_M_hole a1 σ2 _ (fun σ1 e1 => (c_isInX (L := 0) (H := 255) rfl rfl a1 σ1).int ?_)
    rintro x3 σ3 ⟨hx3, es3⟩
    exact ⟨fun _ => an_ rfl, fun z => absurd (by have := hx3.b.2.mp z; omega) k1⟩
theorem ce_hole {B : Nat} (a1 : Int32) (σ : sm_S) (hB : B < 1500000000) (h : LR B σ) : two (fun x y => x = y) j_A_hole j_M_hole [.ref 42, .int a1] [.ref 168, .int a1] B σ := by
  have h2 := h
  obtain ⟨hL, ⟨N, hN, ht⟩, -⟩ := h2
  exact CLk h (a_holeQ a1 σ h.1.1) (fun σ1 q => m_hole a1 σ1 hB q.2.1) (fun σ1 q => by
    obtain ⟨N, hN, hj⟩ := (lw_bs q.2.1).1
    exact qU (as := [.ref 0, .int a1]) rfl (k_hole (N := N) a1 (sh rM σ1) hj)) (asM := [.ref 0, .int a1]) rfl (ky_hole a1 σ ht.1)
theorem pc_S {c : sm_S} {v : Nat → Int32} {s : Nat} {x a : Int32} (hs : s < 8) (h : ∀ i, i < 32 → (bit x i ↔ v (18 + 3 * (32 * s + i)) = a)) : pcn x = cnS v s a := by
  rw [pc_bit]
  exact sumN_cg (fun i hi => by
    have q := h i hi
    unfold bit at q
    by_cases z : v (18 + 3 * (32 * s + i)) = a
    · rw [if_pos (q.mpr z), if_pos z]
    · rw [if_neg (fun w => z (q.mp w)), if_neg z])
theorem pc_fr {c : sm_S} {v : Nat → Int32} {s : Nat} (h : sim0 c v) (hs : s < 8) : pcn (c 2 s) = cnS v s 1 ∧ pcn (c 3 s) = cnS v s 2 ∧ pcn (c 4 s) = cnS v s 3 ∧ pcn (c 5 s) = cnS v s 4 := by
  have e1 : ∀ i, i < 32 → (32 * s + i) / 32 = s := fun i hi => by omega
  have e2 : ∀ i, i < 32 → (32 * s + i) % 32 = i := fun i hi => by omega
  refine ⟨pc_S (c := c) hs (fun i hi => ?_), pc_S (c := c) hs (fun i hi => ?_), pc_S (c := c) hs (fun i hi => ?_), pc_S (c := c) hs (fun i hi => ?_)⟩
  · have := (h.F (32 * s + i) (by omega)).fre
    rw [e1 i hi, e2 i hi] at this
    exact this
  · have := (h.F (32 * s + i) (by omega)).apa
    rw [e1 i hi, e2 i hi] at this
    exact this
  · have := (h.F (32 * s + i) (by omega)).tak
    rw [e1 i hi, e2 i hi] at this
    exact this
  · have := (h.F (32 * s + i) (by omega)).hel
    rw [e1 i hi, e2 i hi] at this
    exact this
theorem ky_span {N : Nat} (a1 a2 : Int32) (σ : sm_S) (ht : tie True N σ (σ 169)) : ky j_A_span j_M_span [.ref 42, .int a1, .int a2] [.ref 0, .int a1, .int a2] σ := by
  by_cases k1 : 0 ≤ a1.toInt ∧ a1.toInt < 8
  · obtain ⟨n, hn⟩ := t_of k1.1
    have hn8 : n < 8 := by omega
    have hS := ht.s.S n hn8
    have vv := t_vp (N := 8) hn hn8
    obtain ⟨u2, u3, u4, u5⟩ := pc_fr ht.s hn8
    have cla : ∀ (Q : Int32 → sm_S → Prop), (∀ x, x ≠ 0 → Q x σ) → xC xF j_A_isSpan [.int a1] σ (sm_ri False Q) := fun Q hQ => (nw0 (e_isSpanX a1 σ)).int (by
      rintro x σ1 ⟨hx, es⟩
      rw [es]
      exact hQ x (hx.b.2.mpr k1))
    have bc : ∀ (x : Int32) (m : Nat), pcn x = m → xC xF j_I_bitCount [.int x] σ (sm_ri False (fun x σ' => sm_I (fun x _ => x = nI m) (some (.int x)) σ')) := fun x m e => by
      rw [← e]
      exact anC (toN (c_bitCount2 x σ))
    by_cases k2 : 0 ≤ a2.toInt ∧ a2.toInt < 11
    · have ref : ∀ (Q : Option Value → sm_S → Prop) (σ2 : sm_S), σ2 1 = σ 169 → (∀ σ1 : sm_S, σ1 1 = σ 169 → ((a2 ≠ 0 → ((a2 ≠ 1 → ((6 ≤ a2 → ((a2 ≠ 6 → ((a2 ≠ 7 → ((a2 ≠ 8 → ((a2 ≠ 9 → Q (some (.int ((σ 169 (2358 + 8 * n + 7)) - 1))) σ1) ∧ (¬ (a2 ≠ 9) → Q (some (.int ((σ 169 (2358 + 8 * n + 6)) - 1))) σ1))) ∧ (¬ (a2 ≠ 8) → Q (some (.int (σ 169 (2358 + 8 * n + 4)))) σ1))) ∧ (¬ (a2 ≠ 7) → Q (some (.int (σ 169 (2358 + 8 * n + 3)))) σ1))) ∧ (¬ (a2 ≠ 6) → Q (some (.int (σ 169 (2358 + 8 * n + 2)))) σ1))) ∧ (¬ (6 ≤ a2) → Q (some (.int (nI (cnS (σ 169) n (a2 - 1))))) σ1))) ∧ (¬ (a2 ≠ 1) → Q (some (.int (zV (σ 169) n))) σ1))) ∧ (¬ (a2 ≠ 0) → Q (some (.int (σ 169 (2358 + 8 * n + 0)))) σ1))) → xC xM j_M_span [.ref 0, .int a1, .int a2] σ2 Q := fun Q σ2 e2 hQ => by
        refine w_M_span a1 a2 σ2 _ (fun σ1 e1 => (c_isSpanX a1 σ1).int ?_)
        obtain ⟨f1, -⟩ := told1 e2 e1
        rintro x3 σ3 ⟨hx3, es3⟩
        rw [es3]
        refine ⟨fun z => absurd k1 (hx3.b.1.mp z), fun _ => (c_isInX (L := 0) (H := 10) rfl rfl a2 σ1).int ?_⟩
        rintro x5 σ5 ⟨hx5, es5⟩
        rw [es5]
        refine ⟨fun _ => (c_spanAt a1 σ1).int ?_, fun z => absurd (hx5.b.2.mpr ⟨k2.1, by omega⟩) z⟩
        rintro x7 σ7 ⟨ex7, es7⟩
        rw [ex7, es7]
        have ix : ∀ (k : Int32) (j : Nat), k.toInt = j → j < 8 → (2358 + 8 * a1 + k).toInt = ((2358 + 8 * n + j : Nat) : Int) := fun k j hk hj => t_ix (c := 2358) (m := 8) (C := 2358) (M := 8) rfl rfl hn hk (by omega)
        have i0 := ix 0 0 rfl (by decide)
        have i2 := ix 2 2 rfl (by decide)
        have i3 := ix 3 3 rfl (by decide)
        have i4 := ix 4 4 rfl (by decide)
        have i6 := ix 6 6 rfl (by decide)
        have i7 := ix 7 7 rfl (by decide)
        rw [t_nat i0, t_nat i2, t_nat i3, t_nat i4, t_nat i6, t_nat i7, f1]
        have q := hQ σ1 f1
        refine ⟨fun z0 => ⟨fun z1 => ⟨fun z6 => ⟨fun y6 => ⟨fun y7 => ⟨fun y8 => ⟨fun y9 => ⟨t_vp i7 (by omega), ((((((q.1 z0).1 z1).1 z6).1 y6).1 y7).1 y8).1 y9⟩, fun y9 => ⟨t_vp i6 (by omega), ((((((q.1 z0).1 z1).1 z6).1 y6).1 y7).1 y8).2 y9⟩⟩, fun y8 => ⟨t_vp i4 (by omega), (((((q.1 z0).1 z1).1 z6).1 y6).1 y7).2 y8⟩⟩, fun y7 => ⟨t_vp i3 (by omega), ((((q.1 z0).1 z1).1 z6).1 y6).2 y7⟩⟩, fun y6 => ⟨t_vp i2 (by omega), (((q.1 z0).1 z1).1 z6).2 y6⟩⟩, fun z6 => (c_manyIn2 hn hn8 (a2 - 1) σ1).int ?_⟩, fun z1 => (c_zoneOf2 hn hn8 σ1).int ?_⟩, fun z0 => ⟨t_vp i0 (by omega), q.2 z0⟩⟩
        · rintro x9 σ9 ⟨ex9, es9⟩
          rw [f1] at ex9
          rw [t_nI ex9, es9]
          exact ((q.1 z0).1 z1).2 z6
        · rintro x11 σ11 ⟨ex11, es11⟩
          rw [ex11, es11, f1]
          exact (q.1 z0).2 z1
      rcases cs11 k2 with q | q | q | q | q | q | q | q | q | q | q
      · subst q
        exact ⟨σ 169 (2358 + 8 * n + 0), f_A_span a1 0 σ _ (cla _ (fun x hx => ⟨fun _ => ⟨fun _ => ⟨vv, an_ (by rw [t_nat hn]; exact hS.sta.symm)⟩, fun z => absurd rfl z⟩, fun z => absurd hx z⟩)), fun σ2 e2 => ref _ σ2 e2 (fun σ1 f1 => ⟨fun z => absurd rfl z, fun _ => an_ rfl⟩)⟩
      · subst q
        exact ⟨zV (σ 169) n, f_A_span a1 1 σ _ (cla _ (fun x hx => ⟨fun _ => ⟨fun z => absurd z (by decide), fun _ => ⟨fun _ => ⟨vv, an_ (by rw [t_nat hn]; exact sim_zone ht.s hn8)⟩, fun z => absurd rfl z⟩⟩, fun z => absurd hx z⟩)), fun σ2 e2 => ref _ σ2 e2 (fun σ1 f1 => ⟨fun _ => ⟨fun z => absurd rfl z, fun _ => an_ rfl⟩, fun z => absurd (by decide) z⟩)⟩
      · subst q
        exact ⟨nI (cnS (σ 169) n 1), f_A_span a1 2 σ _ (cla _ (fun x hx => ⟨fun _ => ⟨fun z => absurd z (by decide), fun _ => ⟨fun z => absurd z (by decide), fun _ => ⟨fun _ => ⟨vv, by rw [t_nat hn]; exact bc _ _ u2⟩, fun z => absurd rfl z⟩⟩⟩, fun z => absurd hx z⟩)), fun σ2 e2 => ref _ σ2 e2 (fun σ1 f1 => ⟨fun _ => ⟨fun _ => ⟨fun z => absurd z (by decide), fun _ => an_ rfl⟩, fun z => absurd (by decide) z⟩, fun z => absurd (by decide) z⟩)⟩
      · subst q
        exact ⟨nI (cnS (σ 169) n 2), f_A_span a1 3 σ _ (cla _ (fun x hx => ⟨fun _ => ⟨fun z => absurd z (by decide), fun _ => ⟨fun z => absurd z (by decide), fun _ => ⟨fun z => absurd z (by decide), fun _ => ⟨fun _ => ⟨vv, by rw [t_nat hn]; exact bc _ _ u3⟩, fun z => absurd rfl z⟩⟩⟩⟩, fun z => absurd hx z⟩)), fun σ2 e2 => ref _ σ2 e2 (fun σ1 f1 => ⟨fun _ => ⟨fun _ => ⟨fun z => absurd z (by decide), fun _ => an_ rfl⟩, fun z => absurd (by decide) z⟩, fun z => absurd (by decide) z⟩)⟩
      · subst q
        exact ⟨nI (cnS (σ 169) n 3), f_A_span a1 4 σ _ (cla _ (fun x hx => ⟨fun _ => ⟨fun z => absurd z (by decide), fun _ => ⟨fun z => absurd z (by decide), fun _ => ⟨fun z => absurd z (by decide), fun _ => ⟨fun z => absurd z (by decide), fun _ => ⟨fun _ => ⟨vv, by rw [t_nat hn]; exact bc _ _ u4⟩, fun z => absurd rfl z⟩⟩⟩⟩⟩, fun z => absurd hx z⟩)), fun σ2 e2 => ref _ σ2 e2 (fun σ1 f1 => ⟨fun _ => ⟨fun _ => ⟨fun z => absurd z (by decide), fun _ => an_ rfl⟩, fun z => absurd (by decide) z⟩, fun z => absurd (by decide) z⟩)⟩
      · subst q
        exact ⟨nI (cnS (σ 169) n 4), f_A_span a1 5 σ _ (cla _ (fun x hx => ⟨fun _ => ⟨fun z => absurd z (by decide), fun _ => ⟨fun z => absurd z (by decide), fun _ => ⟨fun z => absurd z (by decide), fun _ => ⟨fun z => absurd z (by decide), fun _ => ⟨fun z => absurd z (by decide), fun _ => ⟨fun _ => ⟨vv, by rw [t_nat hn]; exact bc _ _ u5⟩, fun z => absurd rfl z⟩⟩⟩⟩⟩⟩, fun z => absurd hx z⟩)), fun σ2 e2 => ref _ σ2 e2 (fun σ1 f1 => ⟨fun _ => ⟨fun _ => ⟨fun z => absurd z (by decide), fun _ => an_ rfl⟩, fun z => absurd (by decide) z⟩, fun z => absurd (by decide) z⟩)⟩
      · subst q
        exact ⟨σ 169 (2358 + 8 * n + 2), f_A_span a1 6 σ _ (cla _ (fun x hx => ⟨fun _ => ⟨fun z => absurd z (by decide), fun _ => ⟨fun z => absurd z (by decide), fun _ => ⟨fun z => absurd z (by decide), fun _ => ⟨fun z => absurd z (by decide), fun _ => ⟨fun z => absurd z (by decide), fun _ => ⟨fun z => absurd z (by decide), fun _ => ⟨fun _ => ⟨vv, an_ (by rw [t_nat hn]; exact hS.par.symm)⟩, fun z => absurd rfl z⟩⟩⟩⟩⟩⟩⟩, fun z => absurd hx z⟩)), fun σ2 e2 => ref _ σ2 e2 (fun σ1 f1 => ⟨fun _ => ⟨fun _ => ⟨fun _ => ⟨fun z => absurd rfl z, fun _ => an_ rfl⟩, fun z => absurd (by decide) z⟩, fun z => absurd (by decide) z⟩, fun z => absurd (by decide) z⟩)⟩
      · subst q
        exact ⟨σ 169 (2358 + 8 * n + 3), f_A_span a1 7 σ _ (cla _ (fun x hx => ⟨fun _ => ⟨fun z => absurd z (by decide), fun _ => ⟨fun z => absurd z (by decide), fun _ => ⟨fun z => absurd z (by decide), fun _ => ⟨fun z => absurd z (by decide), fun _ => ⟨fun z => absurd z (by decide), fun _ => ⟨fun z => absurd z (by decide), fun _ => ⟨fun z => absurd z (by decide), fun _ => ⟨fun _ => ⟨vv, an_ (by rw [t_nat hn]; exact hS.pas.symm)⟩, fun z => absurd rfl z⟩⟩⟩⟩⟩⟩⟩⟩, fun z => absurd hx z⟩)), fun σ2 e2 => ref _ σ2 e2 (fun σ1 f1 => ⟨fun _ => ⟨fun _ => ⟨fun _ => ⟨fun _ => ⟨fun z => absurd rfl z, fun _ => an_ rfl⟩, fun z => absurd (by decide) z⟩, fun z => absurd (by decide) z⟩, fun z => absurd (by decide) z⟩, fun z => absurd (by decide) z⟩)⟩
      · subst q
        exact ⟨σ 169 (2358 + 8 * n + 4), f_A_span a1 8 σ _ (cla _ (fun x hx => ⟨fun _ => ⟨fun z => absurd z (by decide), fun _ => ⟨fun z => absurd z (by decide), fun _ => ⟨fun z => absurd z (by decide), fun _ => ⟨fun z => absurd z (by decide), fun _ => ⟨fun z => absurd z (by decide), fun _ => ⟨fun z => absurd z (by decide), fun _ => ⟨fun z => absurd z (by decide), fun _ => ⟨fun z => absurd z (by decide), fun _ => ⟨fun _ => ⟨vv, an_ (by rw [t_nat hn]; exact hS.pau.symm)⟩, fun z => absurd rfl z⟩⟩⟩⟩⟩⟩⟩⟩⟩, fun z => absurd hx z⟩)), fun σ2 e2 => ref _ σ2 e2 (fun σ1 f1 => ⟨fun _ => ⟨fun _ => ⟨fun _ => ⟨fun _ => ⟨fun _ => ⟨fun z => absurd rfl z, fun _ => an_ rfl⟩, fun z => absurd (by decide) z⟩, fun z => absurd (by decide) z⟩, fun z => absurd (by decide) z⟩, fun z => absurd (by decide) z⟩, fun z => absurd (by decide) z⟩)⟩
      · subst q
        exact ⟨σ 169 (2358 + 8 * n + 6) - 1, f_A_span a1 9 σ _ (cla _ (fun x hx => ⟨fun _ => ⟨fun z => absurd z (by decide), fun _ => ⟨fun z => absurd z (by decide), fun _ => ⟨fun z => absurd z (by decide), fun _ => ⟨fun z => absurd z (by decide), fun _ => ⟨fun z => absurd z (by decide), fun _ => ⟨fun z => absurd z (by decide), fun _ => ⟨fun z => absurd z (by decide), fun _ => ⟨fun z => absurd z (by decide), fun _ => ⟨fun z => absurd z (by decide), fun _ => ⟨fun _ => ⟨vv, an_ (by rw [t_nat hn]; exact sub1 hS.lea)⟩, fun z => absurd rfl z⟩⟩⟩⟩⟩⟩⟩⟩⟩⟩, fun z => absurd hx z⟩)), fun σ2 e2 => ref _ σ2 e2 (fun σ1 f1 => ⟨fun _ => ⟨fun _ => ⟨fun _ => ⟨fun _ => ⟨fun _ => ⟨fun _ => ⟨fun z => absurd rfl z, fun _ => an_ rfl⟩, fun z => absurd (by decide) z⟩, fun z => absurd (by decide) z⟩, fun z => absurd (by decide) z⟩, fun z => absurd (by decide) z⟩, fun z => absurd (by decide) z⟩, fun z => absurd (by decide) z⟩)⟩
      · subst q
        exact ⟨σ 169 (2358 + 8 * n + 7) - 1, f_A_span a1 10 σ _ (cla _ (fun x hx => ⟨fun _ => ⟨fun z => absurd z (by decide), fun _ => ⟨fun z => absurd z (by decide), fun _ => ⟨fun z => absurd z (by decide), fun _ => ⟨fun z => absurd z (by decide), fun _ => ⟨fun z => absurd z (by decide), fun _ => ⟨fun z => absurd z (by decide), fun _ => ⟨fun z => absurd z (by decide), fun _ => ⟨fun z => absurd z (by decide), fun _ => ⟨fun z => absurd z (by decide), fun _ => ⟨fun z => absurd z (by decide), fun _ => ⟨fun _ => ⟨vv, an_ (by rw [t_nat hn]; exact sub1 hS.why)⟩, fun z => absurd rfl z⟩⟩⟩⟩⟩⟩⟩⟩⟩⟩⟩, fun z => absurd hx z⟩)), fun σ2 e2 => ref _ σ2 e2 (fun σ1 f1 => ⟨fun _ => ⟨fun _ => ⟨fun _ => ⟨fun _ => ⟨fun _ => ⟨fun _ => ⟨fun _ => an_ rfl, fun z => absurd (by decide) z⟩, fun z => absurd (by decide) z⟩, fun z => absurd (by decide) z⟩, fun z => absurd (by decide) z⟩, fun z => absurd (by decide) z⟩, fun z => absurd (by decide) z⟩, fun z => absurd (by decide) z⟩)⟩
    · refine ⟨-1, f_A_span a1 a2 σ _ (cla _ (fun x hx => ⟨fun _ => ⟨fun z => absurd (by rw [z]; decide) k2, fun _ => ⟨fun z => absurd (by rw [z]; decide) k2, fun _ => ⟨fun z => absurd (by rw [z]; decide) k2, fun _ => ⟨fun z => absurd (by rw [z]; decide) k2, fun _ => ⟨fun z => absurd (by rw [z]; decide) k2, fun _ => ⟨fun z => absurd (by rw [z]; decide) k2, fun _ => ⟨fun z => absurd (by rw [z]; decide) k2, fun _ => ⟨fun z => absurd (by rw [z]; decide) k2, fun _ => ⟨fun z => absurd (by rw [z]; decide) k2, fun _ => ⟨fun z => absurd (by rw [z]; decide) k2, fun _ => ⟨fun z => absurd (by rw [z]; decide) k2, fun _ => an_ rfl⟩⟩⟩⟩⟩⟩⟩⟩⟩⟩⟩, fun _ => an_ rfl⟩)), fun σ2 e2 => ?_⟩
      refine w_M_span a1 a2 σ2 _ (fun σ1 e1 => (c_isSpanX a1 σ1).int ?_)
      rintro x3 σ3 ⟨hx3, es3⟩
      rw [es3]
      refine ⟨fun _ => an_ rfl, fun _ => (c_isInX (L := 0) (H := 10) rfl rfl a2 σ1).int ?_⟩
      rintro x5 σ5 ⟨hx5, es5⟩
      exact ⟨fun z => absurd (by have := hx5.b.2.mp z; omega) k2, fun _ => an_ rfl⟩
  · refine ⟨-1, f_A_span a1 a2 σ _ ((nw0 (e_isSpanX a1 σ)).int ?_), fun σ2 e2 => ?_⟩
    · rintro x σ1 ⟨hx, es⟩
      exact ⟨fun z => absurd (hx.b.2.mp z) k1, fun _ => an_ rfl⟩
    · refine w_M_span a1 a2 σ2 _ (fun σ1 e1 => (c_isSpanX a1 σ1).int ?_)
      rintro x3 σ3 ⟨hx3, es3⟩
      exact ⟨fun _ => an_ rfl, fun z => absurd (hx3.b.2.mp z) k1⟩
theorem ce_span {B : Nat} (a1 a2 : Int32) (σ : sm_S) (hB : B < 1500000000) (h : LR B σ) : two (fun x y => x = y) j_A_span j_M_span [.ref 42, .int a1, .int a2] [.ref 168, .int a1, .int a2] B σ := by
  have h2 := h
  obtain ⟨hL, ⟨N, hN, ht⟩, -⟩ := h2
  exact CLk h (a_spanQ a1 a2 σ h.1.1) (fun σ1 q => m_span a1 a2 σ1 hB q.2.1) (fun σ1 q => by
    obtain ⟨N, hN, hj⟩ := (lw_bs q.2.1).1
    exact qU (as := [.ref 0, .int a1, .int a2]) rfl (k_span (N := N) a1 a2 (sh rM σ1) hj)) (asM := [.ref 0, .int a1, .int a2]) rfl (ky_span a1 a2 σ ht.1)
end
section
/-! ===== the simulation: sums, zone, loose ===== -/
noncomputable def ind (p : Prop) : Nat := sm_if p 1 0
theorem ind_t {p : Prop} (h : p) : ind p = 1 := sm_if_t h
theorem ind_f {p : Prop} (h : ¬ p) : ind p = 0 := sm_if_f h
theorem ind_le (p : Prop) : ind p ≤ 1 := by
  by_cases h : p
  · rw [ind_t h]; omega
  · rw [ind_f h]; omega
theorem ind_cg {p q : Prop} (h : p ↔ q) : ind p = ind q := by rw [propext h]
theorem ind_if (p : Prop) (dp : Decidable p) : (if p then 1 else 0) = ind p := by
  by_cases h : p
  · rw [if_pos h, ind_t h]
  · rw [if_neg h, ind_f h]
theorem sumN_blk {F : Nat → Nat} (m : Nat) : ∀ k, sumN F (m * k) = sumN (fun s => sumN (fun i => F (m * s + i)) m) k
  | 0 => rfl
  | k + 1 => by
    rw [Nat.mul_succ, sumN_split, sumN_blk m k]
    rfl
theorem sumN_c (c : Nat) : ∀ n, sumN (fun _ => c) n = c * n
  | 0 => rfl
  | n + 1 => by
    show sumN (fun _ => c) n + c = _
    rw [sumN_c c n, Nat.mul_succ]
theorem sumN_0 (n : Nat) : sumN (fun _ => 0) n = 0 := by rw [sumN_c, Nat.zero_mul]
theorem sumN_1 {c : Nat} : ∀ n, sumN (fun r => if r = 0 then c else 0) (n + 1) = c
  | 0 => by show 0 + (if 0 = 0 then c else 0) = c; rw [if_pos rfl]; omega
  | n + 1 => by
    show sumN (fun r => if r = 0 then c else 0) (n + 1) + (if n + 1 = 0 then c else 0) = c
    rw [sumN_1 n, if_neg (by omega)]
    rfl
theorem sumN_add {F G : Nat → Nat} : ∀ n, sumN (fun i => F i + G i) n = sumN F n + sumN G n
  | 0 => rfl
  | n + 1 => by
    show sumN (fun i => F i + G i) n + (F n + G n) = (sumN F n + F n) + (sumN G n + G n)
    rw [sumN_add n]
    omega
theorem sumN_mul {F : Nat → Nat} (c : Nat) : ∀ n, sumN (fun i => c * F i) n = c * sumN F n
  | 0 => rfl
  | n + 1 => by
    show sumN (fun i => c * F i) n + c * F n = c * (sumN F n + F n)
    rw [sumN_mul c n, Nat.mul_add]
theorem e_isZoneX (a : Int32) (σ : sm_S) : xC xD j_A_isZone [.int a] σ (sm_I (fun x σ' => isYes (0 ≤ a.toInt ∧ a.toInt < 2) x ∧ σ' = σ)) := d_A_isZone a σ _ (e_isRng (K := 2) rfl (fun z => ⟨_, rfl, Or.inl ⟨rfl, z⟩, rfl⟩) (fun z => ⟨_, rfl, Or.inr ⟨rfl, z⟩, rfl⟩))
/-- a free place of order o in span s -/
def plc (v : Nat → Int32) (s o : Nat) : Prop := ∃ f, f / 32 = s ∧ f % 2 ^ o = 0 ∧ frF (frV v) f o
def wdv (v : Nat → Int32) (s : Nat) (x : Int32) : Prop := (x = -1 ∧ ∀ o, o ≤ 5 → ¬ plc v s o) ∨ ∃ h : Nat, h ≤ 5 ∧ x.toInt = h ∧ plc v s h ∧ ∀ j, h < j → j ≤ 5 → ¬ plc v s j
theorem wdv_un {v : Nat → Int32} {s : Nat} {x y : Int32} (a : wdv v s x) (b : wdv v s y) : x = y := by
  rcases a with ⟨a1, a2⟩ | ⟨h, a1, a2, a3, a4⟩ <;> rcases b with ⟨b1, b2⟩ | ⟨k, b1, b2, b3, b4⟩
  · rw [a1, b1]
  · exact absurd b3 (a2 k b1)
  · exact absurd a3 (b2 h a1)
  · rcases Nat.lt_trichotomy h k with q | q | q
    · exact absurd b3 (a4 k q b1)
    · exact t_inj (by rw [a2, b2, q])
    · exact absurd a3 (b4 h q a1)
theorem plc_st {c : sm_S} {v : Nat → Int32} {s o : Nat} (h : sim0 c v) (hs : s < 8) (ho : o ≤ 5) : st (c 2 s) o ≠ 0 ↔ plc v s o := by
  rw [bit_ne]
  constructor
  · rintro ⟨i, hi, hb⟩
    obtain ⟨h1, h2⟩ := (st_iff ho hi).mp hb
    have e1 : (32 * s + i) / 32 = s := by omega
    have e2 : (32 * s + i) % 32 = i := by omega
    have dv : (2 : Nat) ^ o ∣ 32 := Nat.pow_dvd_pow 2 (show o ≤ 5 from ho)
    refine ⟨32 * s + i, e1, ?_, (frF_cg (by omega) ho (sim_fr h)).mpr ((frF_b ho).mpr ?_)⟩
    · rw [← Nat.mod_mod_of_dvd _ dv, e2]
      exact h1
    · rw [e1, e2]
      exact h2
  · rintro ⟨f, f1, f2, f3⟩
    have hf : f < 256 := by omega
    have dv : (2 : Nat) ^ o ∣ 32 := Nat.pow_dvd_pow 2 (show o ≤ 5 from ho)
    refine ⟨f % 32, by omega, (st_iff ho (by omega)).mpr ⟨?_, ?_⟩⟩
    · rw [Nat.mod_mod_of_dvd _ dv]
      exact f2
    · have := (frF_b ho).mp ((frF_cg hf ho (sim_fr h)).mp f3)
      rw [f1] at this
      exact this
theorem l_widest2 {c : sm_S} {v : Nat → Int32} {s : Nat} (h : sim0 c v) (hs : s < 8) (σ : sm_S) : ∀ (d : Nat) (a1 : Int32), a1.toInt = (d : Int) - 1 → d ≤ 6 → (∀ j, d ≤ j → j ≤ 5 → ¬ plc v s j) → xE xD m_R_widest 2 [.int (c 2 s), .int a1] [] σ (sm_I (fun x σ' => wdv v s x ∧ σ' = σ)) := by
  intro d
  induction d with
  | zero =>
    intro a1 h1 _ hz
    refine d_R_widest_2 _ a1 σ _ ⟨fun _ => ⟨_, rfl, Or.inl ⟨rfl, fun o ho => hz o (by omega) ho⟩, rfl⟩, fun z => absurd ?_ z⟩
    rw [t_lt, h1]; decide
  | succ d ih =>
    intro a1 h1 hd hz
    have h1' : a1.toInt = (d : Int) := by omega
    have h2 : (a1 + (-1)).toInt = (d : Int) - 1 := by
      rw [t_add h1' (y := -1) rfl (by omega) (by omega)]
      omega
    refine d_R_widest_2 _ a1 σ _ ⟨fun z => ?_, fun _ => (c_starts h1' (by omega) (c 2 s) σ).int ?_⟩
    · rw [t_lt, h1'] at z
      have z : (d : Int) < 0 := z
      omega
    · rintro x2 σ1 ⟨ex2, es⟩
      rw [ex2, es]
      refine ⟨fun z => ih _ h2 (by omega) (fun j hj hj5 => ?_), fun z => ⟨_, rfl, Or.inr ⟨d, by omega, h1', (plc_st h hs (by omega)).mp z, fun j hj hj5 => hz j (by omega) hj5⟩, rfl⟩⟩
      by_cases e : j = d
      · rw [e, ← plc_st h hs (by omega)]
        exact fun w => w z
      · exact hz j (by omega) hj5
theorem e_widest2 {c : sm_S} {v : Nat → Int32} {s : Nat} (h : sim0 c v) (hs : s < 8) (σ : sm_S) : xC xD j_R_widest [.int (c 2 s)] σ (sm_I (fun x σ' => wdv v s x ∧ σ' = σ)) := d_R_widest _ σ _ (l_widest2 h hs σ 6 5 rfl (by omega) (fun j hj hj5 => by omega))
theorem kp32 : ∀ o, o ≤ 5 → 2 ^ (5 - o) * 2 ^ o = 32 := by decide
theorem plc_at {v : Nat → Int32} {s o : Nat} (ho : o ≤ 5) (h : plc v s o) : ∃ j, j < 2 ^ (5 - o) ∧ frF (frV v) (32 * s + j * 2 ^ o) o := by
  obtain ⟨f, f1, f2, f3⟩ := h
  have dv : (2 : Nat) ^ o ∣ 32 := Nat.pow_dvd_pow 2 (show o ≤ 5 from ho)
  have m0 : f % 32 % 2 ^ o = 0 := by rw [Nat.mod_mod_of_dvd _ dv]; exact f2
  have e := al_pow m0
  refine ⟨f % 32 / 2 ^ o, ?_, ?_⟩
  · refine Nat.lt_of_mul_lt_mul_right (a := 2 ^ o) ?_
    rw [e, kp32 o ho]
    omega
  · rw [e, show 32 * s + f % 32 = f by omega]
    exact f3
theorem plc_of {v : Nat → Int32} {s o j : Nat} (ho : o ≤ 5) (hj : j < 2 ^ (5 - o)) (h : frF (frV v) (32 * s + j * 2 ^ o) o) : plc v s o := by
  have k := kp32 o ho
  have lt : j * 2 ^ o < 32 := by rw [← k]; exact Nat.mul_lt_mul_of_pos_right hj (Nat.two_pow_pos o)
  refine ⟨32 * s + j * 2 ^ o, by omega, ?_, h⟩
  rw [← k, Nat.mul_assoc, Nat.mul_comm (2 ^ o) s, ← Nat.mul_assoc, ← Nat.add_mul, Nat.mul_mod_left]
theorem l_great15 {a1 a3 m0 : Int32} {s o : Nat} {Q : Option Value → sm_S → Prop} (h1 : a1.toInt = s) (hs : s < 8) (h3 : a3.toInt = o) (ho : o ≤ 5) (σ : sm_S) (k : ∀ (a2 a4 : Int32), ((a2 = m0 ∧ ¬ plc (σ 1) s o) ∨ (a2 = a3 ∧ plc (σ 1) s o)) → xE xM m_M_greatestIn 4 [.ref 0, .int a1, .int a2, .int (a3 + 1), .int a4] [] σ Q) : ∀ (d i : Nat) (a2 a4 : Int32), a4.toInt = ((32 * s + i * 2 ^ o : Nat) : Int) → i + d = 2 ^ (5 - o) → ((a2 = m0 ∧ ∀ j, j < i → ¬ frF (frV (σ 1)) (32 * s + j * 2 ^ o) o) ∨ (a2 = a3 ∧ plc (σ 1) s o)) → xE xM m_M_greatestIn 15 [.ref 0, .int a1, .int a2, .int a3, .int a4] [] σ Q := by
  have kp := kp32 o ho
  have h32 : (32 * a1 + 32).toInt = ((32 * s + 32 : Nat) : Int) := by
    have e := t_ix (c := 0) (m := 32) (C := 0) (M := 32) (k := 32) (j := 32) rfl rfl h1 rfl (by omega)
    rw [Int32.zero_add] at e
    rw [e]
    omega
  intro d
  induction d with
  | zero =>
    intro i a2 a4 h4 hi hq
    have hi : i = 2 ^ (5 - o) := by omega
    rw [hi, kp] at h4
    refine w_M_greatestIn_15 a1 a2 a3 a4 σ _ ⟨fun _ => k a2 a4 ?_, fun z => absurd (by rw [t_le, h32, h4]; omega) z⟩
    rcases hq with ⟨q1, q2⟩ | q
    · refine Or.inl ⟨q1, fun z => ?_⟩
      obtain ⟨j, j1, j2⟩ := plc_at ho z
      exact q2 j (by omega) j2
    · exact Or.inr q
  | succ d ih =>
    intro i a2 a4 h4 hi hq
    have lt : (i + 1) * 2 ^ o ≤ 32 := by rw [← kp]; exact Nat.mul_le_mul_right _ (by omega)
    rw [Nat.succ_mul] at lt
    have hp := Nat.two_pow_pos o
    have h4' : (a4 + ((1 : Int32) <<< (a3 &&& 31))).toInt = ((32 * s + (i + 1) * 2 ^ o : Nat) : Int) := by
      have e : (i + 1) * 2 ^ o = i * 2 ^ o + 2 ^ o := Nat.succ_mul i (2 ^ o)
      rw [t_add h4 (t_pow h3 (by omega)) (by omega) (by omega), e]
      omega
    refine w_M_greatestIn_15 a1 a2 a3 a4 σ _ ⟨fun z => ?_, fun _ => (c_areFree h4 (by omega) h3 ho σ).int ?_⟩
    · rw [t_le, h32, h4] at z
      omega
    · rintro x2 σ1 ⟨hx2, es⟩
      rw [es]
      refine ⟨fun z => ih (i + 1) a2 _ h4' (by omega) ?_, fun z => ih (i + 1) a3 _ h4' (by omega) (Or.inr ⟨rfl, ?_⟩)⟩
      · rcases hq with ⟨q1, q2⟩ | q
        · refine Or.inl ⟨q1, fun j hj => ?_⟩
          by_cases e : j = i
          · rw [e]
            rcases hx2 with ⟨w, -⟩ | ⟨-, w, w1, w2⟩
            · rw [w] at z; exact absurd z (by decide)
            · exact fun g => w2 (g w w1)
          · exact q2 j (by omega)
        · exact Or.inr q
      · rcases hx2 with ⟨-, w⟩ | ⟨w, -⟩
        · exact plc_of ho (by omega) w
        · exact absurd w z
theorem l_great4 {a1 : Int32} {s : Nat} (h1 : a1.toInt = s) (hs : s < 8) (σ : sm_S) : ∀ (d o : Nat) (a2 a3 : Int32) (v4 : Value), a3.toInt = o → o + d = 6 → ((a2 = -1 ∧ ∀ j, j < o → ¬ plc (σ 1) s j) ∨ ∃ h : Nat, h < o ∧ a2.toInt = h ∧ plc (σ 1) s h ∧ ∀ j, h < j → j < o → ¬ plc (σ 1) s j) → xE xM m_M_greatestIn 4 [.ref 0, .int a1, .int a2, .int a3, v4] [] σ (sm_I (fun x σ' => wdv (σ 1) s x ∧ σ' = σ)) := by
  intro d
  induction d with
  | zero =>
    intro o a2 a3 v4 h3 hk hq
    refine w_M_greatestIn_4 a1 a2 a3 v4 σ _ ⟨fun _ => ⟨_, rfl, ?_, rfl⟩, fun z => absurd (by rw [t_lt, h3]; show (5 : Int) < _; omega) z⟩
    rcases hq with ⟨q1, q2⟩ | ⟨h, q1, q2, q3, q4⟩
    · exact Or.inl ⟨q1, fun j hj => q2 j (by omega)⟩
    · exact Or.inr ⟨h, by omega, q2, q3, fun j hj hj5 => q4 j hj (by omega)⟩
  | succ d ih =>
    intro o a2 a3 v4 h3 hk hq
    have h3' : (a3 + 1).toInt = ((o + 1 : Nat) : Int) := by
      rw [t_add h3 (y := 1) rfl (by omega) (by omega)]
      omega
    have h0 : (32 * a1).toInt = ((32 * s + 0 * 2 ^ o : Nat) : Int) := by
      rw [t_mul (x := 32) (y := s) rfl h1 (by omega) (by omega)]
      omega
    refine w_M_greatestIn_4 a1 a2 a3 v4 σ _ ⟨fun z => ?_, fun _ => l_great15 (m0 := a2) h1 hs h3 (by omega) σ (fun b2 b4 hb => ih (o + 1) b2 (a3 + 1) _ h3' (by omega) ?_) (2 ^ (5 - o)) 0 a2 _ h0 (by omega) (Or.inl ⟨rfl, fun j hj => by omega⟩)⟩
    · rw [t_lt, h3] at z
      have z : (5 : Int) < o := z
      omega
    · rcases hb with ⟨b1, b5⟩ | ⟨b1, b5⟩
      · rw [b1]
        rcases hq with ⟨q1, q2⟩ | ⟨h, q1, q2, q3, q4⟩
        · refine Or.inl ⟨q1, fun j hj => ?_⟩
          by_cases e : j = o
          · rw [e]; exact b5
          · exact q2 j (by omega)
        · refine Or.inr ⟨h, by omega, q2, q3, fun j hj hj2 => ?_⟩
          by_cases e : j = o
          · rw [e]; exact b5
          · exact q4 j hj (by omega)
      · exact Or.inr ⟨o, by omega, by rw [b1]; exact h3, b5, fun j hj hj2 => by omega⟩
theorem c_greatestIn2 {a1 : Int32} {s : Nat} (h1 : a1.toInt = s) (hs : s < 8) (σ : sm_S) : xC xM j_M_greatestIn [.ref 0, .int a1] σ (sm_I (fun x σ' => wdv (σ 1) s x ∧ σ' = σ)) := w_M_greatestIn a1 σ _ (l_great4 h1 hs σ 6 0 (-1) 0 .null rfl rfl (Or.inl ⟨rfl, fun j hj => by omega⟩))
theorem l_wz2 {v : Nat → Int32} {c : sm_S} (h : sim0 c v) (a1 a2 : Int32) : ∀ (d k : Nat) (a a3 : Int32), a3.toInt = k → k + d = 8 → ∃ r : Int32, xE xD m_Y_widestInZone 4 [.ref 0, .int a1, .int a, .int a3] [] c (sm_I (fun x σ' => x = r ∧ σ' = c)) ∧ ∀ σ2 : sm_S, σ2 1 = v → xE xM m_M_zone 56 [.ref 0, .int a1, .int a2, .int a, .int a3] [] σ2 (sm_I (fun x _ => x = r)) := by
  intro d
  induction d with
  | zero =>
    intro k a a3 h3 hk
    have l : (8 : Int32) ≤ a3 := by rw [t_le, h3]; show (8 : Int) ≤ _; omega
    exact ⟨a, d_Y_widestInZone_4 a1 a a3 c _ ⟨fun _ => ⟨_, rfl, rfl, rfl⟩, fun z => absurd l z⟩, fun σ2 _ => w_M_zone_56 a1 a2 a a3 σ2 _ ⟨fun _ => ⟨_, rfl, rfl⟩, fun z => absurd l z⟩⟩
  | succ d ih =>
    intro k a a3 h3 hk
    have h3' : (a3 + 1).toInt = ((k + 1 : Nat) : Int) := by
      rw [t_add h3 (y := 1) rfl (by omega) (by omega)]
      omega
    have l : ¬ (8 : Int32) ≤ a3 := by rw [t_le, h3]; show ¬ (8 : Int) ≤ _; omega
    have vv := t_vp (N := 8) h3 (by omega)
    obtain ⟨y, hy, cy⟩ := pick (e_widest2 h (show k < 8 by omega) c)
    by_cases q : zV v k ≠ a1
    · obtain ⟨r, r1, r2⟩ := ih (k + 1) a (a3 + 1) h3' (by omega)
      refine ⟨r, d_Y_widestInZone_4 a1 a a3 c _ ⟨fun z => absurd z l, fun _ => ?_⟩, fun σ2 e2 => w_M_zone_56 a1 a2 a a3 σ2 _ ⟨fun z => absurd z l, fun _ => (c_zoneOf2 h3 (by omega) σ2).int ?_⟩⟩
      · rw [t_nat h3, sim_zone h (by omega)]
        exact ⟨vv, fun _ => r1, fun z => absurd q z⟩
      · rintro x2 σ3 ⟨ex2, es⟩
        rw [ex2, es, e2]
        exact ⟨fun _ => r2 σ2 e2, fun z => absurd q z⟩
    · obtain ⟨r, r1, r2⟩ := ih (k + 1) (if a < y then y else a) (a3 + 1) h3' (by omega)
      refine ⟨r, d_Y_widestInZone_4 a1 a a3 c _ ⟨fun z => absurd z l, fun _ => ?_⟩, fun σ2 e2 => w_M_zone_56 a1 a2 a a3 σ2 _ ⟨fun z => absurd z l, fun _ => (c_zoneOf2 h3 (by omega) σ2).int ?_⟩⟩
      · rw [t_nat h3, sim_zone h (by omega)]
        refine ⟨vv, fun z => absurd z q, fun _ => ⟨vv, cy.int ?_⟩⟩
        rintro x σ3 ⟨ex, es⟩
        rw [ex, es]
        exact r1
      · rintro x2 σ3 ⟨ex2, es⟩
        rw [ex2, es, e2]
        refine ⟨fun z => absurd z q, fun _ => (c_greatestIn2 h3 (by omega) σ2).int ?_⟩
        rintro x4 σ4 ⟨hx4, es4⟩
        rw [e2] at hx4
        rw [wdv_un hx4 hy, es4]
        refine ⟨fun z => ?_, fun z => (c_greatestIn2 h3 (by omega) σ2).int ?_⟩
        · rw [if_neg (by rw [t_lt]; rw [t_le] at z; omega)] at r2
          exact r2 σ2 e2
        · rintro x6 σ6 ⟨hx6, es6⟩
          rw [e2] at hx6
          rw [wdv_un hx6 hy, es6]
          rw [if_pos (by rw [t_lt]; rw [t_le] at z; omega)] at r2
          exact r2 σ2 e2
theorem fin_le {F : Nat → Nat} (h : ∀ i, F i ≤ 1) (k : Nat) : sumN F k ≤ k := by
  have := sumN_bd (F := F) (K := 1) (n := k) h
  omega
theorem l_freeIn2 (a1 : Int32) (σ : sm_S) : ∀ (d k : Nat) (a2 a3 : Int32), a3.toInt = k → k + d = 256 → a2.toInt = ((sumN (fun f => if σ 1 (18 + 3 * f) = 1 ∧ zV (σ 1) (f / 32) = a1 then 1 else 0) k : Nat) : Int) → xE xM m_M_freeIn 4 [.ref 0, .int a1, .int a2, .int a3] [] σ (sm_I (fun x σ' => x.toInt = ((sumN (fun f => if σ 1 (18 + 3 * f) = 1 ∧ zV (σ 1) (f / 32) = a1 then 1 else 0) 256 : Nat) : Int) ∧ σ' = σ)) := by
  have bd : ∀ k, sumN (fun f => if σ 1 (18 + 3 * f) = 1 ∧ zV (σ 1) (f / 32) = a1 then 1 else 0) k ≤ k := fun k => fin_le (fun i => by split <;> omega) k
  intro d
  induction d with
  | zero =>
    intro k a2 a3 h3 hk h2
    have hk : k = 256 := by omega
    subst hk
    exact w_M_freeIn_4 a1 a2 a3 σ _ ⟨fun _ => ⟨_, rfl, h2, rfl⟩, fun h => absurd (by rw [t_le, h3]; show (256 : Int) ≤ _; omega) h⟩
  | succ d ih =>
    intro k a2 a3 h3 hk h2
    have h3' : (a3 + 1).toInt = ((k + 1 : Nat) : Int) := by
      rw [t_add h3 (y := 1) rfl (by omega) (by omega)]
      omega
    have b := bd k
    have no : ¬ (σ 1 (18 + 3 * k) = 1 ∧ zV (σ 1) (k / 32) = a1) → xE xM m_M_freeIn 4 [.ref 0, .int a1, .int a2, .int (a3 + 1)] [] σ (sm_I (fun x σ' => x.toInt = ((sumN (fun f => if σ 1 (18 + 3 * f) = 1 ∧ zV (σ 1) (f / 32) = a1 then 1 else 0) 256 : Nat) : Int) ∧ σ' = σ)) := fun q => ih (k + 1) a2 (a3 + 1) h3' (by omega) (by
      rw [h2]
      show _ = ((sumN (fun f => if σ 1 (18 + 3 * f) = 1 ∧ zV (σ 1) (f / 32) = a1 then 1 else 0) k + (if σ 1 (18 + 3 * k) = 1 ∧ zV (σ 1) (k / 32) = a1 then 1 else 0) : Nat) : Int)
      rw [if_neg q]
      rfl)
    refine w_M_freeIn_4 a1 a2 a3 σ _ ⟨fun z => ?_, fun _ => (c_isFree h3 (by omega) σ).int ?_⟩
    · rw [t_le, h3] at z
      have z : (256 : Int) ≤ k := z
      omega
    · rintro x2 σ1 ⟨hx2, es⟩
      rw [es]
      refine ⟨fun z => no (fun w => ?_), fun z => (c_spanOf2 h3 σ).int ?_⟩
      · rcases hx2 with ⟨y, -⟩ | ⟨-, y⟩
        · rw [y] at z; exact absurd z (by decide)
        · exact y w.1
      · have f1 : σ 1 (18 + 3 * k) = 1 := by
          rcases hx2 with ⟨-, y⟩ | ⟨y, -⟩
          · exact y
          · exact absurd y z
        rintro x4 σ4 ⟨ex4, es4⟩
        rw [es4]
        refine (c_zoneOf2 ex4 (by omega) σ).int ?_
        rintro x6 σ6 ⟨ex6, es6⟩
        rw [ex6, es6]
        refine ⟨fun z => no (fun w => z w.2), fun z => ih (k + 1) (a2 + 1) (a3 + 1) h3' (by omega) ?_⟩
        rw [t_add h2 (y := 1) rfl (by omega) (by omega)]
        show _ = ((sumN (fun f => if σ 1 (18 + 3 * f) = 1 ∧ zV (σ 1) (f / 32) = a1 then 1 else 0) k + (if σ 1 (18 + 3 * k) = 1 ∧ zV (σ 1) (k / 32) = a1 then 1 else 0) : Nat) : Int)
        rw [if_pos ⟨f1, Classical.not_not.mp z⟩]
        omega
def fzN (v : Nat → Int32) (z : Int32) (k : Nat) : Nat := sumN (fun s => if zV v s = z then cnS v s 1 else 0) k
theorem fz_eq (v : Nat → Int32) (z : Int32) : sumN (fun f => if v (18 + 3 * f) = 1 ∧ zV v (f / 32) = z then 1 else 0) 256 = fzN v z 8 := by
  rw [show (256 : Nat) = 32 * 8 from rfl, sumN_blk 32 8]
  refine sumN_cg (fun s hs => ?_)
  by_cases q : zV v s = z
  · rw [if_pos q]
    exact sumN_cg (fun i hi => by
      show (if v (18 + 3 * (32 * s + i)) = 1 ∧ zV v ((32 * s + i) / 32) = z then 1 else 0) = _
      rw [show (32 * s + i) / 32 = s by omega]
      by_cases w : v (18 + 3 * (32 * s + i)) = 1
      · rw [if_pos ⟨w, q⟩, if_pos w]
      · rw [if_neg (fun y => w y.1), if_neg w])
  · rw [if_neg q, sumN_cg (G := fun _ => 0) (fun i hi => ?_), sumN_0]
    show (if v (18 + 3 * (32 * s + i)) = 1 ∧ zV v ((32 * s + i) / 32) = z then 1 else 0) = 0
    rw [show (32 * s + i) / 32 = s by omega, if_neg (fun y => q y.2)]
theorem fz_le (v : Nat → Int32) (z : Int32) (k : Nat) : fzN v z k ≤ 32 * k := sumN_bd (fun s => by
  have := cnS_le v s 1
  split <;> omega)
theorem l_fz2 {c : sm_S} {v : Nat → Int32} (h : sim0 c v) (a1 : Int32) : ∀ (d k : Nat) (a2 a3 : Int32), a3.toInt = k → k + d = 8 → a2.toInt = ((fzN v a1 k : Nat) : Int) → xE xD m_Y_freeInZone 4 [.ref 0, .int a1, .int a2, .int a3] [] c (sm_I (fun x σ' => x.toInt = ((fzN v a1 8 : Nat) : Int) ∧ σ' = c)) := by
  intro d
  induction d with
  | zero =>
    intro k a2 a3 h3 hk h2
    have hk : k = 8 := by omega
    subst hk
    exact d_Y_freeInZone_4 a1 a2 a3 c _ ⟨fun _ => ⟨_, rfl, h2, rfl⟩, fun h => absurd (by rw [t_le, h3]; show (8 : Int) ≤ _; omega) h⟩
  | succ d ih =>
    intro k a2 a3 h3 hk h2
    have h3' : (a3 + 1).toInt = ((k + 1 : Nat) : Int) := by
      rw [t_add h3 (y := 1) rfl (by omega) (by omega)]
      omega
    have b := fz_le v a1 k
    have vv := t_vp (N := 8) h3 (by omega)
    refine d_Y_freeInZone_4 a1 a2 a3 c _ ⟨fun z => ?_, fun _ => ?_⟩
    · rw [t_le, h3] at z
      have z : (8 : Int) ≤ k := z
      omega
    · rw [t_nat h3, sim_zone h (by omega)]
      refine ⟨vv, fun q => ih (k + 1) (a2 + 0) (a3 + 1) h3' (by omega) ?_, fun q => ⟨vv, (c_bitCount2 (c 2 k) c).int ?_⟩⟩
      · rw [Int32.add_zero, h2]
        show _ = ((fzN v a1 k + (if zV v k = a1 then cnS v k 1 else 0) : Nat) : Int)
        rw [if_neg q]
        rfl
      · rintro x2 σ1 ⟨ex2, es⟩
        rw [es]
        rw [(pc_fr h (show k < 8 by omega)).1] at ex2
        have b2 := cnS_le v k 1
        refine ih (k + 1) (a2 + x2) (a3 + 1) h3' (by omega) ?_
        rw [t_add h2 ex2 (by omega) (by omega)]
        show _ = ((fzN v a1 k + (if zV v k = a1 then cnS v k 1 else 0) : Nat) : Int)
        rw [if_pos (Classical.not_not.mp q)]
        omega
end
section
/-! ===== the simulation: zone, loose, look answer the same ===== -/
theorem ky_zone {N : Nat} (a1 a2 : Int32) (σ : sm_S) (ht : tie True N σ (σ 169)) : ky j_A_zone j_M_zone [.ref 42, .int a1, .int a2] [.ref 0, .int a1, .int a2] σ := by
  by_cases k1 : 0 ≤ a1.toInt ∧ a1.toInt < 2
  · have cla : ∀ (Q : Int32 → sm_S → Prop), (∀ x, x ≠ 0 → Q x σ) → xC xF j_A_isZone [.int a1] σ (sm_ri False Q) := fun Q hQ => (nw0 (e_isZoneX a1 σ)).int (by
      rintro x σ1 ⟨hx, es⟩
      rw [es]
      exact hQ x (hx.b.2.mpr k1))
    by_cases k2 : 0 ≤ a2.toInt ∧ a2.toInt < 3
    · have ref : ∀ (Q : Option Value → sm_S → Prop) (σ2 : sm_S), σ2 1 = σ 169 → (∀ σ1 : sm_S, σ1 1 = σ 169 → ((a2 ≠ 0 → ((a2 ≠ 1 → xE xM m_M_zone 56 [.ref 0, .int a1, .int a2, .int (-1), .int 0] [] σ1 Q) ∧ (¬ (a2 ≠ 1) → xC xM j_M_freeIn [.ref 0, .int a1] σ1 (sm_ri False (fun x7 σ6 => Q (some (.int x7)) σ6))))) ∧ (¬ (a2 ≠ 0) → xC xM j_M_framesOf [.ref 0, .int a1] σ1 (sm_ri False (fun x9 σ8 => (¬ (32 : Int32) = 0 ∧ Q (some (.int (x9 / (32 : Int32)))) σ8)))))) → xC xM j_M_zone [.ref 0, .int a1, .int a2] σ2 Q := fun Q σ2 e2 hQ => by
        refine w_M_zone a1 a2 σ2 _ (fun σ1 e1 => (c_isInX (L := 0) (H := 1) rfl rfl a1 σ1).int ?_)
        obtain ⟨f1, -⟩ := told1 e2 e1
        rintro x3 σ3 ⟨hx3, es3⟩
        rw [es3]
        refine ⟨fun z => absurd ⟨k1.1, by omega⟩ (hx3.b.1.mp z), fun _ => (c_isInX (L := 0) (H := 2) rfl rfl a2 σ1).int ?_⟩
        rintro x5 σ5 ⟨hx5, es5⟩
        rw [es5]
        exact ⟨fun _ => hQ σ1 f1, fun z => absurd (hx5.b.2.mpr ⟨k2.1, by omega⟩) z⟩
      obtain ⟨rw', w1, w2⟩ := l_wz2 ht.s a1 a2 8 0 (-1) 0 rfl rfl
      rcases cs3 k2 with q | q | q
      · subst q
        exact ⟨nI (cnZ (σ 169) a1), f_A_zone a1 0 σ _ (cla _ (fun x hx => ⟨fun _ => ⟨fun _ => anC (toN (e_inZone2 a1 ht.s)), fun z => absurd rfl z⟩, fun z => absurd hx z⟩)), fun σ2 e2 => ref _ σ2 e2 (fun σ1 f1 => ⟨fun z => absurd rfl z, fun _ => (c_framesOf2 a1 σ1).int (by
          rintro x9 σ9 ⟨ex9, es9⟩
          refine ⟨by decide, an_ (t_nI ?_)⟩
          rw [t_div ex9 (d := 32) rfl (by decide), f1, Nat.mul_div_cancel_left _ (by decide)])⟩)⟩
      · subst q
        exact ⟨nI (fzN (σ 169) a1 8), f_A_zone a1 1 σ _ (cla _ (fun x hx => ⟨fun _ => ⟨fun z => absurd z (by decide), fun _ => ⟨fun _ => anC (toN (d_Y_freeInZone a1 σ _ (l_fz2 ht.s a1 8 0 0 0 rfl rfl rfl))), fun z => absurd rfl z⟩⟩, fun z => absurd hx z⟩)), fun σ2 e2 => ref _ σ2 e2 (fun σ1 f1 => ⟨fun _ => ⟨fun z => absurd rfl z, fun _ => anM (toN (by
          have q := w_M_freeIn a1 σ1 _ (l_freeIn2 a1 σ1 256 0 0 0 rfl rfl rfl)
          rw [f1, fz_eq] at q
          exact q))⟩, fun z => absurd (by decide) z⟩)⟩
      · subst q
        exact ⟨rw', f_A_zone a1 2 σ _ (cla _ (fun x hx => ⟨fun _ => ⟨fun z => absurd z (by decide), fun _ => ⟨fun z => absurd z (by decide), fun _ => ⟨fun _ => anC (d_Y_widestInZone a1 σ _ w1), fun z => absurd rfl z⟩⟩⟩, fun z => absurd hx z⟩)), fun σ2 e2 => ref _ σ2 e2 (fun σ1 f1 => ⟨fun _ => ⟨fun _ => w2 σ1 f1, fun z => absurd (by decide) z⟩, fun z => absurd (by decide) z⟩)⟩
    · refine ⟨-1, f_A_zone a1 a2 σ _ (cla _ (fun x hx => ⟨fun _ => ⟨fun z => absurd (by rw [z]; decide) k2, fun _ => ⟨fun z => absurd (by rw [z]; decide) k2, fun _ => ⟨fun z => absurd (by rw [z]; decide) k2, fun _ => an_ rfl⟩⟩⟩, fun _ => an_ rfl⟩)), fun σ2 e2 => ?_⟩
      refine w_M_zone a1 a2 σ2 _ (fun σ1 e1 => (c_isInX (L := 0) (H := 1) rfl rfl a1 σ1).int ?_)
      rintro x3 σ3 ⟨hx3, es3⟩
      rw [es3]
      refine ⟨fun _ => an_ rfl, fun _ => (c_isInX (L := 0) (H := 2) rfl rfl a2 σ1).int ?_⟩
      rintro x5 σ5 ⟨hx5, es5⟩
      exact ⟨fun z => absurd (by have := hx5.b.2.mp z; omega) k2, fun _ => an_ rfl⟩
  · refine ⟨-1, f_A_zone a1 a2 σ _ ((nw0 (e_isZoneX a1 σ)).int ?_), fun σ2 e2 => ?_⟩
    · rintro x σ1 ⟨hx, es⟩
      exact ⟨fun z => absurd (hx.b.2.mp z) k1, fun _ => an_ rfl⟩
    · refine w_M_zone a1 a2 σ2 _ (fun σ1 e1 => (c_isInX (L := 0) (H := 1) rfl rfl a1 σ1).int ?_)
      rintro x3 σ3 ⟨hx3, es3⟩
      exact ⟨fun _ => an_ rfl, fun z => absurd (by have := hx3.b.2.mp z; omega) k1⟩
theorem ce_zone {B : Nat} (a1 a2 : Int32) (σ : sm_S) (hB : B < 1500000000) (h : LR B σ) : two (fun x y => x = y) j_A_zone j_M_zone [.ref 42, .int a1, .int a2] [.ref 168, .int a1, .int a2] B σ := by
  have h2 := h
  obtain ⟨hL, ⟨N, hN, ht⟩, -⟩ := h2
  exact CLk h (a_zoneQ a1 a2 σ h.1.1) (fun σ1 q => m_zone a1 a2 σ1 hB q.2.1) (fun σ1 q => by
    obtain ⟨N, hN, hj⟩ := (lw_bs q.2.1).1
    exact qU (as := [.ref 0, .int a1, .int a2]) rfl (k_zone (N := N) a1 a2 (sh rM σ1) hj)) (asM := [.ref 0, .int a1, .int a2]) rfl (ky_zone a1 a2 σ ht.1)
theorem pc_ind (x : Int32) : pcn x = sumN (fun i => ind (bit x i)) 32 := by
  rw [pc_bit]
  exact sumN_cg (fun i _ => ind_if _ _)
theorem sumN_r0 {c n : Nat} (h : 0 < n) : sumN (fun r => if r = 0 then c else 0) n = c := by
  obtain ⟨m, rfl⟩ : ∃ m, n = m + 1 := ⟨n - 1, by omega⟩
  exact sumN_1 m
theorem frb_q {x : Int32} {o q r : Nat} (hr : r < 2 ^ o) : frb x (2 ^ o * q + r) o ↔ frb x (2 ^ o * q) o := by
  unfold frb
  rw [Nat.mul_add_div (Nat.two_pow_pos o), Nat.div_eq_of_lt hr, Nat.add_zero, Nat.mul_div_cancel_left _ (Nat.two_pow_pos o)]
theorem pc_st {x : Int32} {o : Nat} (ho : o ≤ 5) : sumN (fun i => ind (frb x i o)) 32 = 2 ^ o * pcn (st x o) := by
  have kp : 32 = 2 ^ o * 2 ^ (5 - o) := by rw [Nat.mul_comm, kp32 o ho]
  rw [pc_ind, sumN_cg (F := fun i => ind (bit (st x o) i)) (G := fun i => ind (i % 2 ^ o = 0 ∧ frb x i o)) (fun i hi => ind_cg (st_iff ho hi)), kp, sumN_blk, sumN_blk, ← sumN_mul]
  refine sumN_cg (fun q _ => ?_)
  have e1 : sumN (fun r => ind (frb x (2 ^ o * q + r) o)) (2 ^ o) = sumN (fun _ => ind (frb x (2 ^ o * q) o)) (2 ^ o) := sumN_cg (fun r hr => ind_cg (frb_q hr))
  have e2 : sumN (fun r => ind ((2 ^ o * q + r) % 2 ^ o = 0 ∧ frb x (2 ^ o * q + r) o)) (2 ^ o) = sumN (fun r => if r = 0 then ind (frb x (2 ^ o * q) o) else 0) (2 ^ o) := sumN_cg (fun r hr => by
    show ind ((2 ^ o * q + r) % 2 ^ o = 0 ∧ frb x (2 ^ o * q + r) o) = if r = 0 then ind (frb x (2 ^ o * q) o) else 0
    rw [Nat.mul_add_mod, Nat.mod_eq_of_lt hr]
    by_cases z : r = 0
    · rw [if_pos z]
      exact ind_cg ⟨fun w => (frb_q hr).mp w.2, fun w => ⟨z, (frb_q hr).mpr w⟩⟩
    · rw [if_neg z, ind_f (fun w => z w.1)])
  rw [e1, e2, sumN_c, sumN_r0 (Nat.two_pow_pos o), Nat.mul_comm]
noncomputable def lsS (v : Nat → Int32) (s o : Nat) : Nat := sumN (fun i => ind (v (18 + 3 * (32 * s + i)) = 1 ∧ ¬ frF (frV v) (32 * s + i) o)) 32
noncomputable def lsN (v : Nat → Int32) (z : Int32) (o k : Nat) : Nat := sumN (fun s => if zV v s = z then lsS v s o else 0) k
theorem lsS_le (v : Nat → Int32) (s o : Nat) : lsS v s o ≤ 32 := fin_le (fun i => ind_le _) 32
theorem lsN_le (v : Nat → Int32) (z : Int32) (o k : Nat) : lsN v z o k ≤ 32 * k := sumN_bd (fun s => by
  have := lsS_le v s o
  split <;> omega)
theorem ls_eq {c : sm_S} {v : Nat → Int32} {s o : Nat} (h : sim0 c v) (hs : s < 8) (ho : o ≤ 5) : pcn (c 2 s) = lsS v s o + 2 ^ o * pcn (st (c 2 s) o) := by
  rw [← pc_st ho, pc_ind]
  unfold lsS
  rw [← sumN_add]
  refine sumN_cg (fun i hi => ?_)
  have e1 : (32 * s + i) / 32 = s := by omega
  have e2 : (32 * s + i) % 32 = i := by omega
  have q := (h.F (32 * s + i) (by omega)).fre
  rw [e1, e2] at q
  have g : frF (frV v) (32 * s + i) o ↔ frb (c 2 s) i o := by
    rw [frF_cg (by omega) ho (sim_fr h), frF_b ho, e1, e2]
  have b0 : frb (c 2 s) i o → bit (c 2 s) i := fun z => by
    have := frb_le (Nat.zero_le o) z 0 (by decide)
    simpa using this
  by_cases w : bit (c 2 s) i
  · by_cases y : frb (c 2 s) i o
    · rw [ind_t w, ind_t y, ind_f (fun u => u.2 (g.mpr y))]
    · rw [ind_t w, ind_f y, ind_t ⟨q.mp w, fun u => y (g.mp u)⟩]
  · rw [ind_f w, ind_f (fun u => w (q.mpr u.1)), ind_f (fun u => w (b0 u))]
theorem l_loose2 {a2 : Int32} {o : Nat} (h2 : a2.toInt = o) (ho : o ≤ 5) (a1 : Int32) (σ : sm_S) : ∀ (d k : Nat) (a3 a4 : Int32), a4.toInt = k → k + d = 256 → a3.toInt = ((sumN (fun f => ind (σ 1 (18 + 3 * f) = 1 ∧ zV (σ 1) (f / 32) = a1 ∧ ¬ frF (frV (σ 1)) f o)) k : Nat) : Int) → xE xM m_M_loose 32 [.ref 0, .int a1, .int a2, .int a3, .int a4] [] σ (sm_I (fun x σ' => x.toInt = ((sumN (fun f => ind (σ 1 (18 + 3 * f) = 1 ∧ zV (σ 1) (f / 32) = a1 ∧ ¬ frF (frV (σ 1)) f o)) 256 : Nat) : Int) ∧ σ' = σ)) := by
  have bd : ∀ k, sumN (fun f => ind (σ 1 (18 + 3 * f) = 1 ∧ zV (σ 1) (f / 32) = a1 ∧ ¬ frF (frV (σ 1)) f o)) k ≤ k := fun k => fin_le (fun i => ind_le _) k
  intro d
  induction d with
  | zero =>
    intro k a3 a4 h4 hk h3
    have hk : k = 256 := by omega
    subst hk
    exact w_M_loose_32 a1 a2 a3 a4 σ _ ⟨fun _ => ⟨_, rfl, h3, rfl⟩, fun h => absurd (by rw [t_le, h4]; show (256 : Int) ≤ _; omega) h⟩
  | succ d ih =>
    intro k a3 a4 h4 hk h3
    have h4' : (a4 + 1).toInt = ((k + 1 : Nat) : Int) := by
      rw [t_add h4 (y := 1) rfl (by omega) (by omega)]
      omega
    have b := bd k
    have no : ¬ (σ 1 (18 + 3 * k) = 1 ∧ zV (σ 1) (k / 32) = a1 ∧ ¬ frF (frV (σ 1)) k o) → xE xM m_M_loose 32 [.ref 0, .int a1, .int a2, .int a3, .int (a4 + 1)] [] σ (sm_I (fun x σ' => x.toInt = ((sumN (fun f => ind (σ 1 (18 + 3 * f) = 1 ∧ zV (σ 1) (f / 32) = a1 ∧ ¬ frF (frV (σ 1)) f o)) 256 : Nat) : Int) ∧ σ' = σ)) := fun q => ih (k + 1) a3 (a4 + 1) h4' (by omega) (by
      rw [h3]
      show _ = ((sumN (fun f => ind (σ 1 (18 + 3 * f) = 1 ∧ zV (σ 1) (f / 32) = a1 ∧ ¬ frF (frV (σ 1)) f o)) k + ind (σ 1 (18 + 3 * k) = 1 ∧ zV (σ 1) (k / 32) = a1 ∧ ¬ frF (frV (σ 1)) k o) : Nat) : Int)
      rw [ind_f q]
      rfl)
    refine w_M_loose_32 a1 a2 a3 a4 σ _ ⟨fun z => ?_, fun _ => (c_isFree h4 (by omega) σ).int ?_⟩
    · rw [t_le, h4] at z
      have z : (256 : Int) ≤ k := z
      omega
    · rintro x2 σ1 ⟨hx2, es⟩
      rw [es]
      refine ⟨fun z => no (fun w => ?_), fun z => (c_spanOf2 h4 σ).int ?_⟩
      · rcases hx2 with ⟨y, -⟩ | ⟨-, y⟩
        · rw [y] at z; exact absurd z (by decide)
        · exact y w.1
      · have f1 : σ 1 (18 + 3 * k) = 1 := by
          rcases hx2 with ⟨-, y⟩ | ⟨y, -⟩
          · exact y
          · exact absurd y z
        rintro x4 σ4 ⟨ex4, es4⟩
        rw [es4]
        refine (c_zoneOf2 ex4 (by omega) σ).int ?_
        rintro x6 σ6 ⟨ex6, es6⟩
        rw [ex6, es6]
        refine ⟨fun z => no (fun w => z w.2.1), fun zz => (c_areFree h4 (by omega) h2 ho σ).int ?_⟩
        rintro x8 σ8 ⟨hx8, es8⟩
        rw [es8]
        refine ⟨fun z => no (fun w => w.2.2 ?_), fun z => ih (k + 1) (a3 + 1) (a4 + 1) h4' (by omega) ?_⟩
        · rcases hx8 with ⟨-, y⟩ | ⟨y, -⟩
          · exact y
          · exact absurd y z
        · have fr : ¬ frF (frV (σ 1)) k o := by
            rcases hx8 with ⟨y, -⟩ | ⟨-, y, y1, y2⟩
            · exact absurd y (by rw [Classical.not_not.mp z]; decide)
            · exact fun g => y2 (g y y1)
          rw [t_add h3 (y := 1) rfl (by omega) (by omega)]
          show _ = ((sumN (fun f => ind (σ 1 (18 + 3 * f) = 1 ∧ zV (σ 1) (f / 32) = a1 ∧ ¬ frF (frV (σ 1)) f o)) k + ind (σ 1 (18 + 3 * k) = 1 ∧ zV (σ 1) (k / 32) = a1 ∧ ¬ frF (frV (σ 1)) k o) : Nat) : Int)
          rw [ind_t ⟨f1, Classical.not_not.mp zz, fr⟩]
          omega
theorem ls_256 (v : Nat → Int32) (z : Int32) (o : Nat) : sumN (fun f => ind (v (18 + 3 * f) = 1 ∧ zV v (f / 32) = z ∧ ¬ frF (frV v) f o)) 256 = lsN v z o 8 := by
  rw [show (256 : Nat) = 32 * 8 from rfl, sumN_blk 32 8]
  refine sumN_cg (fun s hs => ?_)
  by_cases q : zV v s = z
  · rw [if_pos q]
    exact sumN_cg (fun i hi => by
      show ind (v (18 + 3 * (32 * s + i)) = 1 ∧ zV v ((32 * s + i) / 32) = z ∧ ¬ frF (frV v) (32 * s + i) o) = _
      rw [show (32 * s + i) / 32 = s by omega]
      exact ind_cg ⟨fun w => ⟨w.1, w.2.2⟩, fun w => ⟨w.1, q, w.2⟩⟩)
  · rw [if_neg q, sumN_cg (G := fun _ => 0) (fun i hi => ?_), sumN_0]
    show ind (v (18 + 3 * (32 * s + i)) = 1 ∧ zV v ((32 * s + i) / 32) = z ∧ ¬ frF (frV v) (32 * s + i) o) = 0
    rw [show (32 * s + i) / 32 = s by omega, ind_f (fun w => q w.2.1)]
theorem sl_dec : ∀ m, m < 33 → ∀ o, o < 6 → (nI m) <<< (nI o &&& 31) = nI (m * 2 ^ o) := by decide +kernel
theorem l_looseC2 {a2 : Int32} {o : Nat} {v : Nat → Int32} (h2 : a2.toInt = o) (ho : o ≤ 5) (a1 : Int32) (σ : sm_S) (h : sim0 σ v) : ∀ (d k : Nat) (a3 a4 : Int32) (v5 v6 : Value), a4.toInt = k → k + d = 8 → a3.toInt = ((lsN v a1 o k : Nat) : Int) → xE xF m_A_loose 23 [.ref 42, .int a1, .int a2, .int a3, .int a4, v5, v6] [] σ (sm_I (fun x _ => x = nI (lsN v a1 o 8))) := by
  intro d
  induction d with
  | zero =>
    intro k a3 a4 v5 v6 h4 hk h3
    have hk : k = 8 := by omega
    subst hk
    exact f_A_loose_23 a1 a2 a3 a4 v5 v6 σ _ ⟨fun _ => ⟨_, rfl, t_nI h3⟩, fun h => absurd (by rw [t_le, h4]; show (8 : Int) ≤ _; omega) h⟩
  | succ d ih =>
    intro k a3 a4 v5 v6 h4 hk h3
    have h4' : (a4 + 1).toInt = ((k + 1 : Nat) : Int) := by
      rw [t_add h4 (y := 1) rfl (by omega) (by omega)]
      omega
    have b := lsN_le v a1 o k
    have vv := t_vp (N := 8) h4 (by omega)
    refine f_A_loose_23 a1 a2 a3 a4 v5 v6 σ _ ⟨fun z => ?_, fun _ => ?_⟩
    · rw [t_le, h4] at z
      have z : (8 : Int) ≤ k := z
      omega
    · rw [t_nat h4, sim_zone h (by omega)]
      refine ⟨vv, fun q => ih (k + 1) a3 (a4 + 1) _ _ h4' (by omega) ?_, fun q => ⟨vv, (nw0 (c_starts h2 ho (σ 2 k) σ)).int ?_⟩⟩
      · rw [h3]
        show _ = ((lsN v a1 o k + (if zV v k = a1 then lsS v k o else 0) : Nat) : Int)
        rw [if_neg q]
        rfl
      · rintro x2 σ2 ⟨ex2, es2⟩
        rw [ex2, es2]
        refine (nw0 (c_bitCount2 (st (σ 2 k) o) σ)).int ?_
        rintro x4 σ4 ⟨ex4, es4⟩
        rw [es4]
        refine (nw0 (c_bitCount2 (σ 2 k) σ)).int ?_
        rintro x6 σ6 ⟨ex6, es6⟩
        rw [es6]
        have e := ls_eq h (show k < 8 by omega) ho
        have p6 := pc_le (σ 2 k)
        have p4 := pc_le (st (σ 2 k) o)
        have lS := lsS_le v k o
        have e4 : (x4 <<< (a2 &&& 31)).toInt = ((2 ^ o * pcn (st (σ 2 k) o) : Nat) : Int) := by
          rw [t_nI ex4, t_nI h2, sl_dec _ (by omega) o (by omega), Nat.mul_comm, nI_toInt (by omega)]
        refine ih (k + 1) _ (a4 + 1) _ _ h4' (by omega) ?_
        rw [t_add h3 (t_sub ex6 e4 (by omega) (by omega)) (by omega) (by omega)]
        show _ = ((lsN v a1 o k + (if zV v k = a1 then lsS v k o else 0) : Nat) : Int)
        rw [if_pos (Classical.not_not.mp q)]
        omega
theorem ky_loose {N : Nat} (a1 a2 : Int32) (σ : sm_S) (ht : tie True N σ (σ 169)) : ky j_A_loose j_M_loose [.ref 42, .int a1, .int a2] [.ref 0, .int a1, .int a2] σ := by
  have l0 : a2 < 0 ↔ a2.toInt < 0 := by rw [t_lt]; exact Iff.rfl
  have l5 : a2 ≤ 5 ↔ a2.toInt ≤ 5 := by rw [t_le]; exact Iff.rfl
  by_cases ok : (0 ≤ a1.toInt ∧ a1.toInt < 2) ∧ (0 ≤ a2.toInt ∧ a2.toInt ≤ 5)
  · obtain ⟨k1, k2⟩ := ok
    obtain ⟨o, ho⟩ := t_of k2.1
    refine ⟨nI (lsN (σ 169) a1 o 8), f_A_loose a1 a2 σ _ ((nw0 (e_isZoneX a1 σ)).int ?_), fun σ2 e2 => ?_⟩
    · rintro x2 σ1 ⟨hx2, es⟩
      rw [es]
      exact ⟨fun z => absurd k1 (hx2.b.1.mp z), fun _ => ⟨fun z => absurd (l0.mp z) (by omega), fun _ => ⟨fun _ => l_looseC2 ho (by omega) a1 σ ht.s 8 0 0 0 .null .null rfl rfl rfl, fun z => absurd (l5.mpr k2.2) z⟩⟩⟩
    · refine w_M_loose a1 a2 σ2 _ (fun σ1 e1 => (c_isInX (L := 0) (H := 1) rfl rfl a1 σ1).int ?_)
      obtain ⟨f1, -⟩ := told1 e2 e1
      rintro x3 σ3 ⟨hx3, es3⟩
      rw [es3]
      refine ⟨fun z => absurd ⟨k1.1, by omega⟩ (hx3.b.1.mp z), fun _ => (c_isInX (L := 0) (H := 5) rfl rfl a2 σ1).int ?_⟩
      rintro x5 σ5 ⟨hx5, es5⟩
      rw [es5]
      refine ⟨fun _ => ?_, fun z => absurd (hx5.b.2.mpr k2) z⟩
      refine (l_loose2 ho (by omega) a1 σ1 256 0 0 0 rfl rfl rfl).mono ?_
      rintro r σ7 ⟨x, e, hx, -⟩
      rw [f1, ls_256] at hx
      exact ⟨x, e, t_nI hx⟩
  · refine ⟨-1, f_A_loose a1 a2 σ _ ((nw0 (e_isZoneX a1 σ)).int ?_), fun σ2 e2 => ?_⟩
    · rintro x2 σ1 ⟨hx2, es⟩
      refine ⟨fun _ => an_ rfl, fun n2 => ⟨fun _ => an_ rfl, fun n0 => ⟨fun n5 => ?_, fun _ => an_ rfl⟩⟩⟩
      rw [l0] at n0
      exact absurd ⟨hx2.b.2.mp n2, by omega, l5.mp n5⟩ ok
    · refine w_M_loose a1 a2 σ2 _ (fun σ1 e1 => (c_isInX (L := 0) (H := 1) rfl rfl a1 σ1).int ?_)
      rintro x3 σ3 ⟨hx3, es3⟩
      rw [es3]
      refine ⟨fun _ => an_ rfl, fun n3 => (c_isInX (L := 0) (H := 5) rfl rfl a2 σ1).int ?_⟩
      rintro x5 σ5 ⟨hx5, es5⟩
      refine ⟨fun n5 => absurd ⟨?_, hx5.b.2.mp n5⟩ ok, fun _ => an_ rfl⟩
      have := hx3.b.2.mp n3
      omega
theorem ce_loose {B : Nat} (a1 a2 : Int32) (σ : sm_S) (hB : B < 1500000000) (h : LR B σ) : two (fun x y => x = y) j_A_loose j_M_loose [.ref 42, .int a1, .int a2] [.ref 168, .int a1, .int a2] B σ := by
  have h2 := h
  obtain ⟨hL, ⟨N, hN, ht⟩, -⟩ := h2
  exact CLk h (a_looseQ a1 a2 σ h.1.1) (fun σ1 q => m_loose a1 a2 σ1 hB q.2.1) (fun σ1 q => by
    obtain ⟨N, hN, hj⟩ := (lw_bs q.2.1).1
    exact qU (as := [.ref 0, .int a1, .int a2]) rfl (k_loose (N := N) a1 a2 (sh rM σ1) hj)) (asM := [.ref 0, .int a1, .int a2]) rfl (ky_loose a1 a2 σ ht.1)
end
section
/-! ===== the simulation: look answers the same ===== -/
theorem l_howMany2 {v : Nat → Int32} (σ : sm_S) (h : sim0 σ v) : ∀ (d k : Nat) (a b : Int32), b.toInt = k → k + d = 96 → ∃ r : Int32, xE xD m_B_howMany 4 [.ref 8, .int a, .int b] [] σ (sm_I (fun x σ' => x = r ∧ σ' = σ)) ∧ ∀ σ2 : sm_S, σ2 1 = v → xE xM m_M_blocks 4 [.ref 0, .int a, .int b] [] σ2 (sm_I (fun x σ' => x = r ∧ σ' = σ2)) := by
  intro d
  induction d with
  | zero =>
    intro k a b hb hk
    have l : (96 : Int32) ≤ b := by rw [t_le, hb]; show (96 : Int) ≤ _; omega
    exact ⟨a, d_B_howMany_4 a b σ _ ⟨fun _ => ⟨_, rfl, rfl, rfl⟩, fun z => absurd l z⟩, fun σ2 _ => w_M_blocks_4 a b σ2 _ ⟨fun _ => ⟨_, rfl, rfl, rfl⟩, fun z => absurd l z⟩⟩
  | succ d ih =>
    intro k a b hb hk
    have hb' : (b + 1).toInt = ((k + 1 : Nat) : Int) := by
      rw [t_add hb (y := 1) rfl (by omega) (by omega)]
      omega
    have l : ¬ (96 : Int32) ≤ b := by rw [t_le, hb]; show ¬ (96 : Int) ≤ _; omega
    have vv := t_vp (N := 96) hb (by omega)
    rcases h.B k (by omega) with ⟨g1, g2⟩ | ⟨g1, g2, -⟩
    · obtain ⟨r, r1, r2⟩ := ih (k + 1) (a + 0) (b + 1) hb' (by omega)
      refine ⟨r, d_B_howMany_4 a b σ _ ⟨fun z => absurd z l, fun _ => ?_⟩, fun σ2 e2 => w_M_blocks_4 a b σ2 _ ⟨fun z => absurd z l, fun _ => (c_of (k := 0) (j := 0) hb rfl (by omega) σ2).int ?_⟩⟩
      · rw [t_nat hb]
        exact ⟨vv, fun _ => r1, fun z => absurd g1 z⟩
      · rintro x2 σ3 ⟨ex2, es⟩
        rw [ex2, es, e2, g2]
        exact r2 σ2 e2
    · obtain ⟨r, r1, r2⟩ := ih (k + 1) (a + 1) (b + 1) hb' (by omega)
      refine ⟨r, d_B_howMany_4 a b σ _ ⟨fun z => absurd z l, fun _ => ?_⟩, fun σ2 e2 => w_M_blocks_4 a b σ2 _ ⟨fun z => absurd z l, fun _ => (c_of (k := 0) (j := 0) hb rfl (by omega) σ2).int ?_⟩⟩
      · rw [t_nat hb]
        exact ⟨vv, fun z => absurd z g1, fun _ => r1⟩
      · rintro x2 σ3 ⟨ex2, es⟩
        rw [ex2, es, e2, g2]
        exact r2 σ2 e2
theorem l_waits2 {v : Nat → Int32} (σ : sm_S) (h : sim0 σ v) (hk : kk σ) : ∀ (d k : Nat) (a b : Int32), b.toInt = k → k + d = 6 → ∃ r : Int32, xE xD m_K_waitingSet 4 [.ref 26, .int a, .int b] [] σ (sm_I (fun x σ' => x = r ∧ σ' = σ)) ∧ ∀ σ2 : sm_S, σ2 1 = v → xE xM m_M_waiters 4 [.ref 0, .int a, .int b] [] σ2 (sm_I (fun x σ' => x = r ∧ σ' = σ2)) := by
  intro d
  induction d with
  | zero =>
    intro k a b hb hkd
    have l : (6 : Int32) ≤ b := by rw [t_le, hb]; show (6 : Int) ≤ _; omega
    exact ⟨a, d_K_waitingSet_4 a b σ _ ⟨fun _ => ⟨_, rfl, rfl, rfl⟩, fun z => absurd l z⟩, fun σ2 _ => w_M_waiters_4 a b σ2 _ ⟨fun _ => ⟨_, rfl, rfl, rfl⟩, fun z => absurd l z⟩⟩
  | succ d ih =>
    intro k a b hb hkd
    have hb' : (b + 1).toInt = ((k + 1 : Nat) : Int) := by
      rw [t_add hb (y := 1) rfl (by omega) (by omega)]
      omega
    have l : ¬ (6 : Int32) ≤ b := by rw [t_le, hb]; show ¬ (6 : Int) ≤ _; omega
    have vv := t_vp (N := 6) hb (by omega)
    have w := t_wt hk h (show k < 6 by omega)
    have ix := t_ix (c := 2322) (m := 6) (C := 2322) (M := 6) (k := 1) (j := 1) rfl rfl hb rfl (by omega)
    obtain ⟨r, r1, r2⟩ := ih (k + 1) (if σ 28 k = -1 then a else a ||| ((1 : Int32) <<< (b &&& 31))) (b + 1) hb' (by omega)
    refine ⟨r, d_K_waitingSet_4 a b σ _ ⟨fun z => absurd z l, fun _ => ?_⟩, fun σ2 e2 => w_M_waiters_4 a b σ2 _ ⟨fun z => absurd z l, fun _ => (c_taskAt b σ2).int ?_⟩⟩
    · rw [t_nat hb, show a ||| 0 = a from Int32.or_zero]
      refine ⟨vv, fun z => ?_, fun z => ?_⟩
      · rw [if_pos z] at r1
        exact r1
      · rw [if_neg z] at r1
        exact r1
    · rintro x2 σ3 ⟨ex2, es⟩
      rw [ex2, es, t_nat ix, e2]
      refine ⟨t_vp ix (by omega), fun z => ?_, fun z => ?_⟩
      · rw [if_pos (w.mp z)] at r2
        exact r2 σ2 e2
      · rw [if_neg (fun y => z (w.mpr y))] at r2
        exact r2 σ2 e2
theorem l_goes3 {v : Nat → Int32} (σ : sm_S) (h : sim0 σ v) (hg : ∀ s, s < 8 → (v (2358 + 8 * s) < 2 ↔ ¬ (σ 18 s = 2 ∨ σ 18 s = 3))) : ∀ (d k : Nat) (a b : Int32), b.toInt = k → k + d = 8 → ∃ r : Int32, xE xD m_S_goingSet 4 [.ref 17, .int a, .int b] [] σ (sm_I (fun x σ' => x = r ∧ σ' = σ)) ∧ ∀ σ2 : sm_S, σ2 1 = v → xE xM m_M_goers 4 [.ref 0, .int a, .int b] [] σ2 (sm_I (fun x σ' => x = r ∧ σ' = σ2)) := by
  intro d
  induction d with
  | zero =>
    intro k a b hb hk
    have l : (8 : Int32) ≤ b := by rw [t_le, hb]; show (8 : Int) ≤ _; omega
    exact ⟨a, d_S_goingSet_4 a b σ _ ⟨fun _ => ⟨_, rfl, rfl, rfl⟩, fun z => absurd l z⟩, fun σ2 _ => w_M_goers_4 a b σ2 _ ⟨fun _ => ⟨_, rfl, rfl, rfl⟩, fun z => absurd l z⟩⟩
  | succ d ih =>
    intro k a b hb hk
    have hb' : (b + 1).toInt = ((k + 1 : Nat) : Int) := by
      rw [t_add hb (y := 1) rfl (by omega) (by omega)]
      omega
    have l : ¬ (8 : Int32) ≤ b := by rw [t_le, hb]; show ¬ (8 : Int) ≤ _; omega
    have vv := t_vp (N := 8) hb (by omega)
    have w := hg k (by omega)
    by_cases q : σ 18 k = 2 ∨ σ 18 k = 3
    · obtain ⟨r, r1, r2⟩ := ih (k + 1) (a ||| ((1 : Int32) <<< (b &&& 31))) (b + 1) hb' (by omega)
      refine ⟨r, d_S_goingSet_4 a b σ _ ⟨fun z => absurd z l, fun _ => (e_isGoing2 hb (by omega) σ).int ?_⟩, fun σ2 e2 => w_M_goers_4 a b σ2 _ ⟨fun z => absurd z l, fun _ => (c_isGoing hb (by omega) σ2).int ?_⟩⟩
      · rintro x2 σ3 ⟨hx2, es⟩
        rw [es]
        exact ⟨fun z => absurd q (hx2.b.1.mp z), fun _ => r1⟩
      · rintro x2 σ3 ⟨hx2, es⟩
        rw [e2] at hx2
        rw [es]
        refine ⟨fun z => ?_, fun _ => r2 σ2 e2⟩
        rcases hx2 with ⟨-, y⟩ | ⟨y, -⟩
        · exact absurd q (w.mp y)
        · rw [y] at z; exact absurd z (by decide)
    · obtain ⟨r, r1, r2⟩ := ih (k + 1) a (b + 1) hb' (by omega)
      refine ⟨r, d_S_goingSet_4 a b σ _ ⟨fun z => absurd z l, fun _ => (e_isGoing2 hb (by omega) σ).int ?_⟩, fun σ2 e2 => w_M_goers_4 a b σ2 _ ⟨fun z => absurd z l, fun _ => (c_isGoing hb (by omega) σ2).int ?_⟩⟩
      · rintro x2 σ3 ⟨hx2, es⟩
        rw [es, show a ||| 0 = a from Int32.or_zero]
        exact ⟨fun _ => r1, fun z => absurd (hx2.b.2.mp z) q⟩
      · rintro x2 σ3 ⟨hx2, es⟩
        rw [e2] at hx2
        rw [es]
        refine ⟨fun _ => r2 σ2 e2, fun z => ?_⟩
        rcases hx2 with ⟨y, -⟩ | ⟨-, y⟩
        · exact absurd y z
        · exact absurd (w.mpr q) y
theorem l_bits2 {v : Nat → Int32} (σ : sm_S) (h : sim0 σ v) : ∀ (d k : Nat) (a b : Int32) (v5 : Value), b.toInt = k → k + d = 8 → ∃ r : Int32, xE xF m_R_bitsIn 10 [.ref 2, .int a, .ref 2, .int 8, .int b, v5] [] σ (sm_I (fun x σ' => x = r ∧ σ' = σ)) ∧ ∀ σ2 : sm_S, σ2 1 = v → xE xM m_M_framesIn 4 [.ref 0, .int 1, .int a, .int b] [] σ2 (sm_I (fun x σ' => x = r ∧ σ' = σ2)) := by
  intro d
  induction d with
  | zero =>
    intro k a b v5 hb hk
    have l : (8 : Int32) ≤ b := by rw [t_le, hb]; show (8 : Int) ≤ _; omega
    exact ⟨a, f_R_bitsIn2_10 a 8 b v5 σ _ ⟨fun _ => ⟨_, rfl, rfl, rfl⟩, fun z => absurd l z⟩, fun σ2 _ => w_M_framesIn_4 1 a b σ2 _ ⟨fun _ => ⟨_, rfl, rfl, rfl⟩, fun z => absurd l z⟩⟩
  | succ d ih =>
    intro k a b v5 hb hk
    have hb' : (b + 1).toInt = ((k + 1 : Nat) : Int) := by
      rw [t_add hb (y := 1) rfl (by omega) (by omega)]
      omega
    have l : ¬ (8 : Int32) ≤ b := by rw [t_le, hb]; show ¬ (8 : Int) ≤ _; omega
    have vv := t_vp (N := 8) hb (by omega)
    have e := (pc_fr h (show k < 8 by omega)).1
    obtain ⟨r, r1, r2⟩ := ih (k + 1) (a + nI (cnS v k 1)) (b + 1) (.int (σ 2 k)) hb' (by omega)
    refine ⟨r, f_R_bitsIn2_10 a 8 b v5 σ _ ⟨fun z => absurd z l, fun _ => ⟨vv, ?_⟩⟩, fun σ2 e2 => w_M_framesIn_4 1 a b σ2 _ ⟨fun z => absurd z l, fun _ => (c_manyIn2 hb (by omega) 1 σ2).int ?_⟩⟩
    · rw [t_nat hb]
      refine (nw0 (c_bitCount2 (σ 2 k) σ)).int ?_
      rintro x2 σ3 ⟨ex2, es⟩
      rw [e] at ex2
      rw [t_nI ex2, es]
      exact r1
    · rintro x2 σ3 ⟨ex2, es⟩
      rw [e2] at ex2
      rw [t_nI ex2, es]
      exact r2 σ2 e2
theorem l_bits3 {v : Nat → Int32} (σ : sm_S) (h : sim0 σ v) : ∀ (d k : Nat) (a b : Int32) (v5 : Value), b.toInt = k → k + d = 8 → ∃ r : Int32, xE xF m_R_bitsIn 10 [.ref 3, .int a, .ref 3, .int 8, .int b, v5] [] σ (sm_I (fun x σ' => x = r ∧ σ' = σ)) ∧ ∀ σ2 : sm_S, σ2 1 = v → xE xM m_M_framesIn 4 [.ref 0, .int 2, .int a, .int b] [] σ2 (sm_I (fun x σ' => x = r ∧ σ' = σ2)) := by
  intro d
  induction d with
  | zero =>
    intro k a b v5 hb hk
    have l : (8 : Int32) ≤ b := by rw [t_le, hb]; show (8 : Int) ≤ _; omega
    exact ⟨a, f_R_bitsIn3_10 a 8 b v5 σ _ ⟨fun _ => ⟨_, rfl, rfl, rfl⟩, fun z => absurd l z⟩, fun σ2 _ => w_M_framesIn_4 2 a b σ2 _ ⟨fun _ => ⟨_, rfl, rfl, rfl⟩, fun z => absurd l z⟩⟩
  | succ d ih =>
    intro k a b v5 hb hk
    have hb' : (b + 1).toInt = ((k + 1 : Nat) : Int) := by
      rw [t_add hb (y := 1) rfl (by omega) (by omega)]
      omega
    have l : ¬ (8 : Int32) ≤ b := by rw [t_le, hb]; show ¬ (8 : Int) ≤ _; omega
    have vv := t_vp (N := 8) hb (by omega)
    have e := (pc_fr h (show k < 8 by omega)).2.1
    obtain ⟨r, r1, r2⟩ := ih (k + 1) (a + nI (cnS v k 2)) (b + 1) (.int (σ 3 k)) hb' (by omega)
    refine ⟨r, f_R_bitsIn3_10 a 8 b v5 σ _ ⟨fun z => absurd z l, fun _ => ⟨vv, ?_⟩⟩, fun σ2 e2 => w_M_framesIn_4 2 a b σ2 _ ⟨fun z => absurd z l, fun _ => (c_manyIn2 hb (by omega) 2 σ2).int ?_⟩⟩
    · rw [t_nat hb]
      refine (nw0 (c_bitCount2 (σ 3 k) σ)).int ?_
      rintro x2 σ3 ⟨ex2, es⟩
      rw [e] at ex2
      rw [t_nI ex2, es]
      exact r1
    · rintro x2 σ3 ⟨ex2, es⟩
      rw [e2] at ex2
      rw [t_nI ex2, es]
      exact r2 σ2 e2
theorem l_bits4 {v : Nat → Int32} (σ : sm_S) (h : sim0 σ v) : ∀ (d k : Nat) (a b : Int32) (v5 : Value), b.toInt = k → k + d = 8 → ∃ r : Int32, xE xF m_R_bitsIn 10 [.ref 4, .int a, .ref 4, .int 8, .int b, v5] [] σ (sm_I (fun x σ' => x = r ∧ σ' = σ)) ∧ ∀ σ2 : sm_S, σ2 1 = v → xE xM m_M_framesIn 4 [.ref 0, .int 3, .int a, .int b] [] σ2 (sm_I (fun x σ' => x = r ∧ σ' = σ2)) := by
  intro d
  induction d with
  | zero =>
    intro k a b v5 hb hk
    have l : (8 : Int32) ≤ b := by rw [t_le, hb]; show (8 : Int) ≤ _; omega
    exact ⟨a, f_R_bitsIn4_10 a 8 b v5 σ _ ⟨fun _ => ⟨_, rfl, rfl, rfl⟩, fun z => absurd l z⟩, fun σ2 _ => w_M_framesIn_4 3 a b σ2 _ ⟨fun _ => ⟨_, rfl, rfl, rfl⟩, fun z => absurd l z⟩⟩
  | succ d ih =>
    intro k a b v5 hb hk
    have hb' : (b + 1).toInt = ((k + 1 : Nat) : Int) := by
      rw [t_add hb (y := 1) rfl (by omega) (by omega)]
      omega
    have l : ¬ (8 : Int32) ≤ b := by rw [t_le, hb]; show ¬ (8 : Int) ≤ _; omega
    have vv := t_vp (N := 8) hb (by omega)
    have e := (pc_fr h (show k < 8 by omega)).2.2.1
    obtain ⟨r, r1, r2⟩ := ih (k + 1) (a + nI (cnS v k 3)) (b + 1) (.int (σ 4 k)) hb' (by omega)
    refine ⟨r, f_R_bitsIn4_10 a 8 b v5 σ _ ⟨fun z => absurd z l, fun _ => ⟨vv, ?_⟩⟩, fun σ2 e2 => w_M_framesIn_4 3 a b σ2 _ ⟨fun z => absurd z l, fun _ => (c_manyIn2 hb (by omega) 3 σ2).int ?_⟩⟩
    · rw [t_nat hb]
      refine (nw0 (c_bitCount2 (σ 4 k) σ)).int ?_
      rintro x2 σ3 ⟨ex2, es⟩
      rw [e] at ex2
      rw [t_nI ex2, es]
      exact r1
    · rintro x2 σ3 ⟨ex2, es⟩
      rw [e2] at ex2
      rw [t_nI ex2, es]
      exact r2 σ2 e2
theorem l_bits5 {v : Nat → Int32} (σ : sm_S) (h : sim0 σ v) : ∀ (d k : Nat) (a b : Int32) (v5 : Value), b.toInt = k → k + d = 8 → ∃ r : Int32, xE xF m_R_bitsIn 10 [.ref 5, .int a, .ref 5, .int 8, .int b, v5] [] σ (sm_I (fun x σ' => x = r ∧ σ' = σ)) ∧ ∀ σ2 : sm_S, σ2 1 = v → xE xM m_M_framesIn 4 [.ref 0, .int 4, .int a, .int b] [] σ2 (sm_I (fun x σ' => x = r ∧ σ' = σ2)) := by
  intro d
  induction d with
  | zero =>
    intro k a b v5 hb hk
    have l : (8 : Int32) ≤ b := by rw [t_le, hb]; show (8 : Int) ≤ _; omega
    exact ⟨a, f_R_bitsIn5_10 a 8 b v5 σ _ ⟨fun _ => ⟨_, rfl, rfl, rfl⟩, fun z => absurd l z⟩, fun σ2 _ => w_M_framesIn_4 4 a b σ2 _ ⟨fun _ => ⟨_, rfl, rfl, rfl⟩, fun z => absurd l z⟩⟩
  | succ d ih =>
    intro k a b v5 hb hk
    have hb' : (b + 1).toInt = ((k + 1 : Nat) : Int) := by
      rw [t_add hb (y := 1) rfl (by omega) (by omega)]
      omega
    have l : ¬ (8 : Int32) ≤ b := by rw [t_le, hb]; show ¬ (8 : Int) ≤ _; omega
    have vv := t_vp (N := 8) hb (by omega)
    have e := (pc_fr h (show k < 8 by omega)).2.2.2
    obtain ⟨r, r1, r2⟩ := ih (k + 1) (a + nI (cnS v k 4)) (b + 1) (.int (σ 5 k)) hb' (by omega)
    refine ⟨r, f_R_bitsIn5_10 a 8 b v5 σ _ ⟨fun z => absurd z l, fun _ => ⟨vv, ?_⟩⟩, fun σ2 e2 => w_M_framesIn_4 4 a b σ2 _ ⟨fun z => absurd z l, fun _ => (c_manyIn2 hb (by omega) 4 σ2).int ?_⟩⟩
    · rw [t_nat hb]
      refine (nw0 (c_bitCount2 (σ 5 k) σ)).int ?_
      rintro x2 σ3 ⟨ex2, es⟩
      rw [e] at ex2
      rw [t_nI ex2, es]
      exact r1
    · rintro x2 σ3 ⟨ex2, es⟩
      rw [e2] at ex2
      rw [t_nI ex2, es]
      exact r2 σ2 e2
theorem z0_cn {v : Nat → Int32} (h : z0_ok v) : 1 ≤ cnZ v 0 := by
  obtain ⟨s, hs, h1, h2⟩ := h
  have ez : zV v s = 0 := by
    unfold zV
    rw [if_neg (by have h1 : v (2358 + 8 * s) = 1 := h1; rw [h1]; decide)]
    exact h2
  have := sumN_lt (F := fun _ => 0) (G := fun s => if zV v s = 0 then 1 else 0) (j := s) (by show 0 < if zV v s = 0 then 1 else 0; rw [if_pos ez]; omega) hs (fun i _ => Nat.zero_le _)
  unfold cnZ
  omega
theorem ky_look {N : Nat} (a1 : Int32) (σ : sm_S) (ht : tie True N σ (σ 169)) (hj : jj N (σ 169)) (hk : kk σ) : ky j_A_look j_M_look [.ref 42, .int a1] [.ref 0, .int a1] σ := by
  have h4 : (4 : Int32).toNatClampNeg = 4 := rfl
  have h5 : (5 : Int32).toNatClampNeg = 5 := rfl
  have v4 : vp_in (4 : Int32) 2662 := t_vp (n := 4) rfl (by decide)
  have v5 : vp_in (5 : Int32) 2662 := t_vp (n := 5) rfl (by decide)
  have hN := ht.s.N
  have hl := ht.l trivial
  have c0 := z0_cn hj.2.1.2.2.2.2
  have l0 := cnZ_le (σ 169) 0
  have l1 := cnZ_le (σ 169) 1
  have hg : ∀ s, s < 8 → (σ 169 (2358 + 8 * s) < 2 ↔ ¬ (σ 18 s = 2 ∨ σ 18 s = 3)) := fun s hs => by
    obtain ⟨st, pt, at', q, g1, g2, -⟩ := hj.2.1.2.2.1 s hs
    have e : σ 169 (2358 + 8 * s) = σ 18 s := (ht.s.S s hs).sta
    have g1 : (σ 169 (2358 + 8 * s)).toInt = st := g1
    rw [e] at g1 ⊢
    rw [t_lt, g1]
    refine ⟨fun z => ?_, fun z => ?_⟩
    · have z : (st : Int) < 2 := z
      rintro (w | w) <;> rw [w] at g1
      · have g1 : (2 : Int) = st := g1
        omega
      · have g1 : (3 : Int) = st := g1
        omega
    · show (st : Int) < 2
      refine Classical.byContradiction (fun w => z ?_)
      rcases (show (st : Int) = 2 ∨ (st : Int) = 3 by omega) with y | y
      · exact Or.inl (t_inj (by rw [g1, y]; rfl))
      · exact Or.inr (t_inj (by rw [g1, y]; rfl))
  obtain ⟨rb, b1, b2⟩ := l_howMany2 σ ht.s 96 0 0 0 rfl rfl
  obtain ⟨rw', w1, w2⟩ := l_waits2 σ ht.s hk 6 0 0 0 rfl rfl
  obtain ⟨rg, g1, g2⟩ := l_goes3 σ ht.s hg 8 0 0 0 rfl rfl
  obtain ⟨r2, p21, p22⟩ := l_bits2 σ ht.s 8 0 0 0 .null rfl rfl
  obtain ⟨r3, p31, p32⟩ := l_bits3 σ ht.s 8 0 0 0 .null rfl rfl
  obtain ⟨r4, p41, p42⟩ := l_bits4 σ ht.s 8 0 0 0 .null rfl rfl
  obtain ⟨r5, p51, p52⟩ := l_bits5 σ ht.s 8 0 0 0 .null rfl rfl
  have bitsC : ∀ {K : Nat} {r : Int32}, xC xF j_R_bitsIn [.ref K] σ (sm_I (fun x σ' => x = r ∧ σ' = σ)) → xC xF j_R_bitsIn [.ref K] σ (sm_ri False (fun x σ' => sm_I (fun x _ => x = r) (some (.int x)) σ')) := fun h => h.int (fun x _ e => ⟨x, rfl, e.1⟩)
  have mbn : xC xF j_A_movableByNormal [.ref 42] σ (sm_ri False (fun x σ' => sm_I (fun x _ => x = nI (100 * cnZ (σ 169) 1 / cnZ (σ 169) 0)) (some (.int x)) σ')) := by
    have : xC xF j_A_movableByNormal [.ref 42] σ (sm_I (fun x _ => x = nI (100 * cnZ (σ 169) 1 / cnZ (σ 169) 0))) := by
      refine f_A_movableByNormal σ _ ((nw0 (e_inZone2 0 ht.s)).int ?_)
      rintro x2 σ1 ⟨ex2, es⟩
      rw [es]
      have n2 : x2 ≠ 0 := fun z => by
        rw [z] at ex2
        have ex2 : (0 : Int) = _ := ex2
        omega
      refine ⟨fun _ => (nw0 (e_inZone2 1 ht.s)).int ?_, fun z => absurd n2 z⟩
      rintro x4 σ3 ⟨ex4, es3⟩
      refine ⟨n2, an_ (t_nI ?_)⟩
      have em : (100 * x4).toInt = ((100 * cnZ (σ 169) 1 : Nat) : Int) := by
        rw [t_mul (x := 100) rfl ex4 (by omega) (by omega)]
        omega
      exact t_div em ex2 (by omega)
    exact this.mono (by rintro r σ' ⟨x, rfl, hx⟩; exact ⟨x, rfl, hx⟩)
  by_cases k1 : 0 ≤ a1.toInt ∧ a1.toInt < 15
  · rcases cs15 k1 with q | q | q | q | q | q | q | q | q | q | q | q | q | q | q
    · subst q
      refine ⟨σ 169 0 + 4, f_A_look 0 σ _ ⟨fun z => absurd z (by decide), fun _ => ⟨fun z => absurd z (by decide), fun _ => ⟨t_vp (n := 0) rfl (by decide), an_ hN.rat⟩⟩⟩, fun σ2 e2 => ?_⟩
      refine w_M_look 0 σ2 _ (fun σ1 e1 => (c_isInX (L := 0) (H := 3) rfl rfl 0 σ1).int ?_)
      obtain ⟨f1, -⟩ := told1 e2 e1
      rintro x3 σ3 ⟨hx3, es3⟩
      rw [es3, h4, h5]
      refine ⟨fun z => absurd (by decide) (hx3.b.1.mp z), fun _ => anM ?_⟩
      have fo : xC xM j_M_firstOf [.ref 0, .int 0] σ1 (sm_I (fun x σ' => x = 4 ∧ σ' = σ1)) := w_M_firstOf 0 σ1 _ ⟨fun z => absurd rfl z, fun _ => ⟨_, rfl, rfl, rfl⟩⟩
      refine w_M_settingOf 0 σ1 _ ⟨t_vp (n := 0) rfl (by decide), fo.int ?_⟩
      rintro x σ4 ⟨ex, es4⟩
      rw [ex, es4]
      exact ⟨_, rfl, by rw [show (0 : Int32).toNatClampNeg = 0 from rfl, f1], rfl⟩
    · subst q
      refine ⟨σ 169 1 + 3, f_A_look 1 σ _ ⟨fun z => absurd z (by decide), fun _ => ⟨fun z => absurd z (by decide), fun _ => ⟨t_vp (n := 1) rfl (by decide), an_ hN.tri⟩⟩⟩, fun σ2 e2 => ?_⟩
      refine w_M_look 1 σ2 _ (fun σ1 e1 => (c_isInX (L := 0) (H := 3) rfl rfl 1 σ1).int ?_)
      obtain ⟨f1, -⟩ := told1 e2 e1
      rintro x3 σ3 ⟨hx3, es3⟩
      rw [es3, h4, h5]
      refine ⟨fun z => absurd (by decide) (hx3.b.1.mp z), fun _ => anM ?_⟩
      have fo : xC xM j_M_firstOf [.ref 0, .int 1] σ1 (sm_I (fun x σ' => x = 3 ∧ σ' = σ1)) := w_M_firstOf 1 σ1 _ ⟨fun _ => ⟨fun z => absurd rfl z, fun _ => ⟨_, rfl, rfl, rfl⟩⟩, fun z => absurd (by decide) z⟩
      refine w_M_settingOf 1 σ1 _ ⟨t_vp (n := 1) rfl (by decide), fo.int ?_⟩
      rintro x σ4 ⟨ex, es4⟩
      rw [ex, es4]
      exact ⟨_, rfl, by rw [show (1 : Int32).toNatClampNeg = 1 from rfl, f1], rfl⟩
    · subst q
      refine ⟨σ 169 2 + 150, f_A_look 2 σ _ ⟨fun z => absurd z (by decide), fun _ => ⟨fun z => absurd z (by decide), fun _ => ⟨t_vp (n := 2) rfl (by decide), an_ hN.rto⟩⟩⟩, fun σ2 e2 => ?_⟩
      refine w_M_look 2 σ2 _ (fun σ1 e1 => (c_isInX (L := 0) (H := 3) rfl rfl 2 σ1).int ?_)
      obtain ⟨f1, -⟩ := told1 e2 e1
      rintro x3 σ3 ⟨hx3, es3⟩
      rw [es3, h4, h5]
      refine ⟨fun z => absurd (by decide) (hx3.b.1.mp z), fun _ => anM ?_⟩
      have fo : xC xM j_M_firstOf [.ref 0, .int 2] σ1 (sm_I (fun x σ' => x = 150 ∧ σ' = σ1)) := w_M_firstOf 2 σ1 _ ⟨fun _ => ⟨fun _ => ⟨fun z => absurd rfl z, fun _ => ⟨_, rfl, rfl, rfl⟩⟩, fun z => absurd (by decide) z⟩, fun z => absurd (by decide) z⟩
      refine w_M_settingOf 2 σ1 _ ⟨t_vp (n := 2) rfl (by decide), fo.int ?_⟩
      rintro x σ4 ⟨ex, es4⟩
      rw [ex, es4]
      exact ⟨_, rfl, by rw [show (2 : Int32).toNatClampNeg = 2 from rfl, f1], rfl⟩
    · subst q
      refine ⟨σ 169 3 + 2, f_A_look 3 σ _ ⟨fun z => absurd z (by decide), fun _ => ⟨fun z => absurd z (by decide), fun _ => ⟨t_vp (n := 3) rfl (by decide), an_ hN.pau⟩⟩⟩, fun σ2 e2 => ?_⟩
      refine w_M_look 3 σ2 _ (fun σ1 e1 => (c_isInX (L := 0) (H := 3) rfl rfl 3 σ1).int ?_)
      obtain ⟨f1, -⟩ := told1 e2 e1
      rintro x3 σ3 ⟨hx3, es3⟩
      rw [es3, h4, h5]
      refine ⟨fun z => absurd (by decide) (hx3.b.1.mp z), fun _ => anM ?_⟩
      have fo : xC xM j_M_firstOf [.ref 0, .int 3] σ1 (sm_I (fun x σ' => x = 2 ∧ σ' = σ1)) := w_M_firstOf 3 σ1 _ ⟨fun _ => ⟨fun _ => ⟨fun _ => ⟨_, rfl, rfl, rfl⟩, fun z => absurd (by decide) z⟩, fun z => absurd (by decide) z⟩, fun z => absurd (by decide) z⟩
      refine w_M_settingOf 3 σ1 _ ⟨t_vp (n := 3) rfl (by decide), fo.int ?_⟩
      rintro x σ4 ⟨ex, es4⟩
      rw [ex, es4]
      exact ⟨_, rfl, by rw [show (3 : Int32).toNatClampNeg = 3 from rfl, f1], rfl⟩
    · subst q
      refine ⟨σ 169 4, f_A_look 4 σ _ ⟨fun z => absurd z (by decide), fun _ => ⟨fun _ => ⟨fun _ => an_ hN.tic, fun z => absurd rfl z⟩, fun z => absurd (by decide) z⟩⟩, fun σ2 e2 => ?_⟩
      refine w_M_look 4 σ2 _ (fun σ1 e1 => (c_isInX (L := 0) (H := 3) rfl rfl 4 σ1).int ?_)
      obtain ⟨f1, -⟩ := told1 e2 e1
      rintro x3 σ3 ⟨hx3, es3⟩
      rw [es3, h4, h5]
      refine ⟨fun _ => ?_, fun z => absurd (hx3.b.2.mp z) (by decide)⟩
      exact ⟨fun z => absurd rfl z, fun _ => ⟨v4, an_ (by rw [f1])⟩⟩
    · subst q
      refine ⟨rb, f_A_look 5 σ _ ⟨fun z => absurd z (by decide), fun _ => ⟨fun _ => ⟨fun z => absurd z (by decide), fun _ => ⟨fun _ => anC (d_B_howMany σ _ b1), fun z => absurd rfl z⟩⟩, fun z => absurd (by decide) z⟩⟩, fun σ2 e2 => ?_⟩
      refine w_M_look 5 σ2 _ (fun σ1 e1 => (c_isInX (L := 0) (H := 3) rfl rfl 5 σ1).int ?_)
      obtain ⟨f1, -⟩ := told1 e2 e1
      rintro x3 σ3 ⟨hx3, es3⟩
      rw [es3, h4, h5]
      refine ⟨fun _ => ?_, fun z => absurd (hx3.b.2.mp z) (by decide)⟩
      exact ⟨fun _ => ⟨fun z => absurd rfl z, fun _ => anM (w_M_blocks σ1 _ (b2 σ1 f1))⟩, fun z => absurd (by decide) z⟩
    · subst q
      refine ⟨nI (cnZ (σ 169) 0 + cnZ (σ 169) 1), f_A_look 6 σ _ ⟨fun z => absurd z (by decide), fun _ => ⟨fun _ => ⟨fun z => absurd z (by decide), fun _ => ⟨fun z => absurd z (by decide), fun _ => ⟨fun _ => (nw0 (e_inZone2 0 ht.s)).int (by
        rintro x2 σ1 ⟨ex2, es⟩
        rw [es]
        refine (nw0 (e_inZone2 1 ht.s)).int ?_
        rintro x4 σ3 ⟨ex4, es3⟩
        exact an_ (t_nI (n := cnZ (σ 169) 0 + cnZ (σ 169) 1) (by rw [t_add ex2 ex4 (by omega) (by omega)]; omega))), fun z => absurd rfl z⟩⟩⟩, fun z => absurd (by decide) z⟩⟩, fun σ2 e2 => ?_⟩
      refine w_M_look 6 σ2 _ (fun σ1 e1 => (c_isInX (L := 0) (H := 3) rfl rfl 6 σ1).int ?_)
      obtain ⟨f1, -⟩ := told1 e2 e1
      rintro x3 σ3 ⟨hx3, es3⟩
      rw [es3, h4, h5]
      refine ⟨fun _ => ?_, fun z => absurd (hx3.b.2.mp z) (by decide)⟩
      exact ⟨fun _ => ⟨fun _ => ⟨fun z => absurd rfl z, fun _ => (c_framesOf2 0 σ1).int (by
        rintro x17 σ16 ⟨ex17, es16⟩
        rw [es16]
        refine (c_framesOf2 1 σ1).int ?_
        rintro x19 σ18 ⟨ex19, es18⟩
        rw [f1] at ex17 ex19
        refine ⟨by decide, an_ (t_nI ?_)⟩
        have es : (x17 + x19).toInt = ((32 * (cnZ (σ 169) 0 + cnZ (σ 169) 1) : Nat) : Int) := by
          rw [t_add ex17 ex19 (by omega) (by omega)]
          omega
        rw [t_div es (d := 32) rfl (by decide), Nat.mul_div_cancel_left _ (by decide)])⟩, fun z => absurd (by decide) z⟩, fun z => absurd (by decide) z⟩
    · subst q
      refine ⟨r2, f_A_look 7 σ _ ⟨fun z => absurd z (by decide), fun _ => ⟨fun _ => ⟨fun z => absurd z (by decide), fun _ => ⟨fun z => absurd z (by decide), fun _ => ⟨fun z => absurd z (by decide), fun _ => ⟨fun _ => bitsC (f_R_bitsIn2 σ _ (p21 : xE xF m_R_bitsIn 10 [.ref 2, .int 0, .ref 2, .int 8, .int 0, .null] [] σ _)), fun z => absurd rfl z⟩⟩⟩⟩, fun z => absurd (by decide) z⟩⟩, fun σ2 e2 => ?_⟩
      refine w_M_look 7 σ2 _ (fun σ1 e1 => (c_isInX (L := 0) (H := 3) rfl rfl 7 σ1).int ?_)
      obtain ⟨f1, -⟩ := told1 e2 e1
      rintro x3 σ3 ⟨hx3, es3⟩
      rw [es3, h4, h5]
      refine ⟨fun _ => ?_, fun z => absurd (hx3.b.2.mp z) (by decide)⟩
      refine ⟨fun _ => ⟨fun _ => ⟨fun _ => (c_isInX (L := 7) (H := 10) rfl rfl 7 σ1).int ?_, fun z => absurd (by decide) z⟩, fun z => absurd (by decide) z⟩, fun z => absurd (by decide) z⟩
      rintro x5 σ5 ⟨hx5, es5⟩
      rw [es5]
      exact ⟨fun z => absurd (by decide) (hx5.b.1.mp z), fun _ => anM (w_M_framesIn 1 σ1 _ (p22 σ1 f1))⟩
    · subst q
      refine ⟨r3, f_A_look 8 σ _ ⟨fun z => absurd z (by decide), fun _ => ⟨fun _ => ⟨fun z => absurd z (by decide), fun _ => ⟨fun z => absurd z (by decide), fun _ => ⟨fun z => absurd z (by decide), fun _ => ⟨fun z => absurd z (by decide), fun _ => ⟨fun _ => bitsC (f_R_bitsIn3 σ _ (p31 : xE xF m_R_bitsIn 10 [.ref 3, .int 0, .ref 3, .int 8, .int 0, .null] [] σ _)), fun z => absurd rfl z⟩⟩⟩⟩⟩, fun z => absurd (by decide) z⟩⟩, fun σ2 e2 => ?_⟩
      refine w_M_look 8 σ2 _ (fun σ1 e1 => (c_isInX (L := 0) (H := 3) rfl rfl 8 σ1).int ?_)
      obtain ⟨f1, -⟩ := told1 e2 e1
      rintro x3 σ3 ⟨hx3, es3⟩
      rw [es3, h4, h5]
      refine ⟨fun _ => ?_, fun z => absurd (hx3.b.2.mp z) (by decide)⟩
      refine ⟨fun _ => ⟨fun _ => ⟨fun _ => (c_isInX (L := 7) (H := 10) rfl rfl 8 σ1).int ?_, fun z => absurd (by decide) z⟩, fun z => absurd (by decide) z⟩, fun z => absurd (by decide) z⟩
      rintro x5 σ5 ⟨hx5, es5⟩
      rw [es5]
      exact ⟨fun z => absurd (by decide) (hx5.b.1.mp z), fun _ => anM (w_M_framesIn 2 σ1 _ (p32 σ1 f1))⟩
    · subst q
      refine ⟨r4, f_A_look 9 σ _ ⟨fun z => absurd z (by decide), fun _ => ⟨fun _ => ⟨fun z => absurd z (by decide), fun _ => ⟨fun z => absurd z (by decide), fun _ => ⟨fun z => absurd z (by decide), fun _ => ⟨fun z => absurd z (by decide), fun _ => ⟨fun z => absurd z (by decide), fun _ => ⟨fun _ => bitsC (f_R_bitsIn4 σ _ (p41 : xE xF m_R_bitsIn 10 [.ref 4, .int 0, .ref 4, .int 8, .int 0, .null] [] σ _)), fun z => absurd rfl z⟩⟩⟩⟩⟩⟩, fun z => absurd (by decide) z⟩⟩, fun σ2 e2 => ?_⟩
      refine w_M_look 9 σ2 _ (fun σ1 e1 => (c_isInX (L := 0) (H := 3) rfl rfl 9 σ1).int ?_)
      obtain ⟨f1, -⟩ := told1 e2 e1
      rintro x3 σ3 ⟨hx3, es3⟩
      rw [es3, h4, h5]
      refine ⟨fun _ => ?_, fun z => absurd (hx3.b.2.mp z) (by decide)⟩
      refine ⟨fun _ => ⟨fun _ => ⟨fun _ => (c_isInX (L := 7) (H := 10) rfl rfl 9 σ1).int ?_, fun z => absurd (by decide) z⟩, fun z => absurd (by decide) z⟩, fun z => absurd (by decide) z⟩
      rintro x5 σ5 ⟨hx5, es5⟩
      rw [es5]
      exact ⟨fun z => absurd (by decide) (hx5.b.1.mp z), fun _ => anM (w_M_framesIn 3 σ1 _ (p42 σ1 f1))⟩
    · subst q
      refine ⟨r5, f_A_look 10 σ _ ⟨fun z => absurd z (by decide), fun _ => ⟨fun _ => ⟨fun z => absurd z (by decide), fun _ => ⟨fun z => absurd z (by decide), fun _ => ⟨fun z => absurd z (by decide), fun _ => ⟨fun z => absurd z (by decide), fun _ => ⟨fun z => absurd z (by decide), fun _ => ⟨fun z => absurd z (by decide), fun _ => ⟨fun _ => bitsC (f_R_bitsIn5 σ _ (p51 : xE xF m_R_bitsIn 10 [.ref 5, .int 0, .ref 5, .int 8, .int 0, .null] [] σ _)), fun z => absurd rfl z⟩⟩⟩⟩⟩⟩⟩, fun z => absurd (by decide) z⟩⟩, fun σ2 e2 => ?_⟩
      refine w_M_look 10 σ2 _ (fun σ1 e1 => (c_isInX (L := 0) (H := 3) rfl rfl 10 σ1).int ?_)
      obtain ⟨f1, -⟩ := told1 e2 e1
      rintro x3 σ3 ⟨hx3, es3⟩
      rw [es3, h4, h5]
      refine ⟨fun _ => ?_, fun z => absurd (hx3.b.2.mp z) (by decide)⟩
      refine ⟨fun _ => ⟨fun _ => ⟨fun _ => (c_isInX (L := 7) (H := 10) rfl rfl 10 σ1).int ?_, fun z => absurd (by decide) z⟩, fun z => absurd (by decide) z⟩, fun z => absurd (by decide) z⟩
      rintro x5 σ5 ⟨hx5, es5⟩
      rw [es5]
      exact ⟨fun z => absurd (by decide) (hx5.b.1.mp z), fun _ => anM (w_M_framesIn 4 σ1 _ (p52 σ1 f1))⟩
    · subst q
      refine ⟨rw', f_A_look 11 σ _ ⟨fun z => absurd z (by decide), fun _ => ⟨fun _ => ⟨fun z => absurd z (by decide), fun _ => ⟨fun z => absurd z (by decide), fun _ => ⟨fun z => absurd z (by decide), fun _ => ⟨fun z => absurd z (by decide), fun _ => ⟨fun z => absurd z (by decide), fun _ => ⟨fun z => absurd z (by decide), fun _ => ⟨fun z => absurd z (by decide), fun _ => ⟨fun _ => anC (d_K_waitingSet σ _ w1), fun z => absurd rfl z⟩⟩⟩⟩⟩⟩⟩⟩, fun z => absurd (by decide) z⟩⟩, fun σ2 e2 => ?_⟩
      refine w_M_look 11 σ2 _ (fun σ1 e1 => (c_isInX (L := 0) (H := 3) rfl rfl 11 σ1).int ?_)
      obtain ⟨f1, -⟩ := told1 e2 e1
      rintro x3 σ3 ⟨hx3, es3⟩
      rw [es3, h4, h5]
      refine ⟨fun _ => ?_, fun z => absurd (hx3.b.2.mp z) (by decide)⟩
      refine ⟨fun _ => ⟨fun _ => ⟨fun _ => (c_isInX (L := 7) (H := 10) rfl rfl 11 σ1).int ?_, fun z => absurd (by decide) z⟩, fun z => absurd (by decide) z⟩, fun z => absurd (by decide) z⟩
      rintro x5 σ5 ⟨hx5, es5⟩
      rw [es5]
      exact ⟨fun _ => ⟨fun z => absurd rfl z, fun _ => anM (w_M_waiters σ1 _ (w2 σ1 f1))⟩, fun z => absurd (hx5.b.2.mp z) (by decide)⟩
    · subst q
      refine ⟨rg, f_A_look 12 σ _ ⟨fun z => absurd z (by decide), fun _ => ⟨fun _ => ⟨fun z => absurd z (by decide), fun _ => ⟨fun z => absurd z (by decide), fun _ => ⟨fun z => absurd z (by decide), fun _ => ⟨fun z => absurd z (by decide), fun _ => ⟨fun z => absurd z (by decide), fun _ => ⟨fun z => absurd z (by decide), fun _ => ⟨fun z => absurd z (by decide), fun _ => ⟨fun z => absurd z (by decide), fun _ => ⟨fun _ => anC (d_S_goingSet σ _ g1), fun z => absurd rfl z⟩⟩⟩⟩⟩⟩⟩⟩⟩, fun z => absurd (by decide) z⟩⟩, fun σ2 e2 => ?_⟩
      refine w_M_look 12 σ2 _ (fun σ1 e1 => (c_isInX (L := 0) (H := 3) rfl rfl 12 σ1).int ?_)
      obtain ⟨f1, -⟩ := told1 e2 e1
      rintro x3 σ3 ⟨hx3, es3⟩
      rw [es3, h4, h5]
      refine ⟨fun _ => ?_, fun z => absurd (hx3.b.2.mp z) (by decide)⟩
      refine ⟨fun _ => ⟨fun _ => ⟨fun _ => (c_isInX (L := 7) (H := 10) rfl rfl 12 σ1).int ?_, fun z => absurd (by decide) z⟩, fun z => absurd (by decide) z⟩, fun z => absurd (by decide) z⟩
      rintro x5 σ5 ⟨hx5, es5⟩
      rw [es5]
      exact ⟨fun _ => ⟨fun _ => ⟨fun z => absurd rfl z, fun _ => anM (w_M_goers σ1 _ (g2 σ1 f1))⟩, fun z => absurd (by decide) z⟩, fun z => absurd (hx5.b.2.mp z) (by decide)⟩
    · subst q
      refine ⟨σ 169 5, f_A_look 13 σ _ ⟨fun z => absurd z (by decide), fun _ => ⟨fun _ => ⟨fun z => absurd z (by decide), fun _ => ⟨fun z => absurd z (by decide), fun _ => ⟨fun z => absurd z (by decide), fun _ => ⟨fun z => absurd z (by decide), fun _ => ⟨fun z => absurd z (by decide), fun _ => ⟨fun z => absurd z (by decide), fun _ => ⟨fun z => absurd z (by decide), fun _ => ⟨fun z => absurd z (by decide), fun _ => ⟨fun z => absurd z (by decide), fun _ => ⟨fun _ => an_ hl.lns, fun z => absurd rfl z⟩⟩⟩⟩⟩⟩⟩⟩⟩⟩, fun z => absurd (by decide) z⟩⟩, fun σ2 e2 => ?_⟩
      refine w_M_look 13 σ2 _ (fun σ1 e1 => (c_isInX (L := 0) (H := 3) rfl rfl 13 σ1).int ?_)
      obtain ⟨f1, -⟩ := told1 e2 e1
      rintro x3 σ3 ⟨hx3, es3⟩
      rw [es3, h4, h5]
      refine ⟨fun _ => ?_, fun z => absurd (hx3.b.2.mp z) (by decide)⟩
      refine ⟨fun _ => ⟨fun _ => ⟨fun _ => (c_isInX (L := 7) (H := 10) rfl rfl 13 σ1).int ?_, fun z => absurd (by decide) z⟩, fun z => absurd (by decide) z⟩, fun z => absurd (by decide) z⟩
      rintro x5 σ5 ⟨hx5, es5⟩
      rw [es5]
      exact ⟨fun _ => ⟨fun _ => ⟨fun _ => ⟨fun z => absurd rfl z, fun _ => ⟨v5, an_ (by rw [f1])⟩⟩, fun z => absurd (by decide) z⟩, fun z => absurd (by decide) z⟩, fun z => absurd (hx5.b.2.mp z) (by decide)⟩
    · subst q
      refine ⟨nI (100 * cnZ (σ 169) 1 / cnZ (σ 169) 0), f_A_look 14 σ _ ⟨fun z => absurd z (by decide), fun _ => ⟨fun _ => ⟨fun z => absurd z (by decide), fun _ => ⟨fun z => absurd z (by decide), fun _ => ⟨fun z => absurd z (by decide), fun _ => ⟨fun z => absurd z (by decide), fun _ => ⟨fun z => absurd z (by decide), fun _ => ⟨fun z => absurd z (by decide), fun _ => ⟨fun z => absurd z (by decide), fun _ => ⟨fun z => absurd z (by decide), fun _ => ⟨fun z => absurd z (by decide), fun _ => ⟨fun z => absurd z (by decide), fun _ => ⟨fun _ => mbn, fun z => absurd rfl z⟩⟩⟩⟩⟩⟩⟩⟩⟩⟩⟩, fun z => absurd (by decide) z⟩⟩, fun σ2 e2 => ?_⟩
      refine w_M_look 14 σ2 _ (fun σ1 e1 => (c_isInX (L := 0) (H := 3) rfl rfl 14 σ1).int ?_)
      obtain ⟨f1, -⟩ := told1 e2 e1
      rintro x3 σ3 ⟨hx3, es3⟩
      rw [es3, h4, h5]
      refine ⟨fun _ => ?_, fun z => absurd (hx3.b.2.mp z) (by decide)⟩
      refine ⟨fun _ => ⟨fun _ => ⟨fun _ => (c_isInX (L := 7) (H := 10) rfl rfl 14 σ1).int ?_, fun z => absurd (by decide) z⟩, fun z => absurd (by decide) z⟩, fun z => absurd (by decide) z⟩
      rintro x5 σ5 ⟨hx5, es5⟩
      rw [es5]
      exact ⟨fun _ => ⟨fun _ => ⟨fun _ => ⟨fun _ => ⟨fun z => absurd rfl z, fun _ => (c_framesOf2 1 σ1).int (by
        rintro x7 σ6 ⟨ex7, es6⟩
        rw [es6]
        refine (c_framesOf2 0 σ1).int ?_
        rintro x9 σ8 ⟨ex9, es8⟩
        rw [f1] at ex7 ex9
        refine ⟨fun z => ?_, an_ (t_nI ?_)⟩
        · rw [z] at ex9
          have ex9 : (0 : Int) = _ := ex9
          omega
        · have em : (100 * x7).toInt = ((32 * (100 * cnZ (σ 169) 1) : Nat) : Int) := by
            rw [t_mul (x := 100) rfl ex7 (by omega) (by omega)]
            omega
          rw [t_div em ex9 (by omega), Nat.mul_div_mul_left _ _ (by decide)])⟩, fun z => absurd (by decide) z⟩, fun z => absurd (by decide) z⟩, fun z => absurd (by decide) z⟩, fun z => absurd (hx5.b.2.mp z) (by decide)⟩
  · refine ⟨-1, f_A_look a1 σ _ ⟨fun _ => ⟨fun z => absurd (by rw [z]; decide) k1, fun _ => ⟨fun z => absurd (by rw [z]; decide) k1, fun _ => ⟨fun z => absurd (by rw [z]; decide) k1, fun _ => ⟨fun z => absurd (by rw [z]; decide) k1, fun _ => ⟨fun z => absurd (by rw [z]; decide) k1, fun _ => ⟨fun z => absurd (by rw [z]; decide) k1, fun _ => ⟨fun z => absurd (by rw [z]; decide) k1, fun _ => ⟨fun z => absurd (by rw [z]; decide) k1, fun _ => ⟨fun z => absurd (by rw [z]; decide) k1, fun _ => ⟨fun z => absurd (by rw [z]; decide) k1, fun _ => ⟨fun z => absurd (by rw [z]; decide) k1, fun _ => an_ rfl⟩⟩⟩⟩⟩⟩⟩⟩⟩⟩⟩, fun n0 => ⟨fun _ => ⟨fun z => absurd (by rw [z]; decide) k1, fun _ => ⟨fun z => absurd (by rw [z]; decide) k1, fun _ => ⟨fun z => absurd (by rw [z]; decide) k1, fun _ => ⟨fun z => absurd (by rw [z]; decide) k1, fun _ => ⟨fun z => absurd (by rw [z]; decide) k1, fun _ => ⟨fun z => absurd (by rw [z]; decide) k1, fun _ => ⟨fun z => absurd (by rw [z]; decide) k1, fun _ => ⟨fun z => absurd (by rw [z]; decide) k1, fun _ => ⟨fun z => absurd (by rw [z]; decide) k1, fun _ => ⟨fun z => absurd (by rw [z]; decide) k1, fun _ => ⟨fun z => absurd (by rw [z]; decide) k1, fun _ => an_ rfl⟩⟩⟩⟩⟩⟩⟩⟩⟩⟩⟩, fun n4 => ?_⟩⟩, fun σ2 e2 => ?_⟩
    · rw [t_lt] at n0
      rw [t_le] at n4
      have n0 : ¬ a1.toInt < 0 := n0
      have n4 : ¬ 4 ≤ a1.toInt := n4
      omega
    · refine w_M_look a1 σ2 _ (fun σ1 e1 => (c_isInX (L := 0) (H := 3) rfl rfl a1 σ1).int ?_)
      rintro x3 σ3 ⟨hx3, es3⟩
      rw [es3]
      refine ⟨fun _ => ⟨fun _ => ⟨fun _ => ⟨fun _ => (c_isInX (L := 7) (H := 10) rfl rfl a1 σ1).int ?_, fun z => absurd (by rw [Classical.not_not.mp z]; decide) k1⟩, fun z => absurd (by rw [Classical.not_not.mp z]; decide) k1⟩, fun z => absurd (by rw [Classical.not_not.mp z]; decide) k1⟩, fun z => absurd (by have := hx3.b.2.mp z; omega) k1⟩
      rintro x5 σ5 ⟨hx5, es5⟩
      rw [es5]
      exact ⟨fun _ => ⟨fun _ => ⟨fun _ => ⟨fun _ => ⟨fun _ => an_ rfl, fun z => absurd (by rw [Classical.not_not.mp z]; decide) k1⟩, fun z => absurd (by rw [Classical.not_not.mp z]; decide) k1⟩, fun z => absurd (by rw [Classical.not_not.mp z]; decide) k1⟩, fun z => absurd (by rw [Classical.not_not.mp z]; decide) k1⟩, fun z => absurd (by have := hx5.b.2.mp z; omega) k1⟩
theorem ce_look {B : Nat} (a1 : Int32) (σ : sm_S) (hB : B < 1500000000) (h : LR B σ) : two (fun x y => x = y) j_A_look j_M_look [.ref 42, .int a1] [.ref 168, .int a1] B σ := by
  have h2 := h
  obtain ⟨hL, ⟨N, hN, ht⟩, -⟩ := h2
  exact CLk h (a_lookQ a1 σ h.1.1) (fun σ1 q => m_look a1 σ1 hB q.2.1) (fun σ1 q => by
    obtain ⟨N, hN, hj⟩ := (lw_bs q.2.1).1
    exact qU (as := [.ref 0, .int a1]) rfl (k_look (N := N) a1 (sh rM σ1) hj)) (asM := [.ref 0, .int a1]) rfl (ky_look a1 σ ht.1 ht.2.1 h.1.1.1)
end
section
/-! ===== the simulation: at answers the same ===== -/
theorem sumN_swap {F : Nat → Nat → Nat} (m : Nat) : ∀ n, sumN (fun i => sumN (fun j => F i j) m) n = sumN (fun j => sumN (fun i => F i j) n) m
  | 0 => (sumN_0 m).symm
  | n + 1 => by
    show sumN (fun i => sumN (fun j => F i j) m) n + sumN (fun j => F n j) m = _
    rw [sumN_swap m n, ← sumN_add]
    rfl
theorem sumN_rng {a n K : Nat} (h : a + n ≤ K) : sumN (fun f => ind (a ≤ f ∧ f < a + n)) K = n := by
  obtain ⟨m, rfl⟩ : ∃ m, K = a + (n + m) := ⟨K - a - n, by omega⟩
  rw [sumN_split a, sumN_split n]
  have e1 : sumN (fun f => ind (a ≤ f ∧ f < a + n)) a = 0 := sumN_z.mpr (fun i hi => ind_f (by omega))
  have e2 : sumN (fun i => ind (a ≤ a + i ∧ a + i < a + n)) n = sumN (fun _ => 1) n := sumN_cg (fun i hi => ind_t (by omega))
  have e3 : sumN (fun i => ind (a ≤ a + (n + i) ∧ a + (n + i) < a + n)) m = 0 := sumN_z.mpr (fun i hi => ind_f (by omega))
  rw [e1, e2, e3, sumN_c]
  omega
theorem sumN_pk {b0 K : Nat} {P : Nat → Prop} (h : b0 < K) : sumN (fun b => ind (b = b0 ∧ P b)) K = ind (P b0) := by
  by_cases q : P b0
  · rw [ind_t q, sumN_cg (G := fun b => ind (b0 ≤ b ∧ b < b0 + 1)) (fun b _ => ind_cg ⟨fun z => ⟨by omega, by omega⟩, fun z => ?_⟩), sumN_rng (by omega)]
    have e : b = b0 := by omega
    exact ⟨e, by rw [e]; exact q⟩
  · rw [ind_f q]
    exact sumN_z.mpr (fun b _ => ind_f (fun z => q (by rw [← z.1]; exact z.2)))
/-- the frame f is the block b's, whose owner is a, on the node nd -/
noncomputable def wAt (v : Nat → Int32) (a : Int32) (nd b f : Nat) : Nat := ind (v (18 + 3 * f) = 3 ∧ (v (18 + 3 * f + 1)).toInt = ((b + 1 : Nat) : Int) ∧ v (786 + 16 * b + 4) = a ∧ f / 32 % 2 = nd)
noncomputable def rAt (v : Nat → Int32) (a : Int32) (nd f : Nat) : Nat := ind (f / 32 % 2 = nd ∧ v (18 + 3 * f) = 3 ∧ ∃ b : Nat, b < 96 ∧ (v (18 + 3 * f + 1)).toInt = ((b + 1 : Nat) : Int) ∧ v (786 + 16 * b + 4) = a)
theorem rAt_eq {v : Nat → Int32} (g : own v) (a : Int32) (nd : Nat) {f : Nat} (hf : f < 256) : rAt v a nd f = sumN (fun b => wAt v a nd b f) 96 := by
  unfold rAt wAt
  by_cases q : v (18 + 3 * f) = 3
  · obtain ⟨b0, fr, o, b1, b2, -⟩ := g.tk f hf q
    rw [sumN_cg (G := fun b => ind (b = b0 ∧ (v (786 + 16 * b + 4) = a ∧ f / 32 % 2 = nd))) (fun b _ => ind_cg ⟨fun z => ⟨by omega, z.2.2⟩, fun z => ⟨q, by rw [z.1]; exact b2, z.2⟩⟩), sumN_pk (P := fun b => v (786 + 16 * b + 4) = a ∧ f / 32 % 2 = nd) b1]
    refine ind_cg ⟨fun z => ?_, fun z => ⟨z.2, q, b0, b1, b2, z.1⟩⟩
    obtain ⟨z1, -, b, c1, c2, c3⟩ := z
    have e : b = b0 := by omega
    rw [e] at c3
    exact ⟨c3, z1⟩
  · rw [ind_f (fun z => q z.2.1)]
    exact (sumN_z.mpr (fun b _ => ind_f (fun z => q z.1))).symm
noncomputable def cAt (v : Nat → Int32) (a : Int32) (nd b : Nat) : Nat := sumN (fun f => wAt v a nd b f) 256
theorem cAt_0 {v : Nat → Int32} (g : own v) {a : Int32} {nd b : Nat} (hb : b < 96) (h0 : v (786 + 16 * b + 0) = 0) : cAt v a nd b = 0 := sumN_z.mpr (fun f hf => ind_f (fun z => by
  obtain ⟨b0, fr, o, b1, b2, b3, -⟩ := g.tk f hf z.1
  have e : b0 = b := by omega
  rw [e, h0] at b3
  exact absurd b3 (by decide)))
theorem cAt_1 {v : Nat → Int32} (g : own v) {a : Int32} {nd b fr o : Nat} (hb : b < 96) (h0 : v (786 + 16 * b + 0) = 1) (hf : (v (786 + 16 * b + 1)).toInt = fr) (ho : (v (786 + 16 * b + 2)).toInt = o) (ho4 : o ≤ 4) (hfr : fr < 256) (hal : fr % 2 ^ o = 0) : cAt v a nd b = 2 ^ o * ind (v (786 + 16 * b + 4) = a ∧ fr / 32 % 2 = nd) := by
  have hle := al_le ho4 hfr hal
  have hsp := t_al (k := o) (by omega) hal
  have rng : ∀ f, f < 256 → ((v (18 + 3 * f) = 3 ∧ (v (18 + 3 * f + 1)).toInt = ((b + 1 : Nat) : Int)) ↔ (fr ≤ f ∧ f < fr + 2 ^ o)) := fun f hf2 => by
    constructor
    · rintro ⟨z1, z2⟩
      obtain ⟨b0, fr0, o0, b1, b2, b3, b4, b5, b6, b7⟩ := g.tk f hf2 z1
      have e : b0 = b := by omega
      rw [e] at b4 b5
      have e1 : fr0 = fr := by omega
      have e2 : o0 = o := by omega
      rw [e1] at b6 b7
      rw [e2] at b7
      exact ⟨b6, b7⟩
    · rintro ⟨z1, z2⟩
      have := g.hs b fr o hb h0 hf ho (f - fr) (by omega)
      rw [show fr + (f - fr) = f by omega] at this
      exact this
  by_cases q : v (786 + 16 * b + 4) = a ∧ fr / 32 % 2 = nd
  · rw [ind_t q, Nat.mul_one]
    unfold cAt wAt
    rw [sumN_cg (G := fun f => ind (fr ≤ f ∧ f < fr + 2 ^ o)) (fun f hf2 => ind_cg ⟨fun z => (rng f hf2).mp ⟨z.1, z.2.1⟩, fun z => ?_⟩), sumN_rng hle]
    have r := (rng f hf2).mpr z
    refine ⟨r.1, r.2, q.1, ?_⟩
    rw [show f / 32 = fr / 32 by omega]
    exact q.2
  · rw [ind_f q, Nat.mul_zero]
    refine sumN_z.mpr (fun f hf2 => ind_f (fun z => q ⟨z.2.2.1, ?_⟩))
    have r := (rng f hf2).mp ⟨z.1, z.2.1⟩
    rw [← show f / 32 = fr / 32 by omega]
    exact z.2.2.2
theorem l_at2 {a2 : Int32} {nd : Nat} {v : Nat → Int32} (h2 : a2.toInt = nd) (a1 : Int32) (σ : sm_S) (e : σ 1 = v) (g : own v) : ∀ (d k : Nat) (a3 a4 : Int32), a4.toInt = k → k + d = 256 → a3.toInt = ((sumN (rAt v a1 nd) k : Nat) : Int) → xE xM m_M_at 30 [.ref 0, .int a1, .int a2, .int a3, .int a4] [] σ (sm_I (fun x _ => x.toInt = ((sumN (rAt v a1 nd) 256 : Nat) : Int))) := by
  have bd : ∀ k, sumN (rAt v a1 nd) k ≤ k := fun k => fin_le (fun i => ind_le _) k
  intro d
  induction d with
  | zero =>
    intro k a3 a4 h4 hk h3
    have hk : k = 256 := by omega
    subst hk
    exact w_M_at_30 a1 a2 a3 a4 σ _ ⟨fun _ => ⟨_, rfl, h3⟩, fun h => absurd (by rw [t_le, h4]; show (256 : Int) ≤ _; omega) h⟩
  | succ d ih =>
    intro k a3 a4 h4 hk h3
    have h4' : (a4 + 1).toInt = ((k + 1 : Nat) : Int) := by
      rw [t_add h4 (y := 1) rfl (by omega) (by omega)]
      omega
    have b := bd k
    have no : rAt v a1 nd k = 0 → xE xM m_M_at 30 [.ref 0, .int a1, .int a2, .int a3, .int (a4 + 1)] [] σ (sm_I (fun x _ => x.toInt = ((sumN (rAt v a1 nd) 256 : Nat) : Int))) := fun q => ih (k + 1) a3 (a4 + 1) h4' (by omega) (by
      rw [h3]
      show _ = ((sumN (rAt v a1 nd) k + rAt v a1 nd k : Nat) : Int)
      rw [q]
      rfl)
    refine w_M_at_30 a1 a2 a3 a4 σ _ ⟨fun z => ?_, fun _ => (c_spanOf2 h4 σ).int ?_⟩
    · rw [t_le, h4] at z
      have z : (256 : Int) ≤ k := z
      omega
    · rintro x2 σ1 ⟨ex2, es⟩
      rw [es]
      have hr := t_rem (b := 2) (d := 2) ex2 rfl (by decide)
      have hn : (x2 - x2 / (2 : Int32) * (2 : Int32)) = a2 ↔ k / 32 % 2 = nd := by
        refine ⟨fun z => ?_, fun z => t_inj (by rw [hr, h2, z])⟩
        rw [z, h2] at hr
        omega
      refine ⟨by decide, fun z => no (ind_f (fun y => z (hn.mpr y.1))), fun zn => (c_stateOf h4 (by omega) σ).int ?_⟩
      rintro x4 σ3 ⟨ex4, es3⟩
      rw [ex4, es3, e]
      refine ⟨fun z => no (ind_f (fun y => z y.2.1)), fun zs => (c_frameAt a4 σ).int ?_⟩
      rintro x6 σ5 ⟨ex6, es5⟩
      rw [ex6, es5]
      have ix := t_ix (c := 18) (m := 3) (C := 18) (M := 3) (k := 1) (j := 1) rfl rfl h4 rfl (by omega)
      rw [t_nat ix, e]
      obtain ⟨b0, fr, o, b1, b2, -⟩ := g.tk k (by omega) (Classical.not_not.mp zs)
      refine ⟨t_vp ix (by omega), (c_of (k := 4) (j := 4) (t_m1 b2 (by omega)) rfl (by omega) σ).int ?_⟩
      rintro x8 σ7 ⟨ex8, es7⟩
      rw [ex8, es7, e]
      refine ⟨fun z => no (ind_f (fun y => ?_)), fun z => ih (k + 1) (a3 + 1) (a4 + 1) h4' (by omega) ?_⟩
      · obtain ⟨-, -, c0, c1, c2, c3⟩ := y
        have q : c0 = b0 := by omega
        rw [q] at c3
        exact z c3
      · rw [t_add h3 (y := 1) rfl (by omega) (by omega)]
        show _ = ((sumN (rAt v a1 nd) k + rAt v a1 nd k : Nat) : Int)
        have q : rAt v a1 nd k = 1 := ind_t ⟨hn.mp (Classical.not_not.mp zn), Classical.not_not.mp zs, b0, b1, b2, Classical.not_not.mp z⟩
        rw [q]
        omega
theorem l_at3 {a2 : Int32} {nd : Nat} {v : Nat → Int32} (h2 : a2.toInt = nd) (a1 : Int32) (σ : sm_S) (h : sim0 σ v) (hb : ∀ b, b < 96 → bk_ok v b) : ∀ (d k : Nat) (a3 a4 : Int32), a4.toInt = k → k + d = 96 → a3.toInt = ((sumN (cAt v a1 nd) k : Nat) : Int) → sumN (cAt v a1 nd) k ≤ 16 * k → xE xD m_B_framesAt 5 [.ref 8, .int a1, .int a2, .int a3, .int a4] [] σ (sm_I (fun x σ' => x.toInt = ((sumN (cAt v a1 nd) 96 : Nat) : Int) ∧ σ' = σ)) := by
  intro d
  induction d with
  | zero =>
    intro k a3 a4 h4 hk h3 _
    have hk : k = 96 := by omega
    subst hk
    exact d_B_framesAt_5 a1 a2 a3 a4 σ _ ⟨fun _ => ⟨_, rfl, h3, rfl⟩, fun h => absurd (by rw [t_le, h4]; show (96 : Int) ≤ _; omega) h⟩
  | succ d ih =>
    intro k a3 a4 h4 hk h3 bd
    have h4' : (a4 + 1).toInt = ((k + 1 : Nat) : Int) := by
      rw [t_add h4 (y := 1) rfl (by omega) (by omega)]
      omega
    have vv := t_vp (N := 96) h4 (by omega)
    have sc : sumN (cAt v a1 nd) (k + 1) = sumN (cAt v a1 nd) k + cAt v a1 nd k := rfl
    have no : cAt v a1 nd k = 0 → xE xD m_B_framesAt 5 [.ref 8, .int a1, .int a2, .int a3, .int (a4 + 1)] [] σ (sm_I (fun x σ' => x.toInt = ((sumN (cAt v a1 nd) 96 : Nat) : Int) ∧ σ' = σ)) := fun q => ih (k + 1) a3 (a4 + 1) h4' (by omega) (by rw [h3, sc, q]; rfl) (by omega)
    refine d_B_framesAt_5 a1 a2 a3 a4 σ _ ⟨fun z => ?_, fun _ => ?_⟩
    · rw [t_le, h4] at z
      have z : (96 : Int) ≤ k := z
      omega
    · rw [t_nat h4]
      rcases h.B k (by omega) with ⟨g1, g2⟩ | ⟨g1, g2, gb⟩
      · exact ⟨vv, fun _ => no (cAt_0 h.O (by omega) g2), fun z => absurd g1 z⟩
      · obtain ⟨o, fr, b1, b2, b3, b4, b5, -⟩ := hb k (by omega)
        have c1 := cAt_1 (a := a1) (nd := nd) h.O (show k < 96 by omega) g2 b3 b1 b2 b4 b5
        have c9 : (σ 9 k).toInt = fr := by rw [← gb.fir]; exact b3
        have c10 : (σ 10 k).toInt = o := by rw [← gb.ord]; exact b1
        have hr := t_rem (b := 2) (d := 2) (t_div c9 (b := 32) (d := 32) rfl (by decide)) rfl (by decide)
        have hn : ((σ 9 k / (32 : Int32)) - (σ 9 k / (32 : Int32)) / (2 : Int32) * (2 : Int32)) = a2 ↔ fr / 32 % 2 = nd := by
          refine ⟨fun z => ?_, fun z => t_inj (by rw [hr, h2, z])⟩
          rw [z, h2] at hr
          omega
        refine ⟨vv, fun z => absurd z g1, fun _ => ⟨vv, fun z => no ?_, fun zo => ⟨vv, by decide, by decide, fun z => no ?_, fun zn => (c_size h4 (by omega) σ).int ?_⟩⟩⟩
        · rw [c1, ind_f (fun y => z (by rw [← gb.own]; exact y.1)), Nat.mul_zero]
        · rw [c1, ind_f (fun y => z (hn.mpr y.2)), Nat.mul_zero]
        · rintro x2 σ1 ⟨ex2, es⟩
          rw [es]
          have p := t_pow c10 (show o < 31 by omega)
          have q : cAt v a1 nd k = 2 ^ o := by rw [c1, ind_t ⟨by rw [gb.own]; exact Classical.not_not.mp zo, hn.mp (Classical.not_not.mp zn)⟩, Nat.mul_one]
          have p4 : 2 ^ o ≤ 16 := Nat.pow_le_pow_right (by decide) b2
          refine ih (k + 1) (a3 + x2) (a4 + 1) h4' (by omega) ?_ (by omega)
          rw [ex2, t_add h3 p (by omega) (by omega), sc, q]
          omega
theorem ky_at {N : Nat} (a1 a2 : Int32) (σ : sm_S) (ht : tie True N σ (σ 169)) : ky j_A_at j_M_at [.ref 42, .int a1, .int a2] [.ref 0, .int a1, .int a2] σ := by
  by_cases ok : (0 ≤ a1.toInt ∧ a1.toInt < 6) ∧ (0 ≤ a2.toInt ∧ a2.toInt < 2)
  · obtain ⟨k1, k2⟩ := ok
    obtain ⟨nd, hnd⟩ := t_of k2.1
    refine ⟨nI (sumN (cAt (σ 169) a1 nd) 96), f_A_at a1 a2 σ _ ((nw0 (e_isTaskX a1 σ)).int ?_), fun σ2 e2 => ?_⟩
    · rintro x2 σ1 ⟨hx2, es⟩
      rw [es]
      refine ⟨fun z => absurd k1 (hx2.b.1.mp z), fun _ => (nw0 (e_isNodeX a2 σ)).int ?_⟩
      rintro x4 σ3 ⟨hx4, es3⟩
      rw [es3]
      exact ⟨fun _ => anC (toN (d_B_framesAt a1 a2 σ _ (l_at3 hnd a1 σ ht.s ht.b 96 0 0 0 rfl rfl rfl (Nat.zero_le _)))), fun z => absurd (hx4.b.2.mpr k2) z⟩
    · refine w_M_at a1 a2 σ2 _ (fun σ1 e1 => (c_isTaskX a1 σ1).int ?_)
      obtain ⟨f1, -⟩ := told1 e2 e1
      rintro x3 σ3 ⟨hx3, es3⟩
      rw [es3]
      refine ⟨fun z => absurd k1 (hx3.b.1.mp z), fun _ => (c_isInX (L := 0) (H := 1) rfl rfl a2 σ1).int ?_⟩
      rintro x5 σ5 ⟨hx5, es5⟩
      rw [es5]
      refine ⟨fun _ => ?_, fun z => absurd (hx5.b.2.mpr ⟨k2.1, by omega⟩) z⟩
      refine (l_at2 hnd a1 σ1 f1 ht.s.O 256 0 0 0 rfl rfl rfl).mono ?_
      rintro r σ7 ⟨x, e, hx⟩
      refine ⟨x, e, t_nI ?_⟩
      rw [hx, sumN_cg (F := rAt (σ 169) a1 nd) (fun f hf => rAt_eq ht.s.O a1 nd hf), sumN_swap 96 256]
      rfl
  · refine ⟨-1, f_A_at a1 a2 σ _ ((nw0 (e_isTaskX a1 σ)).int ?_), fun σ2 e2 => ?_⟩
    · rintro x2 σ1 ⟨hx2, es⟩
      rw [es]
      refine ⟨fun _ => an_ rfl, fun n2 => (nw0 (e_isNodeX a2 σ)).int ?_⟩
      rintro x4 σ3 ⟨hx4, es3⟩
      exact ⟨fun n4 => absurd ⟨hx2.b.2.mp n2, hx4.b.2.mp n4⟩ ok, fun _ => an_ rfl⟩
    · refine w_M_at a1 a2 σ2 _ (fun σ1 e1 => (c_isTaskX a1 σ1).int ?_)
      rintro x3 σ3 ⟨hx3, es3⟩
      rw [es3]
      refine ⟨fun _ => an_ rfl, fun n3 => (c_isInX (L := 0) (H := 1) rfl rfl a2 σ1).int ?_⟩
      rintro x5 σ5 ⟨hx5, es5⟩
      refine ⟨fun n5 => absurd ⟨hx3.b.2.mp n3, ?_⟩ ok, fun _ => an_ rfl⟩
      have := hx5.b.2.mp n5
      omega
theorem ce_at {B : Nat} (a1 a2 : Int32) (σ : sm_S) (hB : B < 1500000000) (h : LR B σ) : two (fun x y => x = y) j_A_at j_M_at [.ref 42, .int a1, .int a2] [.ref 168, .int a1, .int a2] B σ := by
  have h2 := h
  obtain ⟨hL, ⟨N, hN, ht⟩, -⟩ := h2
  exact CLk h (a_atQ a1 a2 σ h.1.1) (fun σ1 q => m_at a1 a2 σ1 hB q.2.1) (fun σ1 q => by
    obtain ⟨N, hN, hj⟩ := (lw_bs q.2.1).1
    exact qU (as := [.ref 0, .int a1, .int a2]) rfl (k_at (N := N) a1 a2 (sh rM σ1) hj)) (asM := [.ref 0, .int a1, .int a2]) rfl (ky_at a1 a2 σ ht.1)
end
