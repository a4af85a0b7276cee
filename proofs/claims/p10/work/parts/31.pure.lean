/-! ===== numbers and stores ===== -/
theorem bm {x : Int} (h : -2147483648 ≤ x) (h2 : x < 2147483648) : x.bmod 4294967296 = x := by
  simp only [Int.bmod]
  split <;> omega
theorem t_add {a b : Int32} {x y : Int} (ha : a.toInt = x) (hb : b.toInt = y) (h : -2147483648 ≤ x + y) (h2 : x + y < 2147483648) : (a + b).toInt = x + y := by
  rw [Int32.toInt_add, ha, hb]
  exact bm h h2
theorem t_sub {a b : Int32} {x y : Int} (ha : a.toInt = x) (hb : b.toInt = y) (h : -2147483648 ≤ x - y) (h2 : x - y < 2147483648) : (a - b).toInt = x - y := by
  rw [Int32.toInt_sub, ha, hb]
  exact bm h h2
theorem t_mul {a b : Int32} {x y : Int} (ha : a.toInt = x) (hb : b.toInt = y) (h : -2147483648 ≤ x * y) (h2 : x * y < 2147483648) : (a * b).toInt = x * y := by
  rw [Int32.toInt_mul, ha, hb]
  exact bm h h2
theorem t_inj {a b : Int32} (h : a.toInt = b.toInt) : a = b := Int32.toInt_inj.mp h
theorem t_lt {a b : Int32} : a < b ↔ a.toInt < b.toInt := Int32.lt_iff_toInt_lt
theorem t_le {a b : Int32} : a ≤ b ↔ a.toInt ≤ b.toInt := Int32.le_iff_toInt_le
theorem t_nat {x : Int32} {n : Nat} (h : x.toInt = n) : x.toNatClampNeg = n := by
  show x.toInt.toNat = n
  omega
theorem t_vp {x : Int32} {n N : Nat} (h : x.toInt = n) (hn : n < N) : vp_in x N := by
  rw [vp_in_iff]
  omega
theorem t_nI {x : Int32} {n : Nat} (h : x.toInt = n) : x = nI n := by
  apply t_inj
  have := x.toInt_lt
  rw [h, nI_toInt (by omega)]
theorem t_of {x : Int32} (h : 0 ≤ x.toInt) : ∃ n : Nat, x.toInt = n := ⟨x.toInt.toNat, by omega⟩
theorem t_bd (x : Int32) : -2147483648 ≤ x.toInt ∧ x.toInt < 2147483648 := ⟨x.le_toInt, x.toInt_lt⟩
theorem t_div {a : Int32} {n d : Nat} {b : Int32} (ha : a.toInt = n) (hb : b.toInt = d) (hd : 0 < d) : (a / b).toInt = ((n / d : Nat) : Int) := by
  have h1 := t_bd a
  have h2 := t_bd b
  rw [t_nI ha, t_nI hb, pk_div (by omega) hd (by omega), nI_toInt]
  have := Nat.div_le_self n d
  omega
theorem t_rem {a : Int32} {n d : Nat} {b : Int32} (ha : a.toInt = n) (hb : b.toInt = d) (hd : 0 < d) : (a - a / b * b).toInt = ((n % d : Nat) : Int) := by
  have h1 := t_bd a
  have h2 := t_bd b
  rw [t_nI ha, t_nI hb, pk_rem (by omega) hd (by omega), nI_toInt]
  have := Nat.mod_lt n hd
  omega
theorem t_sh : ∀ k, k < 31 → (1 : Int32) <<< (nI k &&& 31) = nI (2 ^ k) := by decide
theorem t_pow {o : Int32} {k : Nat} (h : o.toInt = k) (hk : k < 31) : ((1 : Int32) <<< (o &&& 31)).toInt = ((2 ^ k : Nat) : Int) := by
  rw [t_nI h, t_sh k hk, nI_toInt]
  exact Nat.pow_lt_pow_right (by decide) hk
theorem t_al {f k : Nat} (hk : k ≤ 5) (h : f % 2 ^ k = 0) : f % 32 + 2 ^ k ≤ 32 := by
  rcases (show k = 0 ∨ k = 1 ∨ k = 2 ∨ k = 3 ∨ k = 4 ∨ k = 5 by omega) with rfl | rfl | rfl | rfl | rfl | rfl <;> simp only [Nat.reducePow] at h ⊢ <;> omega
theorem t_pw {k : Nat} (hk : k ≤ 5) : 1 ≤ 2 ^ k ∧ 2 ^ k ≤ 32 := by
  rcases (show k = 0 ∨ k = 1 ∨ k = 2 ∨ k = 3 ∨ k = 4 ∨ k = 5 by omega) with rfl | rfl | rfl | rfl | rfl | rfl <;> decide
/-- the place c + m * f + k of a row -/
theorem t_ix {c m f k : Int32} {C M n j : Nat} (hc : c.toInt = C) (hm : m.toInt = M) (hf : f.toInt = n) (hk : k.toInt = j) (h : C + M * n + j < 2662) : (c + m * f + k).toInt = ((C + M * n + j : Nat) : Int) := by
  have h0 : (m * f).toInt = ((M * n : Nat) : Int) := by
    rw [t_mul hm hf (by rw [← Int.natCast_mul]; omega) (by rw [← Int.natCast_mul]; omega), Int.natCast_mul]
  have h1 := t_add hc h0 (by omega) (by omega)
  rw [t_add h1 hk (by omega) (by omega)]
  omega
theorem s_at {σ : sm_S} {k : Nat} {f : Nat → Int32} : (sm_set σ k f) k = f := if_pos rfl
theorem s_ne {σ : sm_S} {k j : Nat} {f : Nat → Int32} (h : j ≠ k) : (sm_set σ k f) j = σ j := if_neg h
theorem s_ss {σ : sm_S} {k : Nat} {f g : Nat → Int32} : sm_set (sm_set σ k f) k g = sm_set σ k g := by
  funext a
  by_cases h : a = k <;> simp [sm_set, h]
theorem s_id {σ : sm_S} {k : Nat} : sm_set σ k (σ k) = σ := by
  funext a
  by_cases h : a = k <;> simp [sm_set, h]
theorem u_at {f : Nat → Int32} {k : Nat} {x : Int32} : upd f k x k = x := if_pos rfl
theorem u_ne {f : Nat → Int32} {k j : Nat} {x : Int32} (h : j ≠ k) : upd f k x j = f j := if_neg h
