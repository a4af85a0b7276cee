theorem ts1 (f : Int32) (h : 0 ≤ f.toInt) (h2 : f.toInt < 256) : vp_in (18 + 3 * f) 2662 := by
  rw [vp_in_iff]
  simp only [Int32.toInt_add, Int32.toInt_mul]
  omega
theorem ts2 (f : Int32) (h : 0 ≤ f.toInt) (h2 : f.toInt < 256) : vp_in (18 + 3 * f) 2662 := by
  rw [vp_in_iff]
  simp [Int32.toInt_add, Int32.toInt_mul]
  omega
theorem ts3 (f : Int32) (h : 0 ≤ f.toInt) (h2 : f.toInt < 256) : (18 + 3 * f).toNatClampNeg = 18 + 3 * f.toInt.toNat := by
  show (18 + 3 * f).toInt.toNat = _
  simp [Int32.toInt_add, Int32.toInt_mul]
  omega
theorem ts4 (x : Int) : x.bmod 4294967296 = if x % 4294967296 < 2147483648 then x % 4294967296 else x % 4294967296 - 4294967296 := by
  omega
theorem ts5 (x : Int) (h : 0 ≤ x) (h2 : x < 100) : (x + 3).bmod 4294967296 = x + 3 := by
  omega
theorem ts6 (a b : Int32) (h : a < b) : a.toInt < b.toInt := by
  simp only [Int32.lt_iff_toInt_lt] at h
  exact h
theorem ts7 : (18 : Int32).toInt = 18 := by decide
theorem ts8 : (-1 : Int32).toInt = -1 := by decide
