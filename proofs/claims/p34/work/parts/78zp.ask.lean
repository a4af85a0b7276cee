/-! ===== the simulation: sums, zone, loose ===== -/
noncomputable def ind (p : Prop) : Nat := sm_if p 1 0
theorem ind_t {p : Prop} (h : p) : ind p = 1 := sm_if_t h
theorem ind_f {p : Prop} (h : ¬ p) : ind p = 0 := sm_if_f h
theorem ind_le (p : Prop) : ind p ≤ 1 := by
  by_cases h : p
  · rw [ind_t h]; omega
  · rw [ind_f h]; omega
theorem ind_cg {p q : Prop} (h : p ↔ q) : ind p = ind q := by rw [propext h]
theorem ind_if (p : Prop) (dp : Decidable p) : (if p then 1 else 0) = ind p := by
  by_cases h : p
  · rw [if_pos h, ind_t h]
  · rw [if_neg h, ind_f h]
theorem sumN_blk {F : Nat → Nat} (m : Nat) : ∀ k, sumN F (m * k) = sumN (fun s => sumN (fun i => F (m * s + i)) m) k
  | 0 => rfl
  | k + 1 => by
    rw [Nat.mul_succ, sumN_split, sumN_blk m k]
    rfl
theorem sumN_c (c : Nat) : ∀ n, sumN (fun _ => c) n = c * n
  | 0 => rfl
  | n + 1 => by
    show sumN (fun _ => c) n + c = _
    rw [sumN_c c n, Nat.mul_succ]
theorem sumN_0 (n : Nat) : sumN (fun _ => 0) n = 0 := by rw [sumN_c, Nat.zero_mul]
theorem sumN_1 {c : Nat} : ∀ n, sumN (fun r => if r = 0 then c else 0) (n + 1) = c
  | 0 => by show 0 + (if 0 = 0 then c else 0) = c; rw [if_pos rfl]; omega
  | n + 1 => by
    show sumN (fun r => if r = 0 then c else 0) (n + 1) + (if n + 1 = 0 then c else 0) = c
    rw [sumN_1 n, if_neg (by omega)]
    rfl
theorem sumN_add {F G : Nat → Nat} : ∀ n, sumN (fun i => F i + G i) n = sumN F n + sumN G n
  | 0 => rfl
  | n + 1 => by
    show sumN (fun i => F i + G i) n + (F n + G n) = (sumN F n + F n) + (sumN G n + G n)
    rw [sumN_add n]
    omega
theorem sumN_mul {F : Nat → Nat} (c : Nat) : ∀ n, sumN (fun i => c * F i) n = c * sumN F n
  | 0 => rfl
  | n + 1 => by
    show sumN (fun i => c * F i) n + c * F n = c * (sumN F n + F n)
    rw [sumN_mul c n, Nat.mul_add]
theorem e_isZoneX (a : Int32) (σ : sm_S) : xC xD j_A_isZone [.int a] σ (sm_I (fun x σ' => isYes (0 ≤ a.toInt ∧ a.toInt < 2) x ∧ σ' = σ)) := d_A_isZone a σ _ (e_isRng (K := 2) rfl (fun z => ⟨_, rfl, Or.inl ⟨rfl, z⟩, rfl⟩) (fun z => ⟨_, rfl, Or.inr ⟨rfl, z⟩, rfl⟩))
/-- a free place of order o in span s -/
def plc (v : Nat → Int32) (s o : Nat) : Prop := ∃ f, f / 32 = s ∧ f % 2 ^ o = 0 ∧ frF (frV v) f o
def wdv (v : Nat → Int32) (s : Nat) (x : Int32) : Prop := (x = -1 ∧ ∀ o, o ≤ 5 → ¬ plc v s o) ∨ ∃ h : Nat, h ≤ 5 ∧ x.toInt = h ∧ plc v s h ∧ ∀ j, h < j → j ≤ 5 → ¬ plc v s j
theorem wdv_un {v : Nat → Int32} {s : Nat} {x y : Int32} (a : wdv v s x) (b : wdv v s y) : x = y := by
  rcases a with ⟨a1, a2⟩ | ⟨h, a1, a2, a3, a4⟩ <;> rcases b with ⟨b1, b2⟩ | ⟨k, b1, b2, b3, b4⟩
  · rw [a1, b1]
  · exact absurd b3 (a2 k b1)
  · exact absurd a3 (b2 h a1)
  · rcases Nat.lt_trichotomy h k with q | q | q
    · exact absurd b3 (a4 k q b1)
    · exact t_inj (by rw [a2, b2, q])
    · exact absurd a3 (b4 h q a1)
theorem plc_st {c : sm_S} {v : Nat → Int32} {s o : Nat} (h : sim0 c v) (hs : s < 8) (ho : o ≤ 5) : st (c 2 s) o ≠ 0 ↔ plc v s o := by
  rw [bit_ne]
  constructor
  · rintro ⟨i, hi, hb⟩
    obtain ⟨h1, h2⟩ := (st_iff ho hi).mp hb
    have e1 : (32 * s + i) / 32 = s := by omega
    have e2 : (32 * s + i) % 32 = i := by omega
    have dv : (2 : Nat) ^ o ∣ 32 := Nat.pow_dvd_pow 2 (show o ≤ 5 from ho)
    refine ⟨32 * s + i, e1, ?_, (frF_cg (by omega) ho (sim_fr h)).mpr ((frF_b ho).mpr ?_)⟩
    · rw [← Nat.mod_mod_of_dvd _ dv, e2]
      exact h1
    · rw [e1, e2]
      exact h2
  · rintro ⟨f, f1, f2, f3⟩
    have hf : f < 256 := by omega
    have dv : (2 : Nat) ^ o ∣ 32 := Nat.pow_dvd_pow 2 (show o ≤ 5 from ho)
    refine ⟨f % 32, by omega, (st_iff ho (by omega)).mpr ⟨?_, ?_⟩⟩
    · rw [Nat.mod_mod_of_dvd _ dv]
      exact f2
    · have := (frF_b ho).mp ((frF_cg hf ho (sim_fr h)).mp f3)
      rw [f1] at this
      exact this
theorem l_widest2 {c : sm_S} {v : Nat → Int32} {s : Nat} (h : sim0 c v) (hs : s < 8) (σ : sm_S) : ∀ (d : Nat) (a1 : Int32), a1.toInt = (d : Int) - 1 → d ≤ 6 → (∀ j, d ≤ j → j ≤ 5 → ¬ plc v s j) → xE xD m_R_widest 2 [.int (c 2 s), .int a1] [] σ (sm_I (fun x σ' => wdv v s x ∧ σ' = σ)) := by
  intro d
  induction d with
  | zero =>
    intro a1 h1 _ hz
    refine d_R_widest_2 _ a1 σ _ ⟨fun _ => ⟨_, rfl, Or.inl ⟨rfl, fun o ho => hz o (by omega) ho⟩, rfl⟩, fun z => absurd ?_ z⟩
    rw [t_lt, h1]; decide
  | succ d ih =>
    intro a1 h1 hd hz
    have h1' : a1.toInt = (d : Int) := by omega
    have h2 : (a1 + (-1)).toInt = (d : Int) - 1 := by
      rw [t_add h1' (y := -1) rfl (by omega) (by omega)]
      omega
    refine d_R_widest_2 _ a1 σ _ ⟨fun z => ?_, fun _ => (c_starts h1' (by omega) (c 2 s) σ).int ?_⟩
    · rw [t_lt, h1'] at z
      have z : (d : Int) < 0 := z
      omega
    · rintro x2 σ1 ⟨ex2, es⟩
      rw [ex2, es]
      refine ⟨fun z => ih _ h2 (by omega) (fun j hj hj5 => ?_), fun z => ⟨_, rfl, Or.inr ⟨d, by omega, h1', (plc_st h hs (by omega)).mp z, fun j hj hj5 => hz j (by omega) hj5⟩, rfl⟩⟩
      by_cases e : j = d
      · rw [e, ← plc_st h hs (by omega)]
        exact fun w => w z
      · exact hz j (by omega) hj5
theorem e_widest2 {c : sm_S} {v : Nat → Int32} {s : Nat} (h : sim0 c v) (hs : s < 8) (σ : sm_S) : xC xD j_R_widest [.int (c 2 s)] σ (sm_I (fun x σ' => wdv v s x ∧ σ' = σ)) := d_R_widest _ σ _ (l_widest2 h hs σ 6 5 rfl (by omega) (fun j hj hj5 => by omega))
theorem kp32 : ∀ o, o ≤ 5 → 2 ^ (5 - o) * 2 ^ o = 32 := by decide
theorem plc_at {v : Nat → Int32} {s o : Nat} (ho : o ≤ 5) (h : plc v s o) : ∃ j, j < 2 ^ (5 - o) ∧ frF (frV v) (32 * s + j * 2 ^ o) o := by
  obtain ⟨f, f1, f2, f3⟩ := h
  have dv : (2 : Nat) ^ o ∣ 32 := Nat.pow_dvd_pow 2 (show o ≤ 5 from ho)
  have m0 : f % 32 % 2 ^ o = 0 := by rw [Nat.mod_mod_of_dvd _ dv]; exact f2
  have e := al_pow m0
  refine ⟨f % 32 / 2 ^ o, ?_, ?_⟩
  · refine Nat.lt_of_mul_lt_mul_right (a := 2 ^ o) ?_
    rw [e, kp32 o ho]
    omega
  · rw [e, show 32 * s + f % 32 = f by omega]
    exact f3
theorem plc_of {v : Nat → Int32} {s o j : Nat} (ho : o ≤ 5) (hj : j < 2 ^ (5 - o)) (h : frF (frV v) (32 * s + j * 2 ^ o) o) : plc v s o := by
  have k := kp32 o ho
  have lt : j * 2 ^ o < 32 := by rw [← k]; exact Nat.mul_lt_mul_of_pos_right hj (Nat.two_pow_pos o)
  refine ⟨32 * s + j * 2 ^ o, by omega, ?_, h⟩
  rw [← k, Nat.mul_assoc, Nat.mul_comm (2 ^ o) s, ← Nat.mul_assoc, ← Nat.add_mul, Nat.mul_mod_left]
theorem l_great15 {a1 a3 m0 : Int32} {s o : Nat} {Q : Option Value → sm_S → Prop} (h1 : a1.toInt = s) (hs : s < 8) (h3 : a3.toInt = o) (ho : o ≤ 5) (σ : sm_S) (k : ∀ (a2 a4 : Int32), ((a2 = m0 ∧ ¬ plc (σ 1) s o) ∨ (a2 = a3 ∧ plc (σ 1) s o)) → xE xM m_M_greatestIn 4 [.ref 0, .int a1, .int a2, .int (a3 + 1), .int a4] [] σ Q) : ∀ (d i : Nat) (a2 a4 : Int32), a4.toInt = ((32 * s + i * 2 ^ o : Nat) : Int) → i + d = 2 ^ (5 - o) → ((a2 = m0 ∧ ∀ j, j < i → ¬ frF (frV (σ 1)) (32 * s + j * 2 ^ o) o) ∨ (a2 = a3 ∧ plc (σ 1) s o)) → xE xM m_M_greatestIn 15 [.ref 0, .int a1, .int a2, .int a3, .int a4] [] σ Q := by
  have kp := kp32 o ho
  have h32 : (32 * a1 + 32).toInt = ((32 * s + 32 : Nat) : Int) := by
    have e := t_ix (c := 0) (m := 32) (C := 0) (M := 32) (k := 32) (j := 32) rfl rfl h1 rfl (by omega)
    rw [Int32.zero_add] at e
    rw [e]
    omega
  intro d
  induction d with
  | zero =>
    intro i a2 a4 h4 hi hq
    have hi : i = 2 ^ (5 - o) := by omega
    rw [hi, kp] at h4
    refine w_M_greatestIn_15 a1 a2 a3 a4 σ _ ⟨fun _ => k a2 a4 ?_, fun z => absurd (by rw [t_le, h32, h4]; omega) z⟩
    rcases hq with ⟨q1, q2⟩ | q
    · refine Or.inl ⟨q1, fun z => ?_⟩
      obtain ⟨j, j1, j2⟩ := plc_at ho z
      exact q2 j (by omega) j2
    · exact Or.inr q
  | succ d ih =>
    intro i a2 a4 h4 hi hq
    have lt : (i + 1) * 2 ^ o ≤ 32 := by rw [← kp]; exact Nat.mul_le_mul_right _ (by omega)
    rw [Nat.succ_mul] at lt
    have hp := Nat.two_pow_pos o
    have h4' : (a4 + ((1 : Int32) <<< (a3 &&& 31))).toInt = ((32 * s + (i + 1) * 2 ^ o : Nat) : Int) := by
      have e : (i + 1) * 2 ^ o = i * 2 ^ o + 2 ^ o := Nat.succ_mul i (2 ^ o)
      rw [t_add h4 (t_pow h3 (by omega)) (by omega) (by omega), e]
      omega
    refine w_M_greatestIn_15 a1 a2 a3 a4 σ _ ⟨fun z => ?_, fun _ => (c_areFree h4 (by omega) h3 ho σ).int ?_⟩
    · rw [t_le, h32, h4] at z
      omega
    · rintro x2 σ1 ⟨hx2, es⟩
      rw [es]
      refine ⟨fun z => ih (i + 1) a2 _ h4' (by omega) ?_, fun z => ih (i + 1) a3 _ h4' (by omega) (Or.inr ⟨rfl, ?_⟩)⟩
      · rcases hq with ⟨q1, q2⟩ | q
        · refine Or.inl ⟨q1, fun j hj => ?_⟩
          by_cases e : j = i
          · rw [e]
            rcases hx2 with ⟨w, -⟩ | ⟨-, w, w1, w2⟩
            · rw [w] at z; exact absurd z (by decide)
            · exact fun g => w2 (g w w1)
          · exact q2 j (by omega)
        · exact Or.inr q
      · rcases hx2 with ⟨-, w⟩ | ⟨w, -⟩
        · exact plc_of ho (by omega) w
        · exact absurd w z
theorem l_great4 {a1 : Int32} {s : Nat} (h1 : a1.toInt = s) (hs : s < 8) (σ : sm_S) : ∀ (d o : Nat) (a2 a3 : Int32) (v4 : Value), a3.toInt = o → o + d = 6 → ((a2 = -1 ∧ ∀ j, j < o → ¬ plc (σ 1) s j) ∨ ∃ h : Nat, h < o ∧ a2.toInt = h ∧ plc (σ 1) s h ∧ ∀ j, h < j → j < o → ¬ plc (σ 1) s j) → xE xM m_M_greatestIn 4 [.ref 0, .int a1, .int a2, .int a3, v4] [] σ (sm_I (fun x σ' => wdv (σ 1) s x ∧ σ' = σ)) := by
  intro d
  induction d with
  | zero =>
    intro o a2 a3 v4 h3 hk hq
    refine w_M_greatestIn_4 a1 a2 a3 v4 σ _ ⟨fun _ => ⟨_, rfl, ?_, rfl⟩, fun z => absurd (by rw [t_lt, h3]; show (5 : Int) < _; omega) z⟩
    rcases hq with ⟨q1, q2⟩ | ⟨h, q1, q2, q3, q4⟩
    · exact Or.inl ⟨q1, fun j hj => q2 j (by omega)⟩
    · exact Or.inr ⟨h, by omega, q2, q3, fun j hj hj5 => q4 j hj (by omega)⟩
  | succ d ih =>
    intro o a2 a3 v4 h3 hk hq
    have h3' : (a3 + 1).toInt = ((o + 1 : Nat) : Int) := by
      rw [t_add h3 (y := 1) rfl (by omega) (by omega)]
      omega
    have h0 : (32 * a1).toInt = ((32 * s + 0 * 2 ^ o : Nat) : Int) := by
      rw [t_mul (x := 32) (y := s) rfl h1 (by omega) (by omega)]
      omega
    refine w_M_greatestIn_4 a1 a2 a3 v4 σ _ ⟨fun z => ?_, fun _ => l_great15 (m0 := a2) h1 hs h3 (by omega) σ (fun b2 b4 hb => ih (o + 1) b2 (a3 + 1) _ h3' (by omega) ?_) (2 ^ (5 - o)) 0 a2 _ h0 (by omega) (Or.inl ⟨rfl, fun j hj => by omega⟩)⟩
    · rw [t_lt, h3] at z
      have z : (5 : Int) < o := z
      omega
    · rcases hb with ⟨b1, b5⟩ | ⟨b1, b5⟩
      · rw [b1]
        rcases hq with ⟨q1, q2⟩ | ⟨h, q1, q2, q3, q4⟩
        · refine Or.inl ⟨q1, fun j hj => ?_⟩
          by_cases e : j = o
          · rw [e]; exact b5
          · exact q2 j (by omega)
        · refine Or.inr ⟨h, by omega, q2, q3, fun j hj hj2 => ?_⟩
          by_cases e : j = o
          · rw [e]; exact b5
          · exact q4 j hj (by omega)
      · exact Or.inr ⟨o, by omega, by rw [b1]; exact h3, b5, fun j hj hj2 => by omega⟩
theorem c_greatestIn2 {a1 : Int32} {s : Nat} (h1 : a1.toInt = s) (hs : s < 8) (σ : sm_S) : xC xM j_M_greatestIn [.ref 0, .int a1] σ (sm_I (fun x σ' => wdv (σ 1) s x ∧ σ' = σ)) := w_M_greatestIn a1 σ _ (l_great4 h1 hs σ 6 0 (-1) 0 .null rfl rfl (Or.inl ⟨rfl, fun j hj => by omega⟩))
theorem l_wz2 {v : Nat → Int32} {c : sm_S} (h : sim0 c v) (a1 a2 : Int32) : ∀ (d k : Nat) (a a3 : Int32), a3.toInt = k → k + d = 8 → ∃ r : Int32, xE xD m_Y_widestInZone 4 [.ref 0, .int a1, .int a, .int a3] [] c (sm_I (fun x σ' => x = r ∧ σ' = c)) ∧ ∀ σ2 : sm_S, σ2 1 = v → xE xM m_M_zone 56 [.ref 0, .int a1, .int a2, .int a, .int a3] [] σ2 (sm_I (fun x _ => x = r)) := by
  intro d
  induction d with
  | zero =>
    intro k a a3 h3 hk
    have l : (8 : Int32) ≤ a3 := by rw [t_le, h3]; show (8 : Int) ≤ _; omega
    exact ⟨a, d_Y_widestInZone_4 a1 a a3 c _ ⟨fun _ => ⟨_, rfl, rfl, rfl⟩, fun z => absurd l z⟩, fun σ2 _ => w_M_zone_56 a1 a2 a a3 σ2 _ ⟨fun _ => ⟨_, rfl, rfl⟩, fun z => absurd l z⟩⟩
  | succ d ih =>
    intro k a a3 h3 hk
    have h3' : (a3 + 1).toInt = ((k + 1 : Nat) : Int) := by
      rw [t_add h3 (y := 1) rfl (by omega) (by omega)]
      omega
    have l : ¬ (8 : Int32) ≤ a3 := by rw [t_le, h3]; show ¬ (8 : Int) ≤ _; omega
    have vv := t_vp (N := 8) h3 (by omega)
    obtain ⟨y, hy, cy⟩ := pick (e_widest2 h (show k < 8 by omega) c)
    by_cases q : zV v k ≠ a1
    · obtain ⟨r, r1, r2⟩ := ih (k + 1) a (a3 + 1) h3' (by omega)
      refine ⟨r, d_Y_widestInZone_4 a1 a a3 c _ ⟨fun z => absurd z l, fun _ => ?_⟩, fun σ2 e2 => w_M_zone_56 a1 a2 a a3 σ2 _ ⟨fun z => absurd z l, fun _ => (c_zoneOf2 h3 (by omega) σ2).int ?_⟩⟩
      · rw [t_nat h3, sim_zone h (by omega)]
        exact ⟨vv, fun _ => r1, fun z => absurd q z⟩
      · rintro x2 σ3 ⟨ex2, es⟩
        rw [ex2, es, e2]
        exact ⟨fun _ => r2 σ2 e2, fun z => absurd q z⟩
    · obtain ⟨r, r1, r2⟩ := ih (k + 1) (if a < y then y else a) (a3 + 1) h3' (by omega)
      refine ⟨r, d_Y_widestInZone_4 a1 a a3 c _ ⟨fun z => absurd z l, fun _ => ?_⟩, fun σ2 e2 => w_M_zone_56 a1 a2 a a3 σ2 _ ⟨fun z => absurd z l, fun _ => (c_zoneOf2 h3 (by omega) σ2).int ?_⟩⟩
      · rw [t_nat h3, sim_zone h (by omega)]
        refine ⟨vv, fun z => absurd z q, fun _ => ⟨vv, cy.int ?_⟩⟩
        rintro x σ3 ⟨ex, es⟩
        rw [ex, es]
        exact r1
      · rintro x2 σ3 ⟨ex2, es⟩
        rw [ex2, es, e2]
        refine ⟨fun z => absurd z q, fun _ => (c_greatestIn2 h3 (by omega) σ2).int ?_⟩
        rintro x4 σ4 ⟨hx4, es4⟩
        rw [e2] at hx4
        rw [wdv_un hx4 hy, es4]
        refine ⟨fun z => ?_, fun z => (c_greatestIn2 h3 (by omega) σ2).int ?_⟩
        · rw [if_neg (by rw [t_lt]; rw [t_le] at z; omega)] at r2
          exact r2 σ2 e2
        · rintro x6 σ6 ⟨hx6, es6⟩
          rw [e2] at hx6
          rw [wdv_un hx6 hy, es6]
          rw [if_pos (by rw [t_lt]; rw [t_le] at z; omega)] at r2
          exact r2 σ2 e2
theorem fin_le {F : Nat → Nat} (h : ∀ i, F i ≤ 1) (k : Nat) : sumN F k ≤ k := by
  have := sumN_bd (F := F) (K := 1) (n := k) h
  omega
theorem l_freeIn2 (a1 : Int32) (σ : sm_S) : ∀ (d k : Nat) (a2 a3 : Int32), a3.toInt = k → k + d = 256 → a2.toInt = ((sumN (fun f => if σ 1 (18 + 3 * f) = 1 ∧ zV (σ 1) (f / 32) = a1 then 1 else 0) k : Nat) : Int) → xE xM m_M_freeIn 4 [.ref 0, .int a1, .int a2, .int a3] [] σ (sm_I (fun x σ' => x.toInt = ((sumN (fun f => if σ 1 (18 + 3 * f) = 1 ∧ zV (σ 1) (f / 32) = a1 then 1 else 0) 256 : Nat) : Int) ∧ σ' = σ)) := by
  have bd : ∀ k, sumN (fun f => if σ 1 (18 + 3 * f) = 1 ∧ zV (σ 1) (f / 32) = a1 then 1 else 0) k ≤ k := fun k => fin_le (fun i => by split <;> omega) k
  intro d
  induction d with
  | zero =>
    intro k a2 a3 h3 hk h2
    have hk : k = 256 := by omega
    subst hk
    exact w_M_freeIn_4 a1 a2 a3 σ _ ⟨fun _ => ⟨_, rfl, h2, rfl⟩, fun h => absurd (by rw [t_le, h3]; show (256 : Int) ≤ _; omega) h⟩
  | succ d ih =>
    intro k a2 a3 h3 hk h2
    have h3' : (a3 + 1).toInt = ((k + 1 : Nat) : Int) := by
      rw [t_add h3 (y := 1) rfl (by omega) (by omega)]
      omega
    have b := bd k
    have no : ¬ (σ 1 (18 + 3 * k) = 1 ∧ zV (σ 1) (k / 32) = a1) → xE xM m_M_freeIn 4 [.ref 0, .int a1, .int a2, .int (a3 + 1)] [] σ (sm_I (fun x σ' => x.toInt = ((sumN (fun f => if σ 1 (18 + 3 * f) = 1 ∧ zV (σ 1) (f / 32) = a1 then 1 else 0) 256 : Nat) : Int) ∧ σ' = σ)) := fun q => ih (k + 1) a2 (a3 + 1) h3' (by omega) (by
      rw [h2]
      show _ = ((sumN (fun f => if σ 1 (18 + 3 * f) = 1 ∧ zV (σ 1) (f / 32) = a1 then 1 else 0) k + (if σ 1 (18 + 3 * k) = 1 ∧ zV (σ 1) (k / 32) = a1 then 1 else 0) : Nat) : Int)
      rw [if_neg q]
      rfl)
    refine w_M_freeIn_4 a1 a2 a3 σ _ ⟨fun z => ?_, fun _ => (c_isFree h3 (by omega) σ).int ?_⟩
    · rw [t_le, h3] at z
      have z : (256 : Int) ≤ k := z
      omega
    · rintro x2 σ1 ⟨hx2, es⟩
      rw [es]
      refine ⟨fun z => no (fun w => ?_), fun z => (c_spanOf2 h3 σ).int ?_⟩
      · rcases hx2 with ⟨y, -⟩ | ⟨-, y⟩
        · rw [y] at z; exact absurd z (by decide)
        · exact y w.1
      · have f1 : σ 1 (18 + 3 * k) = 1 := by
          rcases hx2 with ⟨-, y⟩ | ⟨y, -⟩
          · exact y
          · exact absurd y z
        rintro x4 σ4 ⟨ex4, es4⟩
        rw [es4]
        refine (c_zoneOf2 ex4 (by omega) σ).int ?_
        rintro x6 σ6 ⟨ex6, es6⟩
        rw [ex6, es6]
        refine ⟨fun z => no (fun w => z w.2), fun z => ih (k + 1) (a2 + 1) (a3 + 1) h3' (by omega) ?_⟩
        rw [t_add h2 (y := 1) rfl (by omega) (by omega)]
        show _ = ((sumN (fun f => if σ 1 (18 + 3 * f) = 1 ∧ zV (σ 1) (f / 32) = a1 then 1 else 0) k + (if σ 1 (18 + 3 * k) = 1 ∧ zV (σ 1) (k / 32) = a1 then 1 else 0) : Nat) : Int)
        rw [if_pos ⟨f1, Classical.not_not.mp z⟩]
        omega
def fzN (v : Nat → Int32) (z : Int32) (k : Nat) : Nat := sumN (fun s => if zV v s = z then cnS v s 1 else 0) k
theorem fz_eq (v : Nat → Int32) (z : Int32) : sumN (fun f => if v (18 + 3 * f) = 1 ∧ zV v (f / 32) = z then 1 else 0) 256 = fzN v z 8 := by
  rw [show (256 : Nat) = 32 * 8 from rfl, sumN_blk 32 8]
  refine sumN_cg (fun s hs => ?_)
  by_cases q : zV v s = z
  · rw [if_pos q]
    exact sumN_cg (fun i hi => by
      show (if v (18 + 3 * (32 * s + i)) = 1 ∧ zV v ((32 * s + i) / 32) = z then 1 else 0) = _
      rw [show (32 * s + i) / 32 = s by omega]
      by_cases w : v (18 + 3 * (32 * s + i)) = 1
      · rw [if_pos ⟨w, q⟩, if_pos w]
      · rw [if_neg (fun y => w y.1), if_neg w])
  · rw [if_neg q, sumN_cg (G := fun _ => 0) (fun i hi => ?_), sumN_0]
    show (if v (18 + 3 * (32 * s + i)) = 1 ∧ zV v ((32 * s + i) / 32) = z then 1 else 0) = 0
    rw [show (32 * s + i) / 32 = s by omega, if_neg (fun y => q y.2)]
theorem fz_le (v : Nat → Int32) (z : Int32) (k : Nat) : fzN v z k ≤ 32 * k := sumN_bd (fun s => by
  have := cnS_le v s 1
  split <;> omega)
theorem l_fz2 {c : sm_S} {v : Nat → Int32} (h : sim0 c v) (a1 : Int32) : ∀ (d k : Nat) (a2 a3 : Int32), a3.toInt = k → k + d = 8 → a2.toInt = ((fzN v a1 k : Nat) : Int) → xE xD m_Y_freeInZone 4 [.ref 0, .int a1, .int a2, .int a3] [] c (sm_I (fun x σ' => x.toInt = ((fzN v a1 8 : Nat) : Int) ∧ σ' = c)) := by
  intro d
  induction d with
  | zero =>
    intro k a2 a3 h3 hk h2
    have hk : k = 8 := by omega
    subst hk
    exact d_Y_freeInZone_4 a1 a2 a3 c _ ⟨fun _ => ⟨_, rfl, h2, rfl⟩, fun h => absurd (by rw [t_le, h3]; show (8 : Int) ≤ _; omega) h⟩
  | succ d ih =>
    intro k a2 a3 h3 hk h2
    have h3' : (a3 + 1).toInt = ((k + 1 : Nat) : Int) := by
      rw [t_add h3 (y := 1) rfl (by omega) (by omega)]
      omega
    have b := fz_le v a1 k
    have vv := t_vp (N := 8) h3 (by omega)
    refine d_Y_freeInZone_4 a1 a2 a3 c _ ⟨fun z => ?_, fun _ => ?_⟩
    · rw [t_le, h3] at z
      have z : (8 : Int) ≤ k := z
      omega
    · rw [t_nat h3, sim_zone h (by omega)]
      refine ⟨vv, fun q => ih (k + 1) (a2 + 0) (a3 + 1) h3' (by omega) ?_, fun q => ⟨vv, (c_bitCount2 (c 2 k) c).int ?_⟩⟩
      · rw [Int32.add_zero, h2]
        show _ = ((fzN v a1 k + (if zV v k = a1 then cnS v k 1 else 0) : Nat) : Int)
        rw [if_neg q]
        rfl
      · rintro x2 σ1 ⟨ex2, es⟩
        rw [es]
        rw [(pc_fr h (show k < 8 by omega)).1] at ex2
        have b2 := cnS_le v k 1
        refine ih (k + 1) (a2 + x2) (a3 + 1) h3' (by omega) ?_
        rw [t_add h2 ex2 (by omega) (by omega)]
        show _ = ((fzN v a1 k + (if zV v k = a1 then cnS v k 1 else 0) : Nat) : Int)
        rw [if_pos (Classical.not_not.mp q)]
        omega
