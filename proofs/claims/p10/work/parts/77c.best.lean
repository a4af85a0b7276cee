/-! ===== the simulation: the class's best place ===== -/
def frC (c : sm_S) (f : Nat) : Prop := bit (c 2 (f / 32)) (f % 32)
def rkc (h k z : Int32) (s : Nat) : Int32 := if k = 0 then (if z = 1 then 0 else 2) + (if nI (s % 2) = h then 0 else 1) else if z = 0 then (if nI (s % 2) = h then 0 else 1) else -1
def rkC (c : sm_S) (k : Int32) (m s : Nat) : Int32 := rkc (c 27 m) k (c 19 s) s
def onC (c : sm_S) (a : Int32) (s : Nat) : Prop := a = 0 ∨ c 18 s = 1
theorem e_rank2 {a1 : Int32} {n : Nat} (h1 : a1.toInt = n) (hn : n < 8) (a2 a3 : Int32) (σ : sm_S) : xC xD j_Y_rank [.ref 0, .int a1, .int a2, .int a3] σ (sm_I (fun x σ' => x = rkc a3 a2 (σ 19 n) n ∧ σ' = σ)) := by
  have v := t_vp h1 hn
  refine d_Y_rank a1 a2 a3 σ _ ?_
  rw [t_nat h1, show a1 - a1 / 2 * 2 = nI (n % 2) from t_nI (t_rem h1 rfl (by decide))]
  unfold rkc
  generalize σ 19 n = z
  refine ⟨by decide, ?_⟩
  repeat' first
    | apply And.intro
    | exact v
    | intro _
  all_goals refine ⟨_, rfl, ?_, rfl⟩
  all_goals simp_all
theorem pl_in {f o j : Nat} (ho : o ≤ 5) (hj : j < 2 ^ o) : (f / 2 ^ o * 2 ^ o + j) / 32 = f / 32 ∧ (f / 2 ^ o * 2 ^ o + j) % 32 = f % 32 / 2 ^ o * 2 ^ o + j := by
  rcases (show o = 0 ∨ o = 1 ∨ o = 2 ∨ o = 3 ∨ o = 4 ∨ o = 5 by omega) with rfl | rfl | rfl | rfl | rfl | rfl <;> simp only [Nat.reducePow] at hj ⊢ <;> omega
theorem frF_b {c : sm_S} {f o : Nat} (ho : o ≤ 5) : frF (frC c) f o ↔ frb (c 2 (f / 32)) (f % 32) o := by
  constructor
  · intro h j hj
    have := h j hj
    unfold frC at this
    rw [(pl_in ho hj).1, (pl_in ho hj).2] at this
    exact this
  · intro h j hj
    unfold frC
    rw [(pl_in ho hj).1, (pl_in ho hj).2]
    exact h j hj
theorem holF_b {c : sm_S} {f o h : Nat} : holF (frC c) f o h ↔ hol (c 2 (f / 32)) (f % 32) o h := by
  constructor
  · rintro ⟨a1, a2, a3, a4⟩
    refine ⟨a1, a2, (frF_b a2).mp a3, ?_⟩
    by_cases e : h = 5
    · exact Or.inl e
    · exact Or.inr (fun z => a4.resolve_left e ((frF_b (by omega)).mpr z))
  · rintro ⟨a1, a2, a3, a4⟩
    refine ⟨a1, a2, (frF_b a2).mpr a3, ?_⟩
    by_cases e : h = 5
    · exact Or.inl e
    · exact Or.inr (fun z => a4.resolve_left e ((frF_b (by omega)).mp z))
/-- a place's base: the same place -/
theorem base_b (i k : Nat) : i / 2 ^ k * 2 ^ k % 2 ^ k = 0 := Nat.mul_mod_left _ _
theorem base_lt {i k : Nat} : i / 2 ^ k * 2 ^ k ≤ i := Nat.div_mul_le_self _ _
theorem base_up2 (i k : Nat) : i / 2 ^ k * 2 ^ k / 2 ^ (k + 1) = i / 2 ^ (k + 1) := by
  rw [Nat.pow_succ, ← Nat.div_div_eq_div_mul, ← Nat.div_div_eq_div_mul, Nat.mul_div_cancel _ (Nat.two_pow_pos k)]
theorem frb_base {x : Int32} {i k : Nat} (h : frb x i k) : frb x (i / 2 ^ k * 2 ^ k) k := by
  intro j hj
  rw [al_pow (base_b i k)]
  exact h j hj
theorem frb_base1 {x : Int32} {i k : Nat} (h : frb x (i / 2 ^ k * 2 ^ k) (k + 1)) : frb x i (k + 1) := by
  intro j hj
  have := h j hj
  rw [base_up2] at this
  exact this
/-- the hole round i has its base among those alone -/
theorem hol_aln {x : Int32} {i o k : Nat} (hi : i < 32) (h : hol x i o k) : bit (al5 (st x k) k) (i / 2 ^ k * 2 ^ k) := by
  obtain ⟨-, a2, a3, a4⟩ := h
  have hl : i / 2 ^ k * 2 ^ k ≤ i := base_lt
  exact (al5_iff a2 (by omega)).mpr ⟨base_b i k, frb_base a3, a4.imp_right (fun z w => z (frb_base1 w))⟩
/-- what is known of a span that is looked at: the least hole of its places -/
def lho (x : Int32) (o h : Nat) : Prop := o ≤ h ∧ h ≤ 5 ∧ al5 (st x h) h ≠ 0 ∧ ∀ j, o ≤ j → j < h → al5 (st x j) j = 0
theorem lho_le {x : Int32} {o h i k : Nat} (hi : i < 32) (hl : lho x o h) (hk : hol x i o k) : h ≤ k := by
  refine Nat.not_lt.mp (fun c => ?_)
  have := hol_aln hi hk
  rw [hl.2.2.2 k hk.1 c] at this
  exact bit_0 this
def bpC (c : sm_S) (rk : Nat → Int32) (on : Nat → Prop) (o k : Nat) (a5 a6 a7 : Int32) : Prop := (a5 = -1 ∧ ∀ f, f < 32 * k → ¬ cnd (frC c) rk on o f) ∨ ∃ s h : Nat, a5.toInt = s ∧ s < k ∧ rk s ≠ -1 ∧ on s ∧ a6 = rk s ∧ a7.toInt = h ∧ lho (c 2 s) o h ∧ ∀ q j, q < 32 * k → cnd (frC c) rk on o q → holF (frC c) q o j → (rk s).toInt < (rk (q / 32)).toInt ∨ ((rk s).toInt = (rk (q / 32)).toInt ∧ (h < j ∨ (h = j ∧ s ≤ q / 32)))
theorem bpC_no {c : sm_S} {rk : Nat → Int32} {on : Nat → Prop} {o k : Nat} {a5 a6 a7 : Int32} (hn : ∀ f, f / 32 = k → ¬ cnd (frC c) rk on o f) (h : bpC c rk on o k a5 a6 a7) : bpC c rk on o (k + 1) a5 a6 a7 := by
  rcases h with ⟨h1, h2⟩ | ⟨s, r, h1, h2, h3, h4, h5, h6, h7, h8⟩
  · refine Or.inl ⟨h1, fun f hf hc => ?_⟩
    by_cases e : f / 32 = k
    · exact hn f e hc
    · exact h2 f (by omega) hc
  · refine Or.inr ⟨s, r, h1, by omega, h3, h4, h5, h6, h7, fun q j hq hc hj => ?_⟩
    by_cases e : q / 32 = k
    · exact absurd hc (hn q e)
    · exact h8 q j (by omega) hc hj
theorem bpC_new {c : sm_S} {rk : Nat → Int32} {on : Nat → Prop} {o k r : Nat} {a5 a6 a7 b5 b7 : Int32} (hb5 : b5.toInt = k) (hr : rk k ≠ -1) (ho : on k) (hb7 : b7.toInt = r) (hl : lho (c 2 k) o r) (h : bpC c rk on o k a5 a6 a7) (hb : a5 = -1 ∨ (rk k).toInt < a6.toInt ∨ (rk k = a6 ∧ b7.toInt < a7.toInt)) : bpC c rk on o (k + 1) b5 (rk k) b7 := by
  refine Or.inr ⟨k, r, hb5, by omega, hr, ho, rfl, hb7, hl, fun q j hq hc hj => ?_⟩
  by_cases e : q / 32 = k
  · have := lho_le (Nat.mod_lt q (by decide)) (by rw [← e] at hl; exact hl) (holF_b.mp hj)
    rw [e]
    omega
  · rcases h with ⟨-, h2⟩ | ⟨s, w, h1, h2, h3, h4, h5, h6, h7, h8⟩
    · exact absurd hc (h2 q (by omega))
    · have := h8 q j (by omega) hc hj
      have n5 : a5 ≠ -1 := ne_m1 h1
      rcases hb.resolve_left n5 with d | ⟨d, d2⟩
      · rw [h5] at d
        omega
      · rw [h5] at d
        have d' : (rk k).toInt = (rk s).toInt := by rw [d]
        omega
theorem bpC_keep {c : sm_S} {rk : Nat → Int32} {on : Nat → Prop} {o k : Nat} {a5 a6 a7 : Int32} (h : bpC c rk on o k a5 a6 a7) (n5 : a5 ≠ -1) (hb : a6.toInt < (rk k).toInt ∨ (rk k = a6 ∧ ∃ r : Nat, lho (c 2 k) o r ∧ a7.toInt ≤ r)) : bpC c rk on o (k + 1) a5 a6 a7 := by
  rcases h with ⟨h1, -⟩ | ⟨s, w, h1, h2, h3, h4, h5, h6, h7, h8⟩
  · exact absurd h1 n5
  · refine Or.inr ⟨s, w, h1, by omega, h3, h4, h5, h6, h7, fun q j hq hc hj => ?_⟩
    by_cases e : q / 32 = k
    · rw [e]
      rcases hb with d | ⟨d, r, hl, d2⟩
      · rw [h5] at d
        exact Or.inl d
      · have := lho_le (Nat.mod_lt q (by decide)) (by rw [← e] at hl; exact hl) (holF_b.mp hj)
        rw [h5] at d
        have d' : (rk k).toInt = (rk s).toInt := by rw [d]
        omega
    · exact h8 q j (by omega) hc hj
theorem bpC_end {c : sm_S} {rk : Nat → Int32} {on : Nat → Prop} {o s h i : Nat} {x a5 a6 a7 : Int32} (ho : o ≤ 5) (hg : bpC c rk on o 8 a5 a6 a7) (h5 : a5.toInt = s) (hs : s < 8) (h7 : a7.toInt = h) (hi : i < 32) (hb : bit (al5 (st (c 2 s) h) h) i) (hm : ∀ q, q < i → ¬ bit (al5 (st (c 2 s) h) h) q) (hx : x.toInt = ((32 * s + i : Nat) : Int)) : BP (frC c) rk on o x := by
  rcases hg with ⟨g1, -⟩ | ⟨s', h', g1, g2, g3, g4, g5, g6, g7, g8⟩
  · exact absurd g1 (ne_m1 h5)
  · have es : s' = s := by omega
    have eh : h' = h := by omega
    subst es; subst eh
    have d1 : (32 * s' + i) / 32 = s' := by omega
    have d2 : (32 * s' + i) % 32 = i := by omega
    obtain ⟨b1, b2, b3⟩ := (al5_iff g7.2.1 hi).mp hb
    have ha : i % 2 ^ o = 0 := Nat.mod_eq_zero_of_dvd (Nat.dvd_trans (Nat.pow_dvd_pow 2 g7.1) (Nat.dvd_of_mod_eq_zero b1))
    have ha2 : (32 * s' + i) % 2 ^ o = 0 := by
      rcases (show o = 0 ∨ o = 1 ∨ o = 2 ∨ o = 3 ∨ o = 4 ∨ o = 5 by omega) with rfl | rfl | rfl | rfl | rfl | rfl <;> simp only [Nat.reducePow] at ha ⊢ <;> omega
    refine Or.inr ⟨32 * s' + i, hx, ⟨by omega, ha2, by rw [d1]; exact g3, by rw [d1]; exact g4, (frF_b ho).mpr (by rw [d1, d2]; exact frb_le g7.1 b2)⟩, h', holF_b.mpr (by rw [d1, d2]; exact ⟨g7.1, g7.2.1, b2, b3⟩), fun q j hc hj => ?_⟩
    have := g8 q j (by have := hc.1; omega) hc hj
    unfold btr
    rw [d1]
    rcases this with t | ⟨t1, t2 | ⟨t2, t3⟩⟩
    · exact Or.inl t
    · exact Or.inr ⟨t1, Or.inl t2⟩
    · refine Or.inr ⟨t1, Or.inr ⟨t2, ?_⟩⟩
      by_cases e : s' = q / 32
      · have hq := holF_b.mp hj
        have hb2 := hol_aln (Nat.mod_lt q (by decide)) hq
        rw [← t2, ← e] at hb2
        have l1 : i ≤ q % 32 / 2 ^ h' * 2 ^ h' := Nat.not_lt.mp (fun z => hm _ z hb2)
        have l2 : q % 32 / 2 ^ h' * 2 ^ h' ≤ q % 32 := base_lt
        omega
      · omega
theorem l_bestPlaceE2 {a1 a2 a3 a4 : Int32} {m o : Nat} (h1 : a1.toInt = m) (hm : m < 6) (h3 : a3.toInt = o) (ho : o ≤ 4) (σ : sm_S) : ∀ (d k : Nat) (a5 a6 a7 a8 : Int32) (v9 v10 v11 : Value), a8.toInt = k → k + d = 8 → bpC σ (rkC σ a2 m) (onC σ a4) o k a5 a6 a7 → xE xD m_Y_bestPlace 12 [.ref 0, .int a1, .int a2, .int a3, .int a4, .int a5, .int a6, .int a7, .int a8, v9, v10, v11] [] σ (sm_I (fun x σ' => BP (frC σ) (rkC σ a2 m) (onC σ a4) o x ∧ σ' = σ)) := by
  intro d
  induction d with
  | zero =>
    intro k a5 a6 a7 a8 v9 v10 v11 h8 hk hG
    have hk : k = 8 := by omega
    subst hk
    refine d_Y_bestPlace_12 a1 a2 a3 a4 a5 a6 a7 a8 v9 v10 v11 σ _ ⟨fun _ => ⟨fun n5 => ?_, fun z5 => ⟨_, rfl, ?_, rfl⟩⟩, fun h => absurd ?_ h⟩
    · obtain ⟨s, h, g1, g2, g3, g4, g5, g6, g7, g8⟩ := hG.resolve_left (fun z => n5 z.1)
      rw [t_nat g1]
      refine ⟨t_vp g1 g2, (c_starts g6 g7.2.1 _ σ).int ?_⟩
      rintro x2 σ ⟨rfl, rfl⟩
      refine (c_alone g6 g7.2.1 _ _).int ?_
      rintro x4 σ ⟨rfl, rfl⟩
      refine (c_ntz2 _ _).int ?_
      rintro x6 σ ⟨hx6, rfl⟩
      obtain ⟨p, p1, p2, p3, p4⟩ := hx6.resolve_left (fun z => g7.2.2.1 z.1)
      refine ⟨_, rfl, bpC_end (by omega) hG g1 g2 g6 p1 p3 p4 ?_, rfl⟩
      rw [t_add (t_s32 g1 (by omega)) p2 (by omega) (by omega)]
      omega
    · rcases hG with ⟨-, g⟩ | ⟨s, h, g1, -⟩
      · exact Or.inl ⟨rfl, fun f hc => g f (by have := hc.1; omega) hc⟩
      · exact absurd (Classical.not_not.mp z5) (ne_m1 g1)
    · rw [t_le, h8]
      show (8 : Int) ≤ _
      omega
  | succ d ih =>
    intro k a5 a6 a7 a8 v9 v10 v11 h8 hk hG
    have h8' : (a8 + 1).toInt = ((k + 1 : Nat) : Int) := by
      rw [t_add h8 (y := 1) rfl (by omega) (by omega)]
      omega
    have next : ∀ (a5 a6 a7 : Int32) (v9 v10 v11 : Value), bpC σ (rkC σ a2 m) (onC σ a4) o (k + 1) a5 a6 a7 → xE xD m_Y_bestPlace 12 [.ref 0, .int a1, .int a2, .int a3, .int a4, .int a5, .int a6, .int a7, .int (a8 + 1), v9, v10, v11] [] σ (sm_I (fun x σ' => BP (frC σ) (rkC σ a2 m) (onC σ a4) o x ∧ σ' = σ)) := fun a5 a6 a7 v9 v10 v11 hG => ih (k + 1) a5 a6 a7 _ v9 v10 v11 h8' (by omega) hG
    have v8 := t_vp (N := 8) h8 (by omega)
    have no : ∀ (hn : ∀ f, f / 32 = k → ¬ cnd (frC σ) (rkC σ a2 m) (onC σ a4) o f) (v9 v10 v11 : Value), xE xD m_Y_bestPlace 12 [.ref 0, .int a1, .int a2, .int a3, .int a4, .int a5, .int a6, .int a7, .int (a8 + 1), v9, v10, v11] [] σ (sm_I (fun x σ' => BP (frC σ) (rkC σ a2 m) (onC σ a4) o x ∧ σ' = σ)) := fun hn v9 v10 v11 => next _ _ _ _ _ _ (bpC_no hn hG)
    refine d_Y_bestPlace_12 a1 a2 a3 a4 a5 a6 a7 a8 v9 v10 v11 σ _ ⟨fun h => ?_, fun _ => ⟨v8, (c_starts h3 (by omega) _ σ).int ?_⟩⟩
    · rw [t_le, h8] at h
      have h : (8 : Int) ≤ k := h
      omega
    · rw [t_nat h8]
      rintro x8 σ ⟨rfl, rfl⟩
      have z8no : st (σ 2 k) o = 0 → ∀ f, f / 32 = k → ¬ cnd (frC σ) (rkC σ a2 m) (onC σ a4) o f := by
        intro z f e hc
        have hb : bit (st (σ 2 k) o) (f % 32) := (st_iff (by omega) (Nat.mod_lt f (by decide))).mpr ⟨by
          have := hc.2.1
          rcases (show o = 0 ∨ o = 1 ∨ o = 2 ∨ o = 3 ∨ o = 4 by omega) with rfl | rfl | rfl | rfl | rfl <;> simp only [Nat.reducePow] at this ⊢ <;> omega, by rw [← e]; exact (frF_b (by omega)).mp hc.2.2.2.2⟩
        rw [z] at hb
        exact bit_0 hb
      have tail : ∀ (x10 : Int32), st (σ 2 k) o ≠ 0 → onC σ a4 k → x10 = rkC σ a2 m k → ((x10 = (-1) → xE xD m_Y_bestPlace 12 [.ref 0, .int a1, .int a2, .int a3, .int a4, .int a5, .int a6, .int a7, .int (a8 + 1), .int (st (σ 2 k) o), .int x10, v11] [] σ (sm_I (fun x σ' => BP (frC σ) (rkC σ a2 m) (onC σ a4) o x ∧ σ' = σ))) ∧ (¬ (x10 = (-1)) → ((a5 = (-1) → xC xD j_R_leastHole [.int (st (σ 2 k) o), .int a3] σ (sm_ri False (fun x12 σ11 => ((a5 = (-1) → xE xD m_Y_bestPlace 12 [.ref 0, .int a1, .int a2, .int a3, .int a4, .int a8, .int x10, .int x12, .int (a8 + 1), .int (st (σ 2 k) o), .int x10, .int x12] [] σ11 (sm_I (fun x σ' => BP (frC σ) (rkC σ a2 m) (onC σ a4) o x ∧ σ' = σ))) ∧ (¬ (a5 = (-1)) → ((x10 < a6 → xE xD m_Y_bestPlace 12 [.ref 0, .int a1, .int a2, .int a3, .int a4, .int a8, .int x10, .int x12, .int (a8 + 1), .int (st (σ 2 k) o), .int x10, .int x12] [] σ11 (sm_I (fun x σ' => BP (frC σ) (rkC σ a2 m) (onC σ a4) o x ∧ σ' = σ))) ∧ (¬ (x10 < a6) → ((a7 ≤ x12 → xE xD m_Y_bestPlace 12 [.ref 0, .int a1, .int a2, .int a3, .int a4, .int a5, .int a6, .int a7, .int (a8 + 1), .int (st (σ 2 k) o), .int x10, .int x12] [] σ11 (sm_I (fun x σ' => BP (frC σ) (rkC σ a2 m) (onC σ a4) o x ∧ σ' = σ))) ∧ (¬ (a7 ≤ x12) → xE xD m_Y_bestPlace 12 [.ref 0, .int a1, .int a2, .int a3, .int a4, .int a8, .int x10, .int x12, .int (a8 + 1), .int (st (σ 2 k) o), .int x10, .int x12] [] σ11 (sm_I (fun x σ' => BP (frC σ) (rkC σ a2 m) (onC σ a4) o x ∧ σ' = σ))))))))))) ∧ (¬ (a5 = (-1)) → ((x10 ≤ a6 → xC xD j_R_leastHole [.int (st (σ 2 k) o), .int a3] σ (sm_ri False (fun x14 σ13 => ((a5 = (-1) → xE xD m_Y_bestPlace 12 [.ref 0, .int a1, .int a2, .int a3, .int a4, .int a8, .int x10, .int x14, .int (a8 + 1), .int (st (σ 2 k) o), .int x10, .int x14] [] σ13 (sm_I (fun x σ' => BP (frC σ) (rkC σ a2 m) (onC σ a4) o x ∧ σ' = σ))) ∧ (¬ (a5 = (-1)) → ((x10 < a6 → xE xD m_Y_bestPlace 12 [.ref 0, .int a1, .int a2, .int a3, .int a4, .int a8, .int x10, .int x14, .int (a8 + 1), .int (st (σ 2 k) o), .int x10, .int x14] [] σ13 (sm_I (fun x σ' => BP (frC σ) (rkC σ a2 m) (onC σ a4) o x ∧ σ' = σ))) ∧ (¬ (x10 < a6) → ((a7 ≤ x14 → xE xD m_Y_bestPlace 12 [.ref 0, .int a1, .int a2, .int a3, .int a4, .int a5, .int a6, .int a7, .int (a8 + 1), .int (st (σ 2 k) o), .int x10, .int x14] [] σ13 (sm_I (fun x σ' => BP (frC σ) (rkC σ a2 m) (onC σ a4) o x ∧ σ' = σ))) ∧ (¬ (a7 ≤ x14) → xE xD m_Y_bestPlace 12 [.ref 0, .int a1, .int a2, .int a3, .int a4, .int a8, .int x10, .int x14, .int (a8 + 1), .int (st (σ 2 k) o), .int x10, .int x14] [] σ13 (sm_I (fun x σ' => BP (frC σ) (rkC σ a2 m) (onC σ a4) o x ∧ σ' = σ))))))))))) ∧ (¬ (x10 ≤ a6) → xE xD m_Y_bestPlace 12 [.ref 0, .int a1, .int a2, .int a3, .int a4, .int a5, .int a6, .int a7, .int (a8 + 1), .int (st (σ 2 k) o), .int x10, v11] [] σ (sm_I (fun x σ' => BP (frC σ) (rkC σ a2 m) (onC σ a4) o x ∧ σ' = σ)))))))) := by
        intro x10 n8 hon hx
        refine ⟨fun z => no (fun f e hc => hc.2.2.1 (by rw [e, ← hx]; exact z)) _ _ _, fun nr => ?_⟩
        have new : ∀ (x12 : Int32) (h : Nat), x12.toInt = h → lho (σ 2 k) o h → (a5 = -1 ∨ x10.toInt < a6.toInt ∨ (x10 = a6 ∧ x12.toInt < a7.toInt)) → ∀ v9 v10 v11 : Value, xE xD m_Y_bestPlace 12 [.ref 0, .int a1, .int a2, .int a3, .int a4, .int a8, .int x10, .int x12, .int (a8 + 1), v9, v10, v11] [] σ (sm_I (fun x σ' => BP (frC σ) (rkC σ a2 m) (onC σ a4) o x ∧ σ' = σ)) := fun x12 h q1 q2 hb v9 v10 v11 => next _ _ _ _ _ _ (by
          have := bpC_new h8 (by rw [← hx]; exact nr) hon q1 q2 hG (by rw [← hx]; exact hb)
          rw [← hx] at this
          exact this)
        have keep : a5 ≠ -1 → (a6.toInt < x10.toInt ∨ (x10 = a6 ∧ ∃ r : Nat, lho (σ 2 k) o r ∧ a7.toInt ≤ r)) → ∀ v9 v10 v11 : Value, xE xD m_Y_bestPlace 12 [.ref 0, .int a1, .int a2, .int a3, .int a4, .int a5, .int a6, .int a7, .int (a8 + 1), v9, v10, v11] [] σ (sm_I (fun x σ' => BP (frC σ) (rkC σ a2 m) (onC σ a4) o x ∧ σ' = σ)) := fun n5 hb v9 v10 v11 => next _ _ _ _ _ _ (bpC_keep hG n5 (by rw [← hx]; exact hb))
        refine ⟨fun z5 => (c_leastHole2 h3 (by omega) n8 _).int ?_, fun n5 => ⟨fun le => (c_leastHole2 h3 (by omega) n8 _).int ?_, fun nle => keep n5 (Or.inl ?_) _ _ _⟩⟩
        · rintro x12 σ ⟨⟨h, q1, q2, q3, q4, q5⟩, rfl⟩
          exact ⟨fun _ => new x12 h q1 ⟨q2, q3, q4, q5⟩ (Or.inl z5) _ _ _, fun n5 => absurd z5 n5⟩
        · rintro x12 σ ⟨⟨h, q1, q2, q3, q4, q5⟩, rfl⟩
          rw [t_le] at le
          refine ⟨fun z5 => absurd z5 n5, fun _ => ⟨fun lt => new x12 h q1 ⟨q2, q3, q4, q5⟩ (Or.inr (Or.inl (t_lt.mp lt))) _ _ _, fun nlt => ?_⟩⟩
          rw [t_lt] at nlt
          have eq : x10 = a6 := t_inj (by omega)
          refine ⟨fun c => keep n5 (Or.inr ⟨eq, h, ⟨q2, q3, q4, q5⟩, ?_⟩) _ _ _, fun c => new x12 h q1 ⟨q2, q3, q4, q5⟩ (Or.inr (Or.inr ⟨eq, ?_⟩)) _ _ _⟩
          · rw [t_le, q1] at c; exact c
          · rw [t_le] at c; omega
        · rw [t_le] at nle; omega
      refine ⟨fun z => no (z8no z) _ _ _, fun n8 => ⟨fun z4 => ⟨t_vp h1 hm, (e_rank2 h8 (by omega) _ _ _).int ?_⟩, fun n4 => ⟨v8, fun on => ⟨t_vp h1 hm, (e_rank2 h8 (by omega) _ _ _).int ?_⟩, fun off => no (fun f e hc => ?_) _ _ _⟩⟩⟩
      · rw [t_nat h1]
        rintro x10 σ ⟨hx, rfl⟩
        exact tail x10 n8 (Or.inl z4) hx
      · rw [t_nat h1]
        rintro x10 σ ⟨hx, rfl⟩
        exact tail x10 n8 (Or.inr on) hx
      · rcases hc.2.2.2.1 with q | q
        · exact n4 q
        · rw [e] at q; exact off q
theorem e_bestPlace2 {a1 a2 a3 a4 : Int32} {m o : Nat} (h1 : a1.toInt = m) (hm : m < 6) (h3 : a3.toInt = o) (ho : o ≤ 4) (σ : sm_S) : xC xD j_Y_bestPlace [.ref 0, .int a1, .int a2, .int a3, .int a4] σ (sm_I (fun x σ' => BP (frC σ) (rkC σ a2 m) (onC σ a4) o x ∧ σ' = σ)) :=
  d_Y_bestPlace a1 a2 a3 a4 σ _ (l_bestPlaceE2 h1 hm h3 ho σ 8 0 _ _ _ 0 _ _ _ rfl rfl (Or.inl ⟨rfl, fun f hf => absurd hf (by omega)⟩))
