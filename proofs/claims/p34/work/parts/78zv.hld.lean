/-! ===== the simulation: holders answers the same ===== -/
theorem sumN_mo {F : Nat → Nat} {a b : Nat} (h : a ≤ b) : sumN F a ≤ sumN F b := by
  induction b with
  | zero =>
    have e : a = 0 := by omega
    exact Nat.le_of_eq (by rw [e])
  | succ b ih =>
    by_cases e : a = b + 1
    · exact Nat.le_of_eq (by rw [e])
    · have := ih (by omega)
      show sumN F a ≤ sumN F b + F b
      omega
theorem sumN_st {F : Nat → Nat} {a b q : Nat} (h : sumN F a = sumN F b) (h1 : a ≤ q) (h2 : q < b) : F q = 0 := by
  have m1 := sumN_mo (F := F) h1
  have m2 : sumN F q + F q ≤ sumN F b := sumN_mo (F := F) (a := q + 1) (b := b) (by omega)
  omega
theorem sumN_eq {F : Nat → Nat} {a b : Nat} (h : a ≤ b) (hz : ∀ q, a ≤ q → q < b → F q = 0) : sumN F b = sumN F a := by
  induction b with
  | zero =>
    have e : a = 0 := by omega
    rw [e]
  | succ b ih =>
    by_cases e : a = b + 1
    · rw [e]
    · have e1 := hz b (by omega) (by omega)
      have e2 := ih (by omega) (fun q h1 h2 => hz q h1 (by omega))
      show sumN F b + F b = sumN F a
      omega
theorem or0 (x : Int32) : x ||| 0 = x := bit_ext (fun i _ => by
  rw [bit_or]
  exact ⟨fun z => z.resolve_right bit_0, Or.inl⟩)
theorem orA (x y z : Int32) : (x ||| y) ||| z = x ||| (y ||| z) := bit_ext (fun i _ => by
  rw [bit_or, bit_or, bit_or, bit_or]
  exact or_assoc)
theorem orC (x y : Int32) : x ||| y = y ||| x := bit_ext (fun i _ => by
  rw [bit_or, bit_or]
  exact or_comm)
/-- the block of a frame -/
def hb (v : Nat → Int32) (f : Nat) : Nat := (v (18 + 3 * f + 1) - 1).toNatClampNeg
theorem hb_of {v : Nat → Int32} {f n : Nat} (h : (v (18 + 3 * f + 1)).toInt = ((n + 1 : Nat) : Int)) (hn : n < 96) : hb v f = n := t_nat (t_m1 h (by omega))
def ctr (v : Nat → Int32) (f : Nat) : Int32 := if wt v f = 1 then v (786 + 16 * hb v f + 5) ||| (if v (786 + 16 * hb v f + 3) = 1 then (1 : Int32) <<< (v (786 + 16 * hb v f + 4) &&& 31) else 0) else 0
def hacc (v : Nat → Int32) (s : Nat) : Nat → Int32
  | 0 => 0
  | p + 1 => hacc v s p ||| ctr v (32 * s + p)
theorem l_hldr2 {a1 : Int32} {s : Nat} {v : Nat → Int32} (h1 : a1.toInt = s) (hs : s < 8) (σ : sm_S) (h : sim0 σ v) : ∀ (d k : Nat) (a2 a3 : Int32) (v4 : Value), a3.toInt = ((32 * s + k : Nat) : Int) → k + d = 32 → a2 = hacc v s k → xE xD m_Y_holdersOf 7 [.ref 0, .int a1, .int a2, .int a3, v4] [] σ (sm_I (fun x σ' => x = hacc v s 32 ∧ σ' = σ)) := by
  have hI : ((a1 + 1) * 32).toInt = ((32 * s + 32 : Nat) : Int) := by
    rw [t_mul (t_add h1 (y := 1) rfl (by omega) (by omega)) (y := 32) rfl (by omega) (by omega)]
    omega
  intro d
  induction d with
  | zero =>
    intro k a2 a3 v4 h3 hk h2
    have hk : k = 32 := by omega
    subst hk
    have le : (a1 + 1) * 32 ≤ a3 := by rw [t_le, hI, h3]; omega
    exact d_Y_holdersOf_7 a1 a2 a3 v4 σ _ ⟨fun _ => ⟨_, rfl, h2, rfl⟩, fun z => absurd le z⟩
  | succ d ih =>
    intro k a2 a3 v4 h3 hk h2
    have nle : ¬ (a1 + 1) * 32 ≤ a3 := by rw [t_le, hI, h3]; omega
    have h3' : (a3 + 1).toInt = ((32 * s + (k + 1) : Nat) : Int) := by
      rw [t_add h3 (y := 1) rfl (by omega) (by omega)]
      omega
    refine d_Y_holdersOf_7 a1 a2 a3 v4 σ _ ⟨fun z => absurd z nle, fun _ => (e_blockAt2 h3 (by omega) σ h).int ?_⟩
    rintro x2 σ1 ⟨hx2, es⟩
    rw [es]
    rcases hx2 with ⟨xm, wn⟩ | ⟨n, hn, hxn, h0, b3, f3, fb⟩
    · refine ⟨fun _ => ih (k + 1) a2 (a3 + 1) _ h3' (by omega) ?_, fun z => absurd xm z⟩
      have ec : ctr v (32 * s + k) = 0 := if_neg wn
      show a2 = hacc v s k ||| ctr v (32 * s + k)
      rw [ec, or0, h2]
    · have vx := t_vp hxn hn
      have w1 : wt v (32 * s + k) = 1 := by rw [wt_1 f3 fb hn, if_pos b3]
      have gb := ((h.B n hn).al h0).1
      have ec : ctr v (32 * s + k) = σ 13 n ||| (if σ 11 n = 1 then (1 : Int32) <<< (σ 12 n &&& 31) else 0) := by
        unfold ctr
        rw [if_pos w1, hb_of fb hn, gb.kin, gb.pin, gb.own]
      rw [t_nat hxn]
      refine ⟨fun z => absurd z (ne_m1 hxn), fun _ => ⟨vx, vx, fun z => ih (k + 1) _ (a3 + 1) _ h3' (by omega) ?_, fun z => ⟨vx, ih (k + 1) _ (a3 + 1) _ h3' (by omega) ?_⟩⟩⟩
      · show _ = hacc v s k ||| ctr v (32 * s + k)
        rw [ec, h2, if_neg z, or0, or0]
      · show _ = hacc v s k ||| ctr v (32 * s + k)
        rw [ec, h2, if_pos (Classical.not_not.mp z), orA]
theorem c_kw2 {a1 a2 : Int32} {n N : Nat} (h1 : a1.toInt = n) (hn : n < 96) (σ : sm_S) (hj : jj N (σ 1)) : xC xM j_M_keepsWhy [.ref 0, .int a1, .int a2] σ (sm_I (fun x σ' => ((σ 1 (786 + 16 * n + 3) = 1 ∨ σ 1 (786 + 16 * n + 5) ≠ 0) → x ≠ -1) ∧ σ' = σ)) := by
  obtain ⟨o, fr, b1, b2, b3, b4, b5, ⟨t, b6, b6'⟩, -⟩ := hj.2.1.1 n hn
  refine w_M_keepsWhy a1 a2 σ _ ((c_of (k := 3) (j := 3) h1 rfl (by omega) σ).int ?_)
  rintro x2 σ1 ⟨hx2, es1⟩
  rw [es1]
  refine ⟨fun z2 => (c_isPinned h1 hn σ).int ?_, fun _ => ⟨_, rfl, fun _ => by decide, rfl⟩⟩
  rintro x4 σ3 ⟨hx4, es3⟩
  rw [es3]
  refine ⟨fun z4 => (c_of (k := 3) (j := 3) h1 rfl (by omega) σ).int ?_, fun _ => ⟨_, rfl, fun _ => by decide, rfl⟩⟩
  rintro x6 σ5 ⟨hx6, es5⟩
  rw [es5]
  have no : ¬ (σ 1 (786 + 16 * n + 3) = 1 ∨ σ 1 (786 + 16 * n + 5) ≠ 0) := by
    rintro (w | w)
    · exact z2 (hx2.trans w)
    · rcases hx4 with ⟨-, q⟩ | ⟨q, -⟩
      · exact w q
      · rw [q] at z4
        exact absurd z4 (by decide)
  refine ⟨fun _ => (l_keepsWhy h1 hn σ b1 b2 b6 b6' 256 0 0 rfl (by omega) (by omega)).mono ?_, fun _ => ⟨_, rfl, fun w => absurd w no, rfl⟩⟩
  rintro r σ' ⟨x, e, es⟩
  exact ⟨x, e, fun w => absurd w no, es⟩
theorem c_first2 {a1 a2 : Int32} {s r : Nat} (h1 : a1.toInt = s) (hs : s < 8) (h2 : a2.toInt = r) (hr : r ≤ 32) (σ : sm_S) (ow : own (σ 1)) : xC xM j_M_firstBlock [.ref 0, .int a1, .int a2] σ (sm_I (fun x σ' => fst (σ 1) s r x ∧ σ' = σ)) := w_M_firstBlock a1 a2 σ _ (l_first2 h1 hs σ ow (32 - r) r a2 .null .null h2 (by omega) (Nat.le_refl r) (fun f f1 f2 f3 => by exfalso; omega))
def kps (v W : Nat → Int32) (s p : Nat) : Prop := wt v (32 * s + p) = 1 ∧ W (hb v (32 * s + p)) ≠ -1
noncomputable def kct (v W : Nat → Int32) (s r : Nat) : Nat := sumN (fun p => ind (kps v W s p)) r
theorem kct_s (v W : Nat → Int32) (s r : Nat) : kct v W s (r + 1) = kct v W s r + ind (kps v W s r) := rfl
def kat (v W : Nat → Int32) (s : Nat) (a2 x : Int32) : Prop := (a2 = -1 ∧ x.toInt = ((kct v W s 32 : Nat) : Int)) ∨ ∃ j p : Nat, a2.toInt = ((j : Nat) : Int) ∧ p < 32 ∧ kps v W s p ∧ kct v W s p = j ∧ x.toInt = ((hb v (32 * s + p) : Nat) : Int)
theorem l_kat2 {a1 : Int32} {s : Nat} {v W : Nat → Int32} (h1 : a1.toInt = s) (hs : s < 8) (σ : sm_S) (e : σ 1 = v) (ow : own v) (run : ∀ n : Nat, n < 96 → ∀ bI : Int32, bI.toInt = ((n : Nat) : Int) → xC xM j_M_keepsWhy [.ref 0, .int bI, .int a1] σ (sm_I (fun x σ' => x = W n ∧ σ' = σ))) : ∀ (d r m : Nat) (a2 a3 a4 : Int32), r ≤ 32 → 32 ≤ r + d → fst v s r a4 → a3.toInt = ((m : Nat) : Int) → m = kct v W s r → (a2 = -1 ∨ ∃ j : Nat, a2.toInt = ((j : Nat) : Int) ∧ m ≤ j ∧ j < kct v W s 32) → xE xM m_M_keeperAt 10 [.ref 0, .int a1, .int a2, .int a3, .int a4] [] σ (sm_I (fun x σ' => kat v W s a2 x ∧ σ' = σ)) := by
  have stop : ∀ (r m : Nat) (a2 a3 a4 : Int32), r ≤ 32 → a4 = -1 → (∀ f, f < 256 → f / 32 = s → r ≤ f % 32 → wt v f ≠ 1) → a3.toInt = ((m : Nat) : Int) → m = kct v W s r → (a2 = -1 ∨ ∃ j : Nat, a2.toInt = ((j : Nat) : Int) ∧ m ≤ j ∧ j < kct v W s 32) → xE xM m_M_keeperAt 10 [.ref 0, .int a1, .int a2, .int a3, .int a4] [] σ (sm_I (fun x σ' => kat v W s a2 x ∧ σ' = σ)) := by
    intro r m a2 a3 a4 hr am none h3 hm hj
    have eq : kct v W s 32 = kct v W s r := sumN_eq hr (fun q q1 q2 => ind_f (fun z => none (32 * s + q) (by omega) (by omega) (by omega) z.1))
    refine w_M_keeperAt_10 a1 a2 a3 a4 σ _ ⟨fun _ => ⟨fun z => ?_, fun z => ⟨_, rfl, Or.inl ⟨Classical.not_not.mp z, by rw [h3, hm, eq]⟩, rfl⟩⟩, fun z => absurd am z⟩
    exfalso
    rcases hj with w | ⟨j, -, w1, w2⟩
    · exact z w
    · omega
  intro d
  induction d with
  | zero =>
    intro r m a2 a3 a4 hr hd hf h3 hm hj
    rcases hf with ⟨am, none⟩ | ⟨n, fr, hn, hxn, f1, f2, f3, -⟩
    · exact stop r m a2 a3 a4 hr am none h3 hm hj
    · omega
  | succ d ih =>
    intro r m a2 a3 a4 hr hd hf h3 hm hj
    rcases hf with ⟨am, none⟩ | ⟨n, fr, hn, hxn, q1, q2, q3, h0, hfr, f3, fb, none⟩
    · exact stop r m a2 a3 a4 hr am none h3 hm hj
    · obtain ⟨p, hp⟩ : ∃ p, p = fr % 32 := ⟨_, rfl⟩
      have efr : fr = 32 * s + p := by omega
      have hbn : hb v (32 * s + p) = n := by rw [← efr]; exact hb_of fb hn
      have w1 : wt v (32 * s + p) = 1 := by rw [← efr, wt_1 f3 fb hn, if_pos hfr]
      have kr : kct v W s p = m := by
        rw [hm]
        exact sumN_eq (by omega) (fun q y1 y2 => ind_f (fun z => none (32 * s + q) (by omega) (by omega) (by omega) z.1))
      have next : ∀ (b3 : Int32) (m' : Nat), b3.toInt = ((m' : Nat) : Int) → m' = kct v W s (p + 1) → (a2 = -1 ∨ ∃ j : Nat, a2.toInt = ((j : Nat) : Int) ∧ m' ≤ j ∧ j < kct v W s 32) → xC xM j_M_frameOf [.ref 0, .int a4] σ (sm_ri False (fun x4 σ3 => (¬ (32 : Int32) = 0 ∧ xC xM j_M_firstBlock [.ref 0, .int a1, .int ((x4 - x4 / (32 : Int32) * (32 : Int32)) + 1)] σ3 (sm_ri False (fun x6 σ5 => xE xM m_M_keeperAt 10 [.ref 0, .int a1, .int a2, .int b3, .int x6] [] σ5 (sm_I (fun x σ' => kat v W s a2 x ∧ σ' = σ))))))) := by
        intro b3 m' hb3 hm' hj'
        refine (c_frameOf hxn hn σ).int ?_
        rintro x4 σ3 ⟨ex4, es3⟩
        rw [es3]
        have hx4 : x4.toInt = ((fr : Nat) : Int) := by rw [ex4, e]; exact hfr
        have hr1 : (x4 - x4 / (32 : Int32) * (32 : Int32)).toInt = ((fr % 32 : Nat) : Int) := t_rem hx4 rfl (by decide)
        have hr2 : ((x4 - x4 / (32 : Int32) * (32 : Int32)) + 1).toInt = ((p + 1 : Nat) : Int) := by
          rw [t_add hr1 (y := 1) rfl (by omega) (by omega)]
          omega
        refine ⟨by decide, (c_first2 h1 hs hr2 (by omega) σ (by rw [e]; exact ow)).int ?_⟩
        rintro x6 σ5 ⟨hx6, es5⟩
        rw [es5]
        rw [e] at hx6
        exact ih (p + 1) m' a2 b3 x6 (by omega) (by omega) hx6 hb3 hm' hj'
      refine w_M_keeperAt_10 a1 a2 a3 a4 σ _ ⟨fun z => absurd z (ne_m1 hxn), fun _ => (run n hn a4 hxn).int ?_⟩
      rintro x2 σ1 ⟨ex2, es⟩
      rw [es, ex2]
      refine ⟨fun z => ⟨fun z3 => next (a3 + 1) (m + 1) ?_ ?_ ?_, fun z3 => ⟨_, rfl, Or.inr ⟨m, p, ?_, by omega, ⟨w1, ?_⟩, kr, ?_⟩, rfl⟩⟩, fun z => next a3 m h3 ?_ hj⟩
      · rw [t_add h3 (y := 1) rfl (by omega) (by have := t_bd a3; have : kct v W s p ≤ 1 * p := sumN_bd (fun i => ind_le _); omega)]
        omega
      · rw [kct_s, kr, ind_t ⟨w1, by rw [hbn]; exact z⟩]
      · rcases hj with w | ⟨j, y1, y2, y3⟩
        · exact Or.inl w
        · refine Or.inr ⟨j, y1, ?_, y3⟩
          have : m ≠ j := fun q => z3 (t_inj (by rw [h3, y1, q]))
          omega
      · rw [← Classical.not_not.mp z3]
        exact h3
      · rw [hbn]
        exact z
      · rw [hbn]
        exact hxn
      · rw [kct_s, kr, ind_f (fun q => by
          have q2 := q.2
          rw [hbn] at q2
          exact z q2)]
        rfl
theorem c_kat2 {a1 a2 : Int32} {s : Nat} {v W : Nat → Int32} (h1 : a1.toInt = s) (hs : s < 8) (σ : sm_S) (e : σ 1 = v) (ow : own v) (run : ∀ n : Nat, n < 96 → ∀ bI : Int32, bI.toInt = ((n : Nat) : Int) → xC xM j_M_keepsWhy [.ref 0, .int bI, .int a1] σ (sm_I (fun x σ' => x = W n ∧ σ' = σ))) (hj : a2 = -1 ∨ ∃ j : Nat, a2.toInt = ((j : Nat) : Int) ∧ j < kct v W s 32) : xC xM j_M_keeperAt [.ref 0, .int a1, .int a2] σ (sm_I (fun x σ' => kat v W s a2 x ∧ σ' = σ)) := by
  refine w_M_keeperAt a1 a2 σ _ ((c_first2 (r := 0) h1 hs rfl (by omega) σ (by rw [e]; exact ow)).int ?_)
  rintro x2 σ1 ⟨hx2, es⟩
  rw [es]
  rw [e] at hx2
  refine l_kat2 h1 hs σ e ow run 32 0 0 a2 0 x2 (by omega) (by omega) hx2 rfl rfl ?_
  rcases hj with w | ⟨j, y1, y3⟩
  · exact Or.inl w
  · exact Or.inr ⟨j, y1, Nat.zero_le j, y3⟩
theorem hacc_eq {v : Nat → Int32} {s a b : Nat} (h : a ≤ b) (hz : ∀ q, a ≤ q → q < b → ctr v (32 * s + q) = 0) : hacc v s b = hacc v s a := by
  induction b with
  | zero =>
    have e : a = 0 := by omega
    rw [e]
  | succ b ih =>
    by_cases e : a = b + 1
    · rw [e]
    · show hacc v s b ||| ctr v (32 * s + b) = hacc v s a
      rw [hz b (by omega) (by omega), or0]
      exact ih (by omega) (fun q h1 h2 => hz q h1 (by omega))
theorem wt_hb {v : Nat → Int32} {f : Nat} (ow : own v) (hf : f < 256) (h : wt v f = 1) : hb v f < 96 := by
  have h3 : v (18 + 3 * f) = 3 := by
    by_cases q : v (18 + 3 * f) = 3
    · exact q
    · unfold wt at h
      rw [if_neg q] at h
      omega
  obtain ⟨b, fr, o, hb1, fb, -⟩ := ow.tk f hf h3
  rw [hb_of fb hb1]
  exact hb1
theorem l_hd2 {a1 : Int32} {s : Nat} {v W : Nat → Int32} (h1 : a1.toInt = s) (hs : s < 8) (σ : sm_S) (e : σ 1 = v) (ow : own v) (run : ∀ n : Nat, n < 96 → ∀ bI : Int32, bI.toInt = ((n : Nat) : Int) → xC xM j_M_keepsWhy [.ref 0, .int bI, .int a1] σ (sm_I (fun x σ' => x = W n ∧ σ' = σ))) (hW : ∀ n : Nat, n < 96 → (v (786 + 16 * n + 3) = 1 ∨ v (786 + 16 * n + 5) ≠ 0) → W n ≠ -1) : ∀ (d P i : Nat) (a2 a3 : Int32) (v4 : Value), a3.toInt = ((i : Nat) : Int) → i = kct v W s P → P ≤ 32 → 32 ≤ P + d → a2 = hacc v s P → xE xM m_M_holders 19 [.ref 0, .int a1, .int a2, .int a3, v4] [] σ (sm_I (fun x _ => x = hacc v s 32)) := by
  have zc : ∀ p, p < 32 → ind (kps v W s p) = 0 → ctr v (32 * s + p) = 0 := fun p hp z => by
    by_cases w : wt v (32 * s + p) = 1
    · have hn := wt_hb ow (by omega) w
      have wm : ¬ W (hb v (32 * s + p)) ≠ -1 := fun q => by
        rw [ind_t ⟨w, q⟩] at z
        omega
      have k1 : ¬ v (786 + 16 * hb v (32 * s + p) + 3) = 1 := fun q => wm (hW _ hn (Or.inl q))
      have k2 : v (786 + 16 * hb v (32 * s + p) + 5) = 0 := Classical.byContradiction (fun q => wm (hW _ hn (Or.inr q)))
      unfold ctr
      rw [if_pos w, if_neg k1, k2, or0]
    · exact if_neg w
  have kb : ∀ p, kct v W s p ≤ p := fun p => by
    have : kct v W s p ≤ 1 * p := sumN_bd (fun i => ind_le _)
    omega
  have fin : ∀ (P i : Nat) (a2 : Int32), i = kct v W s P → P ≤ 32 → kct v W s 32 ≤ i → a2 = hacc v s P → a2 = hacc v s 32 := fun P i a2 hi hP hle h2 => by
    have m := sumN_mo (F := fun p => ind (kps v W s p)) hP
    have m : kct v W s P ≤ kct v W s 32 := m
    have eq : kct v W s P = kct v W s 32 := by omega
    rw [hacc_eq hP (fun q q1 q2 => zc q q2 (sumN_st (F := fun p => ind (kps v W s p)) eq q1 q2))]
    exact h2
  have tot : ∀ x2 : Int32, kat v W s (-1) x2 → x2.toInt = ((kct v W s 32 : Nat) : Int) := fun x2 hx2 => by
    rcases hx2 with ⟨-, w⟩ | ⟨j, p, w, -⟩
    · exact w
    · have w : (-1 : Int) = _ := w
      omega
  intro d
  induction d with
  | zero =>
    intro P i a2 a3 v4 h3 hi hP hd h2
    refine w_M_holders_19 a1 a2 a3 v4 σ _ ((c_kat2 h1 hs σ e ow run (Or.inl rfl)).int ?_)
    rintro x2 σ1 ⟨hx2, es⟩
    rw [es]
    have T := tot x2 hx2
    have eP : P = 32 := by omega
    refine ⟨fun z => ⟨_, rfl, fin P i a2 hi hP (by rw [hi, eP]; exact Nat.le_refl _) h2⟩, fun z => absurd ?_ z⟩
    rw [t_le, T, h3, hi, eP]
    exact Int.le_refl _
  | succ d ih =>
    intro P i a2 a3 v4 h3 hi hP hd h2
    have kbP := kb P
    refine w_M_holders_19 a1 a2 a3 v4 σ _ ((c_kat2 h1 hs σ e ow run (Or.inl rfl)).int ?_)
    rintro x2 σ1 ⟨hx2, es⟩
    rw [es]
    have T := tot x2 hx2
    refine ⟨fun z => ⟨_, rfl, fin P i a2 hi hP (by rw [t_le, T, h3] at z; omega) h2⟩, fun z => ?_⟩
    rw [t_le, T, h3] at z
    refine (c_kat2 (a2 := a3) h1 hs σ e ow run (Or.inr ⟨i, h3, by omega⟩)).int ?_
    rintro x4 σ3 ⟨hx4, es3⟩
    rw [es3]
    have ex : ∃ p : Nat, p < 32 ∧ kps v W s p ∧ kct v W s p = i ∧ x4.toInt = ((hb v (32 * s + p) : Nat) : Int) := by
      rcases hx4 with ⟨w, -⟩ | ⟨j, p, w1, w2, w3, w4, w5⟩
      · rw [w] at h3
        have h3 : (-1 : Int) = _ := h3
        omega
      · exact ⟨p, w2, w3, by omega, w5⟩
    obtain ⟨p, hp, kp, cp1, hx4n⟩ := ex
    have cs : kct v W s (p + 1) = i + 1 := by rw [kct_s, cp1, ind_t kp]
    have Pp : P ≤ p := by
      refine Classical.byContradiction (fun q => ?_)
      have m := sumN_mo (F := fun p => ind (kps v W s p)) (show p + 1 ≤ P by omega)
      have m : kct v W s (p + 1) ≤ kct v W s P := m
      omega
    have eq : kct v W s P = kct v W s p := by omega
    have hap : hacc v s p = a2 := by
      rw [hacc_eq Pp (fun q q1 q2 => zc q (by omega) (sumN_st (F := fun p => ind (kps v W s p)) eq q1 q2))]
      exact h2.symm
    have hn := wt_hb ow (f := 32 * s + p) (by omega) kp.1
    have h3' : (a3 + 1).toInt = ((i + 1 : Nat) : Int) := by
      rw [t_add h3 (y := 1) rfl (by omega) (by omega)]
      omega
    have ec : ctr v (32 * s + p) = v (786 + 16 * hb v (32 * s + p) + 5) ||| (if v (786 + 16 * hb v (32 * s + p) + 3) = 1 then (1 : Int32) <<< (v (786 + 16 * hb v (32 * s + p) + 4) &&& 31) else 0) := if_pos kp.1
    refine (c_of (k := 3) (j := 3) hx4n rfl (by omega) σ).int ?_
    rintro x6 σ5 ⟨ex6, es5⟩
    rw [es5]
    rw [e] at ex6
    refine ⟨fun z6 => (c_of (k := 5) (j := 5) hx4n rfl (by omega) σ).int ?_, fun z6 => (c_of (k := 4) (j := 4) hx4n rfl (by omega) σ).int ?_⟩
    · rintro x8 σ7 ⟨ex8, es7⟩
      rw [es7]
      rw [e] at ex8
      refine ih (p + 1) (i + 1) _ (a3 + 1) _ h3' cs.symm (by omega) (by omega) ?_
      show _ = hacc v s p ||| ctr v (32 * s + p)
      rw [ec, hap, ex8, if_neg (fun q => z6 (ex6.trans q)), or0]
    · rintro x10 σ9 ⟨ex10, es9⟩
      rw [es9]
      rw [e] at ex10
      refine (c_of (k := 5) (j := 5) hx4n rfl (by omega) σ).int ?_
      rintro x12 σ11 ⟨ex12, es11⟩
      rw [es11]
      rw [e] at ex12
      refine ih (p + 1) (i + 1) _ (a3 + 1) _ h3' cs.symm (by omega) (by omega) ?_
      show _ = hacc v s p ||| ctr v (32 * s + p)
      rw [ec, hap, ex10, ex12, if_pos (ex6.symm.trans (Classical.not_not.mp z6)), orA, orC (v (786 + 16 * hb v (32 * s + p) + 5))]
theorem ky_holders {N : Nat} (a1 : Int32) (σ : sm_S) (h : tw N σ (σ 169)) : ky j_A_holders j_M_holders [.ref 42, .int a1] [.ref 0, .int a1] σ := by
  obtain ⟨ht, hj, hx⟩ := h
  by_cases k1 : 0 ≤ a1.toInt ∧ a1.toInt < 8
  · obtain ⟨s, hm⟩ := t_of k1.1
    have hs : s < 8 := by omega
    have h32 : (a1 * 32).toInt = ((32 * s + 0 : Nat) : Int) := by
      rw [t_mul hm (y := 32) rfl (by omega) (by omega)]
      omega
    refine ⟨hacc (σ 169) s 32, ?_, fun σ2 e2 => ?_⟩
    · refine f_A_holders a1 σ _ ((nw0 (e_isSpanX a1 σ)).int ?_)
      rintro x2 σ1 ⟨hx2, es⟩
      rw [es]
      exact ⟨fun _ => anC (d_Y_holdersOf a1 σ _ (l_hldr2 hm hs σ ht.s 32 0 0 (a1 * 32) .null h32 (by omega) rfl)), fun z => absurd (hx2.b.2.mpr k1) z⟩
    · refine w_M_holders a1 σ2 _ (fun σ1 e1 => (c_isSpanX a1 σ1).int ?_)
      obtain ⟨f1, -⟩ := told1 e2 e1
      rintro x3 σ3 ⟨hx3, es3⟩
      rw [es3]
      refine ⟨fun _ => ?_, fun z => absurd (hx3.b.2.mpr k1) z⟩
      have hj1 : jj N (σ1 1) := by rw [f1]; exact hj
      have ex : ∀ n : Nat, ∃ x : Int32, n < 96 → (((σ1 1 (786 + 16 * n + 3) = 1 ∨ σ1 1 (786 + 16 * n + 5) ≠ 0) → x ≠ -1) ∧ ∀ bI : Int32, bI.toInt = ((n : Nat) : Int) → xC xM j_M_keepsWhy [.ref 0, .int bI, .int a1] σ1 (sm_I (fun y σ' => y = x ∧ σ' = σ1))) := fun n => by
        by_cases hn : n < 96
        · obtain ⟨x, q1, q2⟩ := pick (c_kw2 (a1 := nI n) (a2 := a1) (nI_toInt (by omega)) hn σ1 hj1)
          refine ⟨x, fun _ => ⟨q1, fun bI hbI => ?_⟩⟩
          rw [t_nI hbI]
          exact q2
        · exact ⟨0, fun z => absurd z hn⟩
      obtain ⟨W, hW⟩ : ∃ W : Nat → Int32, ∀ n : Nat, n < 96 → (((σ1 1 (786 + 16 * n + 3) = 1 ∨ σ1 1 (786 + 16 * n + 5) ≠ 0) → W n ≠ -1) ∧ ∀ bI : Int32, bI.toInt = ((n : Nat) : Int) → xC xM j_M_keepsWhy [.ref 0, .int bI, .int a1] σ1 (sm_I (fun y σ' => y = W n ∧ σ' = σ1))) := ⟨fun n => Classical.choose (ex n), fun n => Classical.choose_spec (ex n)⟩
      exact l_hd2 hm hs σ1 f1 ht.s.O (fun n hn => (hW n hn).2) (fun n hn => by rw [← f1]; exact (hW n hn).1) 32 0 0 0 0 .null rfl rfl (by omega) (by omega) rfl
  · refine ⟨-1, ?_, fun σ2 e2 => ?_⟩
    · refine f_A_holders a1 σ _ ((nw0 (e_isSpanX a1 σ)).int ?_)
      rintro x2 σ1 ⟨hx2, es⟩
      rw [es]
      exact ⟨fun z => absurd (hx2.b.2.mp z) k1, fun _ => an_ rfl⟩
    · refine w_M_holders a1 σ2 _ (fun σ1 e1 => (c_isSpanX a1 σ1).int ?_)
      rintro x3 σ3 ⟨hx3, es3⟩
      rw [es3]
      exact ⟨fun z => absurd (hx3.b.2.mp z) k1, fun _ => an_ rfl⟩
theorem ce_holders {B : Nat} (a1 : Int32) (σ : sm_S) (hB : B < 1500000000) (h : LR B σ) : two (fun x y => x = y) j_A_holders j_M_holders [.ref 42, .int a1] [.ref 168, .int a1] B σ := by
  have h2 := h
  obtain ⟨hL, ⟨N, hN, ht⟩, -⟩ := h2
  exact CLk h (a_holdersQ a1 σ h.1.1) (fun σ1 q => m_holders a1 σ1 hB q.2.1) (fun σ1 q => by
    obtain ⟨N, hN, hj⟩ := (lw_bs q.2.1).1
    exact qU (as := [.ref 0, .int a1]) rfl (k_holders (N := N) a1 (sh rM σ1) hj)) (asM := [.ref 0, .int a1]) rfl (ky_holders a1 σ ht)
