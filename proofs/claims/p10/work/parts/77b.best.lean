/-! ===== the simulation: the best place ===== -/
theorem c_ntz2 (x : Int32) (σ : sm_S) : xC xD j_I_numberOfTrailingZeros [.int x] σ (sm_I (fun y σ' => ((x = 0 ∧ y = 32) ∨ ∃ p : Nat, p < 32 ∧ y.toInt = p ∧ bit x p ∧ ∀ q, q < p → ¬ bit x q) ∧ σ' = σ)) := by
  refine d_I_numberOfTrailingZeros x σ _ ?_
  by_cases h0 : x = 0
  · have e : ((x ^^^ (-1)) &&& (x - 1)) = -1 := by rw [h0]; decide
    rw [e]
    exact ⟨fun h => absurd h (by decide), fun _ => ⟨_, rfl, Or.inl ⟨h0, rfl⟩, rfl⟩⟩
  · obtain ⟨p, hp, e, hb⟩ := ntz_key x h0
    have hq : ∀ q, q < p → ¬ bit x q := by
      intro q hq
      have h1 : bit (nI (2 ^ p - 1)) q := by
        show (BitVec.ofNat 32 (2 ^ p - 1)).getLsbD q = true
        rw [BitVec.getLsbD_ofNat, Nat.testBit_two_pow_sub_one]
        simp [hq, show q < 32 by omega]
      rw [← e, bit_and, bit_not (by omega)] at h1
      exact h1.1
    rw [e]
    have fin : ∀ y : Int32, y.toInt = p → sm_I (fun y σ' => ((x = 0 ∧ y = 32) ∨ ∃ p : Nat, p < 32 ∧ y.toInt = p ∧ bit x p ∧ ∀ q, q < p → ¬ bit x q) ∧ σ' = σ) (some (.int y)) σ := fun y hy => ⟨y, rfl, Or.inr ⟨p, hp, hy, hb, hq⟩, rfl⟩
    clear hq hb e h0
    rcases (show p = 0 ∨ p = 1 ∨ p = 2 ∨ p = 3 ∨ p = 4 ∨ p = 5 ∨ p = 6 ∨ p = 7 ∨ p = 8 ∨ p = 9 ∨ p = 10 ∨ p = 11 ∨ p = 12 ∨ p = 13 ∨ p = 14 ∨ p = 15 ∨ p = 16 ∨ p = 17 ∨ p = 18 ∨ p = 19 ∨ p = 20 ∨ p = 21 ∨ p = 22 ∨ p = 23 ∨ p = 24 ∨ p = 25 ∨ p = 26 ∨ p = 27 ∨ p = 28 ∨ p = 29 ∨ p = 30 ∨ p = 31 by omega) with rfl | rfl | rfl | rfl | rfl | rfl | rfl | rfl | rfl | rfl | rfl | rfl | rfl | rfl | rfl | rfl | rfl | rfl | rfl | rfl | rfl | rfl | rfl | rfl | rfl | rfl | rfl | rfl | rfl | rfl | rfl | rfl
    all_goals repeat' (first | exact fin _ rfl | (refine ⟨fun h => ?_, fun h => ?_⟩ <;> first | exact absurd h (by decide) | skip))
theorem l_leastHole2 {a0 a1 f : Int32} {o : Nat} (σ : sm_S) : ∀ (d k : Nat) (a3 : Int32) (v4 v5 : Value), a3.toInt = k → k + d = 5 → o ≤ k → st f k ≠ 0 → (∀ j, o ≤ j → j < k → al5 (st f j) j = 0) → xE xD m_R_leastHole 4 [.int a0, .int a1, .int (st f k), .int a3, v4, v5] [] σ (sm_I (fun y σ' => (∃ h : Nat, y.toInt = h ∧ o ≤ h ∧ h ≤ 5 ∧ al5 (st f h) h ≠ 0 ∧ ∀ j, o ≤ j → j < h → al5 (st f j) j = 0) ∧ σ' = σ)) := by
  intro d
  induction d with
  | zero =>
    intro k a3 v4 v5 h3 hk hok hs hj
    have hk : k = 5 := by omega
    subst hk
    have fin : sm_I (fun y σ' => (∃ h : Nat, y.toInt = h ∧ o ≤ h ∧ h ≤ 5 ∧ al5 (st f h) h ≠ 0 ∧ ∀ j, o ≤ j → j < h → al5 (st f j) j = 0) ∧ σ' = σ) (some (.int 5)) σ := ⟨5, rfl, ⟨5, rfl, hok, by omega, hs, hj⟩, rfl⟩
    refine d_R_leastHole_4 a0 a1 _ a3 v4 v5 σ _ ⟨fun _ => fin, fun _ => ⟨fun _ => fin, fun h => absurd ?_ h⟩⟩
    rw [t_le, h3]; decide
  | succ d ih =>
    intro k a3 v4 v5 h3 hk hok hs hj
    have h3' : (a3 + 1).toInt = ((k + 1 : Nat) : Int) := by
      rw [t_add h3 (y := 1) rfl (by omega) (by omega)]
      omega
    refine d_R_leastHole_4 a0 a1 _ a3 v4 v5 σ _ ⟨fun h => ?_, fun _ => ⟨fun h => ?_, fun _ => ⟨t_vp h3' (show k + 1 < 6 by omega), ?_⟩⟩⟩
    · rw [t_lt, h3] at h
      have h : (k : Int) < 0 := h
      omega
    · rw [t_le, h3] at h
      have h : (5 : Int) ≤ k := h
      omega
    · have e : (st f k &&& ((st f k).toUInt32 >>> (((1 : Int32) <<< (a3 &&& 31)).toUInt32 &&& Int32.toUInt32 31)).toInt32) &&& ((xT 2).getD ((a3 + 1)).toNatClampNeg 0) = wd (st f k) k := by
        rw [t_nat h3', t_nI h3, Int32.and_assoc]; rfl
      rw [e]
      have e2 : (st f k &&& ((wd (st f k) k ||| (wd (st f k) k <<< (((1 : Int32) <<< (a3 &&& 31)) &&& 31))) ^^^ (-1))) = aln (st f k) k := by
        rw [t_nI h3]; rfl
      rw [e2]
      refine ⟨fun z => ih (k + 1) (a3 + 1) _ _ h3' (by omega) (by omega) (wd0 hs z) (fun j j1 j2 => ?_), fun z => ⟨_, rfl, ⟨k, h3, hok, by omega, ?_, hj⟩, rfl⟩⟩
      · rcases Nat.lt_or_ge j k with q | q
        · exact hj j j1 q
        · rw [show j = k by omega]
          unfold al5
          rw [if_pos (by omega)]
          exact z
      · unfold al5
        rw [if_pos (by omega)]
        exact z
theorem c_leastHole2 {a1 f : Int32} {o : Nat} (h1 : a1.toInt = o) (ho : o ≤ 5) (hs : st f o ≠ 0) (σ : sm_S) : xC xD j_R_leastHole [.int (st f o), .int a1] σ (sm_I (fun y σ' => (∃ h : Nat, y.toInt = h ∧ o ≤ h ∧ h ≤ 5 ∧ al5 (st f h) h ≠ 0 ∧ ∀ j, o ≤ j → j < h → al5 (st f j) j = 0) ∧ σ' = σ)) :=
  d_R_leastHole _ a1 σ _ (l_leastHole2 σ (5 - o) o a1 _ _ h1 (by omega) (Nat.le_refl o) hs (fun j a b => absurd b (by omega)))
/-! the best place, said of frames -/
def frF (F : Nat → Prop) (f o : Nat) : Prop := ∀ j, j < 2 ^ o → F (f / 2 ^ o * 2 ^ o + j)
def holF (F : Nat → Prop) (f o h : Nat) : Prop := o ≤ h ∧ h ≤ 5 ∧ frF F f h ∧ (h = 5 ∨ ¬ frF F f (h + 1))
def cnd (F : Nat → Prop) (rk : Nat → Int32) (on : Nat → Prop) (o f : Nat) : Prop := f < 256 ∧ f % 2 ^ o = 0 ∧ rk (f / 32) ≠ -1 ∧ on (f / 32) ∧ frF F f o
def btr (rk : Nat → Int32) (p h q k : Nat) : Prop := (rk (p / 32)).toInt < (rk (q / 32)).toInt ∨ ((rk (p / 32)).toInt = (rk (q / 32)).toInt ∧ (h < k ∨ (h = k ∧ p ≤ q)))
def bst (F : Nat → Prop) (rk : Nat → Int32) (on : Nat → Prop) (o p : Nat) : Prop := cnd F rk on o p ∧ ∃ h, holF F p o h ∧ ∀ q k, cnd F rk on o q → holF F q o k → btr rk p h q k
def BP (F : Nat → Prop) (rk : Nat → Int32) (on : Nat → Prop) (o : Nat) (x : Int32) : Prop := (x = -1 ∧ ∀ f, ¬ cnd F rk on o f) ∨ ∃ p : Nat, x.toInt = p ∧ bst F rk on o p
theorem bst_un {F : Nat → Prop} {rk : Nat → Int32} {on : Nat → Prop} {o p q : Nat} (a : bst F rk on o p) (b : bst F rk on o q) : p = q := by
  obtain ⟨a1, h, a2, a3⟩ := a
  obtain ⟨b1, k, b2, b3⟩ := b
  have A := a3 q k b1 b2
  have B := b3 p h a1 a2
  unfold btr at A B
  omega
theorem BP_un {F : Nat → Prop} {rk : Nat → Int32} {on : Nat → Prop} {o : Nat} {x y : Int32} (a : BP F rk on o x) (b : BP F rk on o y) : x = y := by
  rcases a with ⟨a, a'⟩ | ⟨p, a, a'⟩ <;> rcases b with ⟨b, b'⟩ | ⟨q, b, b'⟩
  · rw [a, b]
  · exact absurd b'.1 (a' q)
  · exact absurd a'.1 (b' p)
  · apply t_inj
    rw [a, b, bst_un a' b']
theorem pl_lt {f o j : Nat} (hf : f < 256) (ho : o ≤ 5) (hj : j < 2 ^ o) : f / 2 ^ o * 2 ^ o + j < 256 := by
  rcases (show o = 0 ∨ o = 1 ∨ o = 2 ∨ o = 3 ∨ o = 4 ∨ o = 5 by omega) with rfl | rfl | rfl | rfl | rfl | rfl <;> simp only [Nat.reducePow] at hj ⊢ <;> omega
theorem frF_cg {F F' : Nat → Prop} {f o : Nat} (hf : f < 256) (ho : o ≤ 5) (h : ∀ f, f < 256 → (F f ↔ F' f)) : frF F f o ↔ frF F' f o :=
  ⟨fun a j hj => (h _ (pl_lt hf ho hj)).mp (a j hj), fun a j hj => (h _ (pl_lt hf ho hj)).mpr (a j hj)⟩
theorem frF_0 {F : Nat → Prop} {f o : Nat} (h : f % 2 ^ o = 0) (a : frF F f o) : F f := by
  have := a 0 (Nat.two_pow_pos o)
  rw [al_pow h] at this
  exact this
theorem holF_cg {F F' : Nat → Prop} {f o k : Nat} (hf : f < 256) (h : ∀ f, f < 256 → (F f ↔ F' f)) (a : holF F f o k) : holF F' f o k := by
  obtain ⟨a1, a2, a3, a4⟩ := a
  refine ⟨a1, a2, (frF_cg hf a2 h).mp a3, ?_⟩
  by_cases e : k = 5
  · exact Or.inl e
  · exact Or.inr (fun z => a4.resolve_left e ((frF_cg hf (by omega) h).mpr z))
theorem cnd_cg {F F' : Nat → Prop} {rk rk' : Nat → Int32} {on on' : Nat → Prop} {o f : Nat} (ho : o ≤ 5) (h : ∀ f, f < 256 → (F f ↔ F' f)) (hr : ∀ f, f < 256 → F f → rk (f / 32) = rk' (f / 32)) (hn : ∀ s, s < 8 → (on s ↔ on' s)) (a : cnd F rk on o f) : cnd F' rk' on' o f := by
  obtain ⟨a1, a2, a3, a4, a5⟩ := a
  exact ⟨a1, a2, by rw [← hr f a1 (frF_0 a2 a5)]; exact a3, (hn _ (by omega)).mp a4, (frF_cg a1 ho h).mp a5⟩
theorem BP_cg {F F' : Nat → Prop} {rk rk' : Nat → Int32} {on on' : Nat → Prop} {o : Nat} {x : Int32} (ho : o ≤ 5) (h : ∀ f, f < 256 → (F f ↔ F' f)) (hr : ∀ f, f < 256 → F f → rk (f / 32) = rk' (f / 32)) (hn : ∀ s, s < 8 → (on s ↔ on' s)) (a : BP F rk on o x) : BP F' rk' on' o x := by
  have h' : ∀ f, f < 256 → (F' f ↔ F f) := fun f hf => (h f hf).symm
  have hr' : ∀ f, f < 256 → F' f → rk' (f / 32) = rk (f / 32) := fun f hf z => (hr f hf ((h f hf).mpr z)).symm
  have hn' : ∀ s, s < 8 → (on' s ↔ on s) := fun s hs => (hn s hs).symm
  rcases a with ⟨a, a'⟩ | ⟨p, a, a1, k, a2, a3⟩
  · exact Or.inl ⟨a, fun f z => a' f (cnd_cg ho h' hr' hn' z)⟩
  · refine Or.inr ⟨p, a, cnd_cg ho h hr hn a1, k, holF_cg a1.1 h a2, fun q j hq hj => ?_⟩
    have q1 := cnd_cg ho h' hr' hn' hq
    have := a3 q j q1 (holF_cg hq.1 h' hj)
    unfold btr at this ⊢
    rw [hr p a1.1 (frF_0 a1.2.1 a1.2.2.2.2), hr q q1.1 (frF_0 q1.2.1 q1.2.2.2.2)] at this
    exact this
theorem holF_un {F : Nat → Prop} {p o h h' : Nat} (hd : ∀ k, frF F p (k + 1) → frF F p k) (a : holF F p o h) (b : holF F p o h') : h = h' := by
  have le : ∀ {i k : Nat}, i ≤ k → frF F p k → frF F p i := by
    intro i k h
    induction h with
    | refl => exact id
    | step _ ih => exact fun hf => ih (hd _ hf)
  obtain ⟨a1, a2, a3, a4⟩ := a
  obtain ⟨b1, b2, b3, b4⟩ := b
  rcases Nat.lt_trichotomy h h' with c | c | c
  · exact absurd (le c b3) (a4.resolve_left (by omega))
  · exact c
  · exact absurd (le c a3) (b4.resolve_left (by omega))
theorem frF_dn {F : Nat → Prop} {p : Nat} (k : Nat) (h : frF F p (k + 1)) : frF F p k := by
  intro j hj
  have hp : 2 ^ (k + 1) = 2 ^ k + 2 ^ k := by rw [Nat.pow_succ]; omega
  rcases base_up p k with e | e
  · rw [← e]
    exact h j (by omega)
  · rw [← e, Nat.add_assoc]
    exact h (2 ^ k + j) (by omega)
/-! the reference's -/
def frV (v : Nat → Int32) (f : Nat) : Prop := v (18 + 3 * f) = 1
def rkf (h k z : Int32) (s : Nat) : Int32 := if z = -1 then -1 else if k ≠ 0 ∧ z = 1 then -1 else (if k ≠ 0 ∨ z = 1 then 0 else 2) + (if nI (s % 2) = h then 0 else 1)
def zV (v : Nat → Int32) (s : Nat) : Int32 := if v (2358 + 8 * s) = 0 then -1 else v (2358 + 8 * s + 1)
theorem c_zoneOf2 {s : Int32} {n : Nat} (hs : s.toInt = n) (hn : n < 8) (σ : sm_S) : xC xM j_M_zoneOf [.ref 0, .int s] σ (sm_I (fun x σ' => x = zV (σ 1) n ∧ σ' = σ)) := by
  refine (c_zoneOf hs hn σ).mono ?_
  rintro r σ' ⟨x, rfl, hx, rfl⟩
  refine ⟨x, rfl, ?_, rfl⟩
  unfold zV
  rcases hx with ⟨h1, h2⟩ | ⟨h1, h2⟩
  · rw [if_pos h1, h2]
  · rw [if_neg h1, h2]
theorem c_rankOf2 {s t k : Int32} {n m : Nat} (hs : s.toInt = n) (hn : n < 8) (ht : t.toInt = m) (hm : m < 6) (σ : sm_S) : xC xM j_M_rankOf [.ref 0, .int s, .int k, .int t] σ (sm_I (fun x σ' => x = rkf (σ 1 (2322 + 6 * m)) k (zV (σ 1) n) n ∧ σ' = σ)) := by
  refine w_M_rankOf s k t σ _ ((c_zoneOf2 hs hn σ).int ?_)
  rintro x σ ⟨rfl, rfl⟩
  refine ⟨by decide, (c_taskAt t _).int ?_⟩
  rintro _ σ ⟨rfl, rfl⟩
  obtain ⟨h1, h2⟩ := ixT (k := 0) (j := 0) ht rfl (by omega)
  refine ⟨h1, ?_⟩
  rw [h2, show s - s / 2 * 2 = nI (n % 2) from t_nI (t_rem hs rfl (by decide))]
  unfold rkf
  generalize zV (σ 1) n = z
  generalize σ 1 (2322 + 6 * m + 0) = hh
  repeat' first
    | apply And.intro
    | intro _
  all_goals refine ⟨_, rfl, ?_, rfl⟩
  all_goals simp_all
theorem l_holeFrom2 {a1 a2 : Int32} {n o : Nat} (h1 : a1.toInt = n) (hn : n < 700) (σ : sm_S) : ∀ (d k : Nat) (a3 : Int32), a3.toInt = k → k + d = 5 → o ≤ k → frF (frV (σ 1)) n k → xE xM m_M_holeFrom 2 [.ref 0, .int a1, .int a2, .int a3] [] σ (sm_I (fun x σ' => (∃ j : Nat, x.toInt = j ∧ holF (frV (σ 1)) n o j) ∧ σ' = σ)) := by
  intro d
  induction d with
  | zero =>
    intro k a3 h2 hk hok hf
    refine w_M_holeFrom_2 a1 a2 a3 σ _ ⟨fun _ => ⟨_, rfl, ⟨k, h2, hok, by omega, hf, Or.inl (by omega)⟩, rfl⟩, fun h => absurd ?_ h⟩
    rw [t_le, h2]
    show (5 : Int) ≤ _
    omega
  | succ d ih =>
    intro k a3 h2 hk hok hf
    have h3 : (a3 + 1).toInt = ((k + 1 : Nat) : Int) := by
      rw [t_add h2 (y := 1) rfl (by omega) (by omega)]
      omega
    refine w_M_holeFrom_2 a1 a2 a3 σ _ ⟨fun h => ?_, fun h => (c_areFree h1 hn h3 (by omega) σ).int ?_⟩
    · rw [t_le, h2] at h
      have h : (5 : Int) ≤ k := h
      omega
    · rintro x _ ⟨hx, rfl⟩
      refine ⟨fun z => ⟨_, rfl, ⟨k, h2, hok, by omega, hf, Or.inr ?_⟩, rfl⟩, fun z => ih (k + 1) _ h3 (by omega) (by omega) ?_⟩
      · rcases hx with ⟨q, -⟩ | ⟨-, j, q1, q2⟩
        · rw [q] at z; exact absurd z (by decide)
        · exact fun g => q2 (g j q1)
      · rcases hx with ⟨-, q⟩ | ⟨q, -⟩
        · exact q
        · exact absurd q z
theorem c_holeFrom2 {a1 a2 : Int32} {n k : Nat} (h1 : a1.toInt = n) (hn : n < 700) (h2 : a2.toInt = k) (hk : k ≤ 5) (σ : sm_S) (hf : frF (frV (σ 1)) n k) : xC xM j_M_holeFrom [.ref 0, .int a1, .int a2] σ (sm_I (fun x σ' => (∃ j : Nat, x.toInt = j ∧ holF (frV (σ 1)) n k j) ∧ σ' = σ)) :=
  w_M_holeFrom a1 a2 σ _ (l_holeFrom2 h1 hn σ (5 - k) k _ h2 (by omega) (Nat.le_refl k) hf)
def rkV (v : Nat → Int32) (k : Int32) (m s : Nat) : Int32 := rkf (v (2322 + 6 * m)) k (zV v s) s
def onV (v : Nat → Int32) (a : Int32) (s : Nat) : Prop := a = 0 ∨ v (2358 + 8 * s) = 1
theorem mul_at {o i q : Nat} (h : q % 2 ^ o = 0) (hq : q < (i + 1) * 2 ^ o) : q < i * 2 ^ o ∨ q = i * 2 ^ o := by
  have hp : 0 < 2 ^ o := Nat.two_pow_pos o
  have e := al_pow h
  generalize q / 2 ^ o = t at e
  subst e
  have ht : t < i + 1 := Nat.lt_of_mul_lt_mul_right hq
  rcases Nat.lt_or_ge t i with c | c
  · exact Or.inl (Nat.mul_lt_mul_of_pos_right c hp)
  · exact Or.inr (by rw [show t = i by omega])
def bpI (F : Nat → Prop) (rk : Nat → Int32) (on : Nat → Prop) (o N : Nat) (a5 a6 a7 : Int32) : Prop := (a5 = -1 ∧ ∀ f, f < N → ¬ cnd F rk on o f) ∨ ∃ p h : Nat, a5.toInt = p ∧ p < N ∧ cnd F rk on o p ∧ holF F p o h ∧ a6 = rk (p / 32) ∧ a7.toInt = h ∧ ∀ q k, q < N → cnd F rk on o q → holF F q o k → btr rk p h q k
theorem bpI_no {F : Nat → Prop} {rk : Nat → Int32} {on : Nat → Prop} {o i : Nat} {a5 a6 a7 : Int32} (hn : ¬ cnd F rk on o (i * 2 ^ o)) (h : bpI F rk on o (i * 2 ^ o) a5 a6 a7) : bpI F rk on o ((i + 1) * 2 ^ o) a5 a6 a7 := by
  have lt : i * 2 ^ o < (i + 1) * 2 ^ o := Nat.mul_lt_mul_of_pos_right (by omega) (Nat.two_pow_pos o)
  rcases h with ⟨h1, h2⟩ | ⟨p, k, h1, h2, h3, h4, h5, h6, h7⟩
  · refine Or.inl ⟨h1, fun f hf hc => ?_⟩
    rcases mul_at hc.2.1 hf with c | c
    · exact h2 f c hc
    · rw [c] at hc; exact hn hc
  · refine Or.inr ⟨p, k, h1, by omega, h3, h4, h5, h6, fun q j hq hc hj => ?_⟩
    rcases mul_at hc.2.1 hq with c | c
    · exact h7 q j c hc hj
    · rw [c] at hc; exact absurd hc hn
theorem bpI_new {F : Nat → Prop} {rk : Nat → Int32} {on : Nat → Prop} {o i k : Nat} {a5 a6 a7 b5 b7 : Int32} (h5 : b5.toInt = ((i * 2 ^ o : Nat) : Int)) (hc : cnd F rk on o (i * 2 ^ o)) (hk : holF F (i * 2 ^ o) o k) (h7 : b7.toInt = k) (h : bpI F rk on o (i * 2 ^ o) a5 a6 a7) (hb : a5 = -1 ∨ (rk (i * 2 ^ o / 32)).toInt < a6.toInt ∨ (rk (i * 2 ^ o / 32) = a6 ∧ b7.toInt < a7.toInt)) : bpI F rk on o ((i + 1) * 2 ^ o) b5 (rk (i * 2 ^ o / 32)) b7 := by
  have lt : i * 2 ^ o < (i + 1) * 2 ^ o := Nat.mul_lt_mul_of_pos_right (by omega) (Nat.two_pow_pos o)
  refine Or.inr ⟨i * 2 ^ o, k, h5, lt, hc, hk, rfl, h7, fun q j hq hcq hj => ?_⟩
  rcases mul_at hcq.2.1 hq with c | c
  · rcases h with ⟨-, h2⟩ | ⟨p, r, g1, g2, g3, g4, g5, g6, g7⟩
    · exact absurd hcq (h2 q c)
    · have := g7 q j c hcq hj
      have n5 : a5 ≠ -1 := fun z => by rw [z, show (-1 : Int32).toInt = -1 from rfl] at g1; omega
      rcases hb.resolve_left n5 with d | ⟨d, d2⟩
      · rw [g5] at d
        unfold btr at this ⊢
        omega
      · rw [g5] at d
        have d' : (rk (i * 2 ^ o / 32)).toInt = (rk (p / 32)).toInt := by rw [d]
        unfold btr at this ⊢
        omega
  · subst c
    rw [holF_un frF_dn hk hj]
    unfold btr
    omega
theorem bpI_keep {F : Nat → Prop} {rk : Nat → Int32} {on : Nat → Prop} {o i k : Nat} {a5 a6 a7 b7 : Int32} (hk : holF F (i * 2 ^ o) o k) (h7 : b7.toInt = k) (h : bpI F rk on o (i * 2 ^ o) a5 a6 a7) (n5 : a5 ≠ -1) (hb : a6.toInt < (rk (i * 2 ^ o / 32)).toInt ∨ (rk (i * 2 ^ o / 32) = a6 ∧ a7.toInt ≤ b7.toInt)) : bpI F rk on o ((i + 1) * 2 ^ o) a5 a6 a7 := by
  have lt : i * 2 ^ o < (i + 1) * 2 ^ o := Nat.mul_lt_mul_of_pos_right (by omega) (Nat.two_pow_pos o)
  rcases h with ⟨h1, -⟩ | ⟨p, r, g1, g2, g3, g4, g5, g6, g7⟩
  · exact absurd h1 n5
  · refine Or.inr ⟨p, r, g1, by omega, g3, g4, g5, g6, fun q j hq hc hj => ?_⟩
    rcases mul_at hc.2.1 hq with c | c
    · exact g7 q j c hc hj
    · subst c
      have e := holF_un frF_dn hk hj
      subst e
      unfold btr
      rcases hb with d | ⟨d, d2⟩
      · rw [g5] at d
        exact Or.inl d
      · rw [g5] at d
        have d' : (rk (i * 2 ^ o / 32)).toInt = (rk (p / 32)).toInt := by rw [d]
        omega
theorem bpI_end {F : Nat → Prop} {rk : Nat → Int32} {on : Nat → Prop} {o : Nat} {a5 a6 a7 : Int32} (h : bpI F rk on o 256 a5 a6 a7) : BP F rk on o a5 := by
  rcases h with ⟨h1, h2⟩ | ⟨p, k, h1, h2, h3, h4, h5, h6, h7⟩
  · exact Or.inl ⟨h1, fun f hc => h2 f hc.1 hc⟩
  · exact Or.inr ⟨p, h1, h3, k, h4, fun q j hc hj => h7 q j hc.1 hc hj⟩
theorem l_bestPlace2 {a1 a2 a3 a4 : Int32} {m o : Nat} (h1 : a1.toInt = m) (hm : m < 6) (h3 : a3.toInt = o) (ho : o ≤ 4) (σ : sm_S) : ∀ (d i : Nat) (a5 a6 a7 a8 : Int32) (v9 v10 : Value), a8.toInt = ((i * 2 ^ o : Nat) : Int) → (i + d) * 2 ^ o = 256 → bpI (frV (σ 1)) (rkV (σ 1) a2 m) (onV (σ 1) a4) o (i * 2 ^ o) a5 a6 a7 →
    xE xM m_M_bestPlace 12 [.ref 0, .int a1, .int a2, .int a3, .int a4, .int a5, .int a6, .int a7, .int a8, v9, v10] [] σ (sm_I (fun x σ' => BP (frV (σ 1)) (rkV (σ 1) a2 m) (onV (σ 1) a4) o x ∧ σ' = σ)) := by
  have hp := t_pw (k := o) (by omega)
  intro d
  induction d with
  | zero =>
    intro i a5 a6 a7 a8 v9 v10 h8 hi h5
    rw [Nat.add_zero] at hi
    rw [hi] at h5
    refine w_M_bestPlace_12 a1 a2 a3 a4 a5 a6 a7 a8 v9 v10 σ _ ⟨fun _ => ⟨_, rfl, bpI_end h5, rfl⟩, fun h => absurd ?_ h⟩
    rw [t_le, h8]
    show (256 : Int) ≤ _
    omega
  | succ d ih =>
    intro i a5 a6 a7 a8 v9 v10 h8 hi h5
    have hi2 : (i + (d + 1)) * 2 ^ o = i * 2 ^ o + (d * 2 ^ o + 2 ^ o) := by rw [Nat.add_mul, Nat.succ_mul]
    have hlt : i * 2 ^ o < 256 := by omega
    have hs8 : (a8 + ((1 : Int32) <<< (a3 &&& 31))).toInt = (((i + 1) * 2 ^ o : Nat) : Int) := by
      rw [t_add h8 (t_pow h3 (by omega)) (by omega) (by omega), Nat.succ_mul]
      omega
    have go : ∀ (b5 b6 b7 : Int32) (w9 w10 : Value), bpI (frV (σ 1)) (rkV (σ 1) a2 m) (onV (σ 1) a4) o ((i + 1) * 2 ^ o) b5 b6 b7 → xE xM m_M_bestPlace 12 [.ref 0, .int a1, .int a2, .int a3, .int a4, .int b5, .int b6, .int b7, .int (a8 + ((1 : Int32) <<< (a3 &&& 31))), w9, w10] [] σ (sm_I (fun x σ' => BP (frV (σ 1)) (rkV (σ 1) a2 m) (onV (σ 1) a4) o x ∧ σ' = σ)) :=
      fun b5 b6 b7 w9 w10 hb => ih (i + 1) b5 b6 b7 _ w9 w10 hs8 (by rw [← hi]; congr 1; omega) hb
    have hm0 : i * 2 ^ o % 2 ^ o = 0 := Nat.mul_mod_left _ _
    refine w_M_bestPlace_12 a1 a2 a3 a4 a5 a6 a7 a8 v9 v10 σ _ ⟨fun h => ?_, fun h => (c_spanOf h8 σ).int ?_⟩
    · rw [t_le, h8] at h
      have h : (256 : Int) ≤ _ := h
      omega
    · rintro sp σ ⟨hsp, rfl⟩
      have hsp8 : i * 2 ^ o / 32 < 8 := by omega
      refine (c_rankOf2 hsp hsp8 h1 hm _).int ?_
      rintro rk σ ⟨hrk, rfl⟩
      have hrk : rk = rkV (σ 1) a2 m (i * 2 ^ o / 32) := hrk
      have h8n : i * 2 ^ o < 700 := by omega
      have fin : ∀ (w10 : Value), onV (σ 1) a4 (i * 2 ^ o / 32) → rk ≠ -1 → xC xM j_M_areFree [.ref 0, .int a8, .int a3] σ (sm_ri False (fun x6 σ5 => ((x6 ≠ 0 → xC xM j_M_holeFrom [.ref 0, .int a8, .int a3] σ5 (sm_ri False (fun x8 σ7 => ((a5 = (-1) → xE xM m_M_bestPlace 12 [.ref 0, .int a1, .int a2, .int a3, .int a4, .int a8, .int rk, .int x8, .int (a8 + ((1 : Int32) <<< (a3 &&& 31))), .int rk, .int x8] [] σ7 (sm_I (fun x σ' => BP (frV (σ 1)) (rkV (σ 1) a2 m) (onV (σ 1) a4) o x ∧ σ' = σ))) ∧ (¬ (a5 = (-1)) → ((a6 < rk → xE xM m_M_bestPlace 12 [.ref 0, .int a1, .int a2, .int a3, .int a4, .int a5, .int a6, .int a7, .int (a8 + ((1 : Int32) <<< (a3 &&& 31))), .int rk, .int x8] [] σ7 (sm_I (fun x σ' => BP (frV (σ 1)) (rkV (σ 1) a2 m) (onV (σ 1) a4) o x ∧ σ' = σ))) ∧ (¬ (a6 < rk) → ((rk ≠ a6 → xE xM m_M_bestPlace 12 [.ref 0, .int a1, .int a2, .int a3, .int a4, .int a8, .int rk, .int x8, .int (a8 + ((1 : Int32) <<< (a3 &&& 31))), .int rk, .int x8] [] σ7 (sm_I (fun x σ' => BP (frV (σ 1)) (rkV (σ 1) a2 m) (onV (σ 1) a4) o x ∧ σ' = σ))) ∧ (¬ (rk ≠ a6) → ((x8 < a7 → xE xM m_M_bestPlace 12 [.ref 0, .int a1, .int a2, .int a3, .int a4, .int a8, .int rk, .int x8, .int (a8 + ((1 : Int32) <<< (a3 &&& 31))), .int rk, .int x8] [] σ7 (sm_I (fun x σ' => BP (frV (σ 1)) (rkV (σ 1) a2 m) (onV (σ 1) a4) o x ∧ σ' = σ))) ∧ (¬ (x8 < a7) → xE xM m_M_bestPlace 12 [.ref 0, .int a1, .int a2, .int a3, .int a4, .int a5, .int a6, .int a7, .int (a8 + ((1 : Int32) <<< (a3 &&& 31))), .int rk, .int x8] [] σ7 (sm_I (fun x σ' => BP (frV (σ 1)) (rkV (σ 1) a2 m) (onV (σ 1) a4) o x ∧ σ' = σ))))))))))))) ∧ (¬ (x6 ≠ 0) → xE xM m_M_bestPlace 12 [.ref 0, .int a1, .int a2, .int a3, .int a4, .int a5, .int a6, .int a7, .int (a8 + ((1 : Int32) <<< (a3 &&& 31))), .int rk, w10] [] σ5 (sm_I (fun x σ' => BP (frV (σ 1)) (rkV (σ 1) a2 m) (onV (σ 1) a4) o x ∧ σ' = σ)))))) := by
        intro w10 hon hr1
        refine (c_areFree h8 h8n h3 (by omega) _).int ?_
        rintro x6 σ ⟨hx6, rfl⟩
        refine ⟨fun n6 => ?_, fun z6 => go _ _ _ _ _ (bpI_no (fun hc => ?_) h5)⟩
        · have hfr : frF (frV (σ 1)) (i * 2 ^ o) o := by
            rcases hx6 with ⟨-, q⟩ | ⟨q, -⟩
            · exact q
            · exact absurd q n6
          have hc : cnd (frV (σ 1)) (rkV (σ 1) a2 m) (onV (σ 1) a4) o (i * 2 ^ o) := ⟨hlt, hm0, by rw [← hrk]; exact hr1, hon, hfr⟩
          refine (c_holeFrom2 h8 h8n h3 (by omega) _ hfr).int ?_
          rintro x8 σ ⟨⟨j, hj1, hj2⟩, rfl⟩
          have new : ∀ w9 w10 : Value, (a5 = -1 ∨ rk.toInt < a6.toInt ∨ (rk = a6 ∧ x8.toInt < a7.toInt)) → xE xM m_M_bestPlace 12 [.ref 0, .int a1, .int a2, .int a3, .int a4, .int a8, .int rk, .int x8, .int (a8 + ((1 : Int32) <<< (a3 &&& 31))), w9, w10] [] σ (sm_I (fun x σ' => BP (frV (σ 1)) (rkV (σ 1) a2 m) (onV (σ 1) a4) o x ∧ σ' = σ)) := fun w9 w10 hb => go _ _ _ w9 w10 (by
            have := bpI_new h8 hc hj2 hj1 h5 (by rw [← hrk]; exact hb)
            rw [← hrk] at this
            exact this)
          have keep : ∀ w9 w10 : Value, a5 ≠ -1 → (a6.toInt < rk.toInt ∨ (rk = a6 ∧ a7.toInt ≤ x8.toInt)) → xE xM m_M_bestPlace 12 [.ref 0, .int a1, .int a2, .int a3, .int a4, .int a5, .int a6, .int a7, .int (a8 + ((1 : Int32) <<< (a3 &&& 31))), w9, w10] [] σ (sm_I (fun x σ' => BP (frV (σ 1)) (rkV (σ 1) a2 m) (onV (σ 1) a4) o x ∧ σ' = σ)) := fun w9 w10 n5 hb => go _ _ _ w9 w10 (bpI_keep hj2 hj1 h5 n5 (by rw [← hrk]; exact hb))
          refine ⟨fun z5 => new _ _ (Or.inl z5), fun n5 => ⟨fun c1 => keep _ _ n5 (Or.inl (t_lt.mp c1)), fun c1 => ⟨fun c2 => new _ _ (Or.inr (Or.inl ?_)), fun c2 => ⟨fun c3 => new _ _ (Or.inr (Or.inr ⟨Classical.not_not.mp c2, t_lt.mp c3⟩)), fun c3 => keep _ _ n5 (Or.inr ⟨Classical.not_not.mp c2, ?_⟩)⟩⟩⟩⟩
          · rw [t_lt] at c1
            have : rk.toInt ≠ a6.toInt := fun z => c2 (t_inj z)
            omega
          · rw [t_lt] at c3
            omega
        · rcases hx6 with ⟨q, -⟩ | ⟨-, j, q1, q2⟩
          · exact z6 (by rw [q]; decide)
          · exact q2 (hc.2.2.2.2 j q1)
      refine ⟨fun z => go _ _ _ _ _ (bpI_no (fun hc => hc.2.2.1 (by rw [← hrk]; exact z)) h5), fun nr => ⟨fun z4 => fin _ (Or.inl z4) nr, fun n4 => (c_spanOf h8 _).int ?_⟩⟩
      rintro sp2 σ ⟨hsp2, rfl⟩
      refine (c_spanState hsp2 hsp8 _).int ?_
      rintro st σ ⟨hst, rfl⟩
      refine ⟨fun z => go _ _ _ _ _ (bpI_no (fun hc => ?_) h5), fun z => fin _ (Or.inr (by rw [← hst]; exact Classical.not_not.mp z)) nr⟩
      rcases hc.2.2.2.1 with q | q
      · exact n4 q
      · rw [← hst] at q; exact z q
theorem c_bestPlace2 {a1 a2 a3 a4 : Int32} {m o : Nat} (h1 : a1.toInt = m) (hm : m < 6) (h3 : a3.toInt = o) (ho : o ≤ 4) (σ : sm_S) : xC xM j_M_bestPlace [.ref 0, .int a1, .int a2, .int a3, .int a4] σ (sm_I (fun x σ' => BP (frV (σ 1)) (rkV (σ 1) a2 m) (onV (σ 1) a4) o x ∧ σ' = σ)) :=
  w_M_bestPlace a1 a2 a3 a4 σ _ (l_bestPlace2 h1 hm h3 ho σ (256 / 2 ^ o) 0 _ _ _ _ _ _ (by rw [Nat.zero_mul]; rfl) (t_256 ho) (Or.inl ⟨rfl, fun f hf => absurd hf (by rw [Nat.zero_mul]; omega)⟩))
