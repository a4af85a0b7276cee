section
/-! ===== the class: what holds between the calls of one Memory; what only looks ===== -/
/-- block b: its first frame, order, owner -/
def eb (σ : sm_S) (b f o w : Nat) : Prop := (σ 9 b).toInt = f ∧ (σ 10 b).toInt = o ∧ o ≤ 4 ∧ f + 2 ^ o ≤ 256 ∧ (σ 12 b).toInt = w ∧ w < 6
def kb (σ : sm_S) (b : Nat) : Prop := (σ 9 b = -1 ∧ σ 14 b = -1 ∧ σ 15 b = 0) ∨ ∃ f o w, eb σ b f o w ∧ ((σ 14 b = -1 ∧ σ 15 b = 0) ∨ ∃ t c : Nat, (σ 14 b).toInt = t ∧ t + 2 ^ o ≤ 256 ∧ (σ 15 b).toInt = c ∧ c ≤ 2 ^ o ∧ (σ 24 (f / 32)).toInt = b)
def ks (σ : sm_S) (s : Nat) : Prop := ∃ sh r : Nat, (σ 20 s).toInt = sh ∧ sh ≤ 4 ∧ (σ 18 s ≠ 3 → sh ≤ 3) ∧ (σ 23 s).toInt = r ∧ r ≤ 64 ∧ (σ 24 s = -1 ∨ ∃ b f : Nat, b < 96 ∧ (σ 24 s).toInt = b ∧ σ 18 s = 3 ∧ σ 14 b ≠ -1 ∧ (σ 9 b).toInt = f ∧ f / 32 = s)
def kt (σ : sm_S) : Prop := ∃ L : Nat, (σ 26 7).toInt = L ∧ L ≤ 6 ∧ (∀ k, k < L → ∃ t : Nat, t < 6 ∧ (σ 33 k).toInt = t) ∧ ∀ t, t < 6 → σ 28 t = -1 ∨ ((∃ k, k < L ∧ (σ 33 k).toInt = t) ∧ ∃ b o a : Nat, b < 96 ∧ (σ 28 t).toInt = b ∧ σ 14 b ≠ -1 ∧ (σ 10 b).toInt = o ∧ (σ 31 t).toInt = a ∧ a < 2 ^ o)
def kf (σ : sm_S) : Prop := ∀ f, f < 256 → ∃ m : Nat, m ≤ 96 ∧ (σ 6 f).toInt = (m : Int) - 1
def kl (σ : sm_S) : Prop := ∃ n : Nat, n < 60 ∧ (σ 34 5).toInt = n
def kk (σ : sm_S) : Prop := (∀ b, b < 96 → kb σ b) ∧ (∀ s, s < 8 → ks σ s) ∧ kt σ ∧ kf σ ∧ kl σ ∧ 0 ≤ (σ 39 0).toInt
theorem m1 : (-1 : Int32).toInt = -1 := rfl
theorem ne_m1 {x : Int32} {n : Nat} (h : x.toInt = n) : x ≠ -1 := fun z => by rw [z, m1] at h; omega
theorem kb_has {σ : sm_S} {b : Nat} (h : kb σ b) (h9 : σ 9 b ≠ -1) : ∃ f o w, eb σ b f o w := by
  rcases h with h | ⟨f, o, w, h, -⟩
  · exact absurd h.1 h9
  · exact ⟨f, o, w, h⟩
theorem e_isTask (a : Int32) (σ : sm_S) : xC xD j_A_isTask [.int a] σ (sm_I (fun x σ' => ((x = 1 ∧ ∃ n : Nat, n < 6 ∧ a.toInt = n) ∨ x = 0) ∧ σ' = σ)) := by
  refine d_A_isTask a σ _ ⟨fun _ => ⟨Or.inl rfl, _, rfl, Or.inr rfl, rfl⟩, fun h => ⟨fun _ => ⟨Or.inl rfl, _, rfl, Or.inr rfl, rfl⟩, fun h2 => ⟨Or.inr rfl, _, rfl, Or.inl ⟨rfl, ?_⟩, rfl⟩⟩⟩
  rw [t_lt] at h
  rw [t_le] at h2
  have h : ¬ a.toInt < (0 : Int) := h
  have h2 : ¬ (6 : Int) ≤ a.toInt := h2
  obtain ⟨n, hn⟩ := t_of (x := a) (by omega)
  exact ⟨n, by omega, hn⟩
theorem e_isLoose {a1 : Int32} {n : Nat} (h1 : a1.toInt = n) (hn : n < 96) (σ : sm_S) : xC xD j_B_isLoose [.ref 8, .int a1] σ (sm_I (fun x σ' => ((x = 1 ∧ σ 13 n = 0 ∧ σ 14 n = -1) ∨ x = 0) ∧ σ' = σ)) := by
  refine d_B_isLoose a1 σ _ ?_
  rw [t_nat h1]
  exact ⟨t_vp h1 hn, fun _ => ⟨Or.inl rfl, _, rfl, Or.inr rfl, rfl⟩, fun h => ⟨t_vp h1 hn, fun _ => ⟨Or.inl rfl, _, rfl, Or.inr rfl, rfl⟩, fun h2 => ⟨Or.inr rfl, _, rfl, Or.inl ⟨rfl, Classical.not_not.mp h, Classical.not_not.mp h2⟩, rfl⟩⟩⟩
theorem e_has (a1 : Int32) (σ : sm_S) : xC xD j_B_has [.ref 8, .int a1] σ (sm_I (fun x σ' => ((x = 1 ∧ ∃ n : Nat, n < 96 ∧ a1.toInt = n ∧ σ 9 n ≠ -1) ∨ x = 0) ∧ σ' = σ)) := by
  refine d_B_has a1 σ _ ⟨fun _ => ⟨Or.inl rfl, _, rfl, Or.inr rfl, rfl⟩, fun h => ⟨fun _ => ⟨Or.inl rfl, _, rfl, Or.inr rfl, rfl⟩, fun h2 => ?_⟩⟩
  rw [t_lt] at h
  rw [t_le] at h2
  have h : ¬ a1.toInt < (0 : Int) := h
  have h2 : ¬ (96 : Int) ≤ a1.toInt := h2
  obtain ⟨n, hn⟩ := t_of (x := a1) (by omega)
  rw [t_nat hn]
  exact ⟨t_vp hn (by omega), fun _ => ⟨Or.inl rfl, _, rfl, Or.inr rfl, rfl⟩, fun h3 => ⟨Or.inr rfl, _, rfl, Or.inl ⟨rfl, n, by omega, hn, h3⟩, rfl⟩⟩
theorem e_size {a1 : Int32} {n : Nat} (h1 : a1.toInt = n) (hn : n < 96) (σ : sm_S) : xC xD j_B_size [.ref 8, .int a1] σ (sm_I (fun x σ' => x = (1 : Int32) <<< (σ 10 n &&& 31) ∧ σ' = σ)) := by
  refine d_B_size a1 σ _ ⟨t_vp h1 hn, _, rfl, ?_, rfl⟩
  rw [t_nat h1]
theorem e_shutBits {a1 : Int32} {n : Nat} (h1 : a1.toInt = n) (hn : n < 8) (σ : sm_S) : xC xD j_S_shutBits [.ref 17, .int a1] σ (sm_I (fun _ σ' => σ' = σ)) :=
  d_S_shutBits a1 σ _ ⟨t_vp h1 hn, fun _ => ⟨t_vp h1 hn, _, rfl, rfl⟩, fun _ => ⟨_, rfl, rfl⟩⟩
theorem l_leastNumber (σ : sm_S) : ∀ (d k : Nat) (a1 : Int32), a1.toInt = k → k + d = 96 → xE xD m_B_leastNumber 2 [.ref 8, .int a1] [] σ (sm_I (fun x σ' => (x = -1 ∨ ∃ n : Nat, n < 96 ∧ x.toInt = n ∧ σ 9 n = -1) ∧ σ' = σ)) := by
  intro d
  induction d with
  | zero =>
    intro k a1 h1 hk
    refine d_B_leastNumber_2 a1 σ _ ⟨fun _ => ⟨_, rfl, Or.inl rfl, rfl⟩, fun h => absurd ?_ h⟩
    rw [t_le, h1]
    show (96 : Int) ≤ _
    omega
  | succ d ih =>
    intro k a1 h1 hk
    have h1' : (a1 + 1).toInt = ((k + 1 : Nat) : Int) := by
      rw [t_add h1 (y := 1) rfl (by omega) (by omega)]
      omega
    refine d_B_leastNumber_2 a1 σ _ ⟨fun _ => ⟨_, rfl, Or.inl rfl, rfl⟩, fun _ => ⟨t_vp h1 (by omega), fun _ => ih (k + 1) _ h1' (by omega), fun h => ⟨_, rfl, Or.inr ⟨k, by omega, h1, ?_⟩, rfl⟩⟩⟩
    rw [t_nat h1] at h
    exact Classical.not_not.mp h
theorem e_leastNumber (σ : sm_S) : xC xD j_B_leastNumber [.ref 8] σ (sm_I (fun x σ' => (x = -1 ∨ ∃ n : Nat, n < 96 ∧ x.toInt = n ∧ σ 9 n = -1) ∧ σ' = σ)) := d_B_leastNumber σ _ (l_leastNumber σ 96 0 0 rfl rfl)
def luc (σ : sm_S) (x : Int32) : Prop := x = -1 ∨ ∃ n : Nat, n < 96 ∧ x.toInt = n ∧ σ 9 n ≠ -1 ∧ σ 11 n = 2 ∧ σ 13 n = 0 ∧ σ 14 n = -1
theorem l_leastUsedCache (σ : sm_S) : ∀ (d k : Nat) (a1 a2 : Int32), a2.toInt = k → k + d = 96 → luc σ a1 → xE xD m_B_leastUsedCache 4 [.ref 8, .int a1, .int a2] [] σ (sm_I (fun x σ' => luc σ x ∧ σ' = σ)) := by
  intro d
  induction d with
  | zero =>
    intro k a1 a2 h2 hk hl
    refine d_B_leastUsedCache_4 a1 a2 σ _ ⟨fun _ => ⟨_, rfl, hl, rfl⟩, fun h => absurd ?_ h⟩
    rw [t_le, h2]
    show (96 : Int) ≤ _
    omega
  | succ d ih =>
    intro k a1 a2 h2 hk hl
    have h2' : (a2 + 1).toInt = ((k + 1 : Nat) : Int) := by
      rw [t_add h2 (y := 1) rfl (by omega) (by omega)]
      omega
    have next : ∀ b : Int32, luc σ b → xE xD m_B_leastUsedCache 4 [.ref 8, .int b, .int (a2 + 1)] [] σ (sm_I (fun x σ' => luc σ x ∧ σ' = σ)) := fun b hb => ih (k + 1) b _ h2' (by omega) hb
    have v2 : vp_in a2 96 := t_vp h2 (by omega)
    refine d_B_leastUsedCache_4 a1 a2 σ _ ⟨fun _ => ⟨_, rfl, hl, rfl⟩, fun _ => ⟨v2, fun _ => next _ hl, fun n9 => ⟨v2, fun _ => next _ hl, fun n11 => (e_isLoose h2 (by omega) σ).int ?_⟩⟩⟩
    rw [t_nat h2] at n9 n11
    rintro x2 σ ⟨hx2, rfl⟩
    refine ⟨fun _ => next _ hl, fun n2 => ?_⟩
    obtain ⟨-, g1, g2⟩ := hx2.resolve_right n2
    have new : luc σ a2 := Or.inr ⟨k, by omega, h2, n9, Classical.not_not.mp n11, g1, g2⟩
    refine ⟨fun _ => next _ new, fun na => ⟨v2, ?_, fun _ => next _ hl, fun _ => next _ new⟩⟩
    obtain ⟨n, hn, hn2, -⟩ := hl.resolve_left na
    exact t_vp hn2 hn
theorem e_leastUsedCache (σ : sm_S) : xC xD j_B_leastUsedCache [.ref 8] σ (sm_I (fun x σ' => luc σ x ∧ σ' = σ)) := d_B_leastUsedCache σ _ (l_leastUsedCache σ 96 0 _ 0 rfl rfl (Or.inl rfl))
theorem l_canGo {a1 : Int32} {n : Nat} (σ : sm_S) (hon : σ 18 n = 1) : ∀ (d k : Nat) (a2 : Int32), a2.toInt = k → k + d = 8 → xE xD m_S_canGo 14 [.ref 17, .int a1, .int a2] [] σ (sm_I (fun x σ' => (x = 0 ∨ (x = 1 ∧ σ 18 n = 1)) ∧ σ' = σ)) := by
  intro d
  induction d with
  | zero =>
    intro k a2 h2 hk
    refine d_S_canGo_14 a1 a2 σ _ ⟨fun _ => ⟨Or.inl rfl, _, rfl, Or.inl rfl, rfl⟩, fun h => absurd ?_ h⟩
    rw [t_le, h2]
    show (8 : Int) ≤ _
    omega
  | succ d ih =>
    intro k a2 h2 hk
    have h2' : (a2 + 1).toInt = ((k + 1 : Nat) : Int) := by
      rw [t_add h2 (y := 1) rfl (by omega) (by omega)]
      omega
    have next := ih (k + 1) (a2 + 1) h2' (by omega)
    have v := t_vp (N := 8) h2 (by omega)
    exact d_S_canGo_14 a1 a2 σ _ ⟨fun _ => ⟨Or.inl rfl, _, rfl, Or.inl rfl, rfl⟩, fun _ => ⟨fun _ => next, fun _ => ⟨v, fun _ => next, fun _ => ⟨v, fun _ => next, fun _ => ⟨Or.inr rfl, _, rfl, Or.inr ⟨rfl, hon⟩, rfl⟩⟩⟩⟩⟩
theorem e_canGo {a1 : Int32} {n : Nat} (h1 : a1.toInt = n) (hn : n < 8) (σ : sm_S) : xC xD j_S_canGo [.ref 17, .int a1] σ (sm_I (fun x σ' => (x = 0 ∨ (x = 1 ∧ σ 18 n = 1)) ∧ σ' = σ)) := by
  refine d_S_canGo a1 σ _ ⟨t_vp h1 hn, fun h => l_canGo σ ?_ 8 0 0 rfl rfl, fun _ => ⟨Or.inl rfl, _, rfl, Or.inl rfl, rfl⟩⟩
  rw [t_nat h1] at h
  exact h
theorem l_inZone (a1 : Int32) (σ : sm_S) : ∀ (d k : Nat) (a2 a3 : Int32), a3.toInt = k → k + d = 8 → 0 ≤ a2.toInt → a2.toInt ≤ k → xE xD m_S_inZone 4 [.ref 17, .int a1, .int a2, .int a3] [] σ (sm_I (fun x σ' => (0 ≤ x.toInt ∧ x.toInt ≤ 8) ∧ σ' = σ)) := by
  intro d
  induction d with
  | zero =>
    intro k a2 a3 h3 hk l1 l2
    refine d_S_inZone_4 a1 a2 a3 σ _ ⟨fun _ => ⟨_, rfl, ⟨l1, by omega⟩, rfl⟩, fun h => absurd ?_ h⟩
    rw [t_le, h3]
    show (8 : Int) ≤ _
    omega
  | succ d ih =>
    intro k a2 a3 h3 hk l1 l2
    have h3' : (a3 + 1).toInt = ((k + 1 : Nat) : Int) := by
      rw [t_add h3 (y := 1) rfl (by omega) (by omega)]
      omega
    have e0 : (a2 + 0).toInt = a2.toInt := by rw [t_add (x := a2.toInt) rfl (y := 0) rfl (by omega) (by omega)]; omega
    have e1 : (a2 + 1).toInt = a2.toInt + 1 := by rw [t_add (x := a2.toInt) rfl (y := 1) rfl (by omega) (by omega)]
    exact d_S_inZone_4 a1 a2 a3 σ _ ⟨fun _ => ⟨_, rfl, ⟨l1, by omega⟩, rfl⟩, fun _ => ⟨t_vp h3 (by omega), fun _ => ih (k + 1) _ _ h3' (by omega) (by omega) (by omega), fun _ => ih (k + 1) _ _ h3' (by omega) (by omega) (by omega)⟩⟩
theorem e_inZone (a1 : Int32) (σ : sm_S) : xC xD j_S_inZone [.ref 17, .int a1] σ (sm_I (fun x σ' => (0 ≤ x.toInt ∧ x.toInt ≤ 8) ∧ σ' = σ)) := d_S_inZone a1 σ _ (l_inZone a1 σ 8 0 0 0 rfl rfl (by decide) (by decide))
theorem e_isGoing {a1 : Int32} {n : Nat} (h1 : a1.toInt = n) (hn : n < 8) (σ : sm_S) : xC xD j_S_isGoing [.ref 17, .int a1] σ (sm_I (fun x σ' => ((x = 1 ∧ (σ 18 n = 2 ∨ σ 18 n = 3)) ∨ x = 0) ∧ σ' = σ)) := by
  refine d_S_isGoing a1 σ _ ?_
  rw [t_nat h1]
  exact ⟨t_vp h1 hn, fun h => ⟨Or.inr rfl, _, rfl, Or.inl ⟨rfl, Or.inl h⟩, rfl⟩, fun _ => ⟨t_vp h1 hn, fun _ => ⟨Or.inl rfl, _, rfl, Or.inr rfl, rfl⟩, fun h => ⟨Or.inr rfl, _, rfl, Or.inl ⟨rfl, Or.inr (Classical.not_not.mp h)⟩, rfl⟩⟩⟩
def nbt (σ : sm_S) (x : Int32) : Prop := x = -1 ∨ ∃ n : Nat, n < 8 ∧ x.toInt = n ∧ σ 18 n = 0
theorem l_nextByTurns21 (σ : sm_S) {a3 : Int32} (K : ∀ (a1 a2 a4 a5 a6 : Int32), nbt σ a1 → xE xD m_S_nextByTurns 7 [.ref 17, .int a1, .int a2, .int (a3 + 1), .int a4, .int a5, .int a6] [] σ (sm_I (fun x σ' => nbt σ x ∧ σ' = σ))) : ∀ (d k : Nat) (a1 a2 a4 a5 a6 : Int32), a6.toInt = k → 8 ≤ k + d → k ≤ 20 → nbt σ a1 → nbt σ a5 → xE xD m_S_nextByTurns 21 [.ref 17, .int a1, .int a2, .int a3, .int a4, .int a5, .int a6] [] σ (sm_I (fun x σ' => nbt σ x ∧ σ' = σ)) := by
  intro d
  induction d with
  | zero =>
    intro k a1 a2 a4 a5 a6 h6 hk hk2 b1 b5
    refine d_S_nextByTurns_21 a1 a2 a3 a4 a5 a6 σ _ ⟨fun _ => ⟨fun _ => K _ _ _ _ _ b1, fun _ => ⟨fun _ => K _ _ _ _ _ b1, fun _ => K _ _ _ _ _ b5⟩⟩, fun h => absurd ?_ h⟩
    rw [t_le, h6]
    show (8 : Int) ≤ _
    omega
  | succ d ih =>
    intro k a1 a2 a4 a5 a6 h6 hk hk2 b1 b5
    refine d_S_nextByTurns_21 a1 a2 a3 a4 a5 a6 σ _ ⟨fun _ => ⟨fun _ => K _ _ _ _ _ b1, fun _ => ⟨fun _ => K _ _ _ _ _ b1, fun _ => K _ _ _ _ _ b5⟩⟩, fun h => ?_⟩
    rw [t_le, h6] at h
    have h : ¬ (8 : Int) ≤ k := h
    have h6' : (a6 + 2).toInt = ((k + 2 : Nat) : Int) := by
      rw [t_add h6 (y := 2) rfl (by omega) (by omega)]
      omega
    have next : ∀ b4 b5 : Int32, nbt σ b5 → xE xD m_S_nextByTurns 21 [.ref 17, .int a1, .int a2, .int a3, .int b4, .int b5, .int (a6 + 2)] [] σ (sm_I (fun x σ' => nbt σ x ∧ σ' = σ)) := fun b4 b5 hb => ih (k + 2) _ _ _ _ _ h6' (by omega) (by omega) b1 hb
    refine ⟨t_vp h6 (by omega), fun h0 => ⟨fun _ => next _ _ b5, fun _ => next _ _ (Or.inr ⟨k, by omega, h6, ?_⟩)⟩, fun _ => next _ _ b5⟩
    rw [t_nat h6] at h0
    exact h0
theorem e_nextByTurns (σ : sm_S) : xC xD j_S_nextByTurns [.ref 17] σ (sm_I (fun x σ' => nbt σ x ∧ σ' = σ)) := by
  have k2 : ∀ (a1 a2 : Int32) (v4 v5 v6 : Value), nbt σ a1 → xE xD m_S_nextByTurns 7 [.ref 17, .int a1, .int a2, .int 2, v4, v5, v6] [] σ (sm_I (fun x σ' => nbt σ x ∧ σ' = σ)) := fun a1 a2 v4 v5 v6 b => d_S_nextByTurns_7 a1 a2 2 v4 v5 v6 σ _ ⟨fun _ => ⟨_, rfl, b, rfl⟩, fun h => absurd (by decide) h⟩
  have k1 : ∀ (a1 a2 : Int32) (v4 v5 v6 : Value), nbt σ a1 → xE xD m_S_nextByTurns 7 [.ref 17, .int a1, .int a2, .int 1, v4, v5, v6] [] σ (sm_I (fun x σ' => nbt σ x ∧ σ' = σ)) := fun a1 a2 v4 v5 v6 b => d_S_nextByTurns_7 a1 a2 1 v4 v5 v6 σ _ ⟨fun h => absurd h (by decide), fun _ => l_nextByTurns21 σ (a3 := 1) (fun _ _ _ _ _ hb => k2 _ _ _ _ _ hb) 8 1 a1 a2 _ _ 1 rfl (by omega) (by omega) b (Or.inl rfl)⟩
  exact d_S_nextByTurns σ _ (d_S_nextByTurns_7 _ _ 0 _ _ _ σ _ ⟨fun h => absurd h (by decide), fun _ => l_nextByTurns21 σ (a3 := 0) (fun _ _ _ _ _ hb => k1 _ _ _ _ _ hb) 8 0 _ _ _ _ 0 rfl (by omega) (by omega) (Or.inl rfl) (Or.inl rfl)⟩)
/-- a frame's block -/
theorem kf_at {σ : sm_S} (h : kf σ) {f : Nat} (hf : f < 256) (hne : σ 6 f ≠ -1) : ∃ b : Nat, b < 96 ∧ (σ 6 f).toInt = b := by
  obtain ⟨m, h1, h2⟩ := h f hf
  have : m ≠ 0 := fun z => hne (t_inj (by rw [h2, z]; rfl))
  exact ⟨m - 1, by omega, by omega⟩
theorem e_blockAt {a1 : Int32} {n : Nat} (h1 : a1.toInt = n) (hn : n < 256) (σ : sm_S) (hf : kf σ) : xC xD j_Y_blockAt [.ref 0, .int a1] σ (sm_I (fun x σ' => (x = -1 ∨ ∃ b : Nat, b < 96 ∧ x.toInt = b ∧ (σ 9 b).toInt = n) ∧ σ' = σ)) := by
  refine d_Y_blockAt a1 σ _ ?_
  rw [t_nat h1]
  refine ⟨t_vp h1 hn, fun _ => ⟨_, rfl, Or.inl rfl, rfl⟩, fun hne => ?_⟩
  obtain ⟨b, hb, hb2⟩ := kf_at hf hn hne
  rw [t_nat hb2]
  refine ⟨t_vp hb2 hb, fun _ => ⟨_, rfl, Or.inl rfl, rfl⟩, fun h9 => ⟨_, rfl, Or.inr ⟨b, hb, hb2, ?_⟩, rfl⟩⟩
  rw [Classical.not_not.mp h9]; exact h1
theorem e_staysInRatio (a1 a2 : Int32) (σ : sm_S) : xC xD j_Y_staysInRatio [.ref 0, .int a1, .int a2] σ (sm_I (fun x σ' => (x = 0 ∨ x = 1) ∧ σ' = σ)) :=
  d_Y_staysInRatio a1 a2 σ _ ⟨t_vp (n := 2) rfl (by omega), fun _ => ⟨Or.inl rfl, _, rfl, Or.inl rfl, rfl⟩, fun _ => ⟨Or.inr rfl, _, rfl, Or.inr rfl, rfl⟩⟩
theorem e_zoneByRatio (σ : sm_S) : xC xD j_Y_zoneByRatio [.ref 0] σ (sm_I (fun x σ' => (x = 0 ∨ x = 1) ∧ σ' = σ)) := by
  refine d_Y_zoneByRatio σ _ ((e_inZone _ σ).int ?_)
  rintro x2 σ ⟨-, rfl⟩
  refine (e_inZone _ _).int ?_
  rintro x4 σ ⟨-, rfl⟩
  refine (e_staysInRatio _ _ _).int ?_
  rintro x6 σ ⟨-, rfl⟩
  exact ⟨fun _ => ⟨_, rfl, Or.inl rfl, rfl⟩, fun _ => ⟨_, rfl, Or.inr rfl, rfl⟩⟩
theorem t_s32 {a : Int32} {s : Nat} (h : a.toInt = s) (hs : s < 10) : (a * 32).toInt = ((32 * s : Nat) : Int) := by
  rw [t_mul h (y := 32) rfl (by omega) (by omega)]
  omega
theorem t_s33 {a : Int32} {s : Nat} (h : a.toInt = s) (hs : s < 9) : ((a + 1) * 32).toInt = ((32 * s + 32 : Nat) : Int) := by
  have h1 : (a + 1).toInt = ((s + 1 : Nat) : Int) := by
    rw [t_add h (y := 1) rfl (by omega) (by omega)]
    omega
  rw [t_s32 h1 (by omega)]
  omega
theorem l_blockFrom {a1 a2 : Int32} {s : Nat} (h1 : a1.toInt = s) (hs : s < 8) (σ : sm_S) (hf : kf σ) : ∀ (d k : Nat) (a3 : Int32) (v4 : Value), a3.toInt = k → 32 * s ≤ k → 32 * s + 32 ≤ k + d → xE xD m_G_blockFrom 7 [.ref 41, .int a1, .int a2, .int a3, v4] [] σ (sm_I (fun x σ' => (x = -1 ∨ ∃ b f : Nat, b < 96 ∧ x.toInt = b ∧ (σ 9 b).toInt = f ∧ f / 32 = s) ∧ σ' = σ)) := by
  intro d
  induction d with
  | zero =>
    intro k a3 v4 h3 hk hk2
    refine d_G_blockFrom_7 a1 a2 a3 v4 σ _ ⟨fun _ => ⟨_, rfl, Or.inl rfl, rfl⟩, fun h => absurd ?_ h⟩
    rw [t_le, h3, t_s33 h1 (by omega)]
    omega
  | succ d ih =>
    intro k a3 v4 h3 hk hk2
    refine d_G_blockFrom_7 a1 a2 a3 v4 σ _ ⟨fun _ => ⟨_, rfl, Or.inl rfl, rfl⟩, fun h => ?_⟩
    rw [t_le, h3, t_s33 h1 (by omega)] at h
    have h3' : (a3 + 1).toInt = ((k + 1 : Nat) : Int) := by
      rw [t_add h3 (y := 1) rfl (by omega) (by omega)]
      omega
    refine ⟨t_vp h3 (by omega), fun _ => ih (k + 1) _ _ h3' (by omega) (by omega), fun hne => ?_⟩
    rw [t_nat h3] at hne ⊢
    obtain ⟨b, hb, hb2⟩ := kf_at hf (by omega) hne
    rw [t_nat hb2]
    refine ⟨t_vp hb2 hb, fun _ => ih (k + 1) _ _ h3' (by omega) (by omega), fun h9 => ⟨_, rfl, Or.inr ⟨b, k, hb, hb2, ?_, by omega⟩, rfl⟩⟩
    rw [Classical.not_not.mp h9]; exact h3
theorem e_blockFrom {a1 a2 : Int32} {s r : Nat} (h1 : a1.toInt = s) (hs : s < 8) (h2 : a2.toInt = r) (hr : r ≤ 64) (σ : sm_S) (hf : kf σ) : xC xD j_G_blockFrom [.ref 41, .int a1, .int a2] σ (sm_I (fun x σ' => (x = -1 ∨ ∃ b f : Nat, b < 96 ∧ x.toInt = b ∧ (σ 9 b).toInt = f ∧ f / 32 = s) ∧ σ' = σ)) := by
  refine d_G_blockFrom a1 a2 σ _ (l_blockFrom h1 hs σ hf 32 (32 * s + r) _ _ ?_ (by omega) (by omega))
  rw [t_add (t_s32 h1 (by omega)) h2 (by omega) (by omega)]
  omega
theorem l_hasUnmovable {a1 : Int32} {q : Nat} (h1 : a1.toInt = q) (hq : q < 400) (σ : sm_S) (hf : kf σ) : ∀ (d k : Nat) (a2 : Int32) (v3 : Value), a2.toInt = k → q + 8 ≤ k + d → xE xD m_G_hasUnmovable 2 [.ref 41, .int a1, .int a2, v3] [] σ (sm_I (fun _ σ' => σ' = σ)) := by
  have h8 : (a1 + 8).toInt = ((q + 8 : Nat) : Int) := by
    rw [t_add h1 (y := 8) rfl (by omega) (by omega)]
    omega
  intro d
  induction d with
  | zero =>
    intro k a2 v3 h2 hk
    refine d_G_hasUnmovable_2 a1 a2 v3 σ _ ⟨fun _ => ⟨Or.inl rfl, _, rfl, rfl⟩, fun h => absurd ?_ h⟩
    rw [t_le, h2, h8]
    omega
  | succ d ih =>
    intro k a2 v3 h2 hk
    refine d_G_hasUnmovable_2 a1 a2 v3 σ _ ⟨fun _ => ⟨Or.inl rfl, _, rfl, rfl⟩, fun h => ⟨fun _ => ⟨Or.inl rfl, _, rfl, rfl⟩, fun hl => ?_⟩⟩
    rw [t_le, h2] at hl
    have hl : ¬ (256 : Int) ≤ k := hl
    have h2' : (a2 + 1).toInt = ((k + 1 : Nat) : Int) := by
      rw [t_add h2 (y := 1) rfl (by omega) (by omega)]
      omega
    refine ⟨t_vp h2 (by omega), fun _ => ih (k + 1) _ _ h2' (by omega), fun hne => ?_⟩
    rw [t_nat h2] at hne ⊢
    obtain ⟨b, hb, hb2⟩ := kf_at hf (by omega) hne
    exact ⟨t_vp hb2 hb, fun _ => ih (k + 1) _ _ h2' (by omega), fun _ => ⟨Or.inr rfl, _, rfl, rfl⟩⟩
theorem e_hasUnmovable {a1 : Int32} {q : Nat} (h1 : a1.toInt = q) (hq : q < 400) (σ : sm_S) (hf : kf σ) : xC xD j_G_hasUnmovable [.ref 41, .int a1] σ (sm_I (fun _ σ' => σ' = σ)) :=
  d_G_hasUnmovable a1 σ _ (l_hasUnmovable h1 hq σ hf 8 q a1 _ h1 (by omega))
theorem e_whyFails {a1 : Int32} {s : Nat} (h1 : a1.toInt = s) (hs : s < 8) (σ : sm_S) (hf : kf σ) : xC xD j_G_whyFails [.ref 41, .int a1] σ (sm_I (fun _ σ' => σ' = σ)) := by
  refine d_G_whyFails a1 σ _ ((e_blockFrom (r := 0) h1 hs rfl (by omega) σ hf).int ?_)
  rintro x2 σ ⟨hx2, rfl⟩
  refine ⟨fun hne => ?_, fun _ => ⟨_, rfl, rfl⟩⟩
  obtain ⟨b, f, hb, hb2, -⟩ := hx2.resolve_left hne
  exact ⟨t_vp hb2 hb, fun _ => ⟨t_vp hb2 hb, fun _ => ⟨_, rfl, rfl⟩, fun _ => ⟨_, rfl, rfl⟩⟩, fun _ => ⟨_, rfl, rfl⟩⟩
theorem l_hasPlaceBeside {a1 a2 a3 : Int32} {b f o w : Nat} (h2 : a2.toInt = b) (hb : b < 96) (σ : sm_S) (he : eb σ b f o w) : ∀ (d k : Nat) (a4 : Int32), a4.toInt = k → k + d = 8 → xE xD m_Y_hasPlaceBeside 21 [.ref 0, .int a1, .int a2, .int a3, .int a4] [] σ (sm_I (fun _ σ' => σ' = σ)) := by
  intro d
  induction d with
  | zero =>
    intro k a4 h4 hk
    refine d_Y_hasPlaceBeside_21 a1 a2 a3 a4 σ _ ⟨fun _ => ⟨Or.inl rfl, _, rfl, rfl⟩, fun h => absurd ?_ h⟩
    rw [t_le, h4]
    show (8 : Int) ≤ _
    omega
  | succ d ih =>
    intro k a4 h4 hk
    have h4' : (a4 + 1).toInt = ((k + 1 : Nat) : Int) := by
      rw [t_add h4 (y := 1) rfl (by omega) (by omega)]
      omega
    have next := ih (k + 1) (a4 + 1) h4' (by omega)
    have v4 := t_vp (N := 8) h4 (by omega)
    have v2 := t_vp h2 hb
    refine d_Y_hasPlaceBeside_21 a1 a2 a3 a4 σ _ ⟨fun _ => ⟨Or.inl rfl, _, rfl, rfl⟩, fun _ => ⟨fun _ => next, fun _ => ⟨v4, fun _ => next, fun _ => ⟨v2, (c_rank h4 (by omega) _ _ σ).int ?_⟩⟩⟩⟩
    rintro x2 σ rfl
    refine ⟨fun _ => next, fun _ => ⟨v4, v2, (c_starts (o := o) ?_ (by have := he.2.2.1; omega) _ _).int ?_⟩⟩
    · rw [t_nat h2]; exact he.2.1
    · rintro x4 σ ⟨-, rfl⟩
      exact ⟨fun _ => next, fun _ => ⟨Or.inr rfl, _, rfl, rfl⟩⟩
theorem e_hasPlaceBeside {a1 a2 : Int32} {b f o w : Nat} (h2 : a2.toInt = b) (hb : b < 96) (σ : sm_S) (he : eb σ b f o w) : xC xD j_Y_hasPlaceBeside [.ref 0, .int a1, .int a2] σ (sm_I (fun _ σ' => σ' = σ)) := by
  refine d_Y_hasPlaceBeside a1 a2 σ _ ?_
  rw [t_nat h2]
  exact ⟨t_vp h2 hb, t_vp he.2.2.2.2.1 he.2.2.2.2.2, l_hasPlaceBeside h2 hb σ he 8 0 0 rfl rfl⟩
theorem e_whyKeeps {a1 a2 : Int32} {b f o w : Nat} (h2 : a2.toInt = b) (hb : b < 96) (σ : sm_S) (he : eb σ b f o w) : xC xD j_Y_whyKeeps [.ref 0, .int a1, .int a2] σ (sm_I (fun _ σ' => σ' = σ)) := by
  have v2 := t_vp h2 hb
  refine d_Y_whyKeeps a1 a2 σ _ ⟨v2, fun _ => ⟨v2, fun _ => ⟨v2, fun _ => ⟨_, rfl, rfl⟩, fun _ => (e_hasPlaceBeside h2 hb σ he).int ?_⟩, fun _ => ⟨_, rfl, rfl⟩⟩, fun _ => ⟨_, rfl, rfl⟩⟩
  rintro x2 σ rfl
  exact ⟨fun _ => ⟨_, rfl, rfl⟩, fun _ => ⟨_, rfl, rfl⟩⟩
/-- a block by its first frame -/
theorem kb_at {σ : sm_S} (hk : ∀ b, b < 96 → kb σ b) {b n : Nat} (hb : b < 96) (h9 : (σ 9 b).toInt = n) : ∃ f o w, eb σ b f o w := kb_has (hk b hb) (ne_m1 h9)
theorem l_keepers {a1 : Int32} {s : Nat} (h1 : a1.toInt = s) (hs : s < 8) (σ : sm_S) (hk : kk σ) : ∀ (d k : Nat) (a2 a3 : Int32) (v4 : Value), a3.toInt = k → k + d = 32 * s + 32 → xE xD m_Y_keepers 7 [.ref 0, .int a1, .int a2, .int a3, v4] [] σ (sm_I (fun _ σ' => σ' = σ)) := by
  intro d
  induction d with
  | zero =>
    intro k a2 a3 v4 h3 hkd
    refine d_Y_keepers_7 a1 a2 a3 v4 σ _ ⟨fun _ => ⟨_, rfl, rfl⟩, fun h => absurd ?_ h⟩
    rw [t_le, h3, t_s33 h1 (by omega)]
    omega
  | succ d ih =>
    intro k a2 a3 v4 h3 hkd
    have h3' : (a3 + 1).toInt = ((k + 1 : Nat) : Int) := by
      rw [t_add h3 (y := 1) rfl (by omega) (by omega)]
      omega
    have next : ∀ (a2 : Int32) (v4 : Value), xE xD m_Y_keepers 7 [.ref 0, .int a1, .int a2, .int (a3 + 1), v4] [] σ (sm_I (fun _ σ' => σ' = σ)) := fun a2 v4 => ih (k + 1) a2 _ v4 h3' (by omega)
    refine d_Y_keepers_7 a1 a2 a3 v4 σ _ ⟨fun _ => ⟨_, rfl, rfl⟩, fun _ => (e_blockAt h3 (by omega) σ hk.2.2.2.1).int ?_⟩
    rintro x2 σ ⟨hx2, rfl⟩
    refine ⟨fun _ => next _ _, fun n2 => ?_⟩
    obtain ⟨b, hb, hb2, h9⟩ := hx2.resolve_left n2
    obtain ⟨f, o, w, he⟩ := kb_at hk.1 hb h9
    refine (e_whyKeeps hb2 hb _ he).int ?_
    rintro x4 σ rfl
    exact ⟨fun _ => next _ _, fun _ => next _ _⟩
theorem e_keepers {a1 : Int32} {s : Nat} (h1 : a1.toInt = s) (hs : s < 8) (σ : sm_S) (hk : kk σ) : xC xD j_Y_keepers [.ref 0, .int a1] σ (sm_I (fun _ σ' => σ' = σ)) :=
  d_Y_keepers a1 σ _ (l_keepers h1 hs σ hk 32 (32 * s) _ _ _ (t_s32 h1 (by omega)) (by omega))
theorem l_keeper {a1 a2 : Int32} {s : Nat} (h1 : a1.toInt = s) (hs : s < 8) (σ : sm_S) (hk : kk σ) : ∀ (d k : Nat) (a3 a4 : Int32) (v5 : Value), a4.toInt = k → k + d = 32 * s + 32 → xE xD m_Y_keeper 8 [.ref 0, .int a1, .int a2, .int a3, .int a4, v5] [] σ (sm_I (fun x σ' => (x = -1 ∨ ∃ b f o w : Nat, b < 96 ∧ x.toInt = b ∧ eb σ b f o w) ∧ σ' = σ)) := by
  intro d
  induction d with
  | zero =>
    intro k a3 a4 v5 h3 hkd
    refine d_Y_keeper_8 a1 a2 a3 a4 v5 σ _ ⟨fun _ => ⟨_, rfl, Or.inl rfl, rfl⟩, fun h => absurd ?_ h⟩
    rw [t_le, h3, t_s33 h1 (by omega)]
    omega
  | succ d ih =>
    intro k a3 a4 v5 h3 hkd
    have h3' : (a4 + 1).toInt = ((k + 1 : Nat) : Int) := by
      rw [t_add h3 (y := 1) rfl (by omega) (by omega)]
      omega
    have next : ∀ (a3 : Int32) (v5 : Value), xE xD m_Y_keeper 8 [.ref 0, .int a1, .int a2, .int a3, .int (a4 + 1), v5] [] σ (sm_I (fun x σ' => (x = -1 ∨ ∃ b f o w : Nat, b < 96 ∧ x.toInt = b ∧ eb σ b f o w) ∧ σ' = σ)) := fun a3 v5 => ih (k + 1) a3 _ v5 h3' (by omega)
    refine d_Y_keeper_8 a1 a2 a3 a4 v5 σ _ ⟨fun _ => ⟨_, rfl, Or.inl rfl, rfl⟩, fun _ => (e_blockAt h3 (by omega) σ hk.2.2.2.1).int ?_⟩
    rintro x2 σ ⟨hx2, rfl⟩
    refine ⟨fun _ => next _ _, fun n2 => ?_⟩
    obtain ⟨b, hb, hb2, h9⟩ := hx2.resolve_left n2
    obtain ⟨f, o, w, he⟩ := kb_at hk.1 hb h9
    refine (e_whyKeeps hb2 hb _ he).int ?_
    rintro x4 σ rfl
    exact ⟨fun _ => next _ _, fun _ => ⟨fun _ => next _ _, fun _ => ⟨_, rfl, Or.inr ⟨b, f, o, w, hb, hb2, he⟩, rfl⟩⟩⟩
theorem e_keeper {a1 : Int32} {s : Nat} (h1 : a1.toInt = s) (hs : s < 8) (a2 : Int32) (σ : sm_S) (hk : kk σ) : xC xD j_Y_keeper [.ref 0, .int a1, .int a2] σ (sm_I (fun x σ' => (x = -1 ∨ ∃ b f o w : Nat, b < 96 ∧ x.toInt = b ∧ eb σ b f o w) ∧ σ' = σ)) :=
  d_Y_keeper a1 a2 σ _ (l_keeper h1 hs σ hk 32 (32 * s) _ _ _ (t_s32 h1 (by omega)) (by omega))
theorem l_holdersOf {a1 : Int32} {s : Nat} (h1 : a1.toInt = s) (hs : s < 8) (σ : sm_S) (hk : kk σ) : ∀ (d k : Nat) (a2 a3 : Int32) (v4 : Value), a3.toInt = k → k + d = 32 * s + 32 → xE xD m_Y_holdersOf 7 [.ref 0, .int a1, .int a2, .int a3, v4] [] σ (sm_I (fun _ σ' => σ' = σ)) := by
  intro d
  induction d with
  | zero =>
    intro k a2 a3 v4 h3 hkd
    refine d_Y_holdersOf_7 a1 a2 a3 v4 σ _ ⟨fun _ => ⟨_, rfl, rfl⟩, fun h => absurd ?_ h⟩
    rw [t_le, h3, t_s33 h1 (by omega)]
    omega
  | succ d ih =>
    intro k a2 a3 v4 h3 hkd
    have h3' : (a3 + 1).toInt = ((k + 1 : Nat) : Int) := by
      rw [t_add h3 (y := 1) rfl (by omega) (by omega)]
      omega
    have next : ∀ (a2 : Int32) (v4 : Value), xE xD m_Y_holdersOf 7 [.ref 0, .int a1, .int a2, .int (a3 + 1), v4] [] σ (sm_I (fun _ σ' => σ' = σ)) := fun a2 v4 => ih (k + 1) a2 _ v4 h3' (by omega)
    refine d_Y_holdersOf_7 a1 a2 a3 v4 σ _ ⟨fun _ => ⟨_, rfl, rfl⟩, fun _ => (e_blockAt h3 (by omega) σ hk.2.2.2.1).int ?_⟩
    rintro x2 σ ⟨hx2, rfl⟩
    refine ⟨fun _ => next _ _, fun n2 => ?_⟩
    obtain ⟨b, hb, hb2, h9⟩ := hx2.resolve_left n2
    have v := t_vp hb2 hb
    exact ⟨v, v, fun _ => next _ _, fun _ => ⟨v, next _ _⟩⟩
theorem e_holdersOf {a1 : Int32} {s : Nat} (h1 : a1.toInt = s) (hs : s < 8) (σ : sm_S) (hk : kk σ) : xC xD j_Y_holdersOf [.ref 0, .int a1] σ (sm_I (fun _ σ' => σ' = σ)) :=
  d_Y_holdersOf a1 σ _ (l_holdersOf h1 hs σ hk 32 (32 * s) _ _ _ (t_s32 h1 (by omega)) (by omega))
/-- the best place so far: its span, its hole -/
def bpG (σ : sm_S) (o : Nat) (x y : Int32) : Prop := x = -1 ∨ ∃ s h : Nat, s < 8 ∧ x.toInt = s ∧ y.toInt = h ∧ o ≤ h ∧ h ≤ 5 ∧ al5 (st (σ 2 s) h) h ≠ 0
theorem l_bestPlaceE {a1 a2 a3 a4 : Int32} {m o : Nat} (h1 : a1.toInt = m) (hm : m < 6) (h3 : a3.toInt = o) (ho : o ≤ 4) (σ : sm_S) : ∀ (d k : Nat) (a5 a6 a7 a8 : Int32) (v9 v10 v11 : Value), a8.toInt = k → k + d = 8 → bpG σ o a5 a7 → xE xD m_Y_bestPlace 12 [.ref 0, .int a1, .int a2, .int a3, .int a4, .int a5, .int a6, .int a7, .int a8, v9, v10, v11] [] σ (sm_I (fun x σ' => (x = -1 ∨ ∃ p : Nat, x.toInt = p ∧ p + 2 ^ o ≤ 256) ∧ σ' = σ)) := by
  intro d
  induction d with
  | zero =>
    intro k a5 a6 a7 a8 v9 v10 v11 h8 hk hG
    refine d_Y_bestPlace_12 a1 a2 a3 a4 a5 a6 a7 a8 v9 v10 v11 σ _ ⟨fun _ => ⟨fun n5 => ?_, fun _ => ⟨_, rfl, Or.inl rfl, rfl⟩⟩, fun h => absurd ?_ h⟩
    · obtain ⟨s, h, hs, g1, g2, g3, g4, g5⟩ := hG.resolve_left n5
      rw [t_nat g1]
      refine ⟨t_vp g1 hs, (c_starts g2 g4 _ σ).int ?_⟩
      rintro x2 σ ⟨rfl, rfl⟩
      refine (c_alone g2 g4 _ _).int ?_
      rintro x4 σ ⟨rfl, rfl⟩
      refine (c_ntz _ _).int ?_
      rintro x6 σ ⟨hx6, rfl⟩
      obtain ⟨p, p1, p2, p3⟩ := hx6.resolve_left (fun z => g5 z.1)
      have pa := st_al g4 p1 (al5_bit p3)
      have pb : p % 2 ^ o = 0 := Nat.mod_eq_zero_of_dvd (Nat.dvd_trans (Nat.pow_dvd_pow 2 g3) (Nat.dvd_of_mod_eq_zero pa))
      have pc := t_al (by omega) pb
      refine ⟨_, rfl, Or.inr ⟨32 * s + p, ?_, by omega⟩, rfl⟩
      rw [t_add (t_s32 g1 (by omega)) p2 (by omega) (by omega)]
      omega
    · rw [t_le, h8]
      show (8 : Int) ≤ _
      omega
  | succ d ih =>
    intro k a5 a6 a7 a8 v9 v10 v11 h8 hk hG
    have h8' : (a8 + 1).toInt = ((k + 1 : Nat) : Int) := by
      rw [t_add h8 (y := 1) rfl (by omega) (by omega)]
      omega
    have next : ∀ (a5 a6 a7 : Int32) (v9 v10 v11 : Value), bpG σ o a5 a7 → xE xD m_Y_bestPlace 12 [.ref 0, .int a1, .int a2, .int a3, .int a4, .int a5, .int a6, .int a7, .int (a8 + 1), v9, v10, v11] [] σ (sm_I (fun x σ' => (x = -1 ∨ ∃ p : Nat, x.toInt = p ∧ p + 2 ^ o ≤ 256) ∧ σ' = σ)) := fun a5 a6 a7 v9 v10 v11 hG => ih (k + 1) a5 a6 a7 _ v9 v10 v11 h8' (by omega) hG
    have v8 := t_vp (N := 8) h8 (by omega)
    refine d_Y_bestPlace_12 a1 a2 a3 a4 a5 a6 a7 a8 v9 v10 v11 σ _ ⟨fun h => ?_, fun _ => ⟨v8, (c_starts h3 (by omega) _ σ).int ?_⟩⟩
    · rw [t_le, h8] at h
      have h : (8 : Int) ≤ k := h
      omega
    · rw [t_nat h8]
      rintro x8 σ ⟨rfl, rfl⟩
      refine ⟨fun _ => next _ _ _ _ _ _ hG, fun n8 => ⟨fun _ => ⟨t_vp h1 hm, (c_rank h8 (by omega) _ _ _).int ?_⟩, fun _ => ⟨v8, fun _ => ⟨t_vp h1 hm, (c_rank h8 (by omega) _ _ _).int ?_⟩, fun _ => next _ _ _ _ _ _ hG⟩⟩⟩
      all_goals
        rintro x10 σ rfl
        refine ⟨fun _ => next _ _ _ _ _ _ hG, fun _ => ⟨fun _ => (c_leastHole h3 (by omega) n8 _).int ?_, fun _ => ⟨fun _ => (c_leastHole h3 (by omega) n8 _).int ?_, fun _ => next _ _ _ _ _ _ hG⟩⟩⟩
        all_goals
          rintro x12 σ ⟨⟨h, q1, q2, q3, q4⟩, rfl⟩
          have new : bpG σ o a8 x12 := Or.inr ⟨k, h, by omega, h8, q1, q2, q3, q4⟩
          exact ⟨fun _ => next _ _ _ _ _ _ new, fun _ => ⟨fun _ => next _ _ _ _ _ _ new, fun _ => ⟨fun _ => next _ _ _ _ _ _ hG, fun _ => next _ _ _ _ _ _ new⟩⟩⟩
theorem e_bestPlace {a1 a2 a3 a4 : Int32} {m o : Nat} (h1 : a1.toInt = m) (hm : m < 6) (h3 : a3.toInt = o) (ho : o ≤ 4) (σ : sm_S) : xC xD j_Y_bestPlace [.ref 0, .int a1, .int a2, .int a3, .int a4] σ (sm_I (fun x σ' => (x = -1 ∨ ∃ p : Nat, x.toInt = p ∧ p + 2 ^ o ≤ 256) ∧ σ' = σ)) :=
  d_Y_bestPlace a1 a2 a3 a4 σ _ (l_bestPlaceE h1 hm h3 ho σ 8 0 _ _ _ 0 _ _ _ rfl rfl (Or.inl rfl))
theorem e_nearerPlace {a1 : Int32} {b f o w : Nat} (h1 : a1.toInt = b) (hb : b < 96) (σ : sm_S) (he : eb σ b f o w) : xC xD j_Y_nearerPlace [.ref 0, .int a1] σ (sm_I (fun x σ' => (x = -1 ∨ (σ 14 b = -1 ∧ ∃ p : Nat, x.toInt = p ∧ p + 2 ^ o ≤ 256)) ∧ σ' = σ)) := by
  obtain ⟨e1, e2, e3, e4, e5, e6⟩ := he
  have hp := Nat.two_pow_pos o
  have v := t_vp h1 hb
  have non : ∀ σ1 : sm_S, σ1 = σ → sm_I (fun x σ' => (x = -1 ∨ (σ 14 b = -1 ∧ ∃ p : Nat, x.toInt = p ∧ p + 2 ^ o ≤ 256)) ∧ σ' = σ) (some (.int (-1))) σ1 := fun σ1 h => ⟨_, rfl, Or.inl rfl, h⟩
  refine d_Y_nearerPlace a1 σ _ ?_
  rw [t_nat h1]
  have hsp : (σ 9 b / 32).toInt = ((f / 32 : Nat) : Int) := t_div (d := 32) e1 rfl (by decide)
  refine ⟨v, by decide, v, fun _ => non _ rfl, fun _ => (e_isLoose h1 hb σ).int ?_⟩
  rintro x2 σ ⟨hx2, rfl⟩
  refine ⟨fun _ => non _ rfl, fun n2 => ⟨t_vp hsp (by omega), fun _ => ⟨v, v, (e_bestPlace e5 e6 e2 e3 _).int ?_⟩, fun _ => non _ rfl⟩⟩
  obtain ⟨-, -, g2⟩ := hx2.resolve_right n2
  rintro x4 σ ⟨hx4, rfl⟩
  refine ⟨fun n4 => ?_, fun _ => non _ rfl⟩
  obtain ⟨p, p1, p2⟩ := hx4.resolve_left n4
  have hsp4 : (x4 / 32).toInt = ((p / 32 : Nat) : Int) := t_div (d := 32) p1 rfl (by decide)
  refine ⟨t_vp e5 e6, by decide, (c_rank hsp4 (by omega) _ _ _).int ?_⟩
  rintro x6 σ rfl
  refine (c_rank hsp (by omega) _ _ _).int ?_
  rintro x8 σ rfl
  have yes : sm_I (fun x σ' => (x = -1 ∨ (σ 14 b = -1 ∧ ∃ p : Nat, x.toInt = p ∧ p + 2 ^ o ≤ 256)) ∧ σ' = σ) (some (.int x4)) σ := ⟨_, rfl, Or.inr ⟨g2, p, p1, p2⟩, rfl⟩
  exact ⟨fun _ => ⟨fun _ => non _ rfl, fun _ => yes⟩, fun _ => ⟨fun _ => non _ rfl, fun _ => yes⟩⟩
end
section
/-! ===== the class: what a call may change ===== -/
def kC : List Nat := [9, 10, 11, 12, 14, 15, 18, 20, 23, 24, 28, 31, 33]
def kx (E : List Nat) (σ σ' : sm_S) : Prop := (∀ k, kC.contains k = true → E.contains k = false → σ' k = σ k) ∧ (E.contains 26 = false → σ' 26 7 = σ 26 7) ∧ σ' 39 0 = σ 39 0 ∧ (kf σ → kf σ') ∧ (kl σ → kl σ')
def okc (E : List Nat) (k : Nat) : Bool := (!(kC.contains k) || E.contains k) && (!(Nat.beq k 6) && (!(Nat.beq k 26) && (!(Nat.beq k 34) && !(Nat.beq k 39))))
theorem kx.rf {E : List Nat} {σ : sm_S} : kx E σ σ := ⟨fun _ _ _ => rfl, fun _ => rfl, rfl, id, id⟩
theorem kx.tr {E : List Nat} {a b c : sm_S} (h1 : kx E a b) (h2 : kx E b c) : kx E a c :=
  ⟨fun k g1 g2 => (h2.1 k g1 g2).trans (h1.1 k g1 g2), fun g => (h2.2.1 g).trans (h1.2.1 g), h2.2.2.1.trans h1.2.2.1, fun h => h2.2.2.2.1 (h1.2.2.2.1 h), fun h => h2.2.2.2.2 (h1.2.2.2.2 h)⟩
theorem kx.up {E E' : List Nat} {a b : sm_S} (h : kx E a b) (hE : ∀ k, E'.contains k = false → E.contains k = false) : kx E' a b :=
  ⟨fun k g1 g2 => h.1 k g1 (hE k g2), fun g => h.2.1 (hE 26 g), h.2.2⟩
theorem kx.o0 {E : List Nat} {a b : sm_S} (h : kx [] a b) : kx E a b := h.up (fun _ _ => rfl)
theorem beq_ne {k j : Nat} (h : (!(Nat.beq k j)) = true) : k ≠ j := by
  rintro rfl
  rw [Nat.beq_refl] at h
  cases h
theorem kx.set {E : List Nat} {σ τ : sm_S} {k : Nat} {f : Nat → Int32} (h : kx E σ τ) (hk : okc E k = true) : kx E σ (sm_set τ k f) := by
  unfold okc at hk
  simp only [Bool.and_eq_true] at hk
  obtain ⟨h1, h6, h26, h34, h39⟩ := hk
  have n6 : 6 ≠ k := (beq_ne h6).symm
  have n26 : 26 ≠ k := (beq_ne h26).symm
  have n34 : 34 ≠ k := (beq_ne h34).symm
  have n39 : 39 ≠ k := (beq_ne h39).symm
  refine ⟨fun j g1 g2 => ?_, fun g => ?_, ?_, fun g => ?_, fun g => ?_⟩
  · by_cases hj : j = k
    · subst hj
      rw [g1, g2] at h1
      cases h1
    · rw [s_ne hj]; exact h.1 j g1 g2
  · rw [s_ne n26]; exact h.2.1 g
  · rw [s_ne n39]; exact h.2.2.1
  · intro f hf
    rw [s_ne n6]
    exact h.2.2.2.1 g f hf
  · obtain ⟨n, q1, q2⟩ := h.2.2.2.2 g
    exact ⟨n, q1, by rw [s_ne n34]; exact q2⟩
theorem kf_upd {σ : sm_S} {k m : Nat} {x : Int32} (h : kf σ) (hm : m ≤ 96) (hx : x.toInt = (m : Int) - 1) : kf (sm_set σ 6 (upd (σ 6) k x)) := by
  intro f hf
  rw [s_at]
  by_cases hfk : f = k
  · subst hfk; exact ⟨m, hm, by rw [u_at]; exact hx⟩
  · rw [u_ne hfk]; exact h f hf
theorem kx.s6 {E : List Nat} {σ τ : sm_S} {k m : Nat} {x : Int32} (h : kx E σ τ) (hE : E.contains 6 = false) (hm : m ≤ 96) (hx : x.toInt = (m : Int) - 1) : kx E σ (sm_set τ 6 (upd (τ 6) k x)) := by
  refine ⟨fun j g1 g2 => ?_, fun g => ?_, ?_, fun g => kf_upd (h.2.2.2.1 g) hm hx, fun g => ?_⟩
  · have hj : j ≠ 6 := by rintro rfl; cases g1
    rw [s_ne hj]; exact h.1 j g1 g2
  · rw [s_ne (by decide)]; exact h.2.1 g
  · rw [s_ne (by decide)]; exact h.2.2.1
  · obtain ⟨n, q1, q2⟩ := h.2.2.2.2 g
    exact ⟨n, q1, by rw [s_ne (by decide)]; exact q2⟩
theorem kx.s34 {E : List Nat} {σ τ : sm_S} {f : Nat → Int32} (h : kx E σ τ) (hf : ∃ n : Nat, n < 60 ∧ (f 5).toInt = n) : kx E σ (sm_set τ 34 f) := by
  refine ⟨fun j g1 g2 => ?_, fun g => ?_, ?_, fun g => ?_, fun g => ?_⟩
  · have hj : j ≠ 34 := by rintro rfl; cases g1
    rw [s_ne hj]; exact h.1 j g1 g2
  · rw [s_ne (by decide)]; exact h.2.1 g
  · rw [s_ne (by decide)]; exact h.2.2.1
  · intro f hf
    rw [s_ne (by decide)]
    exact h.2.2.2.1 g f hf
  · obtain ⟨n, q1, q2⟩ := hf
    exact ⟨n, q1, by rw [s_at]; exact q2⟩
theorem kx.s26 {E : List Nat} {σ τ : sm_S} {f : Nat → Int32} (h : kx E σ τ) (hE : E.contains 26 = true) : kx E σ (sm_set τ 26 f) := by
  refine ⟨fun j g1 g2 => ?_, fun g => ?_, ?_, fun g => ?_, fun g => ?_⟩
  · have hj : j ≠ 26 := by rintro rfl; cases g1
    rw [s_ne hj]; exact h.1 j g1 g2
  · rw [hE] at g; cases g
  · rw [s_ne (by decide)]; exact h.2.2.1
  · intro f hf
    rw [s_ne (by decide)]
    exact h.2.2.2.1 g f hf
  · obtain ⟨n, q1, q2⟩ := h.2.2.2.2 g
    exact ⟨n, q1, by rw [s_ne (by decide)]; exact q2⟩
theorem eb_cong {σ σ' : sm_S} {b f o w : Nat} (h9 : σ' 9 b = σ 9 b) (h10 : σ' 10 b = σ 10 b) (h12 : σ' 12 b = σ 12 b) (h : eb σ b f o w) : eb σ' b f o w := by
  unfold eb
  rw [h9, h10, h12]
  exact h
theorem kb_cong {σ σ' : sm_S} {b : Nat} (h9 : σ' 9 b = σ 9 b) (h10 : σ' 10 b = σ 10 b) (_h11 : σ' 11 b = σ 11 b) (h12 : σ' 12 b = σ 12 b) (h14 : σ' 14 b = σ 14 b) (h15 : σ' 15 b = σ 15 b) (h24 : ∀ s, (σ 24 s).toInt = b → σ' 24 s = σ 24 s) (h : kb σ b) : kb σ' b := by
  rcases h with ⟨g1, g2, g3⟩ | ⟨f, o, w, he, g⟩
  · exact Or.inl ⟨h9.trans g1, h14.trans g2, h15.trans g3⟩
  · refine Or.inr ⟨f, o, w, eb_cong h9 h10 h12 he, ?_⟩
    rcases g with ⟨g1, g2⟩ | ⟨t, c, q1, q2, q3, q4, q5⟩
    · exact Or.inl ⟨h14.trans g1, h15.trans g2⟩
    · exact Or.inr ⟨t, c, by rw [h14]; exact q1, q2, by rw [h15]; exact q3, q4, by rw [h24 _ q5]; exact q5⟩
theorem ks_cong {σ σ' : sm_S} {s : Nat} (h18 : σ' 18 s = σ 18 s) (h20 : σ' 20 s = σ 20 s) (h23 : σ' 23 s = σ 23 s) (h24 : σ' 24 s = σ 24 s) (hb : ∀ b : Nat, b < 96 → (σ 24 s).toInt = b → σ 14 b ≠ -1 → σ' 14 b ≠ -1 ∧ σ' 9 b = σ 9 b) (h : ks σ s) : ks σ' s := by
  obtain ⟨sh, r, g1, g2, g3, g4, g5, g6⟩ := h
  refine ⟨sh, r, by rw [h20]; exact g1, g2, by rw [h18]; exact g3, by rw [h23]; exact g4, g5, ?_⟩
  rcases g6 with g6 | ⟨b, f, q1, q2, q3, q4, q5, q6⟩
  · exact Or.inl (h24.trans g6)
  · obtain ⟨p1, p2⟩ := hb b q1 q2 q4
    exact Or.inr ⟨b, f, q1, by rw [h24]; exact q2, h18.trans q3, p1, by rw [p2]; exact q5, q6⟩
/-- as kt; for block c the way may be over -/
def ktx (c : Nat) (σ : sm_S) : Prop := ∃ L : Nat, (σ 26 7).toInt = L ∧ L ≤ 6 ∧ (∀ k, k < L → ∃ t : Nat, t < 6 ∧ (σ 33 k).toInt = t) ∧ ∀ t, t < 6 → σ 28 t = -1 ∨ ((∃ k, k < L ∧ (σ 33 k).toInt = t) ∧ ∃ b o a : Nat, b < 96 ∧ (σ 28 t).toInt = b ∧ (b = c ∨ σ 14 b ≠ -1) ∧ (σ 10 b).toInt = o ∧ (σ 31 t).toInt = a ∧ a < 2 ^ o)
theorem kt.x {σ : sm_S} {c : Nat} (h : kt σ) : ktx c σ := by
  obtain ⟨L, h1, h2, h3, h4⟩ := h
  refine ⟨L, h1, h2, h3, fun t ht => ?_⟩
  rcases h4 t ht with g | ⟨g1, b, o, a, q1, q2, q3, q4⟩
  · exact Or.inl g
  · exact Or.inr ⟨g1, b, o, a, q1, q2, Or.inr q3, q4⟩
theorem ktx.t {σ : sm_S} {c : Nat} (h : ktx c σ) (hc : ∀ t, t < 6 → (σ 28 t).toInt ≠ c) : kt σ := by
  obtain ⟨L, h1, h2, h3, h4⟩ := h
  refine ⟨L, h1, h2, h3, fun t ht => ?_⟩
  rcases h4 t ht with g | ⟨g1, b, o, a, q1, q2, q3, q4⟩
  · exact Or.inl g
  · exact Or.inr ⟨g1, b, o, a, q1, q2, q3.resolve_left (fun z => hc t ht (by rw [q2, z])), q4⟩
theorem ktx_cong {σ σ' : sm_S} {c c' : Nat} (h26 : σ' 26 7 = σ 26 7) (h28 : σ' 28 = σ 28) (h31 : ∀ t, σ 28 t ≠ -1 → σ' 31 t = σ 31 t) (h33 : σ' 33 = σ 33) (hb : ∀ b, b < 96 → (b = c ∨ σ 14 b ≠ -1) → (b = c' ∨ σ' 14 b ≠ -1) ∧ σ' 10 b = σ 10 b) (h : ktx c σ) : ktx c' σ' := by
  obtain ⟨L, h1, h2, h3, h4⟩ := h
  refine ⟨L, by rw [h26]; exact h1, h2, by rw [h33]; exact h3, fun t ht => ?_⟩
  rw [h28, h33]
  rcases h4 t ht with g | ⟨g1, b, o, a, q1, q2, q3, q4, q5, q6⟩
  · exact Or.inl g
  · obtain ⟨p1, p2⟩ := hb b q1 q3
    exact Or.inr ⟨g1, b, o, a, q1, q2, p1, by rw [p2]; exact q4, by rw [h31 t (ne_m1 q2)]; exact q5, q6⟩
theorem kt_cong {σ σ' : sm_S} (h26 : σ' 26 7 = σ 26 7) (h28 : σ' 28 = σ 28) (h31 : ∀ t, σ 28 t ≠ -1 → σ' 31 t = σ 31 t) (h33 : σ' 33 = σ 33) (hb : ∀ b, b < 96 → σ 14 b ≠ -1 → σ' 14 b ≠ -1 ∧ σ' 10 b = σ 10 b) (h : kt σ) : kt σ' := by
  obtain ⟨L, h1, h2, h3, h4⟩ := h
  refine ⟨L, by rw [h26]; exact h1, h2, by rw [h33]; exact h3, fun t ht => ?_⟩
  rw [h28, h33]
  rcases h4 t ht with g | ⟨g1, b, o, a, q1, q2, q3, q4, q5, q6⟩
  · exact Or.inl g
  · obtain ⟨p1, p2⟩ := hb b q1 q3
    exact Or.inr ⟨g1, b, o, a, q1, q2, p1, by rw [p2]; exact q4, by rw [h31 t (ne_m1 q2)]; exact q5, q6⟩
/-- all but the line -/
def kj (σ : sm_S) : Prop := (∀ b, b < 96 → kb σ b) ∧ (∀ s, s < 8 → ks σ s) ∧ kf σ ∧ kl σ ∧ 0 ≤ (σ 39 0).toInt
theorem kk.j {σ : sm_S} (h : kk σ) : kj σ := ⟨h.1, h.2.1, h.2.2.2⟩
theorem kj.k {σ : sm_S} (h : kj σ) (ht : kt σ) : kk σ := ⟨h.1, h.2.1, ht, h.2.2⟩
theorem kj_id {E : List Nat} {σ σ' : sm_S} (h : kx E σ σ') (hE : E.contains 9 = false ∧ E.contains 10 = false ∧ E.contains 11 = false ∧ E.contains 12 = false ∧ E.contains 14 = false ∧ E.contains 15 = false ∧ E.contains 18 = false ∧ E.contains 20 = false ∧ E.contains 23 = false ∧ E.contains 24 = false) (hk : kj σ) : kj σ' := by
  obtain ⟨e9, e10, e11, e12, e14, e15, e18, e20, e23, e24⟩ := hE
  have g9 := h.1 9 rfl e9
  have g10 := h.1 10 rfl e10
  have g11 := h.1 11 rfl e11
  have g12 := h.1 12 rfl e12
  have g14 := h.1 14 rfl e14
  have g15 := h.1 15 rfl e15
  have g18 := h.1 18 rfl e18
  have g20 := h.1 20 rfl e20
  have g23 := h.1 23 rfl e23
  have g24 := h.1 24 rfl e24
  refine ⟨fun b hb => kb_cong (by rw [g9]) (by rw [g10]) (by rw [g11]) (by rw [g12]) (by rw [g14]) (by rw [g15]) (fun s _ => by rw [g24]) (hk.1 b hb), fun s hs => ks_cong (by rw [g18]) (by rw [g20]) (by rw [g23]) (by rw [g24]) (fun b _ _ hn => ⟨by rw [g14]; exact hn, by rw [g9]⟩) (hk.2.1 s hs), h.2.2.2.1 hk.2.2.1, h.2.2.2.2 hk.2.2.2.1, by rw [h.2.2.1]; exact hk.2.2.2.2⟩
theorem kk_id {σ σ' : sm_S} (h : kx [] σ σ') (hk : kk σ) : kk σ' :=
  (kj_id h ⟨rfl, rfl, rfl, rfl, rfl, rfl, rfl, rfl, rfl, rfl⟩ hk.j).k (kt_cong (h.2.1 rfl) (h.1 28 rfl rfl) (fun _ _ => by rw [h.1 31 rfl rfl]) (h.1 33 rfl rfl) (fun b _ hn => ⟨by rw [h.1 14 rfl rfl]; exact hn, by rw [h.1 10 rfl rfl]⟩) hk.2.2.1)
/-- block b is changed, that isn't on its way, nor is it behind -/
theorem kk_blk {σ σ' : sm_S} {b : Nat} (h : kx [9, 10, 11, 12, 14, 15] σ σ') (hk : kk σ) (h14 : σ 14 b = -1) (ne : ∀ c k, c ≠ b → (k = 9 ∨ k = 10 ∨ k = 11 ∨ k = 12 ∨ k = 14 ∨ k = 15) → σ' k c = σ k c) (hb : b < 96 → kb σ' b) (h14' : σ' 14 b = -1) : kk σ' := by
  have g18 := h.1 18 rfl rfl
  have g20 := h.1 20 rfl rfl
  have g23 := h.1 23 rfl rfl
  have g24 := h.1 24 rfl rfl
  have n14 : ∀ c, σ 14 c ≠ -1 → c ≠ b := fun c hc z => hc (by rw [z]; exact h14)
  refine ⟨fun c hc => ?_, fun s hs => ks_cong (by rw [g18]) (by rw [g20]) (by rw [g23]) (by rw [g24]) (fun c _ _ hn => ⟨by rw [ne c 14 (n14 c hn) (by omega)]; exact hn, ne c 9 (n14 c hn) (by omega)⟩) (hk.2.1 s hs), ?_, h.2.2.2.1 hk.2.2.2.1, h.2.2.2.2 hk.2.2.2.2.1, by rw [h.2.2.1]; exact hk.2.2.2.2.2⟩
  · by_cases hcb : c = b
    · subst hcb; exact hb hc
    · exact kb_cong (ne c 9 hcb (by omega)) (ne c 10 hcb (by omega)) (ne c 11 hcb (by omega)) (ne c 12 hcb (by omega)) (ne c 14 hcb (by omega)) (ne c 15 hcb (by omega)) (fun s _ => by rw [g24]) (hk.1 c hc)
  · exact kt_cong (h.2.1 rfl) (h.1 28 rfl rfl) (fun _ _ => by rw [h.1 31 rfl rfl]) (h.1 33 rfl rfl) (fun c _ hn => ⟨by rw [ne c 14 (n14 c hn) (by omega)]; exact hn, ne c 10 (n14 c hn) (by omega)⟩) hk.2.2.1
theorem kb_c0 {σ : sm_S} {b : Nat} (h : kb σ b) (h14 : σ 14 b = -1) : σ 15 b = 0 := by
  rcases h with g | ⟨f, o, w, -, g | ⟨t, c, q1, -⟩⟩
  · exact g.2.2
  · exact g.2
  · exact absurd h14 (ne_m1 q1)
theorem kk_rem {σ σ' : sm_S} {b : Nat} (hb : b < 96) (h : kx [9] σ σ') (e : σ' 9 = upd (σ 9) b (-1)) (hk : kk σ) (h14 : σ 14 b = -1) : kk σ' := by
  refine kk_blk (h.up (fun k hk => ?_)) hk h14 (fun c k hc hk => ?_) (fun _ => Or.inl ⟨by rw [e, u_at], by rw [h.1 14 rfl rfl]; exact h14, by rw [h.1 15 rfl rfl]; exact kb_c0 (hk.1 b hb) h14⟩) (by rw [h.1 14 rfl rfl]; exact h14)
  · simp only [List.contains_cons, Bool.or_eq_false_iff] at hk ⊢
    exact ⟨hk.1, rfl⟩
  · rcases hk with rfl | rfl | rfl | rfl | rfl | rfl
    · rw [e, u_ne hc]
    · rw [h.1 10 rfl rfl]
    · rw [h.1 11 rfl rfl]
    · rw [h.1 12 rfl rfl]
    · rw [h.1 14 rfl rfl]
    · rw [h.1 15 rfl rfl]
theorem kk_mov {σ σ' : sm_S} {b f o w p : Nat} {x : Int32} (hb : b < 96) (h : kx [9] σ σ') (e : σ' 9 = upd (σ 9) b x) (hx : x.toInt = p) (hp : p + 2 ^ o ≤ 256) (he : eb σ b f o w) (hk : kk σ) (h14 : σ 14 b = -1) : kk σ' := by
  refine kk_blk (h.up (fun k hk => ?_)) hk h14 (fun c k hc hk => ?_) (fun _ => Or.inr ⟨p, o, w, ⟨by rw [e, u_at]; exact hx, by rw [h.1 10 rfl rfl]; exact he.2.1, he.2.2.1, hp, by rw [h.1 12 rfl rfl]; exact he.2.2.2.2.1, he.2.2.2.2.2⟩, Or.inl ⟨by rw [h.1 14 rfl rfl]; exact h14, by rw [h.1 15 rfl rfl]; exact kb_c0 (hk.1 b hb) h14⟩⟩) (by rw [h.1 14 rfl rfl]; exact h14)
  · simp only [List.contains_cons, Bool.or_eq_false_iff] at hk ⊢
    exact ⟨hk.1, rfl⟩
  · rcases hk with rfl | rfl | rfl | rfl | rfl | rfl
    · rw [e, u_ne hc]
    · rw [h.1 10 rfl rfl]
    · rw [h.1 11 rfl rfl]
    · rw [h.1 12 rfl rfl]
    · rw [h.1 14 rfl rfl]
    · rw [h.1 15 rfl rfl]
theorem kk_ord {σ σ' : sm_S} {b f o w q : Nat} {x : Int32} (hb : b < 96) (h : kx [10] σ σ') (e : σ' 10 = upd (σ 10) b x) (hx : x.toInt = q) (hq : q ≤ o) (he : eb σ b f o w) (hk : kk σ) (h14 : σ 14 b = -1) : kk σ' := by
  have hpq := Nat.pow_le_pow_right (n := 2) (by decide) hq
  refine kk_blk (h.up (fun k hk => ?_)) hk h14 (fun c k hc hk => ?_) (fun _ => Or.inr ⟨f, q, w, ⟨by rw [h.1 9 rfl rfl]; exact he.1, by rw [e, u_at]; exact hx, by have := he.2.2.1; omega, by have := he.2.2.2.1; omega, by rw [h.1 12 rfl rfl]; exact he.2.2.2.2.1, he.2.2.2.2.2⟩, Or.inl ⟨by rw [h.1 14 rfl rfl]; exact h14, by rw [h.1 15 rfl rfl]; exact kb_c0 (hk.1 b hb) h14⟩⟩) (by rw [h.1 14 rfl rfl]; exact h14)
  · simp only [List.contains_cons, Bool.or_eq_false_iff] at hk ⊢
    exact ⟨hk.2.1, rfl⟩
  · rcases hk with rfl | rfl | rfl | rfl | rfl | rfl
    · rw [h.1 9 rfl rfl]
    · rw [e, u_ne hc]
    · rw [h.1 11 rfl rfl]
    · rw [h.1 12 rfl rfl]
    · rw [h.1 14 rfl rfl]
    · rw [h.1 15 rfl rfl]
theorem kb_none {σ : sm_S} {b : Nat} (h : kb σ b) (h9 : σ 9 b = -1) : σ 14 b = -1 := by
  rcases h with g | ⟨f, o, w, ⟨e, -⟩, -⟩
  · exact g.2.1
  · exact absurd h9 (ne_m1 e)
/-- a block begins -/
def bgn (b : Nat) (x2 x3 x4 x5 : Int32) (σ σ' : sm_S) : Prop := kx [9, 10, 11, 12, 14, 15] σ σ' ∧ σ' 9 = upd (σ 9) b x2 ∧ σ' 10 = upd (σ 10) b x3 ∧ σ' 11 = upd (σ 11) b x4 ∧ σ' 12 = upd (σ 12) b x5 ∧ σ' 14 = upd (σ 14) b (-1) ∧ σ' 15 = upd (σ 15) b 0
theorem kk_bgn {σ σ' : sm_S} {b p o w : Nat} {x2 x3 x4 x5 : Int32} (hb : b < 96) (h : bgn b x2 x3 x4 x5 σ σ') (h2 : x2.toInt = p) (h3 : x3.toInt = o) (ho : o ≤ 4) (hp : p + 2 ^ o ≤ 256) (h5 : x5.toInt = w) (hw : w < 6) (hk : kk σ) (h9 : σ 9 b = -1) : kk σ' := by
  obtain ⟨h, e9, e10, e11, e12, e14, e15⟩ := h
  refine kk_blk h hk (kb_none (hk.1 b hb) h9) (fun c k hc hk => ?_) (fun _ => Or.inr ⟨p, o, w, ⟨by rw [e9, u_at]; exact h2, by rw [e10, u_at]; exact h3, ho, hp, by rw [e12, u_at]; exact h5, hw⟩, Or.inl ⟨by rw [e14, u_at], by rw [e15, u_at]⟩⟩) (by rw [e14, u_at])
  rcases hk with rfl | rfl | rfl | rfl | rfl | rfl
  · rw [e9, u_ne hc]
  · rw [e10, u_ne hc]
  · rw [e11, u_ne hc]
  · rw [e12, u_ne hc]
  · rw [e14, u_ne hc]
  · rw [e15, u_ne hc]
/-- a span is changed whose block isn't on its way -/
theorem kk_spn {σ σ' : sm_S} {s : Nat} (hs : s < 8) (h : kx [18, 20, 23, 24] σ σ') (hk : kk σ) (ne : ∀ c k, c ≠ s → (k = 18 ∨ k = 20 ∨ k = 23 ∨ k = 24) → σ' k c = σ k c) (h24 : σ 24 s = -1) (h24' : σ' 24 s = -1) (hs' : ∃ sh r : Nat, (σ' 20 s).toInt = sh ∧ sh ≤ 4 ∧ (σ' 18 s ≠ 3 → sh ≤ 3) ∧ (σ' 23 s).toInt = r ∧ r ≤ 64) : kk σ' := by
  have g9 := h.1 9 rfl rfl
  have g10 := h.1 10 rfl rfl
  have g11 := h.1 11 rfl rfl
  have g12 := h.1 12 rfl rfl
  have g14 := h.1 14 rfl rfl
  have g15 := h.1 15 rfl rfl
  refine ⟨fun b hb => kb_cong (by rw [g9]) (by rw [g10]) (by rw [g11]) (by rw [g12]) (by rw [g14]) (by rw [g15]) (fun t ht => ?_) (hk.1 b hb), fun t ht => ?_, kt_cong (h.2.1 rfl) (h.1 28 rfl rfl) (fun _ _ => by rw [h.1 31 rfl rfl]) (h.1 33 rfl rfl) (fun c _ hn => ⟨by rw [g14]; exact hn, by rw [g10]⟩) hk.2.2.1, h.2.2.2.1 hk.2.2.2.1, h.2.2.2.2 hk.2.2.2.2.1, by rw [h.2.2.1]; exact hk.2.2.2.2.2⟩
  · refine ne t 24 (fun z => ?_) (by omega)
    rw [z, h24, m1] at ht
    omega
  · by_cases hts : t = s
    · subst hts
      obtain ⟨sh, r, q1, q2, q3, q4, q5⟩ := hs'
      exact ⟨sh, r, q1, q2, q3, q4, q5, Or.inl h24'⟩
    · exact ks_cong (ne t 18 hts (by omega)) (ne t 20 hts (by omega)) (ne t 23 hts (by omega)) (ne t 24 hts (by omega)) (fun b _ _ hn => ⟨by rw [g14]; exact hn, by rw [g9]⟩) (hk.2.1 t ht)
theorem ks_no {σ : sm_S} {s : Nat} (h : ks σ s) (h3 : σ 18 s ≠ 3) : σ 24 s = -1 := by
  obtain ⟨sh, r, -, -, -, -, -, g⟩ := h
  rcases g with g | ⟨b, f, -, -, q3, -⟩
  · exact g
  · exact absurd q3 h3
/-- a span's state -/
theorem kk_sta {σ σ' : sm_S} {s : Nat} {v : Int32} (hs : s < 8) (h : kx [18] σ σ') (e : σ' 18 = upd (σ 18) s v) (hk : kk σ) (h3 : σ 18 s ≠ 3) (hv : v ≠ 3) : kk σ' := by
  have n24 := ks_no (hk.2.1 s hs) h3
  refine kk_spn hs (h.up (fun k hk => ?_)) hk (fun c k hc hk => ?_) n24 (by rw [h.1 24 rfl rfl]; exact n24) ?_
  · simp only [List.contains_cons, Bool.or_eq_false_iff] at hk ⊢
    exact ⟨hk.1, rfl⟩
  · rcases hk with rfl | rfl | rfl | rfl
    · rw [e, u_ne hc]
    · rw [h.1 20 rfl rfl]
    · rw [h.1 23 rfl rfl]
    · rw [h.1 24 rfl rfl]
  · obtain ⟨sh, r, q1, q2, q3, q4, q5, -⟩ := hk.2.1 s hs
    exact ⟨sh, r, by rw [h.1 20 rfl rfl]; exact q1, q2, fun _ => q3 h3, by rw [h.1 23 rfl rfl]; exact q4, q5⟩
/-- it is over with a span -/
def egn (s : Nat) (v : Int32) (σ σ' : sm_S) : Prop := kx [18, 20, 23, 24] σ σ' ∧ σ' 18 = upd (σ 18) s v ∧ σ' 20 = upd (σ 20) s 0 ∧ σ' 23 = upd (σ 23) s 0 ∧ σ' 24 = upd (σ 24) s (-1)
theorem kk_egn {σ σ' : sm_S} {s : Nat} {v : Int32} (hs : s < 8) (h : egn s v σ σ') (hk : kk σ) (h24 : σ 24 s = -1) : kk σ' := by
  obtain ⟨h, e18, e20, e23, e24⟩ := h
  refine kk_spn hs h hk (fun c k hc hk => ?_) h24 (by rw [e24, u_at]) ⟨0, 0, by rw [e20, u_at]; rfl, by omega, fun _ => by omega, by rw [e23, u_at]; rfl, by omega⟩
  rcases hk with rfl | rfl | rfl | rfl
  · rw [e18, u_ne hc]
  · rw [e20, u_ne hc]
  · rw [e23, u_ne hc]
  · rw [e24, u_ne hc]
/-- how far it is with a span -/
theorem kk_rea {σ σ' : sm_S} {s r : Nat} {v : Int32} (hs : s < 8) (h : kx [23] σ σ') (e : σ' 23 = upd (σ 23) s v) (hv : v.toInt = r) (hr : r ≤ 64) (hk : kk σ) : kk σ' := by
  have g9 := h.1 9 rfl rfl
  have g10 := h.1 10 rfl rfl
  have g14 := h.1 14 rfl rfl
  refine ⟨fun b hb => kb_cong (by rw [g9]) (by rw [g10]) (by rw [h.1 11 rfl rfl]) (by rw [h.1 12 rfl rfl]) (by rw [g14]) (by rw [h.1 15 rfl rfl]) (fun t ht => by rw [h.1 24 rfl rfl]) (hk.1 b hb), fun t ht => ?_, kt_cong (h.2.1 rfl) (h.1 28 rfl rfl) (fun _ _ => by rw [h.1 31 rfl rfl]) (h.1 33 rfl rfl) (fun c _ hn => ⟨by rw [g14]; exact hn, by rw [g10]⟩) hk.2.2.1, h.2.2.2.1 hk.2.2.2.1, h.2.2.2.2 hk.2.2.2.2.1, by rw [h.2.2.1]; exact hk.2.2.2.2.2⟩
  by_cases hts : t = s
  · subst hts
    obtain ⟨sh, r', q1, q2, q3, q4, q5, q6⟩ := hk.2.1 t ht
    refine ⟨sh, r, by rw [h.1 20 rfl rfl]; exact q1, q2, by rw [h.1 18 rfl rfl]; exact q3, by rw [e, u_at]; exact hv, hr, ?_⟩
    rw [h.1 24 rfl rfl, h.1 18 rfl rfl, g14, g9]
    exact q6
  · exact ks_cong (by rw [h.1 18 rfl rfl]) (by rw [h.1 20 rfl rfl]) (by rw [e, u_ne hts]) (by rw [h.1 24 rfl rfl]) (fun b _ _ hn => ⟨by rw [g14]; exact hn, by rw [g9]⟩) (hk.2.1 t ht)
end
section
/-! ===== the class: frames, the log, tasks ===== -/
theorem e_add (a1 a2 a3 a4 : Int32) (σ : sm_S) (hl : kl σ) : xC xD j_L_add [.ref 34, .int a1, .int a2, .int a3, .int a4] σ (sm_V (kx [] σ)) := by
  obtain ⟨n, hn, hn2⟩ := hl
  have v : vp_in (σ 34 5) 60 := t_vp hn2 hn
  refine d_L_add a1 a2 a3 a4 σ _ ⟨v, fun σ1 e1 => ?_⟩
  have q1 : σ1 34 5 = σ 34 5 := by rw [e1, s_ne (by decide)]
  have k1 : kx [] σ σ1 := by rw [e1]; exact kx.rf.set rfl
  refine ⟨by rw [q1]; exact v, fun σ2 e2 => ?_⟩
  have q2 : σ2 34 5 = σ 34 5 := by rw [e2, s_ne (by decide), q1]
  have k2 : kx [] σ σ2 := by rw [e2]; exact k1.set rfl
  refine ⟨by rw [q2]; exact v, fun σ3 e3 => ?_⟩
  have q3 : σ3 34 5 = σ 34 5 := by rw [e3, s_ne (by decide), q2]
  have k3 : kx [] σ σ3 := by rw [e3]; exact k2.set rfl
  refine ⟨by rw [q3]; exact v, fun σ4 e4 => ?_⟩
  have q4 : σ4 34 5 = σ 34 5 := by rw [e4, s_ne (by decide), q3]
  have k4 : kx [] σ σ4 := by rw [e4]; exact k3.set rfl
  have hn' : (σ4 34 5 + 1).toInt = ((n + 1 : Nat) : Int) := by
    rw [q4, t_add hn2 (y := 1) rfl (by omega) (by omega)]
    omega
  refine ⟨fun _ σ5 e5 σ6 e6 => ⟨rfl, ?_⟩, fun h σ5 e5 σ6 e6 => ⟨rfl, ?_⟩⟩
  · rw [e6, e5]
    refine (k4.s34 ⟨0, by omega, ?_⟩).s34 ⟨0, by omega, ?_⟩
    · rw [u_at]; rfl
    · rw [u_ne (by decide), s_at, u_at]; rfl
  · rw [t_le, hn'] at h
    have h : ¬ (60 : Int) ≤ ((n + 1 : Nat) : Int) := h
    rw [e6, e5]
    refine (k4.s34 ⟨n + 1, by omega, ?_⟩).s34 ⟨n + 1, by omega, ?_⟩
    · rw [u_at]; exact hn'
    · rw [u_ne (by decide), s_at, u_at]; exact hn'
theorem e_noteDrop {a1 : Int32} {b : Nat} (h1 : a1.toInt = b) (hb : b < 96) (σ : sm_S) (hl : kl σ) : xC xD j_Y_noteDrop [.ref 0, .int a1] σ (sm_V (kx [] σ)) := by
  have v := t_vp (x := (5 : Int32)) (n := 5) (N := 11) rfl (by omega)
  refine d_Y_noteDrop a1 σ _ ⟨v, v, fun σ1 e1 => ⟨t_vp h1 hb, ?_⟩⟩
  have k1 : kx [] σ σ1 := by rw [e1]; exact kx.rf.set rfl
  refine (e_add _ _ _ _ σ1 (k1.2.2.2.2 hl)).void ?_
  intro σ2 k2
  exact ⟨rfl, k1.tr k2⟩
theorem l_letGo {a1 a2 a3 a4 a5 : Int32} {f n : Nat} (h1 : a1.toInt = f) (h2 : a2.toInt = n) (hn : f + n ≤ 256) (σ : sm_S) : ∀ (d k : Nat) (a6 : Int32) (τ : sm_S), a6.toInt = k → k + d = f + n → kx [] σ τ → xE xD m_F_letGo 79 [.ref 1, .int a1, .int a2, .int a3, .int a4, .int a5, .int a6] [] τ (sm_V (kx [] σ)) := by
  have h12 : (a1 + a2).toInt = ((f + n : Nat) : Int) := by
    rw [t_add h1 h2 (by omega) (by omega)]
    omega
  intro d
  induction d with
  | zero =>
    intro k a6 τ h6 hk hx
    exact d_F_letGo_79 a1 a2 a3 a4 a5 a6 τ _ ⟨fun _ => ⟨rfl, hx⟩, fun h => absurd (by rw [t_le, h12, h6]; omega) h⟩
  | succ d ih =>
    intro k a6 τ h6 hk hx
    have h6' : (a6 + 1).toInt = ((k + 1 : Nat) : Int) := by
      rw [t_add h6 (y := 1) rfl (by omega) (by omega)]
      omega
    have v := t_vp (N := 256) h6 (by omega)
    refine d_F_letGo_79 a1 a2 a3 a4 a5 a6 τ _ ⟨fun _ => ⟨rfl, hx⟩, fun _ => ⟨v, fun σ1 e1 => ⟨v, fun σ2 e2 => ih (k + 1) _ σ2 h6' (by omega) ?_⟩⟩⟩
    rw [e2]
    refine kx.set ?_ rfl
    rw [e1]
    exact hx.s6 rfl (m := 0) (by omega) rfl
theorem t_d32 {a : Int32} {f : Nat} (h : a.toInt = f) : (a / 32).toInt = ((f / 32 : Nat) : Int) := t_div (d := 32) h rfl (by decide)
theorem e_letGo {a1 a2 : Int32} {f n : Nat} (h1 : a1.toInt = f) (h2 : a2.toInt = n) (h0 : 0 < n) (hn : f + n ≤ 256) (a3 : Int32) (σ : sm_S) : xC xD j_F_letGo [.ref 1, .int a1, .int a2, .int a3] σ (sm_V (kx [] σ)) := by
  have v := t_vp (N := 8) (t_d32 h1) (by omega)
  refine d_F_letGo a1 a2 a3 σ _ ⟨by decide, by decide, v, v, fun σ1 e1 => ⟨v, v, fun σ2 e2 => ⟨v, v, fun σ3 e3 => ⟨v, v, fun σ4 e4 => ?_⟩⟩⟩⟩
  refine l_letGo h1 h2 hn σ n f a1 σ4 h1 rfl ?_
  rw [e4]
  refine kx.set ?_ rfl
  rw [e3]
  refine kx.set ?_ rfl
  rw [e2]
  refine kx.set ?_ rfl
  rw [e1]
  exact kx.rf.set rfl
theorem l_claim {a1 a2 a3 a4 : Int32} {b f n : Nat} (h1 : a1.toInt = b) (hb : b < 96) (h2 : a2.toInt = f) (h3 : a3.toInt = n) (hn : f + n ≤ 256) (σ : sm_S) : ∀ (d k : Nat) (a5 : Int32) (τ : sm_S), a5.toInt = k → k + d = f + n → kx [] σ τ → xE xD m_F_claim 31 [.ref 1, .int a1, .int a2, .int a3, .int a4, .int a5] [] τ (sm_I (fun _ => kx [] σ)) := by
  have h12 : (a2 + a3).toInt = ((f + n : Nat) : Int) := by
    rw [t_add h2 h3 (by omega) (by omega)]
    omega
  intro d
  induction d with
  | zero =>
    intro k a6 τ h6 hk hx
    exact d_F_claim_31 a1 a2 a3 a4 a6 τ _ ⟨fun _ => ⟨_, rfl, hx⟩, fun h => absurd (by rw [t_le, h12, h6]; omega) h⟩
  | succ d ih =>
    intro k a6 τ h6 hk hx
    have h6' : (a6 + 1).toInt = ((k + 1 : Nat) : Int) := by
      rw [t_add h6 (y := 1) rfl (by omega) (by omega)]
      omega
    have v := t_vp (N := 256) h6 (by omega)
    refine d_F_claim_31 a1 a2 a3 a4 a6 τ _ ⟨fun _ => ⟨_, rfl, hx⟩, fun _ => ⟨v, fun σ1 e1 => ih (k + 1) _ σ1 h6' (by omega) ?_⟩⟩
    rw [e1]
    exact hx.s6 rfl (m := b + 1) (by omega) (by rw [h1]; omega)
theorem e_claim {a1 a2 a3 : Int32} {b f n : Nat} (h1 : a1.toInt = b) (hb : b < 96) (h2 : a2.toInt = f) (h3 : a3.toInt = n) (h0 : 0 < n) (hn : f + n ≤ 256) (σ : sm_S) : xC xD j_F_claim [.ref 1, .int a1, .int a2, .int a3] σ (sm_I (fun _ => kx [] σ)) := by
  have v := t_vp (N := 8) (t_d32 h2) (by omega)
  refine d_F_claim a1 a2 a3 σ _ ⟨by decide, by decide, v, v, fun σ1 e1 => ?_⟩
  refine l_claim h1 hb h2 h3 hn σ n f a2 σ1 h2 rfl ?_
  rw [e1]
  exact kx.rf.set rfl
theorem e_give {a1 a2 a3 : Int32} {b f n : Nat} (h1 : a1.toInt = b) (hb : b < 96) (h2 : a2.toInt = f) (h3 : a3.toInt = n) (h0 : 0 < n) (hn : f + n ≤ 256) (σ : sm_S) : xC xD j_F_give [.ref 1, .int a1, .int a2, .int a3] σ (sm_V (kx [] σ)) := by
  have v := t_vp (N := 8) (t_d32 h2) (by omega)
  refine d_F_give a1 a2 a3 σ _ ⟨by decide, v, (e_claim h1 hb h2 h3 h0 hn σ).int ?_⟩
  intro x2 σ1 k1
  refine ⟨v, fun σ3 e3 => ⟨rfl, ?_⟩⟩
  rw [e3]
  exact k1.set rfl
theorem e_hold {a1 a2 a3 : Int32} {b f n : Nat} (h1 : a1.toInt = b) (hb : b < 96) (h2 : a2.toInt = f) (h3 : a3.toInt = n) (h0 : 0 < n) (hn : f + n ≤ 256) (σ : sm_S) : xC xD j_F_hold [.ref 1, .int a1, .int a2, .int a3] σ (sm_V (kx [] σ)) := by
  have v := t_vp (N := 8) (t_d32 h2) (by omega)
  refine d_F_hold a1 a2 a3 σ _ ⟨by decide, v, (e_claim h1 hb h2 h3 h0 hn σ).int ?_⟩
  intro x2 σ1 k1
  refine ⟨v, fun σ3 e3 => ⟨rfl, ?_⟩⟩
  rw [e3]
  exact k1.set rfl
theorem e_settle {a1 : Int32} {f : Nat} (h1 : a1.toInt = f) (hf : f < 256) (a2 : Int32) (σ : sm_S) : xC xD j_F_settle [.ref 1, .int a1, .int a2] σ (sm_V (kx [] σ)) := by
  have v := t_vp (N := 8) (t_d32 h1) (by omega)
  refine d_F_settle a1 a2 σ _ ⟨by decide, by decide, v, v, fun σ1 e1 => ⟨by decide, v, v, fun σ2 e2 => ⟨rfl, ?_⟩⟩⟩
  rw [e2]
  refine kx.set ?_ rfl
  rw [e1]
  exact kx.rf.set rfl
theorem l_copyValues {a1 a2 a3 : Int32} {f t n : Nat} (h1 : a1.toInt = f) (h2 : a2.toInt = t) (h3 : a3.toInt = n) (hf : f + n ≤ 256) (ht : t + n ≤ 256) (σ : sm_S) : ∀ (d k : Nat) (a4 : Int32) (τ : sm_S), a4.toInt = k → k + d = n → kx [] σ τ → xE xD m_F_copyValues 3 [.ref 1, .int a1, .int a2, .int a3, .int a4] [] τ (sm_V (kx [] σ)) := by
  intro d
  induction d with
  | zero =>
    intro k a6 τ h6 hk hx
    exact d_F_copyValues_3 a1 a2 a3 a6 τ _ ⟨fun _ => ⟨rfl, hx⟩, fun h => absurd (by rw [t_le, h3, h6]; omega) h⟩
  | succ d ih =>
    intro k a6 τ h6 hk hx
    have h6' : (a6 + 1).toInt = ((k + 1 : Nat) : Int) := by
      rw [t_add h6 (y := 1) rfl (by omega) (by omega)]
      omega
    have v1 : vp_in (a1 + a6) 256 := t_vp (n := f + k) (by rw [t_add h1 h6 (by omega) (by omega)]; omega) (by omega)
    have v2 : vp_in (a2 + a6) 256 := t_vp (n := t + k) (by rw [t_add h2 h6 (by omega) (by omega)]; omega) (by omega)
    refine d_F_copyValues_3 a1 a2 a3 a6 τ _ ⟨fun _ => ⟨rfl, hx⟩, fun _ => ⟨v1, v2, fun σ1 e1 => ih (k + 1) _ σ1 h6' (by omega) ?_⟩⟩
    rw [e1]
    exact hx.set rfl
theorem e_copyValues {a1 a2 a3 : Int32} {f t n : Nat} (h1 : a1.toInt = f) (h2 : a2.toInt = t) (h3 : a3.toInt = n) (hf : f + n ≤ 256) (ht : t + n ≤ 256) (σ : sm_S) : xC xD j_F_copyValues [.ref 1, .int a1, .int a2, .int a3] σ (sm_V (kx [] σ)) :=
  d_F_copyValues a1 a2 a3 σ _ (l_copyValues h1 h2 h3 hf ht σ n 0 0 σ rfl (by omega) kx.rf)
theorem e_begin {a1 : Int32} {b : Nat} (h1 : a1.toInt = b) (hb : b < 96) (a2 a3 a4 a5 : Int32) (σ : sm_S) : xC xD j_B_begin [.ref 8, .int a1, .int a2, .int a3, .int a4, .int a5] σ (sm_V (bgn b a2 a3 a4 a5 σ)) := by
  have v := t_vp h1 hb
  refine d_B_begin a1 a2 a3 a4 a5 σ _ ?_
  rw [t_nat h1]
  refine ⟨v, fun σ1 e1 => ⟨v, fun σ2 e2 => ⟨v, fun σ3 e3 => ⟨v, fun σ4 e4 => ⟨v, fun σ5 e5 => ⟨v, fun σ6 e6 => ⟨v, fun σ7 e7 => ⟨rfl, ?_⟩⟩⟩⟩⟩⟩⟩⟩
  subst e1 e2 e3 e4 e5 e6 e7
  exact ⟨((((((kx.rf.set rfl).set rfl).set rfl).set rfl).set rfl).set rfl).set rfl, rfl, rfl, rfl, rfl, rfl, rfl⟩
theorem t_sz {σ : sm_S} {b f o w : Nat} (he : eb σ b f o w) : ((1 : Int32) <<< (σ 10 b &&& 31)).toInt = ((2 ^ o : Nat) : Int) := t_pow he.2.1 (by have := he.2.2.1; omega)
theorem e_remove {a1 : Int32} {b f o w : Nat} (h1 : a1.toInt = b) (hb : b < 96) (σ : sm_S) (he : eb σ b f o w) : xC xD j_Y_remove [.ref 0, .int a1] σ (sm_V (fun σ' => kx [9] σ σ' ∧ σ' 9 = upd (σ 9) b (-1))) := by
  have v := t_vp h1 hb
  have hp := Nat.two_pow_pos o
  have := he.2.2.2.1
  refine d_Y_remove a1 σ _ ?_
  rw [t_nat h1]
  refine ⟨v, v, by decide, (e_shutBits (t_d32 he.1) (by omega) σ).int ?_⟩
  rintro x2 σ rfl
  refine (e_letGo he.1 (t_sz he) hp he.2.2.2.1 _ _).void ?_
  intro σ3 k3
  refine ⟨v, fun σ4 e4 => ⟨rfl, ?_, ?_⟩⟩
  · rw [e4]
    exact k3.o0.set rfl
  · rw [e4, s_at, k3.1 9 rfl rfl]
theorem e_moveAtOnce {a1 a2 : Int32} {b f o w p : Nat} (h1 : a1.toInt = b) (hb : b < 96) (h2 : a2.toInt = p) (σ : sm_S) (he : eb σ b f o w) (hp : p + 2 ^ o ≤ 256) : xC xD j_Y_moveAtOnce [.ref 0, .int a1, .int a2] σ (sm_V (fun σ' => kx [9] σ σ' ∧ σ' 9 = upd (σ 9) b a2)) := by
  have v := t_vp h1 hb
  have v10 := t_vp (x := (10 : Int32)) (n := 10) (N := 11) rfl (by omega)
  have h0 := Nat.two_pow_pos o
  refine d_Y_moveAtOnce a1 a2 σ _ ?_
  rw [t_nat h1]
  refine ⟨v, (e_size h1 hb σ).int ?_⟩
  rintro x2 σ ⟨rfl, rfl⟩
  refine (e_give h1 hb h2 (t_sz he) h0 hp _).void ?_
  intro σ3 k3
  refine (e_copyValues he.1 h2 (t_sz he) he.2.2.2.1 hp _).void ?_
  intro σ4 k4
  refine (e_letGo he.1 (t_sz he) h0 he.2.2.2.1 _ _).void ?_
  intro σ5 k5
  have k35 := (k3.tr k4).tr k5
  refine ⟨v, fun σ6 e6 => ⟨v10, v10, fun σ7 e7 => ⟨rfl, ?_, ?_⟩⟩⟩
  · rw [e7]
    refine kx.set ?_ rfl
    rw [e6]
    exact k35.o0.set rfl
  · rw [e7, s_ne (by decide), e6, s_at, k35.1 9 rfl rfl]
theorem e_fulfil {a1 a2 : Int32} {t b q : Nat} (h1 : a1.toInt = t) (ht : t < 6) (h2 : a2.toInt = b) (hb : b < 96) (σ : sm_S) (hq : (σ 9 b + σ 31 t).toInt = q) (hq2 : q < 256) : xC xD j_Y_fulfil [.ref 0, .int a1, .int a2] σ (sm_V (kx [] σ)) := by
  have v1 := t_vp h1 ht
  have v2 := t_vp h2 hb
  have vq := t_vp hq hq2
  refine d_Y_fulfil a1 a2 σ _ ?_
  rw [t_nat h1, t_nat h2]
  refine ⟨v1, fun _ => ⟨v2, v1, v1, fun _ => ⟨v1, vq, fun σ1 e1 σ2 e2 => ⟨v2, fun σ3 e3 => ⟨rfl, ?_⟩⟩⟩, fun _ => ⟨vq, v1, fun σ1 e1 σ2 e2 => ⟨v2, fun σ3 e3 => ⟨rfl, ?_⟩⟩⟩⟩, fun _ => ⟨v2, v2, fun σ1 e1 => ⟨rfl, ?_⟩⟩⟩
  · rw [e3]
    refine kx.set ?_ rfl
    rw [e2]
    refine kx.set ?_ rfl
    rw [e1]
    exact kx.rf.set rfl
  · rw [e3]
    refine kx.set ?_ rfl
    rw [e2]
    refine kx.set ?_ rfl
    rw [e1]
    exact kx.rf.set rfl
  · rw [e1]
    exact kx.rf.set rfl
theorem e_wants {a1 : Int32} {t : Nat} (h1 : a1.toInt = t) (ht : t < 6) (a2 a3 a4 : Int32) (σ : sm_S) : xC xD j_K_wants [.ref 26, .int a1, .int a2, .int a3, .int a4] σ (sm_V (fun σ' => kx [31] σ σ' ∧ σ' 31 = upd (σ 31) t a3)) := by
  have v := t_vp h1 ht
  refine d_K_wants a1 a2 a3 a4 σ _ ?_
  rw [t_nat h1]
  refine ⟨v, fun σ1 e1 => ⟨v, fun σ2 e2 => ⟨v, fun σ3 e3 => ⟨rfl, ?_⟩⟩⟩⟩
  subst e1 e2 e3
  exact ⟨((kx.rf.set rfl).set rfl).set rfl, rfl⟩
theorem kk_wnt {σ σ' : sm_S} {t : Nat} {x : Int32} (h : kx [31] σ σ') (e : σ' 31 = upd (σ 31) t x) (hk : kk σ) (h28 : σ 28 t = -1) : kk σ' :=
  (kj_id h ⟨rfl, rfl, rfl, rfl, rfl, rfl, rfl, rfl, rfl, rfl⟩ hk.j).k (kt_cong (h.2.1 rfl) (h.1 28 rfl rfl) (fun t' hn => by rw [e, u_ne (fun z => hn (by rw [z]; exact h28))]) (h.1 33 rfl rfl) (fun b _ hn => ⟨by rw [h.1 14 rfl rfl]; exact hn, by rw [h.1 10 rfl rfl]⟩) hk.2.2.1)
theorem e_queue {a1 a2 : Int32} {t b o a : Nat} (h1 : a1.toInt = t) (ht : t < 6) (h2 : a2.toInt = b) (hb : b < 96) (σ : sm_S) (hk : kk σ) (h14 : σ 14 b ≠ -1) (h10 : (σ 10 b).toInt = o) (h31 : (σ 31 t).toInt = a) (ha : a < 2 ^ o) : xC xD j_K_queue [.ref 26, .int a1, .int a2] σ (sm_V kk) := by
  obtain ⟨L, l1, l2, l3, l4⟩ := hk.2.2.1
  refine d_K_queue a1 a2 σ _ ⟨fun _ => ⟨rfl, hk⟩, fun h => ?_⟩
  rw [t_le, l1] at h
  have h : ¬ (6 : Int) ≤ L := h
  have hL : (σ 26 7 + 1).toInt = ((L + 1 : Nat) : Int) := by
    rw [t_add l1 (y := 1) rfl (by omega) (by omega)]
    omega
  rw [t_nat l1, t_nat h1]
  refine ⟨t_vp l1 (by omega), fun σ1 e1 σ2 e2 => ⟨t_vp h1 ht, fun σ3 e3 => ⟨rfl, ?_⟩⟩⟩
  have hx : kx [26, 28, 33] σ σ3 := by
    rw [e3]
    refine kx.set ?_ rfl
    rw [e2]
    refine kx.s26 ?_ rfl
    rw [e1]
    exact kx.rf.set rfl
  have f33 : σ3 33 = upd (σ 33) L a1 := by rw [e3, s_ne (by decide), e2, s_ne (by decide), e1, s_at]
  have f26 : σ3 26 7 = σ 26 7 + 1 := by rw [e3, s_ne (by decide), e2, s_at, u_at, e1, s_ne (by decide)]
  have f28 : σ3 28 = upd (σ 28) t a2 := by rw [e3, s_at, e2, s_ne (by decide), e1, s_ne (by decide)]
  refine (kj_id hx ⟨rfl, rfl, rfl, rfl, rfl, rfl, rfl, rfl, rfl, rfl⟩ hk.j).k ⟨L + 1, by rw [f26]; exact hL, by omega, fun k hk' => ?_, fun u hu => ?_⟩
  · by_cases hkL : k = L
    · exact ⟨t, ht, by rw [f33, hkL, u_at]; exact h1⟩
    · rw [f33, u_ne hkL]
      exact l3 k (by omega)
  · rw [hx.1 14 rfl rfl, hx.1 10 rfl rfl, hx.1 31 rfl rfl, f28, f33]
    by_cases hut : u = t
    · subst hut
      exact Or.inr ⟨⟨L, by omega, by rw [u_at]; exact h1⟩, b, o, a, hb, by rw [u_at]; exact h2, h14, h10, h31, ha⟩
    · rw [u_ne hut]
      rcases l4 u hu with g | ⟨⟨k, g1, g2⟩, g3⟩
      · exact Or.inl g
      · exact Or.inr ⟨⟨k, by omega, by rw [u_ne (by omega)]; exact g2⟩, g3⟩
theorem e_doOrWait {a1 a2 : Int32} {t b f o w a : Nat} (h1 : a1.toInt = t) (ht : t < 6) (h2 : a2.toInt = b) (hb : b < 96) (σ : sm_S) (hk : kk σ) (he : eb σ b f o w) (h31 : (σ 31 t).toInt = a) (ha : a < 2 ^ o) : xC xD j_Y_doOrWait [.ref 0, .int a1, .int a2] σ (sm_I (fun _ => kk)) := by
  have := he.2.2.2.1
  have v8 := t_vp (x := (8 : Int32)) (n := 8) (N := 11) rfl (by omega)
  refine d_Y_doOrWait a1 a2 σ _ ?_
  rw [t_nat h2]
  refine ⟨t_vp h2 hb, fun h14 => (e_queue h1 ht h2 hb σ hk h14 he.2.1 h31 ha).void ?_, fun _ => (e_fulfil (q := f + a) h1 ht h2 hb σ ?_ (by omega)).void ?_⟩
  · intro σ1 k1
    refine ⟨v8, v8, fun σ2 e2 => ?_⟩
    have x2 : kx [] σ1 σ2 := by rw [e2]; exact kx.rf.set rfl
    have k2 := kk_id x2 k1
    refine (e_add _ _ _ _ σ2 k2.2.2.2.2.1).void ?_
    intro σ3 x3
    exact ⟨_, rfl, kk_id x3 k2⟩
  · rw [t_add he.1 h31 (by omega) (by omega)]
    omega
  · intro σ1 x1
    exact ⟨_, rfl, kk_id x1 hk⟩
/-- how far a line has been served -/
def svI (σ τ : sm_S) (b L l k : Nat) : Prop := kx [28, 33] σ τ ∧ l ≤ k ∧ k ≤ L ∧ (∀ j, j < l → ∃ t : Nat, t < 6 ∧ (τ 33 j).toInt = t ∧ (τ 28 t).toInt ≠ b) ∧ (∀ j, k ≤ j → j < L → τ 33 j = σ 33 j) ∧ ∀ t, t < 6 → τ 28 t = -1 ∨ (τ 28 t = σ 28 t ∧ ((∃ j, j < l ∧ (τ 33 j).toInt = t) ∨ ∃ j, k ≤ j ∧ j < L ∧ (τ 33 j).toInt = t))
theorem svI.end {σ τ : sm_S} {b L l k : Nat} {x : Int32} (h : svI σ τ b L l k) (hk : k = L) (hx : x.toInt = l) (hL : L ≤ 6) (hj : kj σ) (ht : ktx b σ) : kk (sm_set τ 26 (upd (τ 26) 7 x)) ∧ (sm_set τ 26 (upd (τ 26) 7 x)) 18 = σ 18 ∧ (sm_set τ 26 (upd (τ 26) 7 x)) 24 = σ 24 := by
  obtain ⟨h1, h2, h3, h4, h5, h6⟩ := h
  have hx2 : kx [26, 28, 33] σ (sm_set τ 26 (upd (τ 26) 7 x)) := kx.s26 (h1.up (fun k hk => by
    simp only [List.contains_cons, Bool.or_eq_false_iff] at hk ⊢
    exact hk.2)) rfl
  refine ⟨(kj_id hx2 ⟨rfl, rfl, rfl, rfl, rfl, rfl, rfl, rfl, rfl, rfl⟩ hj).k ⟨l, by rw [s_at, u_at]; exact hx, by omega, fun j hj' => ?_, fun t ht6 => ?_⟩, hx2.1 18 rfl rfl, hx2.1 24 rfl rfl⟩
  · obtain ⟨t, g1, g2, -⟩ := h4 j hj'
    exact ⟨t, g1, by rw [s_ne (by decide)]; exact g2⟩
  · rw [hx2.1 14 rfl rfl, hx2.1 10 rfl rfl, hx2.1 31 rfl rfl, s_ne (k := 26) (j := 28) (by decide), s_ne (k := 26) (j := 33) (by decide)]
    rcases h6 t ht6 with g | ⟨g1, g2⟩
    · exact Or.inl g
    · obtain ⟨j, j1, j2⟩ := g2.resolve_right (fun ⟨j, q1, q2, _⟩ => by omega)
      obtain ⟨L', m1', m2', m3', m4'⟩ := ht
      rcases m4' t ht6 with g | ⟨-, b', o, a, q1, q2, q3, q4, q5, q6⟩
      · exact Or.inl (g1.trans g)
      · refine Or.inr ⟨⟨j, j1, j2⟩, b', o, a, q1, by rw [g1]; exact q2, q3.resolve_left (fun z => ?_), q4, q5, q6⟩
        obtain ⟨t', r1, r2, r3⟩ := h4 j j1
        have : t' = t := by omega
        subst this
        rw [g1, q2] at r3
        omega
theorem l_serveLine {a1 : Int32} {b f o w L : Nat} (h1 : a1.toInt = b) (hb : b < 96) (σ : sm_S) (hL : (σ 26 7).toInt = L) (hL6 : L ≤ 6) (hj : kj σ) (ht : ktx b σ) (he : eb σ b f o w) : ∀ (d k l : Nat) (a2 a3 : Int32) (v4 : Value) (τ : sm_S), a3.toInt = k → a2.toInt = l → k + d = L → svI σ τ b L l k → xE xD m_Y_serveLine 4 [.ref 0, .int a1, .int a2, .int a3, v4] [] τ (sm_V (fun σ' => kk σ' ∧ σ' 18 = σ 18 ∧ σ' 24 = σ 24)) := by
  have := he.2.2.2.1
  intro d
  induction d with
  | zero =>
    intro k l a2 a3 v4 τ h3 h2 hk hI
    have e26 : τ 26 7 = σ 26 7 := hI.1.2.1 rfl
    refine d_Y_serveLine_4 a1 a2 a3 v4 τ _ ⟨fun _ σ1 e1 => ⟨rfl, ?_⟩, fun h => absurd ?_ h⟩
    · rw [e1]; exact hI.end (by omega) h2 hL6 hj ht
    · rw [t_le, e26, hL, h3]; omega
  | succ d ih =>
    intro k l a2 a3 v4 τ h3 h2 hk hI
    have hI0 := hI
    obtain ⟨hx, i2, i3, i4, i5, i6⟩ := hI
    have e26 : τ 26 7 = σ 26 7 := hx.2.1 rfl
    have h3' : (a3 + 1).toInt = ((k + 1 : Nat) : Int) := by
      rw [t_add h3 (y := 1) rfl (by omega) (by omega)]
      omega
    have h2' : (a2 + 1).toInt = ((l + 1 : Nat) : Int) := by
      rw [t_add h2 (y := 1) rfl (by omega) (by omega)]
      omega
    obtain ⟨L', m1', m2', m3', m4'⟩ := ht
    have hLL : L' = L := by omega
    subst hLL
    obtain ⟨t, ht6, htk⟩ := m3' k (by omega)
    have htk' : (τ 33 k).toInt = t := by rw [i5 k (Nat.le_refl k) (by omega)]; exact htk
    refine d_Y_serveLine_4 a1 a2 a3 v4 τ _ ⟨fun h => ?_, fun _ => ?_⟩
    · rw [t_le, e26, hL, h3] at h; omega
    · rw [t_nat h3, t_nat htk', t_nat h2]
      refine ⟨t_vp h3 (by omega), t_vp htk' ht6, fun hne => ⟨t_vp h2 (by omega), fun σ2 e2 => ?_⟩, fun heq => ?_⟩
      · refine ih (k + 1) (l + 1) _ _ _ σ2 h3' h2' (by omega) ?_
        subst e2
        refine ⟨hx.set rfl, by omega, by omega, fun j hj' => ?_, fun j q1 q2 => ?_, fun u hu => ?_⟩
        · rw [s_at, s_ne (by decide)]
          by_cases hjl : j = l
          · refine ⟨t, ht6, by rw [hjl, u_at]; exact htk', fun z => hne (t_inj (by rw [z, h1]))⟩
          · rw [u_ne hjl]; exact i4 j (by omega)
        · rw [s_at, u_ne (by omega)]; exact i5 j (by omega) q2
        · rw [s_at, s_ne (by decide)]
          rcases i6 u hu with g | ⟨g1, g2⟩
          · exact Or.inl g
          · refine Or.inr ⟨g1, ?_⟩
            rcases g2 with ⟨j, q1, q2⟩ | ⟨j, q1, q2, q3⟩
            · exact Or.inl ⟨j, by omega, by rw [u_ne (by omega)]; exact q2⟩
            · by_cases hjk : j = k
              · exact Or.inl ⟨l, by omega, by rw [u_at, ← hjk]; exact q3⟩
              · exact Or.inr ⟨j, by omega, q2, by rw [u_ne (by omega)]; exact q3⟩
      · have heq : τ 28 t = a1 := Classical.not_not.mp heq
        have ht28 : σ 28 t = a1 := by
          rcases i6 t ht6 with g | ⟨g1, -⟩
          · rw [heq] at g
            exact absurd g (ne_m1 h1)
          · rw [← g1]; exact heq
        obtain ⟨-, b', o', a, q1, q2, q3, q4, q5, q6⟩ := (m4' t ht6).resolve_left (by rw [ht28]; exact ne_m1 h1)
        have hbb : b' = b := by rw [ht28, h1] at q2; omega
        subst hbb
        have hoo : o' = o := by have := he.2.1; omega
        subst hoo
        refine (e_fulfil (q := f + a) htk' ht6 h1 hb τ ?_ (by omega)).void ?_
        · rw [hx.1 9 rfl rfl, hx.1 31 rfl rfl, t_add he.1 q5 (by omega) (by omega)]
          omega
        · intro σ3 x3
          refine ⟨t_vp htk' ht6, fun σ4 e4 => ?_⟩
          have x4 : kx [28, 33] σ σ4 := by
            rw [e4]
            exact (hx.tr x3.o0).set rfl
          refine (e_add _ _ _ _ σ4 (x4.2.2.2.2 hj.2.2.2.1)).void ?_
          intro σ5 x5
          refine ih (k + 1) l _ _ _ σ5 h3' h2 (by omega) ?_
          have e33 : σ5 33 = τ 33 := by rw [x5.1 33 rfl rfl, e4, s_ne (by decide), x3.1 33 rfl rfl]
          have e28 : σ5 28 = upd (τ 28) t (-1) := by rw [x5.1 28 rfl rfl, e4, s_at, x3.1 28 rfl rfl]
          refine ⟨x4.tr x5.o0, by omega, by omega, fun j hj' => ?_, fun j q1 q2 => ?_, fun u hu => ?_⟩
          · rw [e33, e28]
            obtain ⟨t', r1, r2, r3⟩ := i4 j hj'
            refine ⟨t', r1, r2, ?_⟩
            by_cases htt : t' = t
            · rw [htt, u_at, m1]; omega
            · rw [u_ne htt]; exact r3
          · rw [e33]; exact i5 j (by omega) q2
          · rw [e33, e28]
            by_cases hut : u = t
            · exact Or.inl (by rw [hut, u_at])
            · rw [u_ne hut]
              rcases i6 u hu with g | ⟨g1, g2⟩
              · exact Or.inl g
              · refine Or.inr ⟨g1, ?_⟩
                rcases g2 with g2 | ⟨j, q1, q2, q3⟩
                · exact Or.inl g2
                · refine Or.inr ⟨j, ?_, q2, q3⟩
                  have : j ≠ k := fun z => hut (by rw [z, htk'] at q3; omega)
                  omega
theorem e_serveLine {a1 : Int32} {b f o w : Nat} (h1 : a1.toInt = b) (hb : b < 96) (σ : sm_S) (hj : kj σ) (ht : ktx b σ) (he : eb σ b f o w) : xC xD j_Y_serveLine [.ref 0, .int a1] σ (sm_V (fun σ' => kk σ' ∧ σ' 18 = σ 18 ∧ σ' 24 = σ 24)) := by
  have ht' := ht
  obtain ⟨L, l1, l2, l3, l4⟩ := ht'
  refine d_Y_serveLine a1 σ _ (l_serveLine h1 hb σ l1 l2 hj ht he L 0 0 0 0 _ σ rfl rfl (by omega) ⟨kx.rf, by omega, by omega, fun j hj' => by omega, fun _ _ _ => rfl, fun t ht6 => ?_⟩)
  rcases l4 t ht6 with g | ⟨⟨k, g1, g2⟩, -⟩
  · exact Or.inl g
  · exact Or.inr ⟨rfl, Or.inr ⟨k, by omega, g1, g2⟩⟩
end
section
/-! ===== the class: spans go ===== -/
theorem upd_id {f : Nat → Int32} {b : Nat} : upd f b (f b) = f := by
  funext i
  by_cases h : i = b
  · subst h; exact u_at
  · exact u_ne h
theorem lv_uniq {σ : sm_S} (hk : kk σ) {s t b : Nat} (hs : s < 8) (ht : t < 8) (h1 : (σ 24 s).toInt = b) (h2 : (σ 24 t).toInt = b) : s = t := by
  obtain ⟨_, _, _, _, _, _, _, g⟩ := hk.2.1 s hs
  obtain ⟨_, _, _, _, _, _, _, g'⟩ := hk.2.1 t ht
  obtain ⟨c, f, -, q2, -, -, q5, q6⟩ := g.resolve_left (ne_m1 h1)
  obtain ⟨c', f', -, r2, -, -, r5, r6⟩ := g'.resolve_left (ne_m1 h2)
  have e1 : c = b := by omega
  have e2 : c' = b := by omega
  subst e1 e2
  omega
/-- a block that leaves a span -/
theorem lev_at {σ : sm_S} (hk : kk σ) {s : Nat} (hs : s < 8) (h : σ 24 s ≠ -1) : ∃ b f o w t c : Nat, b < 96 ∧ (σ 24 s).toInt = b ∧ eb σ b f o w ∧ σ 14 b ≠ -1 ∧ (σ 14 b).toInt = t ∧ t + 2 ^ o ≤ 256 ∧ (σ 15 b).toInt = c ∧ c ≤ 2 ^ o ∧ f / 32 = s := by
  obtain ⟨_, _, _, _, _, _, _, g⟩ := hk.2.1 s hs
  obtain ⟨b, f', q1, q2, -, q4, q5, q6⟩ := g.resolve_left h
  rcases hk.1 b q1 with g | ⟨f, o, w, he, g | ⟨t, c, r1, r2, r3, r4, -⟩⟩
  · exact absurd g.2.1 q4
  · exact absurd g.1 q4
  · have : f = f' := by have := he.1; omega
    exact ⟨b, f, o, w, t, c, q1, q2, he, q4, r1, r2, r3, r4, by omega⟩
theorem kj_arr {σ σ' : sm_S} {s b f o w p : Nat} {x : Int32} (hs : s < 8) (hb : b < 96) (h : kx [9, 14, 15, 24] σ σ') (e9 : σ' 9 = upd (σ 9) b x) (hx : x.toInt = p) (hp : p + 2 ^ o ≤ 256) (e14 : σ' 14 = upd (σ 14) b (-1)) (e15 : σ' 15 = upd (σ 15) b 0) (e24 : σ' 24 = upd (σ 24) s (-1)) (hl : (σ 24 s).toInt = b) (he : eb σ b f o w) (hk : kk σ) : kj σ' ∧ ktx b σ' ∧ eb σ' b p o w := by
  have heb : eb σ' b p o w := ⟨by rw [e9, u_at]; exact hx, by rw [h.1 10 rfl rfl]; exact he.2.1, he.2.2.1, hp, by rw [h.1 12 rfl rfl]; exact he.2.2.2.2.1, he.2.2.2.2.2⟩
  refine ⟨⟨fun c hc => ?_, fun t ht => ?_, h.2.2.2.1 hk.2.2.2.1, h.2.2.2.2 hk.2.2.2.2.1, by rw [h.2.2.1]; exact hk.2.2.2.2.2⟩, ?_, heb⟩
  · by_cases hcb : c = b
    · subst hcb
      exact Or.inr ⟨p, o, w, heb, Or.inl ⟨by rw [e14, u_at], by rw [e15, u_at]⟩⟩
    · refine kb_cong (by rw [e9, u_ne hcb]) (by rw [h.1 10 rfl rfl]) (by rw [h.1 11 rfl rfl]) (by rw [h.1 12 rfl rfl]) (by rw [e14, u_ne hcb]) (by rw [e15, u_ne hcb]) (fun t ht => ?_) (hk.1 c hc)
      rw [e24, u_ne (fun z => by rw [z, hl] at ht; omega)]
  · by_cases hts : t = s
    · subst hts
      obtain ⟨sh, r, q1, q2, q3, q4, q5, -⟩ := hk.2.1 t ht
      exact ⟨sh, r, by rw [h.1 20 rfl rfl]; exact q1, q2, by rw [h.1 18 rfl rfl]; exact q3, by rw [h.1 23 rfl rfl]; exact q4, q5, Or.inl (by rw [e24, u_at])⟩
    · refine ks_cong (by rw [h.1 18 rfl rfl]) (by rw [h.1 20 rfl rfl]) (by rw [h.1 23 rfl rfl]) (by rw [e24, u_ne hts]) (fun c _ hc hn => ?_) (hk.2.1 t ht)
      have hcb : c ≠ b := fun z => hts (lv_uniq hk ht hs (by rw [hc, z]) hl)
      exact ⟨by rw [e14, u_ne hcb]; exact hn, by rw [e9, u_ne hcb]⟩
  · refine ktx_cong (h.2.1 rfl) (h.1 28 rfl rfl) (fun _ _ => by rw [h.1 31 rfl rfl]) (h.1 33 rfl rfl) (fun c _ hc => ⟨?_, by rw [h.1 10 rfl rfl]⟩) (hk.2.2.1.x (c := b))
    by_cases hcb : c = b
    · exact Or.inl hcb
    · exact Or.inr (by rw [e14, u_ne hcb]; exact hc.resolve_left hcb)
theorem kk_way {σ σ' : sm_S} {s b f o w p : Nat} {x y : Int32} (hs : s < 8) (hb : b < 96) (h : kx [14, 24] σ σ') (e24 : σ' 24 = upd (σ 24) s x) (hx : x.toInt = b) (e14 : σ' 14 = upd (σ 14) b y) (hy : y.toInt = p) (hp : p + 2 ^ o ≤ 256) (h18 : σ 18 s = 3) (h24 : σ 24 s = -1) (he : eb σ b f o w) (hf : f / 32 = s) (h14 : σ 14 b = -1) (hk : kk σ) : kk σ' := by
  have n14 : ∀ c, σ 14 c ≠ -1 → c ≠ b := fun c hc z => hc (by rw [z]; exact h14)
  refine ⟨fun c hc => ?_, fun t ht => ?_, ?_, h.2.2.2.1 hk.2.2.2.1, h.2.2.2.2 hk.2.2.2.2.1, by rw [h.2.2.1]; exact hk.2.2.2.2.2⟩
  · by_cases hcb : c = b
    · subst hcb
      refine Or.inr ⟨f, o, w, eb_cong (by rw [h.1 9 rfl rfl]) (by rw [h.1 10 rfl rfl]) (by rw [h.1 12 rfl rfl]) he, Or.inr ⟨p, 0, by rw [e14, u_at]; exact hy, hp, ?_, Nat.zero_le _, ?_⟩⟩
      · rw [h.1 15 rfl rfl, kb_c0 (hk.1 c hc) h14]; rfl
      · rw [hf, e24, u_at]; exact hx
    · refine kb_cong (by rw [h.1 9 rfl rfl]) (by rw [h.1 10 rfl rfl]) (by rw [h.1 11 rfl rfl]) (by rw [h.1 12 rfl rfl]) (by rw [e14, u_ne hcb]) (by rw [h.1 15 rfl rfl]) (fun t ht => ?_) (hk.1 c hc)
      rw [e24, u_ne (fun z => by rw [z, h24, m1] at ht; omega)]
  · by_cases hts : t = s
    · subst hts
      obtain ⟨sh, r, q1, q2, q3, q4, q5, -⟩ := hk.2.1 t ht
      exact ⟨sh, r, by rw [h.1 20 rfl rfl]; exact q1, q2, by rw [h.1 18 rfl rfl]; exact q3, by rw [h.1 23 rfl rfl]; exact q4, q5, Or.inr ⟨b, f, hb, by rw [e24, u_at]; exact hx, by rw [h.1 18 rfl rfl]; exact h18, by rw [e14, u_at]; exact ne_m1 hy, by rw [h.1 9 rfl rfl]; exact he.1, hf⟩⟩
    · exact ks_cong (by rw [h.1 18 rfl rfl]) (by rw [h.1 20 rfl rfl]) (by rw [h.1 23 rfl rfl]) (by rw [e24, u_ne hts]) (fun c _ hc hn => ⟨by rw [e14, u_ne (n14 c hn)]; exact hn, by rw [h.1 9 rfl rfl]⟩) (hk.2.1 t ht)
  · exact kt_cong (h.2.1 rfl) (h.1 28 rfl rfl) (fun _ _ => by rw [h.1 31 rfl rfl]) (h.1 33 rfl rfl) (fun c _ hn => ⟨by rw [e14, u_ne (n14 c hn)]; exact hn, by rw [h.1 10 rfl rfl]⟩) hk.2.2.1
theorem kk_cop {σ σ' : sm_S} {b f o w c : Nat} {x : Int32} (h : kx [15] σ σ') (e15 : σ' 15 = upd (σ 15) b x) (hx : x.toInt = c) (hc : c ≤ 2 ^ o) (he : eb σ b f o w) (h14 : σ 14 b ≠ -1) (hk : kk σ) : kk σ' := by
  refine ⟨fun d hd => ?_, fun t ht => ks_cong (by rw [h.1 18 rfl rfl]) (by rw [h.1 20 rfl rfl]) (by rw [h.1 23 rfl rfl]) (by rw [h.1 24 rfl rfl]) (fun c _ hc hn => ⟨by rw [h.1 14 rfl rfl]; exact hn, by rw [h.1 9 rfl rfl]⟩) (hk.2.1 t ht), ?_, h.2.2.2.1 hk.2.2.2.1, h.2.2.2.2 hk.2.2.2.2.1, by rw [h.2.2.1]; exact hk.2.2.2.2.2⟩
  · by_cases hdb : d = b
    · subst hdb
      rcases hk.1 d hd with g | ⟨f', o', w', he', g | ⟨t, c', r1, r2, r3, r4, r5⟩⟩
      · exact absurd g.2.1 h14
      · exact absurd g.1 h14
      · have : o' = o := by have := he.2.1; have := he'.2.1; omega
        subst this
        exact Or.inr ⟨f', o', w', eb_cong (by rw [h.1 9 rfl rfl]) (by rw [h.1 10 rfl rfl]) (by rw [h.1 12 rfl rfl]) he', Or.inr ⟨t, c, by rw [h.1 14 rfl rfl]; exact r1, r2, by rw [e15, u_at]; exact hx, hc, by rw [h.1 24 rfl rfl]; exact r5⟩⟩
    · exact kb_cong (by rw [h.1 9 rfl rfl]) (by rw [h.1 10 rfl rfl]) (by rw [h.1 11 rfl rfl]) (by rw [h.1 12 rfl rfl]) (by rw [h.1 14 rfl rfl]) (by rw [e15, u_ne hdb]) (fun t _ => by rw [h.1 24 rfl rfl]) (hk.1 d hd)
  · exact kt_cong (h.2.1 rfl) (h.1 28 rfl rfl) (fun _ _ => by rw [h.1 31 rfl rfl]) (h.1 33 rfl rfl) (fun c _ hn => ⟨by rw [h.1 14 rfl rfl]; exact hn, by rw [h.1 10 rfl rfl]⟩) hk.2.2.1
theorem e_endGoing {a1 : Int32} {s : Nat} (h1 : a1.toInt = s) (hs : s < 8) (a2 : Int32) (σ : sm_S) : xC xD j_S_endGoing [.ref 17, .int a1, .int a2] σ (sm_V (egn s a2 σ)) := by
  have v := t_vp h1 hs
  refine d_S_endGoing a1 a2 σ _ ?_
  rw [t_nat h1]
  refine ⟨v, fun σ1 e1 => ⟨v, fun σ2 e2 => ⟨v, fun σ3 e3 => ⟨v, fun σ4 e4 => ⟨v, fun σ5 e5 => ⟨v, fun σ6 e6 => ⟨rfl, ?_⟩⟩⟩⟩⟩⟩⟩
  subst e1 e2 e3 e4 e5 e6
  exact ⟨(((((kx.rf.set rfl).set rfl).set rfl).set rfl).set rfl).set rfl, rfl, rfl, rfl, rfl⟩
theorem e_endWay {a1 a2 : Int32} {s b : Nat} (h1 : a1.toInt = s) (hs : s < 8) (h2 : a2.toInt = b) (hb : b < 96) (σ : sm_S) : xC xD j_G_endWay [.ref 41, .int a1, .int a2] σ (sm_V (fun σ' => kx [9, 14, 15, 24] σ σ' ∧ σ' 9 = σ 9 ∧ σ' 14 = upd (σ 14) b (-1) ∧ σ' 15 = upd (σ 15) b 0 ∧ σ' 24 = upd (σ 24) s (-1))) := by
  have v1 := t_vp h1 hs
  have v2 := t_vp h2 hb
  refine d_G_endWay a1 a2 σ _ ?_
  rw [t_nat h1, t_nat h2]
  refine ⟨v2, fun σ1 e1 => ⟨v2, fun σ2 e2 => ⟨v1, fun σ3 e3 => ⟨rfl, ?_⟩⟩⟩⟩
  subst e1 e2 e3
  exact ⟨((kx.rf.set rfl).set rfl).set rfl, rfl, rfl, rfl, rfl⟩
theorem e_open {a1 : Int32} {s : Nat} (h1 : a1.toInt = s) (hs : s < 8) (a2 : Int32) (σ : sm_S) (hk : kk σ) (h3 : σ 18 s ≠ 3) : xC xD j_Y_open [.ref 0, .int a1, .int a2] σ (sm_V kk) := by
  have v := t_vp h1 hs
  refine d_Y_open a1 a2 σ _ ?_
  rw [t_nat h1]
  refine ⟨v, fun σ1 e1 => ⟨v, fun σ2 e2 => ⟨v, fun σ3 e3 => ?_⟩⟩⟩
  have x3 : kx [18] σ σ3 := by subst e1 e2 e3; exact ((kx.rf.set rfl).set rfl).set rfl
  have f3 : σ3 18 = upd (σ 18) s 1 := by subst e1 e2 e3; rfl
  have k3 := kk_sta hs x3 f3 hk h3 (by decide)
  refine (e_add _ _ _ _ σ3 k3.2.2.2.2.1).void ?_
  intro σ4 x4
  exact ⟨rfl, kk_id x4 k3⟩
theorem e_Gbegin {a1 : Int32} {s : Nat} (h1 : a1.toInt = s) (hs : s < 8) (σ : sm_S) (hk : kk σ) (h3 : σ 18 s ≠ 3) : xC xD j_G_begin [.ref 41, .int a1] σ (sm_V kk) := by
  have v := t_vp h1 hs
  refine d_G_begin a1 σ _ ?_
  rw [t_nat h1]
  refine ⟨v, fun σ1 e1 => ⟨by decide, ?_⟩⟩
  have x1 : kx [18] σ σ1 := by subst e1; exact kx.rf.set rfl
  have k1 := kk_sta hs x1 (by rw [e1, s_at]) hk h3 (by decide)
  refine (e_add _ _ _ _ σ1 k1.2.2.2.2.1).void ?_
  intro σ4 x4
  exact ⟨rfl, kk_id x4 k1⟩
theorem e_fail {a1 : Int32} {s : Nat} (h1 : a1.toInt = s) (hs : s < 8) (a2 : Int32) (σ : sm_S) (hk : kk σ) (h24 : σ 24 s = -1) : xC xD j_G_fail [.ref 41, .int a1, .int a2] σ (sm_V kk) := by
  have v := t_vp h1 hs
  have v7 := t_vp (x := (7 : Int32)) (n := 7) (N := 11) rfl (by omega)
  refine d_G_fail a1 a2 σ _ ⟨v, v, v, fun σ1 e1 => ⟨v, fun σ2 e2 => ?_⟩⟩
  have x2 : kx [] σ σ2 := by subst e1 e2; exact (kx.rf.set rfl).set rfl
  refine (e_endGoing h1 hs _ σ2).void ?_
  intro σ3 g3
  have k3 := kk_egn hs g3 (kk_id x2 hk) (by rw [x2.1 24 rfl rfl]; exact h24)
  refine ⟨v, fun σ4 e4 => ⟨v7, v7, fun σ5 e5 => ?_⟩⟩
  have x5 : kx [] σ3 σ5 := by subst e4 e5; exact (kx.rf.set rfl).set rfl
  have k5 := kk_id x5 k3
  refine (e_add _ _ _ _ σ5 k5.2.2.2.2.1).void ?_
  intro σ6 x6
  exact ⟨rfl, kk_id x6 k5⟩
theorem e_turnOff {a1 : Int32} {s : Nat} (h1 : a1.toInt = s) (hs : s < 8) (σ : sm_S) (hk : kk σ) (h24 : σ 24 s = -1) : xC xD j_G_turnOff [.ref 41, .int a1] σ (sm_V kk) := by
  have v := t_vp h1 hs
  have v6 := t_vp (x := (6 : Int32)) (n := 6) (N := 11) rfl (by omega)
  refine d_G_turnOff a1 σ _ ⟨v6, v6, fun σ1 e1 => ⟨v, ?_⟩⟩
  have x1 : kx [] σ σ1 := by subst e1; exact kx.rf.set rfl
  refine (e_add _ _ _ _ σ1 (x1.2.2.2.2 hk.2.2.2.2.1)).void ?_
  intro σ2 x2
  refine ⟨v, fun σ3 e3 => ⟨v, fun σ4 e4 => ⟨v, fun σ5 e5 => ?_⟩⟩⟩
  have x5 : kx [] σ σ5 := (x1.tr x2).tr (by subst e3 e4 e5; exact ((kx.rf.set rfl).set rfl).set rfl)
  refine (e_endGoing h1 hs _ σ5).void ?_
  intro σ6 g6
  exact ⟨rfl, kk_egn hs g6 (kk_id x5 hk) (by rw [x5.1 24 rfl rfl]; exact h24)⟩
theorem e_endPass {a1 : Int32} {s : Nat} (h1 : a1.toInt = s) (hs : s < 8) (σ : sm_S) (hk : kk σ) (h24 : σ 24 s = -1) : xC xD j_G_endPass [.ref 41, .int a1] σ (sm_V kk) := by
  have v := t_vp h1 hs
  have v9 := t_vp (x := (9 : Int32)) (n := 9) (N := 11) rfl (by omega)
  have w1 := t_vp (x := (1 : Int32)) (n := 1) (N := 4) rfl (by omega)
  have w3 := t_vp (x := (3 : Int32)) (n := 3) (N := 4) rfl (by omega)
  refine d_G_endPass a1 σ _ ?_
  rw [t_nat h1]
  refine ⟨v9, v9, fun σ1 e1 => ?_⟩
  have x1 : kx [] σ σ1 := by subst e1; exact kx.rf.set rfl
  have k1 := kk_id x1 hk
  have g24 : σ1 24 s = -1 := by rw [x1.1 24 rfl rfl]; exact h24
  refine ⟨v, fun _ => ⟨v, w1, fun _ => ⟨v, v, fun σ2 e2 => ⟨w3, v, fun σ3 e3 => ⟨v, fun σ4 e4 => ⟨rfl, ?_⟩⟩⟩⟩, fun _ => (e_whyFails h1 hs σ1 k1.2.2.2.1).int ?_⟩, fun _ => ⟨v, fun _ => ⟨v, w1, fun _ => ⟨v, v, fun σ2 e2 => ⟨w3, v, fun σ3 e3 => ⟨v, fun σ4 e4 => ⟨rfl, ?_⟩⟩⟩⟩, fun _ => (e_whyFails h1 hs σ1 k1.2.2.2.1).int ?_⟩, fun _ => (e_turnOff h1 hs σ1 k1 g24).void ?_⟩⟩
  · exact kk_rea (r := 0) hs (by subst e2 e3 e4; exact ((kx.rf.set rfl).set rfl).set rfl) (by subst e2 e3 e4; rfl) rfl (by omega) k1
  · rintro x6 σ1 rfl
    refine (e_fail h1 hs _ _ k1 g24).void ?_
    intro σ7 k7
    exact ⟨rfl, k7⟩
  · exact kk_rea (r := 0) hs (by subst e2 e3 e4; exact ((kx.rf.set rfl).set rfl).set rfl) (by subst e2 e3 e4; rfl) rfl (by omega) k1
  · rintro x6 σ1 rfl
    refine (e_fail h1 hs _ _ k1 g24).void ?_
    intro σ7 k7
    exact ⟨rfl, k7⟩
  · intro σ7 k7
    exact ⟨rfl, k7⟩
theorem e_shutNextPart {a1 : Int32} {s : Nat} (h1 : a1.toInt = s) (hs : s < 8) (σ : sm_S) (hk : kk σ) (h18 : σ 18 s = 2) : xC xD j_G_shutNextPart [.ref 41, .int a1] σ (sm_V kk) := by
  have v := t_vp h1 hs
  have n3 : σ 18 s ≠ 3 := by rw [h18]; decide
  have h24 := ks_no (hk.2.1 s hs) n3
  obtain ⟨sh, r, q1, q2, q3, q4, q5, -⟩ := hk.2.1 s hs
  have q3 := q3 n3
  refine d_G_shutNextPart a1 σ _ ?_
  rw [t_nat h1]
  have hq : (a1 * 32 + σ 20 s * 8).toInt = ((32 * s + 8 * sh : Nat) : Int) := by
    have e8 : (σ 20 s * 8).toInt = ((8 * sh : Nat) : Int) := by
      rw [t_mul q1 (y := 8) rfl (by omega) (by omega)]
      omega
    rw [t_add (t_s32 h1 (by omega)) e8 (by omega) (by omega)]
    omega
  refine ⟨v, (e_hasUnmovable hq (by omega) σ hk.2.2.2.1).int ?_⟩
  rintro x2 σ rfl
  refine ⟨fun _ => ⟨v, v, v, fun σ3 e3 => ⟨v, v, fun σ4 e4 => ⟨v, v, fun σ5 e5 => ⟨v, fun hlt => ⟨rfl, ?_⟩, fun hge => ⟨v, fun σ6 e6 => ⟨v, fun σ7 e7 => ⟨v, fun σ8 e8 => ⟨rfl, ?_⟩⟩⟩⟩⟩⟩⟩⟩, fun _ => (e_fail h1 hs _ _ hk h24).void ?_⟩
  · have x5 : kx [20] σ σ5 := by subst e3 e4 e5; exact ((kx.rf.set rfl).set rfl).set rfl
    have f5 : σ5 20 = upd (σ 20) s (σ 20 s + 1) := by subst e3 e4 e5; rfl
    have hsh : (σ 20 s + 1).toInt = ((sh + 1 : Nat) : Int) := by
      rw [t_add q1 (y := 1) rfl (by omega) (by omega)]
      omega
    refine kk_spn hs (x5.up (fun k hk => ?_)) hk (fun c k hc hk => ?_) h24 (by rw [x5.1 24 rfl rfl]; exact h24) ⟨sh + 1, r, by rw [f5, u_at]; exact hsh, by omega, fun _ => ?_, by rw [x5.1 23 rfl rfl]; exact q4, q5⟩
    · simp only [List.contains_cons, Bool.or_eq_false_iff] at hk ⊢
      exact ⟨hk.2.1, rfl⟩
    · rcases hk with rfl | rfl | rfl | rfl
      · rw [x5.1 18 rfl rfl]
      · rw [f5, u_ne hc]
      · rw [x5.1 23 rfl rfl]
      · rw [x5.1 24 rfl rfl]
    · rw [f5, u_at, t_lt, hsh] at hlt
      have hlt : ((sh + 1 : Nat) : Int) < 4 := hlt
      omega
  · have x8 : kx [18, 20, 23, 24] σ σ8 := by subst e3 e4 e5 e6 e7 e8; exact (((((kx.rf.set rfl).set rfl).set rfl).set rfl).set rfl).set rfl
    have f20 : σ8 20 = upd (σ 20) s (σ 20 s + 1) := by subst e3 e4 e5 e6 e7 e8; rfl
    have f18 : σ8 18 = upd (σ 18) s 3 := by subst e3 e4 e5 e6 e7 e8; rfl
    have f23 : σ8 23 = upd (σ 23) s 0 := by subst e3 e4 e5 e6 e7 e8; rfl
    have f24 : σ8 24 = σ 24 := by subst e3 e4 e5 e6 e7 e8; rfl
    have hsh : (σ 20 s + 1).toInt = ((sh + 1 : Nat) : Int) := by
      rw [t_add q1 (y := 1) rfl (by omega) (by omega)]
      omega
    refine kk_spn hs x8 hk (fun c k hc hk => ?_) h24 (by rw [f24]; exact h24) ⟨sh + 1, 0, by rw [f20, u_at]; exact hsh, by omega, fun z => absurd (by rw [f18, u_at]) z, by rw [f23, u_at]; rfl, by omega⟩
    rcases hk with rfl | rfl | rfl | rfl
    · rw [f18, u_ne hc]
    · rw [f20, u_ne hc]
    · rw [f23, u_ne hc]
    · rw [f24]
  · intro σ9 k9
    exact ⟨rfl, k9⟩
theorem l_split {a1 a2 a3 a4 : Int32} {n q p : Nat} (h2 : a2.toInt = n) (hn : n < 96) (h3 : a3.toInt = q) (hq : q ≤ 4) (h4 : a4.toInt = p) (hp : p + 2 ^ q ≤ 256) : ∀ (d k : Nat) (a5 : Int32) (τ : sm_S), a5.toInt = k → k + d = 2 ^ q → kk τ → xE xD m_G_split 87 [.ref 41, .int a1, .int a2, .int a3, .int a4, .int a5] [] τ (sm_V (fun σ' => kk σ' ∧ σ' 18 = τ 18)) := by
  have v4 := t_vp (x := (4 : Int32)) (n := 4) (N := 11) rfl (by omega)
  have hs : ((1 : Int32) <<< (a3 &&& 31)).toInt = ((2 ^ q : Nat) : Int) := t_pow h3 (by omega)
  intro d
  induction d with
  | zero =>
    intro k a5 τ h5 hk hkk
    refine d_G_split_87 a1 a2 a3 a4 a5 τ _ ⟨fun _ => ⟨v4, v4, fun σ1 e1 => ?_⟩, fun h => absurd (by rw [t_le, hs, h5]; omega) h⟩
    have x1 : kx [] τ σ1 := by subst e1; exact kx.rf.set rfl
    have k1 := kk_id x1 hkk
    refine (e_add _ _ _ _ σ1 k1.2.2.2.2.1).void ?_
    intro σ2 x2
    exact ⟨rfl, kk_id x2 k1, by rw [x2.1 18 rfl rfl, x1.1 18 rfl rfl]⟩
  | succ d ih =>
    intro k a5 τ h5 hk hkk
    have h5' : (a5 + 1).toInt = ((k + 1 : Nat) : Int) := by
      rw [t_add h5 (y := 1) rfl (by omega) (by omega)]
      omega
    refine d_G_split_87 a1 a2 a3 a4 a5 τ _ ⟨fun h => ?_, fun _ => ⟨t_vp (n := p + k) ?_ (by omega), fun σ3 e3 => ?_⟩⟩
    · rw [t_le, hs, h5] at h; omega
    · rw [t_add h4 h5 (by omega) (by omega)]; omega
    · have x3 : kx [] τ σ3 := by rw [e3]; exact kx.rf.s6 rfl (m := n + 1) (by omega) (by rw [h2]; omega)
      refine (ih (k + 1) _ σ3 h5' (by omega) (kk_id x3 hkk)).mono ?_
      rintro r σ' ⟨rfl, g1, g2⟩
      exact ⟨rfl, g1, by rw [g2, x3.1 18 rfl rfl]⟩
theorem e_split {a1 a2 : Int32} {b f o w n : Nat} (h1 : a1.toInt = b) (hb : b < 96) (h2 : a2.toInt = n) (hn : n < 96) (σ : sm_S) (hk : kk σ) (he : eb σ b f o w) (ho : 0 < o) (h14 : σ 14 b = -1) (h9 : σ 9 n = -1) : xC xD j_G_split [.ref 41, .int a1, .int a2] σ (sm_V (fun σ' => kk σ' ∧ σ' 18 = σ 18)) := by
  have v1 := t_vp h1 hb
  have v2 := t_vp h2 hn
  obtain ⟨q, rfl⟩ : ∃ q, o = q + 1 := ⟨o - 1, by omega⟩
  have h4 := he.2.2.1
  have h256 := he.2.2.2.1
  have hoq : (σ 10 b - 1).toInt = q := by
    rw [t_sub he.2.1 (y := 1) rfl (by omega) (by omega)]
    omega
  rw [Nat.pow_succ] at h256
  have hsz : ((1 : Int32) <<< ((σ 10 b - 1) &&& 31)).toInt = ((2 ^ q : Nat) : Int) := t_pow hoq (by omega)
  have hpos := Nat.two_pow_pos q
  have hmid : (σ 9 b + ((1 : Int32) <<< ((σ 10 b - 1) &&& 31))).toInt = ((f + 2 ^ q : Nat) : Int) := by
    rw [t_add he.1 hsz (by omega) (by omega)]
    omega
  refine d_G_split a1 a2 σ _ ?_
  rw [t_nat h1, t_nat h2]
  refine ⟨v1, v1, v1, fun σ1 e1 => ⟨v1, v1, ?_⟩⟩
  have x1 : kx [10] σ σ1 := by subst e1; exact kx.rf.set rfl
  have k1 := kk_ord hb x1 (by rw [e1, s_at]) hoq (by omega) he hk h14
  refine (e_begin h2 hn _ _ _ _ σ1).void ?_
  intro σ2 b2
  have k2 := kk_bgn (w := w) hn b2 hmid hoq (by omega) (by omega) (by rw [x1.1 12 rfl rfl]; exact he.2.2.2.2.1) he.2.2.2.2.2 k1 (by rw [x1.1 9 rfl rfl]; exact h9)
  refine ⟨v1, v2, fun σ3 e3 => ?_⟩
  have x3 : kx [] σ2 σ3 := by subst e3; exact kx.rf.set rfl
  refine (l_split h2 hn hoq (by omega) hmid (by omega) (2 ^ q) 0 0 σ3 rfl (by omega) (kk_id x3 k2)).mono ?_
  rintro r σ' ⟨rfl, g1, g2⟩
  exact ⟨rfl, g1, by rw [g2, x3.1 18 rfl rfl, b2.1.1 18 rfl rfl, x1.1 18 rfl rfl]⟩
theorem e_lookAt {a1 a2 : Int32} {s b n : Nat} (h1 : a1.toInt = s) (hs : s < 8) (h2 : a2.toInt = b) (hb : b < 96) (σ : sm_S) (hk : kk σ) (h18 : σ 18 s = 3) (h24 : σ 24 s = -1) (h9 : (σ 9 b).toInt = n) (hn : n / 32 = s) : xC xD j_G_lookAt [.ref 41, .int a1, .int a2] σ (sm_V (fun σ' => kk σ' ∧ σ' 18 = σ 18)) := by
  have v1 := t_vp h1 hs
  have v2 := t_vp h2 hb
  obtain ⟨f, o, w, he⟩ := kb_at hk.1 hb h9
  have hfn : f = n := by have := he.1; omega
  subst hfn
  have h14 : σ 14 b = -1 := by
    rcases hk.1 b hb with g | ⟨f', o', w', he', g | ⟨t, c, r1, r2, r3, r4, r5⟩⟩
    · exact g.2.1
    · exact g.1
    · have : f' = f := by have := he.1; have := he'.1; omega
      rw [this, hn, h24, m1] at r5
      omega
  have hsz := t_sz he
  have h4 := he.2.2.1
  have h256 := he.2.2.2.1
  have hpos := Nat.two_pow_pos o
  have hp16 : 2 ^ o ≤ 16 := Nat.pow_le_pow_right (n := 2) (by decide) h4
  refine d_G_lookAt a1 a2 σ _ ?_
  rw [t_nat h1, t_nat h2]
  refine ⟨v2, v2, by decide, (e_size h2 hb σ).int ?_⟩
  rintro x2 σ ⟨rfl, rfl⟩
  have hbe : (σ 9 b - σ 9 b / 32 * 32 + (1 : Int32) <<< (σ 10 b &&& 31)).toInt = ((f % 32 + 2 ^ o : Nat) : Int) := by
    rw [t_add (t_rem (d := 32) he.1 rfl (by decide)) hsz (by omega) (by omega)]
    omega
  have reach : ∀ σ3 : sm_S, σ3 = sm_set σ 23 (upd (σ 23) s (σ 9 b - σ 9 b / 32 * 32 + (1 : Int32) <<< (σ 10 b &&& 31))) → kk σ3 ∧ σ3 18 = σ 18 := fun σ3 e3 => ⟨kk_rea hs (by subst e3; exact kx.rf.set rfl) (by rw [e3, s_at]) hbe (by omega) hk, by subst e3; rfl⟩
  refine ⟨v2, fun _ => ⟨v1, fun σ3 e3 => ⟨rfl, reach σ3 e3⟩⟩, fun _ => ⟨v2, fun _ => ⟨v2, fun _ => ⟨v2, v2, (e_bestPlace he.2.2.2.2.1 he.2.2.2.2.2 he.2.1 h4 σ).int ?_⟩, fun _ => (e_noteDrop h2 hb σ hk.2.2.2.2.1).void ?_⟩, fun _ => ⟨v1, fun σ3 e3 => ⟨rfl, reach σ3 e3⟩⟩⟩⟩
  · rintro x5 σ ⟨hx5, rfl⟩
    refine ⟨fun _ => ⟨fun _ => ⟨fun z => absurd rfl z, fun _ => ⟨v1, fun σ3 e3 => ⟨rfl, reach σ3 e3⟩⟩⟩, fun hpo => (e_leastNumber σ).int ?_⟩, fun n5 => ?_⟩
    · rintro x9 σ ⟨hx9, rfl⟩
      refine ⟨fun n9 => ?_, fun _ => ⟨v1, fun σ3 e3 => ⟨rfl, reach σ3 e3⟩⟩⟩
      obtain ⟨m, hm, hm2, hm9⟩ := hx9.resolve_left n9
      rw [t_le, he.2.1] at hpo
      have hpo : ¬ (o : Int) ≤ 0 := hpo
      exact (e_split h2 hb hm2 hm _ hk he (by omega) h14 hm9).void (fun σ10 k10 => ⟨rfl, k10⟩)
    · obtain ⟨p, p1, p2⟩ := hx5.resolve_left n5
      refine ⟨v1, fun σ12 e12 => ⟨v1, fun σ13 e13 => ⟨v2, fun σ14 e14 => ?_⟩⟩⟩
      obtain ⟨k12, f12⟩ := reach σ12 e12
      have x14 : kx [14, 24] σ12 σ14 := by subst e13 e14; exact (kx.rf.set rfl).set rfl
      have k14 := kk_way (o := o) (f := f) (w := w) hs hb x14 (by subst e13 e14; rfl) h2 (by subst e13 e14; rfl) p1 p2 (by rw [f12]; exact h18) (by subst e12; exact h24) (by subst e12; exact he) hn (by subst e12; exact h14) k12
      refine (e_hold h2 hb p1 hsz hpos p2 σ14).void ?_
      intro σ15 x15
      exact ⟨rfl, kk_id x15 k14, by rw [x15.1 18 rfl rfl, x14.1 18 rfl rfl, f12]⟩
  · intro σ16 x16
    refine (e_remove (f := f) (o := o) (w := w) h2 hb σ16 (eb_cong (by rw [x16.1 9 rfl rfl]) (by rw [x16.1 10 rfl rfl]) (by rw [x16.1 12 rfl rfl]) he)).void ?_
    rintro σ17 ⟨x17, f17⟩
    exact ⟨rfl, kk_rem hb x17 f17 (kk_id x16 hk) (by rw [x16.1 14 rfl rfl]; exact h14), by rw [x17.1 18 rfl rfl, x16.1 18 rfl rfl]⟩
theorem e_copySome {a1 a2 : Int32} {b f o w t c l : Nat} (h1 : a1.toInt = b) (hb : b < 96) (h2 : a2.toInt = l) (σ : sm_S) (hk : kk σ) (he : eb σ b f o w) (h14 : (σ 14 b).toInt = t) (ht : t + 2 ^ o ≤ 256) (h15 : (σ 15 b).toInt = c) (hc : c ≤ 2 ^ o) : xC xD j_G_copySome [.ref 41, .int a1, .int a2] σ (sm_I (fun x σ' => (∃ m : Nat, m ≤ l ∧ x.toInt = m) ∧ kk σ' ∧ kx [15] σ σ')) := by
  have v := t_vp h1 hb
  have v3 := t_vp (x := (3 : Int32)) (n := 3) (N := 11) rfl (by omega)
  have h4 := he.2.2.1
  have h256 := he.2.2.2.1
  have hsz := t_sz he
  have hp16 : 2 ^ o ≤ 16 := Nat.pow_le_pow_right (n := 2) (by decide) h4
  refine d_G_copySome a1 a2 σ _ ?_
  rw [t_nat h1]
  refine ⟨v, v, v, v, (e_size h1 hb σ).int ?_⟩
  rintro x2 σ ⟨rfl, rfl⟩
  have hd : ((1 : Int32) <<< (σ 10 b &&& 31) - σ 15 b).toInt = ((2 ^ o - c : Nat) : Int) := by
    rw [t_sub hsz h15 (by omega) (by omega)]
    omega
  obtain ⟨y, hy⟩ : ∃ y, y = (if ((1 : Int32) <<< (σ 10 b &&& 31) - σ 15 b) < a2 then ((1 : Int32) <<< (σ 10 b &&& 31) - σ 15 b) else a2) := ⟨_, rfl⟩
  have hm : ∃ m : Nat, y.toInt = m ∧ m ≤ l ∧ c + m ≤ 2 ^ o := by
    rw [hy]
    split
    · next h =>
      rw [t_lt, hd, h2] at h
      exact ⟨2 ^ o - c, hd, by omega, by omega⟩
    · next h =>
      rw [t_lt, hd, h2] at h
      exact ⟨l, h2, Nat.le_refl l, by omega⟩
  rw [← hy]
  obtain ⟨m, m1', m2', m3'⟩ := hm
  have hfc : (σ 9 b + σ 15 b).toInt = ((f + c : Nat) : Int) := by
    rw [t_add he.1 h15 (by omega) (by omega)]
    omega
  have htc : (σ 14 b + σ 15 b).toInt = ((t + c : Nat) : Int) := by
    rw [t_add h14 h15 (by omega) (by omega)]
    omega
  refine ⟨v, (e_copyValues hfc htc m1' (by omega) (by omega) σ).void ?_⟩
  intro σ3 x3
  refine ⟨v, v, fun σ4 e4 => ⟨v3, v3, fun σ5 e5 => ⟨y, rfl, ⟨m, m2', m1'⟩, ?_⟩⟩⟩
  have x5 : kx [15] σ σ5 := x3.o0.tr (by subst e4 e5; exact (kx.rf.set rfl).set rfl)
  refine ⟨kk_cop (c := c + m) (x := σ 15 b + y) x5 ?_ ?_ m3' he (ne_m1 h14) hk, x5⟩
  · subst e4 e5
    rw [s_ne (by decide), s_at, x3.1 15 rfl rfl]
  · rw [t_add h15 m1' (by omega) (by omega)]
    omega
theorem e_arrive {a1 a2 : Int32} {s b f o w t : Nat} (h1 : a1.toInt = s) (hs : s < 8) (h2 : a2.toInt = b) (hb : b < 96) (σ : sm_S) (hk : kk σ) (he : eb σ b f o w) (h14 : (σ 14 b).toInt = t) (ht : t + 2 ^ o ≤ 256) (h24 : (σ 24 s).toInt = b) : xC xD j_G_arrive [.ref 41, .int a1, .int a2] σ (sm_V (fun σ' => kk σ' ∧ σ' 18 = σ 18)) := by
  have v1 := t_vp h1 hs
  have v2 := t_vp h2 hb
  have w2 := t_vp (x := (2 : Int32)) (n := 2) (N := 11) rfl (by omega)
  have h256 := he.2.2.2.1
  have hpos := Nat.two_pow_pos o
  have hsz := t_sz he
  refine d_G_arrive a1 a2 σ _ ?_
  rw [t_nat h2]
  refine ⟨v2, v2, (e_size h2 hb σ).int ?_⟩
  rintro x2 σ ⟨rfl, rfl⟩
  refine (e_shutBits h1 hs σ).int ?_
  rintro x4 σ rfl
  refine (e_letGo he.1 hsz hpos h256 _ σ).void ?_
  intro σ5 x5
  refine (e_settle h14 (by omega) _ σ5).void ?_
  intro σ6 x6
  have x56 := x5.tr x6
  refine ⟨v2, fun σ7 e7 => (e_endWay h1 hs h2 hb σ7).void ?_⟩
  rintro σ8 ⟨x8, f9, f14, f15, f24⟩
  have x7 : kx [9, 14, 15, 24] σ σ7 := by
    rw [e7]
    exact x56.o0.set rfl
  have x78 := x7.tr x8
  have g14 : σ7 14 = σ 14 := by rw [e7, s_ne (by decide), x56.1 14 rfl rfl]
  have g15 : σ7 15 = σ 15 := by rw [e7, s_ne (by decide), x56.1 15 rfl rfl]
  have g24 : σ7 24 = σ 24 := by rw [e7, s_ne (by decide), x56.1 24 rfl rfl]
  have g9 : σ7 9 = upd (σ 9) b (σ 14 b) := by rw [e7, s_at, x56.1 9 rfl rfl]
  obtain ⟨j8, t8, b8⟩ := kj_arr hs hb x78 (f9.trans g9) h14 ht (by rw [f14, g14]) (by rw [f15, g15]) (by rw [f24, g24]) h24 he hk
  refine ⟨w2, w2, fun σ9 e9 => ?_⟩
  have x9 : kx [] σ8 σ9 := by subst e9; exact kx.rf.set rfl
  refine (e_add _ _ _ _ σ9 (x9.2.2.2.2 j8.2.2.2.1)).void ?_
  intro σ10 x10
  have y10 := x9.tr x10
  refine (e_serveLine (f := t) (o := o) (w := w) h2 hb σ10 (kj_id y10 ⟨rfl, rfl, rfl, rfl, rfl, rfl, rfl, rfl, rfl, rfl⟩ j8) (ktx_cong (y10.2.1 rfl) (y10.1 28 rfl rfl) (fun _ _ => by rw [y10.1 31 rfl rfl]) (y10.1 33 rfl rfl) (fun c _ hc => ⟨by rw [y10.1 14 rfl rfl]; exact hc, by rw [y10.1 10 rfl rfl]⟩) t8) (eb_cong (by rw [y10.1 9 rfl rfl]) (by rw [y10.1 10 rfl rfl]) (by rw [y10.1 12 rfl rfl]) b8)).void ?_
  rintro σ11 ⟨k11, f11, -⟩
  exact ⟨rfl, k11, by rw [f11, y10.1 18 rfl rfl, x78.1 18 rfl rfl]⟩
theorem l_moveOn {a1 : Int32} {s : Nat} (h1 : a1.toInt = s) (hs : s < 8) : ∀ (d k l : Nat) (a2 a3 : Int32) (v4 v5 : Value) (σ : sm_S), a3.toInt = k → k + d = 1000 → a2.toInt = l → kk σ → σ 18 s = 3 → xE xD m_G_moveOn 38 [.ref 41, .int a1, .int a2, .int a3, v4, v5] [] σ (sm_V kk) := by
  have v := t_vp h1 hs
  intro d
  induction d with
  | zero =>
    intro k l a2 a3 v4 v5 σ h3 hk h2 hkk h18
    refine d_G_moveOn_38 a1 a2 a3 v4 v5 σ _ ⟨fun _ => ⟨rfl, hkk⟩, fun h => absurd ?_ h⟩
    rw [t_le, h3]
    show (1000 : Int) ≤ _
    omega
  | succ d ih =>
    intro k l a2 a3 v4 v5 σ h3 hk h2 hkk h18
    have h3' : (a3 + 1).toInt = ((k + 1 : Nat) : Int) := by
      rw [t_add h3 (y := 1) rfl (by omega) (by omega)]
      omega
    refine d_G_moveOn_38 a1 a2 a3 v4 v5 σ _ ⟨fun _ => ⟨rfl, hkk⟩, fun _ => ?_⟩
    rw [t_nat h1]
    refine ⟨v, fun n24 => ?_, fun e24 => ?_⟩
    · obtain ⟨b, f, o, w, t, c, hb, hb2, he, n14, q1, q2, q3, q4, q5⟩ := lev_at hkk hs n24
      rw [t_nat hb2]
      refine (e_copySome hb2 hb h2 σ hkk he q1 q2 q3 q4).int ?_
      rintro x2 σ1 ⟨⟨m, m1', m2'⟩, k1, x1⟩
      refine ⟨t_vp hb2 hb, (e_size hb2 hb σ1).int ?_⟩
      rintro x4 σ1 ⟨-, rfl⟩
      have h18' : σ1 18 s = 3 := by rw [x1.1 18 rfl rfl]; exact h18
      refine ⟨fun _ => (e_arrive (f := f) (o := o) (w := w) (t := t) h1 hs hb2 hb σ1 k1 (eb_cong (by rw [x1.1 9 rfl rfl]) (by rw [x1.1 10 rfl rfl]) (by rw [x1.1 12 rfl rfl]) he) (by rw [x1.1 14 rfl rfl]; exact q1) q2 (by rw [x1.1 24 rfl rfl]; exact hb2)).void ?_, fun _ => ⟨rfl, k1⟩⟩
      rintro σ5 ⟨k5, f5⟩
      refine ih (k + 1) (l - m) _ _ _ _ σ5 h3' (by omega) ?_ k5 (by rw [f5]; exact h18')
      have := t_bd a2
      rw [t_sub h2 m2' (by omega) (by omega)]
      omega
    · have e24 : σ 24 s = -1 := Classical.not_not.mp e24
      obtain ⟨sh, r, q1, q2, q3, q4, q5, -⟩ := hkk.2.1 s hs
      refine ⟨v, (e_blockFrom h1 hs q4 q5 σ hkk.2.2.2.1).int ?_⟩
      rintro x7 σ ⟨hx7, rfl⟩
      refine ⟨fun n7 => ?_, fun _ => (e_endPass h1 hs σ hkk e24).void (fun σ9 k9 => ⟨rfl, k9⟩)⟩
      obtain ⟨b, f, hb, hb2, h9, hf⟩ := hx7.resolve_left n7
      refine (e_lookAt h1 hs hb2 hb σ hkk h18 e24 h9 hf).void ?_
      rintro σ8 ⟨k8, f8⟩
      exact ih (k + 1) l _ _ _ _ σ8 h3' (by omega) h2 k8 (by rw [f8]; exact h18)
theorem e_moveOn {a1 : Int32} {s : Nat} (h1 : a1.toInt = s) (hs : s < 8) (σ : sm_S) (hk : kk σ) (h18 : σ 18 s = 3) : xC xD j_G_moveOn [.ref 41, .int a1] σ (sm_V kk) := by
  have v := t_vp h1 hs
  obtain ⟨l, hl⟩ := t_of hk.2.2.2.2.2
  obtain ⟨d, hd⟩ : ∃ d, d = 1000 := ⟨_, rfl⟩
  refine d_G_moveOn a1 σ _ ⟨v, fun _ => ⟨t_vp (n := 0) rfl (by omega), l_moveOn h1 hs d 0 l _ 0 _ _ σ rfl (by omega) hl hk h18⟩, fun _ => ⟨v, v, fun σ1 e1 => ⟨rfl, kk_id (by rw [e1]; exact kx.rf.set rfl) hk⟩⟩⟩
theorem l_oneTick : ∀ (d k : Nat) (a1 : Int32) (σ : sm_S), a1.toInt = k → k + d = 8 → kk σ → xE xD m_G_oneTick 15 [.ref 41, .int a1] [] σ (sm_V kk) := by
  intro d
  induction d with
  | zero =>
    intro k a1 σ h1 hk hkk
    refine d_G_oneTick_15 a1 σ _ ⟨fun _ => ⟨rfl, hkk⟩, fun h => absurd ?_ h⟩
    rw [t_le, h1]
    show (8 : Int) ≤ _
    omega
  | succ d ih =>
    intro k a1 σ h1 hk hkk
    have h1' : (a1 + 1).toInt = ((k + 1 : Nat) : Int) := by
      rw [t_add h1 (y := 1) rfl (by omega) (by omega)]
      omega
    have v := t_vp (N := 8) h1 (by omega)
    refine d_G_oneTick_15 a1 σ _ ⟨fun _ => ⟨rfl, hkk⟩, fun _ => ?_⟩
    rw [t_nat h1]
    refine ⟨v, fun _ => ⟨v, fun _ => ih (k + 1) _ σ h1' (by omega) hkk, fun h3 => (e_moveOn h1 (by omega) σ hkk (Classical.not_not.mp h3)).void (fun σ1 k1 => ih (k + 1) _ σ1 h1' (by omega) k1)⟩, fun h2 => (e_shutNextPart h1 (by omega) σ hkk (Classical.not_not.mp h2)).void (fun σ1 k1 => ih (k + 1) _ σ1 h1' (by omega) k1)⟩
theorem e_oneTick (σ : sm_S) (hk : kk σ) : xC xD j_G_oneTick [.ref 41] σ (sm_V kk) :=
  d_G_oneTick σ _ (fun σ1 e1 => l_oneTick 8 0 0 σ1 rfl rfl (kk_id (by rw [e1]; exact kx.rf.set rfl) hk))
theorem e_callOff {a1 : Int32} {s : Nat} (h1 : a1.toInt = s) (hs : s < 8) (σ : sm_S) (hk : kk σ) : xC xD j_G_callOff [.ref 41, .int a1] σ (sm_V kk) := by
  have v := t_vp h1 hs
  refine d_G_callOff a1 σ _ ?_
  rw [t_nat h1]
  refine ⟨v, fun h24 => (e_fail h1 hs _ σ hk h24).void (fun σ1 k1 => ⟨rfl, k1⟩), fun n24 => ?_⟩
  obtain ⟨b, f, o, w, t, c, hb, hb2, he, n14, q1, q2, q3, q4, q5⟩ := lev_at hk hs n24
  have hpos := Nat.two_pow_pos o
  rw [t_nat hb2]
  refine ⟨t_vp hb2 hb, (e_size hb2 hb σ).int ?_⟩
  rintro x3 σ ⟨rfl, rfl⟩
  refine ⟨by decide, (e_shutBits (t_d32 q1) (by omega) σ).int ?_⟩
  rintro x5 σ rfl
  refine (e_letGo q1 (t_sz he) hpos q2 _ σ).void ?_
  intro σ6 x6
  refine (e_endWay h1 hs hb2 hb σ6).void ?_
  rintro σ7 ⟨x7, f9, f14, f15, f24⟩
  have x67 : kx [9, 14, 15, 24] σ σ7 := x6.o0.tr x7
  obtain ⟨j8, t8, b8⟩ := kj_arr (x := σ 9 b) hs hb x67 (by rw [f9, x6.1 9 rfl rfl, upd_id]) he.1 he.2.2.2.1 (by rw [f14, x6.1 14 rfl rfl]) (by rw [f15, x6.1 15 rfl rfl]) (by rw [f24, x6.1 24 rfl rfl]) hb2 he hk
  have g24 : σ7 24 s = -1 := by rw [f24, u_at]
  refine (e_serveLine hb2 hb σ7 j8 t8 b8).void ?_
  rintro σ8 ⟨k8, -, f8⟩
  exact (e_fail h1 hs _ σ8 k8 (by rw [f8]; exact g24)).void (fun σ9 k9 => ⟨rfl, k9⟩)
end
section
/-! ===== the class: counts, and what is brought, pressed, gathered ===== -/
theorem le_lineOf (a1 : Int32) (σ : sm_S) : ∀ (d k : Nat) (a2 a3 : Int32), a3.toInt = k → k + d = 6 → xE xD m_K_lineOf 4 [.ref 26, .int a1, .int a2, .int a3] [] σ (sm_I (fun _ σ' => σ' = σ)) := by
  intro d
  induction d with
  | zero =>
    intro k a2 a3 hc hk
    refine d_K_lineOf_4 a1 a2 a3 σ _ ⟨fun _ => ⟨_, rfl, rfl⟩, fun h => absurd ?_ h⟩
    rw [t_le, hc]
    show (6 : Int) ≤ _
    omega
  | succ d ih =>
    intro k a2 a3 hc hk
    have hc' : (a3 + 1).toInt = ((k + 1 : Nat) : Int) := by
      rw [t_add hc (y := 1) rfl (by omega) (by omega)]
      omega
    have v := t_vp (N := 6) hc (by omega)
    have next : ∀ (b0 : Int32), xE xD m_K_lineOf 4 [.ref 26, .int a1, .int b0, .int (a3 + 1)] [] σ (sm_I (fun _ σ' => σ' = σ)) := fun b0 => ih (k + 1) _ _ hc' (by omega)
    refine d_K_lineOf_4 a1 a2 a3 σ _ ⟨fun _ => ⟨_, rfl, rfl⟩, fun _ => ?_⟩
    exact ⟨v, fun _ => next _, fun _ => next _⟩
theorem e_lineOf (a1 : Int32) (σ : sm_S) : xC xD j_K_lineOf [.ref 26, .int a1] σ (sm_I (fun _ σ' => σ' = σ)) := d_K_lineOf a1 σ _ (le_lineOf a1 σ 6 0 _ 0 rfl rfl)
theorem le_waitingSet (σ : sm_S) : ∀ (d k : Nat) (a1 a2 : Int32), a2.toInt = k → k + d = 6 → xE xD m_K_waitingSet 4 [.ref 26, .int a1, .int a2] [] σ (sm_I (fun _ σ' => σ' = σ)) := by
  intro d
  induction d with
  | zero =>
    intro k a1 a2 hc hk
    refine d_K_waitingSet_4 a1 a2 σ _ ⟨fun _ => ⟨_, rfl, rfl⟩, fun h => absurd ?_ h⟩
    rw [t_le, hc]
    show (6 : Int) ≤ _
    omega
  | succ d ih =>
    intro k a1 a2 hc hk
    have hc' : (a2 + 1).toInt = ((k + 1 : Nat) : Int) := by
      rw [t_add hc (y := 1) rfl (by omega) (by omega)]
      omega
    have v := t_vp (N := 6) hc (by omega)
    have next : ∀ (b0 : Int32), xE xD m_K_waitingSet 4 [.ref 26, .int b0, .int (a2 + 1)] [] σ (sm_I (fun _ σ' => σ' = σ)) := fun b0 => ih (k + 1) _ _ hc' (by omega)
    refine d_K_waitingSet_4 a1 a2 σ _ ⟨fun _ => ⟨_, rfl, rfl⟩, fun _ => ?_⟩
    exact ⟨v, fun _ => next _, fun _ => next _⟩
theorem e_waitingSet (σ : sm_S) : xC xD j_K_waitingSet [.ref 26] σ (sm_I (fun _ σ' => σ' = σ)) := d_K_waitingSet  σ _ (le_waitingSet  σ 6 0 _ 0 rfl rfl)
theorem le_goingSet (σ : sm_S) : ∀ (d k : Nat) (a1 a2 : Int32), a2.toInt = k → k + d = 8 → xE xD m_S_goingSet 4 [.ref 17, .int a1, .int a2] [] σ (sm_I (fun _ σ' => σ' = σ)) := by
  intro d
  induction d with
  | zero =>
    intro k a1 a2 hc hk
    refine d_S_goingSet_4 a1 a2 σ _ ⟨fun _ => ⟨_, rfl, rfl⟩, fun h => absurd ?_ h⟩
    rw [t_le, hc]
    show (8 : Int) ≤ _
    omega
  | succ d ih =>
    intro k a1 a2 hc hk
    have hc' : (a2 + 1).toInt = ((k + 1 : Nat) : Int) := by
      rw [t_add hc (y := 1) rfl (by omega) (by omega)]
      omega
    have v := t_vp (N := 8) hc (by omega)
    have next : ∀ (b0 : Int32), xE xD m_S_goingSet 4 [.ref 17, .int b0, .int (a2 + 1)] [] σ (sm_I (fun _ σ' => σ' = σ)) := fun b0 => ih (k + 1) _ _ hc' (by omega)
    refine d_S_goingSet_4 a1 a2 σ _ ⟨fun _ => ⟨_, rfl, rfl⟩, fun _ => ?_⟩
    refine (e_isGoing hc (by omega) σ).int ?_
    rintro x2 σ ⟨-, rfl⟩
    exact ⟨fun _ => next _, fun _ => next _⟩
theorem e_goingSet (σ : sm_S) : xC xD j_S_goingSet [.ref 17] σ (sm_I (fun _ σ' => σ' = σ)) := d_S_goingSet  σ _ (le_goingSet  σ 8 0 _ 0 rfl rfl)
theorem le_ownedBy (a1 : Int32) (σ : sm_S) : ∀ (d k : Nat) (a2 a3 : Int32), a3.toInt = k → k + d = 96 → xE xD m_B_ownedBy 4 [.ref 8, .int a1, .int a2, .int a3] [] σ (sm_I (fun _ σ' => σ' = σ)) := by
  intro d
  induction d with
  | zero =>
    intro k a2 a3 hc hk
    refine d_B_ownedBy_4 a1 a2 a3 σ _ ⟨fun _ => ⟨_, rfl, rfl⟩, fun h => absurd ?_ h⟩
    rw [t_le, hc]
    show (96 : Int) ≤ _
    omega
  | succ d ih =>
    intro k a2 a3 hc hk
    have hc' : (a3 + 1).toInt = ((k + 1 : Nat) : Int) := by
      rw [t_add hc (y := 1) rfl (by omega) (by omega)]
      omega
    have v := t_vp (N := 96) hc (by omega)
    have next : ∀ (b0 : Int32), xE xD m_B_ownedBy 4 [.ref 8, .int a1, .int b0, .int (a3 + 1)] [] σ (sm_I (fun _ σ' => σ' = σ)) := fun b0 => ih (k + 1) _ _ hc' (by omega)
    refine d_B_ownedBy_4 a1 a2 a3 σ _ ⟨fun _ => ⟨_, rfl, rfl⟩, fun _ => ?_⟩
    exact ⟨v, fun _ => next _, fun _ => ⟨v, fun _ => next _, fun _ => next _⟩⟩
theorem e_ownedBy (a1 : Int32) (σ : sm_S) : xC xD j_B_ownedBy [.ref 8, .int a1] σ (sm_I (fun _ σ' => σ' = σ)) := d_B_ownedBy a1 σ _ (le_ownedBy a1 σ 96 0 _ 0 rfl rfl)
theorem le_pinnedBy (a1 : Int32) (σ : sm_S) : ∀ (d k : Nat) (a2 a3 : Int32), a3.toInt = k → k + d = 96 → xE xD m_B_pinnedBy 4 [.ref 8, .int a1, .int a2, .int a3] [] σ (sm_I (fun _ σ' => σ' = σ)) := by
  intro d
  induction d with
  | zero =>
    intro k a2 a3 hc hk
    refine d_B_pinnedBy_4 a1 a2 a3 σ _ ⟨fun _ => ⟨_, rfl, rfl⟩, fun h => absurd ?_ h⟩
    rw [t_le, hc]
    show (96 : Int) ≤ _
    omega
  | succ d ih =>
    intro k a2 a3 hc hk
    have hc' : (a3 + 1).toInt = ((k + 1 : Nat) : Int) := by
      rw [t_add hc (y := 1) rfl (by omega) (by omega)]
      omega
    have v := t_vp (N := 96) hc (by omega)
    have next : ∀ (b0 : Int32), xE xD m_B_pinnedBy 4 [.ref 8, .int a1, .int b0, .int (a3 + 1)] [] σ (sm_I (fun _ σ' => σ' = σ)) := fun b0 => ih (k + 1) _ _ hc' (by omega)
    refine d_B_pinnedBy_4 a1 a2 a3 σ _ ⟨fun _ => ⟨_, rfl, rfl⟩, fun _ => ?_⟩
    exact ⟨v, fun _ => next _, fun _ => ⟨v, next _⟩⟩
theorem e_pinnedBy (a1 : Int32) (σ : sm_S) : xC xD j_B_pinnedBy [.ref 8, .int a1] σ (sm_I (fun _ σ' => σ' = σ)) := d_B_pinnedBy a1 σ _ (le_pinnedBy a1 σ 96 0 _ 0 rfl rfl)
theorem le_howMany (σ : sm_S) : ∀ (d k : Nat) (a1 a2 : Int32), a2.toInt = k → k + d = 96 → xE xD m_B_howMany 4 [.ref 8, .int a1, .int a2] [] σ (sm_I (fun _ σ' => σ' = σ)) := by
  intro d
  induction d with
  | zero =>
    intro k a1 a2 hc hk
    refine d_B_howMany_4 a1 a2 σ _ ⟨fun _ => ⟨_, rfl, rfl⟩, fun h => absurd ?_ h⟩
    rw [t_le, hc]
    show (96 : Int) ≤ _
    omega
  | succ d ih =>
    intro k a1 a2 hc hk
    have hc' : (a2 + 1).toInt = ((k + 1 : Nat) : Int) := by
      rw [t_add hc (y := 1) rfl (by omega) (by omega)]
      omega
    have v := t_vp (N := 96) hc (by omega)
    have next : ∀ (b0 : Int32), xE xD m_B_howMany 4 [.ref 8, .int b0, .int (a2 + 1)] [] σ (sm_I (fun _ σ' => σ' = σ)) := fun b0 => ih (k + 1) _ _ hc' (by omega)
    refine d_B_howMany_4 a1 a2 σ _ ⟨fun _ => ⟨_, rfl, rfl⟩, fun _ => ?_⟩
    exact ⟨v, fun _ => next _, fun _ => next _⟩
theorem e_howMany (σ : sm_S) : xC xD j_B_howMany [.ref 8] σ (sm_I (fun _ σ' => σ' = σ)) := d_B_howMany  σ _ (le_howMany  σ 96 0 _ 0 rfl rfl)
theorem le_framesAt (a1 a2 : Int32) (σ : sm_S) : ∀ (d k : Nat) (a3 a4 : Int32), a4.toInt = k → k + d = 96 → xE xD m_B_framesAt 5 [.ref 8, .int a1, .int a2, .int a3, .int a4] [] σ (sm_I (fun _ σ' => σ' = σ)) := by
  intro d
  induction d with
  | zero =>
    intro k a3 a4 hc hk
    refine d_B_framesAt_5 a1 a2 a3 a4 σ _ ⟨fun _ => ⟨_, rfl, rfl⟩, fun h => absurd ?_ h⟩
    rw [t_le, hc]
    show (96 : Int) ≤ _
    omega
  | succ d ih =>
    intro k a3 a4 hc hk
    have hc' : (a4 + 1).toInt = ((k + 1 : Nat) : Int) := by
      rw [t_add hc (y := 1) rfl (by omega) (by omega)]
      omega
    have v := t_vp (N := 96) hc (by omega)
    have next : ∀ (b0 : Int32), xE xD m_B_framesAt 5 [.ref 8, .int a1, .int a2, .int b0, .int (a4 + 1)] [] σ (sm_I (fun _ σ' => σ' = σ)) := fun b0 => ih (k + 1) _ _ hc' (by omega)
    refine d_B_framesAt_5 a1 a2 a3 a4 σ _ ⟨fun _ => ⟨_, rfl, rfl⟩, fun _ => ?_⟩
    refine ⟨v, fun _ => next _, fun _ => ⟨v, fun _ => next _, fun _ => ⟨v, by decide, by decide, fun _ => next _, fun _ => (e_size hc (by omega) σ).int ?_⟩⟩⟩
    rintro x2 σ ⟨-, rfl⟩
    exact next _
theorem e_framesAt (a1 a2 : Int32) (σ : sm_S) : xC xD j_B_framesAt [.ref 8, .int a1, .int a2] σ (sm_I (fun _ σ' => σ' = σ)) := d_B_framesAt a1 a2 σ _ (le_framesAt a1 a2 σ 96 0 _ 0 rfl rfl)
theorem le_freeInZone (a1 : Int32) (σ : sm_S) : ∀ (d k : Nat) (a2 a3 : Int32), a3.toInt = k → k + d = 8 → xE xD m_Y_freeInZone 4 [.ref 0, .int a1, .int a2, .int a3] [] σ (sm_I (fun _ σ' => σ' = σ)) := by
  intro d
  induction d with
  | zero =>
    intro k a2 a3 hc hk
    refine d_Y_freeInZone_4 a1 a2 a3 σ _ ⟨fun _ => ⟨_, rfl, rfl⟩, fun h => absurd ?_ h⟩
    rw [t_le, hc]
    show (8 : Int) ≤ _
    omega
  | succ d ih =>
    intro k a2 a3 hc hk
    have hc' : (a3 + 1).toInt = ((k + 1 : Nat) : Int) := by
      rw [t_add hc (y := 1) rfl (by omega) (by omega)]
      omega
    have v := t_vp (N := 8) hc (by omega)
    have next : ∀ (b0 : Int32), xE xD m_Y_freeInZone 4 [.ref 0, .int a1, .int b0, .int (a3 + 1)] [] σ (sm_I (fun _ σ' => σ' = σ)) := fun b0 => ih (k + 1) _ _ hc' (by omega)
    refine d_Y_freeInZone_4 a1 a2 a3 σ _ ⟨fun _ => ⟨_, rfl, rfl⟩, fun _ => ?_⟩
    refine ⟨v, fun _ => next _, fun _ => ⟨v, (c_bitCount _ σ).int ?_⟩⟩
    rintro x2 σ rfl
    exact next _
theorem e_freeInZone (a1 : Int32) (σ : sm_S) : xC xD j_Y_freeInZone [.ref 0, .int a1] σ (sm_I (fun _ σ' => σ' = σ)) := d_Y_freeInZone a1 σ _ (le_freeInZone a1 σ 8 0 _ 0 rfl rfl)
theorem le_widestInZone (a1 : Int32) (σ : sm_S) : ∀ (d k : Nat) (a2 a3 : Int32), a3.toInt = k → k + d = 8 → xE xD m_Y_widestInZone 4 [.ref 0, .int a1, .int a2, .int a3] [] σ (sm_I (fun _ σ' => σ' = σ)) := by
  intro d
  induction d with
  | zero =>
    intro k a2 a3 hc hk
    refine d_Y_widestInZone_4 a1 a2 a3 σ _ ⟨fun _ => ⟨_, rfl, rfl⟩, fun h => absurd ?_ h⟩
    rw [t_le, hc]
    show (8 : Int) ≤ _
    omega
  | succ d ih =>
    intro k a2 a3 hc hk
    have hc' : (a3 + 1).toInt = ((k + 1 : Nat) : Int) := by
      rw [t_add hc (y := 1) rfl (by omega) (by omega)]
      omega
    have v := t_vp (N := 8) hc (by omega)
    have next : ∀ (b0 : Int32), xE xD m_Y_widestInZone 4 [.ref 0, .int a1, .int b0, .int (a3 + 1)] [] σ (sm_I (fun _ σ' => σ' = σ)) := fun b0 => ih (k + 1) _ _ hc' (by omega)
    refine d_Y_widestInZone_4 a1 a2 a3 σ _ ⟨fun _ => ⟨_, rfl, rfl⟩, fun _ => ?_⟩
    refine ⟨v, fun _ => next _, fun _ => ⟨v, (c_widest _ σ).int ?_⟩⟩
    rintro x2 σ rfl
    exact next _
theorem e_widestInZone (a1 : Int32) (σ : sm_S) : xC xD j_Y_widestInZone [.ref 0, .int a1] σ (sm_I (fun _ σ' => σ' = σ)) := d_Y_widestInZone a1 σ _ (le_widestInZone a1 σ 8 0 _ 0 rfl rfl)
theorem e_isNode (a : Int32) (σ : sm_S) : xC xD j_A_isNode [.int a] σ (sm_I (fun x σ' => ((x = 1 ∧ ∃ n : Nat, n < 2 ∧ a.toInt = n) ∨ x = 0) ∧ σ' = σ)) := by
  refine d_A_isNode a σ _ ⟨fun _ => ⟨Or.inl rfl, _, rfl, Or.inr rfl, rfl⟩, fun h => ⟨fun _ => ⟨Or.inl rfl, _, rfl, Or.inr rfl, rfl⟩, fun h2 => ⟨Or.inr rfl, _, rfl, Or.inl ⟨rfl, ?_⟩, rfl⟩⟩⟩
  rw [t_lt] at h
  rw [t_le] at h2
  have h : ¬ a.toInt < (0 : Int) := h
  have h2 : ¬ (2 : Int) ≤ a.toInt := h2
  obtain ⟨n, hn⟩ := t_of (x := a) (by omega)
  exact ⟨n, by omega, hn⟩
theorem e_isKind (a : Int32) (σ : sm_S) : xC xD j_A_isKind [.int a] σ (sm_I (fun x σ' => ((x = 1 ∧ ∃ n : Nat, n < 3 ∧ a.toInt = n) ∨ x = 0) ∧ σ' = σ)) := by
  refine d_A_isKind a σ _ ⟨fun _ => ⟨Or.inl rfl, _, rfl, Or.inr rfl, rfl⟩, fun h => ⟨fun _ => ⟨Or.inl rfl, _, rfl, Or.inr rfl, rfl⟩, fun h2 => ⟨Or.inr rfl, _, rfl, Or.inl ⟨rfl, ?_⟩, rfl⟩⟩⟩
  rw [t_lt] at h
  rw [t_le] at h2
  have h : ¬ a.toInt < (0 : Int) := h
  have h2 : ¬ (3 : Int) ≤ a.toInt := h2
  obtain ⟨n, hn⟩ := t_of (x := a) (by omega)
  exact ⟨n, by omega, hn⟩
theorem e_isBlockOrder (a : Int32) (σ : sm_S) : xC xD j_A_isBlockOrder [.int a] σ (sm_I (fun x σ' => ((x = 1 ∧ ∃ n : Nat, n < 5 ∧ a.toInt = n) ∨ x = 0) ∧ σ' = σ)) := by
  refine d_A_isBlockOrder a σ _ ⟨fun _ => ⟨Or.inl rfl, _, rfl, Or.inr rfl, rfl⟩, fun h => ⟨fun _ => ⟨Or.inl rfl, _, rfl, Or.inr rfl, rfl⟩, fun h2 => ⟨Or.inr rfl, _, rfl, Or.inl ⟨rfl, ?_⟩, rfl⟩⟩⟩
  rw [t_lt] at h
  rw [t_le] at h2
  have h : ¬ a.toInt < (0 : Int) := h
  have h2 : ¬ (5 : Int) ≤ a.toInt := h2
  obtain ⟨n, hn⟩ := t_of (x := a) (by omega)
  exact ⟨n, by omega, hn⟩
theorem e_isSpan (a : Int32) (σ : sm_S) : xC xD j_A_isSpan [.int a] σ (sm_I (fun x σ' => ((x = 1 ∧ ∃ n : Nat, n < 8 ∧ a.toInt = n) ∨ x = 0) ∧ σ' = σ)) := by
  refine d_A_isSpan a σ _ ⟨fun _ => ⟨Or.inl rfl, _, rfl, Or.inr rfl, rfl⟩, fun h => ⟨fun _ => ⟨Or.inl rfl, _, rfl, Or.inr rfl, rfl⟩, fun h2 => ⟨Or.inr rfl, _, rfl, Or.inl ⟨rfl, ?_⟩, rfl⟩⟩⟩
  rw [t_lt] at h
  rw [t_le] at h2
  have h : ¬ a.toInt < (0 : Int) := h
  have h2 : ¬ (8 : Int) ≤ a.toInt := h2
  obtain ⟨n, hn⟩ := t_of (x := a) (by omega)
  exact ⟨n, by omega, hn⟩
theorem e_isZone (a : Int32) (σ : sm_S) : xC xD j_A_isZone [.int a] σ (sm_I (fun x σ' => ((x = 1 ∧ ∃ n : Nat, n < 2 ∧ a.toInt = n) ∨ x = 0) ∧ σ' = σ)) := by
  refine d_A_isZone a σ _ ⟨fun _ => ⟨Or.inl rfl, _, rfl, Or.inr rfl, rfl⟩, fun h => ⟨fun _ => ⟨Or.inl rfl, _, rfl, Or.inr rfl, rfl⟩, fun h2 => ⟨Or.inr rfl, _, rfl, Or.inl ⟨rfl, ?_⟩, rfl⟩⟩⟩
  rw [t_lt] at h
  rw [t_le] at h2
  have h : ¬ a.toInt < (0 : Int) := h
  have h2 : ¬ (2 : Int) ≤ a.toInt := h2
  obtain ⟨n, hn⟩ := t_of (x := a) (by omega)
  exact ⟨n, by omega, hn⟩
theorem e_cell (a1 a2 : Int32) (σ : sm_S) (hl : kl σ) : xC xD j_L_cell [.ref 34, .int a1, .int a2] σ (sm_I (fun _ σ' => σ' = σ)) := by
  obtain ⟨n, hn, hn2⟩ := hl
  have keep : ∀ y : Int32, sm_I (fun _ σ' => σ' = σ) (some (.int y)) σ := fun y => ⟨_, rfl, rfl⟩
  refine d_L_cell a1 a2 σ _ ⟨fun _ => keep _, fun h1 => ⟨fun _ => keep _, fun h2 => ⟨fun _ => ⟨fun h3 => ?_, fun h3 => ?_⟩, fun _ => keep _⟩⟩⟩
  all_goals
    rw [t_lt] at h1
    rw [t_le] at h2
    rw [t_le, hn2] at h3
    have h1 : ¬ a1.toInt < (0 : Int) := h1
    have h2 : ¬ (60 : Int) ≤ a1.toInt := h2
    obtain ⟨m, hm⟩ := t_of (x := a1) (by omega)
    have q1 := t_sub hn2 (y := 1) (b := 1) rfl (by omega) (by omega)
    have q2 := t_sub q1 hm (by omega) (by omega)
  · have q3 : (σ 34 5 - 1 - a1 + 60).toInt = ((n + 59 - m : Nat) : Int) := by
      rw [t_add q2 (y := 60) rfl (by omega) (by omega)]
      omega
    have v := t_vp (N := 60) q3 (by omega)
    exact ⟨fun _ => ⟨v, keep _⟩, fun _ => ⟨fun _ => ⟨v, keep _⟩, fun _ => ⟨fun _ => ⟨v, keep _⟩, fun _ => ⟨fun _ => ⟨v, keep _⟩, fun _ => keep _⟩⟩⟩⟩
  · have q3 : (σ 34 5 - 1 - a1).toInt = ((n - 1 - m : Nat) : Int) := by
      rw [q2]
      omega
    have v := t_vp (N := 60) q3 (by omega)
    exact ⟨fun _ => ⟨v, keep _⟩, fun _ => ⟨fun _ => ⟨v, keep _⟩, fun _ => ⟨fun _ => ⟨v, keep _⟩, fun _ => ⟨fun _ => ⟨v, keep _⟩, fun _ => keep _⟩⟩⟩⟩
theorem e_stateOf {a1 : Int32} {f : Nat} (h1 : a1.toInt = f) (hf : f < 256) (σ : sm_S) : xC xD j_F_stateOf [.ref 1, .int a1] σ (sm_I (fun _ σ' => σ' = σ)) := by
  have keep : ∀ y : Int32, sm_I (fun _ σ' => σ' = σ) (some (.int y)) σ := fun y => ⟨_, rfl, rfl⟩
  have v := t_vp (N := 8) (t_d32 h1) (by omega)
  exact d_F_stateOf a1 σ _ ⟨by decide, by decide, v, fun _ => ⟨v, fun _ => ⟨v, fun _ => ⟨v, fun _ => keep _, fun _ => keep _⟩, fun _ => keep _⟩, fun _ => keep _⟩, fun _ => keep _⟩
theorem l_bring166 {a1 a2 a3 a4 a5 a6 : Int32} {o p : Nat} (h3 : a3.toInt = o) (ho : o ≤ 4) (h5 : a5.toInt = p) (hp : p + 2 ^ o ≤ 256) : ∀ (d k : Nat) (a7 : Int32) (τ : sm_S), a7.toInt = k → k + d = 2 ^ o → kk τ → xE xD m_Y_bring 166 [.ref 0, .int a1, .int a2, .int a3, .int a4, .int a5, .int a6, .int a7] [] τ (sm_I (fun _ => kk)) := by
  have v0 := t_vp (x := (0 : Int32)) (n := 0) (N := 11) rfl (by omega)
  have hs : ((1 : Int32) <<< (a3 &&& 31)).toInt = ((2 ^ o : Nat) : Int) := t_pow h3 (by omega)
  intro d
  induction d with
  | zero =>
    intro k a7 τ h7 hk hkk
    refine d_Y_bring_166 a1 a2 a3 a4 a5 a6 a7 τ _ ⟨fun _ => ⟨v0, v0, fun σ1 e1 => ⟨_, rfl, kk_id (by rw [e1]; exact kx.rf.set rfl) hkk⟩⟩, fun h => absurd (by rw [t_le, hs, h7]; omega) h⟩
  | succ d ih =>
    intro k a7 τ h7 hk hkk
    have h7' : (a7 + 1).toInt = ((k + 1 : Nat) : Int) := by
      rw [t_add h7 (y := 1) rfl (by omega) (by omega)]
      omega
    refine d_Y_bring_166 a1 a2 a3 a4 a5 a6 a7 τ _ ⟨fun h => ?_, fun _ => ⟨t_vp (n := p + k) ?_ (by omega), fun σ2 e2 => ih (k + 1) _ σ2 h7' (by omega) (kk_id (by rw [e2]; exact kx.rf.set rfl) hkk)⟩⟩
    · rw [t_le, hs, h7] at h; omega
    · rw [t_add h5 h7 (by omega) (by omega)]; omega
theorem l_bring {a1 a2 a3 a4 : Int32} {m o : Nat} (h1 : a1.toInt = m) (hm : m < 6) (h3 : a3.toInt = o) (ho : o ≤ 4) : ∀ (d k : Nat) (a5 a6 : Int32) (v7 : Value) (σ : sm_S), a6.toInt = k → k + d = 96 → kk σ → (a5 = -1 ∨ ∃ p : Nat, a5.toInt = p ∧ p + 2 ^ o ≤ 256) → xE xD m_Y_bring 13 [.ref 0, .int a1, .int a2, .int a3, .int a4, .int a5, .int a6, v7] [] σ (sm_I (fun _ => kk)) := by
  have v1 := t_vp (x := (1 : Int32)) (n := 1) (N := 11) rfl (by omega)
  have hpos := Nat.two_pow_pos o
  have hs : ((1 : Int32) <<< (a3 &&& 31)).toInt = ((2 ^ o : Nat) : Int) := t_pow h3 (by omega)
  intro d
  induction d with
  | zero =>
    intro k a5 a6 v7 σ h6 hk hkk hP
    refine d_Y_bring_13 a1 a2 a3 a4 a5 a6 v7 σ _ ⟨fun _ => (e_leastNumber σ).int ?_, fun h => absurd ?_ h⟩
    · rintro x2 σ ⟨hx2, rfl⟩
      refine ⟨fun _ => ⟨v1, v1, fun σ3 e3 => ⟨_, rfl, kk_id (by rw [e3]; exact kx.rf.set rfl) hkk⟩⟩, fun n5 => ⟨fun n2 => ?_, fun _ => ⟨v1, v1, fun σ3 e3 => ⟨_, rfl, kk_id (by rw [e3]; exact kx.rf.set rfl) hkk⟩⟩⟩⟩
      obtain ⟨p, p1, p2⟩ := hP.resolve_left n5
      obtain ⟨b, hb, hb2, h9⟩ := hx2.resolve_left n2
      refine (e_begin hb2 hb _ _ _ _ σ).void ?_
      intro σ4 b4
      have k4 := kk_bgn hb b4 p1 h3 ho p2 h1 hm hkk h9
      refine fun σ5 e5 => ⟨t_vp hb2 hb, fun σ6 e6 => (e_give hb2 hb p1 hs hpos p2 σ6).void ?_⟩
      intro σ7 x7
      have x46 : kx [] σ4 σ6 := by subst e5 e6; exact (kx.rf.set rfl).set rfl
      exact l_bring166 h3 ho p1 p2 (2 ^ o) 0 0 σ7 rfl (by omega) (kk_id (x46.tr x7) k4)
    · rw [t_le, h6]
      show (96 : Int) ≤ _
      omega
  | succ d ih =>
    intro k a5 a6 v7 σ h6 hk hkk hP
    have h6' : (a6 + 1).toInt = ((k + 1 : Nat) : Int) := by
      rw [t_add h6 (y := 1) rfl (by omega) (by omega)]
      omega
    refine d_Y_bring_13 a1 a2 a3 a4 a5 a6 v7 σ _ ⟨fun _ => (e_leastNumber σ).int ?_, fun _ => ⟨fun _ => (e_leastNumber σ).int ?_, fun _ => (e_leastUsedCache σ).int ?_⟩⟩
    · rintro x2 σ ⟨hx2, rfl⟩
      refine ⟨fun _ => ⟨v1, v1, fun σ3 e3 => ⟨_, rfl, kk_id (by rw [e3]; exact kx.rf.set rfl) hkk⟩⟩, fun n5 => ⟨fun n2 => ?_, fun _ => ⟨v1, v1, fun σ3 e3 => ⟨_, rfl, kk_id (by rw [e3]; exact kx.rf.set rfl) hkk⟩⟩⟩⟩
      obtain ⟨p, p1, p2⟩ := hP.resolve_left n5
      obtain ⟨b, hb, hb2, h9⟩ := hx2.resolve_left n2
      refine (e_begin hb2 hb _ _ _ _ σ).void ?_
      intro σ4 b4
      have k4 := kk_bgn hb b4 p1 h3 ho p2 h1 hm hkk h9
      refine fun σ5 e5 => ⟨t_vp hb2 hb, fun σ6 e6 => (e_give hb2 hb p1 hs hpos p2 σ6).void ?_⟩
      intro σ7 x7
      have x46 : kx [] σ4 σ6 := by subst e5 e6; exact (kx.rf.set rfl).set rfl
      exact l_bring166 h3 ho p1 p2 (2 ^ o) 0 0 σ7 rfl (by omega) (kk_id (x46.tr x7) k4)
    · rintro x2 σ ⟨hx2, rfl⟩
      refine ⟨fun _ => ⟨v1, v1, fun σ3 e3 => ⟨_, rfl, kk_id (by rw [e3]; exact kx.rf.set rfl) hkk⟩⟩, fun n5 => ⟨fun n2 => ?_, fun _ => ⟨v1, v1, fun σ3 e3 => ⟨_, rfl, kk_id (by rw [e3]; exact kx.rf.set rfl) hkk⟩⟩⟩⟩
      obtain ⟨p, p1, p2⟩ := hP.resolve_left n5
      obtain ⟨b, hb, hb2, h9⟩ := hx2.resolve_left n2
      refine (e_begin hb2 hb _ _ _ _ σ).void ?_
      intro σ4 b4
      have k4 := kk_bgn hb b4 p1 h3 ho p2 h1 hm hkk h9
      refine fun σ5 e5 => ⟨t_vp hb2 hb, fun σ6 e6 => (e_give hb2 hb p1 hs hpos p2 σ6).void ?_⟩
      intro σ7 x7
      have x46 : kx [] σ4 σ6 := by subst e5 e6; exact (kx.rf.set rfl).set rfl
      exact l_bring166 h3 ho p1 p2 (2 ^ o) 0 0 σ7 rfl (by omega) (kk_id (x46.tr x7) k4)
    · rintro x18 σ ⟨hx18, rfl⟩
      refine ⟨fun n18 => ?_, fun _ => (e_leastNumber σ).int ?_⟩
      · obtain ⟨b, hb, hb2, h9, -, -, h14⟩ := hx18.resolve_left n18
        obtain ⟨f, o', w, he⟩ := kb_has (hkk.1 b hb) h9
        refine (e_noteDrop hb2 hb σ hkk.2.2.2.2.1).void ?_
        intro σ19 x19
        refine (e_remove (f := f) (o := o') (w := w) hb2 hb σ19 (eb_cong (by rw [x19.1 9 rfl rfl]) (by rw [x19.1 10 rfl rfl]) (by rw [x19.1 12 rfl rfl]) he)).void ?_
        rintro σ20 ⟨x20, f20⟩
        have k20 := kk_rem hb x20 f20 (kk_id x19 hkk) (by rw [x19.1 14 rfl rfl]; exact h14)
        refine (e_bestPlace h1 hm h3 ho σ20).int ?_
        rintro x22 σ20 ⟨hx22, rfl⟩
        exact ih (k + 1) _ _ _ _ h6' (by omega) k20 hx22
      · rintro x2 σ ⟨hx2, rfl⟩
        refine ⟨fun _ => ⟨v1, v1, fun σ3 e3 => ⟨_, rfl, kk_id (by rw [e3]; exact kx.rf.set rfl) hkk⟩⟩, fun n5 => ⟨fun n2 => ?_, fun _ => ⟨v1, v1, fun σ3 e3 => ⟨_, rfl, kk_id (by rw [e3]; exact kx.rf.set rfl) hkk⟩⟩⟩⟩
        obtain ⟨p, p1, p2⟩ := hP.resolve_left n5
        obtain ⟨b, hb, hb2, h9⟩ := hx2.resolve_left n2
        refine (e_begin hb2 hb _ _ _ _ σ).void ?_
        intro σ4 b4
        have k4 := kk_bgn hb b4 p1 h3 ho p2 h1 hm hkk h9
        refine fun σ5 e5 => ⟨t_vp hb2 hb, fun σ6 e6 => (e_give hb2 hb p1 hs hpos p2 σ6).void ?_⟩
        intro σ7 x7
        have x46 : kx [] σ4 σ6 := by subst e5 e6; exact (kx.rf.set rfl).set rfl
        exact l_bring166 h3 ho p1 p2 (2 ^ o) 0 0 σ7 rfl (by omega) (kk_id (x46.tr x7) k4)
theorem e_bring {a1 a3 : Int32} {m o : Nat} (h1 : a1.toInt = m) (hm : m < 6) (h3 : a3.toInt = o) (ho : o ≤ 4) (a2 a4 : Int32) (σ : sm_S) (hk : kk σ) : xC xD j_Y_bring [.ref 0, .int a1, .int a2, .int a3, .int a4] σ (sm_I (fun _ => kk)) := by
  refine d_Y_bring a1 a2 a3 a4 σ _ ((e_bestPlace h1 hm h3 ho σ).int ?_)
  rintro x2 σ ⟨hx2, rfl⟩
  exact l_bring h1 hm h3 ho 96 0 x2 0 _ _ rfl rfl hk hx2
theorem l_pack {a1 : Int32} {s : Nat} (h1 : a1.toInt = s) (hs : s < 8) : ∀ (d : Nat) (a2 a3 : Int32) (v4 v5 v6 : Value) (σ : sm_S), a3.toInt = (d : Int) - 1 → d ≤ 32 → kk σ → xE xD m_Y_pack 5 [.ref 0, .int a1, .int a2, .int a3, v4, v5, v6] [] σ (sm_I (fun _ => kk)) := by
  intro d
  induction d with
  | zero =>
    intro a2 a3 v4 v5 v6 σ h3 hd hk
    refine d_Y_pack_5 a1 a2 a3 v4 v5 v6 σ _ ⟨fun _ => ⟨_, rfl, hk⟩, fun h => absurd ?_ h⟩
    rw [t_lt, h3]; decide
  | succ d ih =>
    intro a2 a3 v4 v5 v6 σ h3 hd hk
    have h3' : a3.toInt = d := by omega
    have h3n : (a3 + (-1)).toInt = (d : Int) - 1 := by
      rw [t_add h3' (y := -1) rfl (by omega) (by omega)]
      omega
    have next : ∀ (b2 : Int32) (v4 v5 v6 : Value) (τ : sm_S), kk τ → xE xD m_Y_pack 5 [.ref 0, .int a1, .int b2, .int (a3 + (-1)), v4, v5, v6] [] τ (sm_I (fun _ => kk)) := fun b2 v4 v5 v6 τ hτ => ih _ _ _ _ _ τ h3n (by omega) hτ
    have hfr : (a1 * 32 + a3).toInt = ((32 * s + d : Nat) : Int) := by
      rw [t_add (t_s32 h1 (by omega)) h3' (by omega) (by omega)]
      omega
    refine d_Y_pack_5 a1 a2 a3 v4 v5 v6 σ _ ⟨fun _ => ⟨_, rfl, hk⟩, fun _ => (e_blockAt hfr (by omega) σ hk.2.2.2.1).int ?_⟩
    rintro x2 σ ⟨hx2, rfl⟩
    refine ⟨fun _ => next _ _ _ _ _ hk, fun n2 => ?_⟩
    obtain ⟨b, hb, hb2, h9⟩ := hx2.resolve_left n2
    obtain ⟨f, o, w, he⟩ := kb_at hk.1 hb h9
    have h4 := he.2.2.1
    refine ⟨t_vp hb2 hb, fun _ => next _ _ _ _ _ hk, fun _ => (e_isLoose hb2 hb σ).int ?_⟩
    rintro x4 σ ⟨hx4, rfl⟩
    refine ⟨fun n4 => ⟨t_vp h1 hs, t_vp hb2 hb, (c_starts (o := o) ?_ (by omega) _ σ).int ?_⟩, fun _ => next _ _ _ _ _ hk⟩
    · rw [t_nat hb2]; exact he.2.1
    · obtain ⟨-, -, h14⟩ := hx4.resolve_right n4
      rintro x6 σ ⟨rfl, rfl⟩
      refine (c_ntz _ σ).int ?_
      rintro x8 σ ⟨hx8, rfl⟩
      refine ⟨fun _ => next _ _ _ _ _ hk, fun n8 => ?_⟩
      have hp : ∃ p : Nat, p < 32 ∧ x8.toInt = p ∧ p % 2 ^ o = 0 := by
        rcases hx8 with ⟨-, g⟩ | ⟨p, p1, p2, p3⟩
        · rw [t_le, h3', g] at n8
          have n8 : ¬ (d : Int) ≤ 32 := n8
          omega
        · exact ⟨p, p1, p2, st_al (by omega) p1 p3⟩
      obtain ⟨p, p1, p2, p3⟩ := hp
      have p4 := t_al (by omega) p3
      have hpl : (a1 * 32 + x8).toInt = ((32 * s + p : Nat) : Int) := by
        rw [t_add (t_s32 h1 (by omega)) p2 (by omega) (by omega)]
        omega
      refine (e_moveAtOnce hb2 hb hpl σ he (by omega)).void ?_
      rintro σ9 ⟨x9, f9⟩
      exact next _ _ _ _ _ (kk_mov (o := o) hb x9 f9 hpl (by omega) he hk h14)
theorem e_pack {a1 : Int32} {s : Nat} (h1 : a1.toInt = s) (hs : s < 8) (σ : sm_S) (hk : kk σ) : xC xD j_Y_pack [.ref 0, .int a1] σ (sm_I (fun _ => kk)) :=
  d_Y_pack a1 σ _ (l_pack h1 hs 32 _ _ _ _ _ σ rfl (by omega) hk)
theorem l_bringNearer (a1 : Int32) : ∀ (d k : Nat) (a2 a3 : Int32) (v4 : Value) (σ : sm_S), a3.toInt = k → k + d = 96 → kk σ → xE xD m_Y_bringNearer 4 [.ref 0, .int a1, .int a2, .int a3, v4] [] σ (sm_I (fun _ => kk)) := by
  intro d
  induction d with
  | zero =>
    intro k a2 a3 v4 σ h3 hk hkk
    refine d_Y_bringNearer_4 a1 a2 a3 v4 σ _ ⟨fun _ => ⟨_, rfl, hkk⟩, fun h => absurd ?_ h⟩
    rw [t_le, h3]
    show (96 : Int) ≤ _
    omega
  | succ d ih =>
    intro k a2 a3 v4 σ h3 hk hkk
    have h3' : (a3 + 1).toInt = ((k + 1 : Nat) : Int) := by
      rw [t_add h3 (y := 1) rfl (by omega) (by omega)]
      omega
    have next : ∀ (b2 : Int32) (v4 : Value) (τ : sm_S), kk τ → xE xD m_Y_bringNearer 4 [.ref 0, .int a1, .int b2, .int (a3 + 1), v4] [] τ (sm_I (fun _ => kk)) := fun b2 v4 τ hτ => ih (k + 1) _ _ _ τ h3' (by omega) hτ
    refine d_Y_bringNearer_4 a1 a2 a3 v4 σ _ ⟨fun _ => ⟨_, rfl, hkk⟩, fun _ => (e_has a3 σ).int ?_⟩
    rintro x2 σ ⟨hx2, rfl⟩
    refine ⟨fun _ => ⟨fun _ => next _ _ _ hkk, fun z => absurd rfl z⟩, fun n2 => ?_⟩
    obtain ⟨-, b, hb, hb2, h9⟩ := hx2.resolve_right n2
    obtain ⟨f, o, w, he⟩ := kb_has (hkk.1 b hb) h9
    refine ⟨t_vp hb2 hb, fun _ => ⟨fun _ => next _ _ _ hkk, fun z => absurd rfl z⟩, fun _ => (e_nearerPlace hb2 hb σ he).int ?_⟩
    rintro x6 σ ⟨hx6, rfl⟩
    refine ⟨fun _ => next _ _ _ hkk, fun n6 => ?_⟩
    obtain ⟨h14, p, p1, p2⟩ := hx6.resolve_left n6
    refine (e_moveAtOnce hb2 hb p1 σ he p2).void ?_
    rintro σ9 ⟨x9, f9⟩
    exact next _ _ _ (kk_mov (o := o) hb x9 f9 p1 p2 he hkk h14)
theorem e_bringNearer (a1 : Int32) (σ : sm_S) (hk : kk σ) : xC xD j_Y_bringNearer [.ref 0, .int a1] σ (sm_I (fun _ => kk)) :=
  d_Y_bringNearer a1 σ _ (l_bringNearer a1 96 0 _ 0 _ σ rfl rfl hk)
end
