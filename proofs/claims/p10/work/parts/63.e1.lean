/-! ===== the class: what holds between the calls of one Memory; what only looks ===== -/
/-- block b: its first frame, order, owner -/
def eb (σ : sm_S) (b f o w : Nat) : Prop := (σ 9 b).toInt = f ∧ (σ 10 b).toInt = o ∧ o ≤ 4 ∧ f + 2 ^ o ≤ 256 ∧ (σ 12 b).toInt = w ∧ w < 6
def kb (σ : sm_S) (b : Nat) : Prop := (σ 9 b = -1 ∧ σ 14 b = -1 ∧ σ 15 b = 0) ∨ ∃ f o w, eb σ b f o w ∧ ((σ 14 b = -1 ∧ σ 15 b = 0) ∨ ∃ t c : Nat, (σ 14 b).toInt = t ∧ t + 2 ^ o ≤ 256 ∧ (σ 15 b).toInt = c ∧ c ≤ 2 ^ o ∧ (σ 24 (f / 32)).toInt = b)
def ks (σ : sm_S) (s : Nat) : Prop := ∃ sh r : Nat, (σ 20 s).toInt = sh ∧ sh ≤ 4 ∧ (σ 18 s ≠ 3 → sh ≤ 3) ∧ (σ 23 s).toInt = r ∧ r ≤ 64 ∧ (σ 24 s = -1 ∨ ∃ b f : Nat, b < 96 ∧ (σ 24 s).toInt = b ∧ σ 18 s = 3 ∧ σ 14 b ≠ -1 ∧ (σ 9 b).toInt = f ∧ f / 32 = s)
def kt (σ : sm_S) : Prop := ∃ L : Nat, (σ 26 7).toInt = L ∧ L ≤ 6 ∧ (∀ k, k < L → ∃ t : Nat, t < 6 ∧ (σ 33 k).toInt = t) ∧ ∀ t, t < 6 → σ 28 t = -1 ∨ ((∃ k, k < L ∧ (σ 33 k).toInt = t) ∧ ∃ b o a : Nat, b < 96 ∧ (σ 28 t).toInt = b ∧ σ 14 b ≠ -1 ∧ (σ 10 b).toInt = o ∧ (σ 31 t).toInt = a ∧ a < 2 ^ o)
def kf (σ : sm_S) : Prop := ∀ f, f < 256 → ∃ m : Nat, m ≤ 96 ∧ (σ 6 f).toInt = (m : Int) - 1
def kl (σ : sm_S) : Prop := ∃ n : Nat, n < 60 ∧ (σ 34 5).toInt = n
def kk (σ : sm_S) : Prop := (∀ b, b < 96 → kb σ b) ∧ (∀ s, s < 8 → ks σ s) ∧ kt σ ∧ kf σ ∧ kl σ ∧ 0 ≤ (σ 39 0).toInt
theorem m1 : (-1 : Int32).toInt = -1 := rfl
theorem ne_m1 {x : Int32} {n : Nat} (h : x.toInt = n) : x ≠ -1 := fun z => by rw [z, m1] at h; omega
theorem kb_has {σ : sm_S} {b : Nat} (h : kb σ b) (h9 : σ 9 b ≠ -1) : ∃ f o w, eb σ b f o w := by
  rcases h with h | ⟨f, o, w, h, -⟩
  · exact absurd h.1 h9
  · exact ⟨f, o, w, h⟩
theorem e_isTask (a : Int32) (σ : sm_S) : xC xD j_A_isTask [.int a] σ (sm_I (fun x σ' => ((x = 1 ∧ ∃ n : Nat, n < 6 ∧ a.toInt = n) ∨ x = 0) ∧ σ' = σ)) := by
  refine d_A_isTask a σ _ ⟨fun _ => ⟨Or.inl rfl, _, rfl, Or.inr rfl, rfl⟩, fun h => ⟨fun _ => ⟨Or.inl rfl, _, rfl, Or.inr rfl, rfl⟩, fun h2 => ⟨Or.inr rfl, _, rfl, Or.inl ⟨rfl, ?_⟩, rfl⟩⟩⟩
  rw [t_lt] at h
  rw [t_le] at h2
  have h : ¬ a.toInt < (0 : Int) := h
  have h2 : ¬ (6 : Int) ≤ a.toInt := h2
  obtain ⟨n, hn⟩ := t_of (x := a) (by omega)
  exact ⟨n, by omega, hn⟩
theorem e_isLoose {a1 : Int32} {n : Nat} (h1 : a1.toInt = n) (hn : n < 96) (σ : sm_S) : xC xD j_B_isLoose [.ref 8, .int a1] σ (sm_I (fun x σ' => ((x = 1 ∧ σ 13 n = 0 ∧ σ 14 n = -1) ∨ x = 0) ∧ σ' = σ)) := by
  refine d_B_isLoose a1 σ _ ?_
  rw [t_nat h1]
  exact ⟨t_vp h1 hn, fun _ => ⟨Or.inl rfl, _, rfl, Or.inr rfl, rfl⟩, fun h => ⟨t_vp h1 hn, fun _ => ⟨Or.inl rfl, _, rfl, Or.inr rfl, rfl⟩, fun h2 => ⟨Or.inr rfl, _, rfl, Or.inl ⟨rfl, Classical.not_not.mp h, Classical.not_not.mp h2⟩, rfl⟩⟩⟩
theorem e_has (a1 : Int32) (σ : sm_S) : xC xD j_B_has [.ref 8, .int a1] σ (sm_I (fun x σ' => ((x = 1 ∧ ∃ n : Nat, n < 96 ∧ a1.toInt = n ∧ σ 9 n ≠ -1) ∨ x = 0) ∧ σ' = σ)) := by
  refine d_B_has a1 σ _ ⟨fun _ => ⟨Or.inl rfl, _, rfl, Or.inr rfl, rfl⟩, fun h => ⟨fun _ => ⟨Or.inl rfl, _, rfl, Or.inr rfl, rfl⟩, fun h2 => ?_⟩⟩
  rw [t_lt] at h
  rw [t_le] at h2
  have h : ¬ a1.toInt < (0 : Int) := h
  have h2 : ¬ (96 : Int) ≤ a1.toInt := h2
  obtain ⟨n, hn⟩ := t_of (x := a1) (by omega)
  rw [t_nat hn]
  exact ⟨t_vp hn (by omega), fun _ => ⟨Or.inl rfl, _, rfl, Or.inr rfl, rfl⟩, fun h3 => ⟨Or.inr rfl, _, rfl, Or.inl ⟨rfl, n, by omega, hn, h3⟩, rfl⟩⟩
theorem e_size {a1 : Int32} {n : Nat} (h1 : a1.toInt = n) (hn : n < 96) (σ : sm_S) : xC xD j_B_size [.ref 8, .int a1] σ (sm_I (fun x σ' => x = (1 : Int32) <<< (σ 10 n &&& 31) ∧ σ' = σ)) := by
  refine d_B_size a1 σ _ ⟨t_vp h1 hn, _, rfl, ?_, rfl⟩
  rw [t_nat h1]
theorem e_shutBits {a1 : Int32} {n : Nat} (h1 : a1.toInt = n) (hn : n < 8) (σ : sm_S) : xC xD j_S_shutBits [.ref 17, .int a1] σ (sm_I (fun _ σ' => σ' = σ)) :=
  d_S_shutBits a1 σ _ ⟨t_vp h1 hn, fun _ => ⟨t_vp h1 hn, _, rfl, rfl⟩, fun _ => ⟨_, rfl, rfl⟩⟩
theorem l_leastNumber (σ : sm_S) : ∀ (d k : Nat) (a1 : Int32), a1.toInt = k → k + d = 96 → xE xD m_B_leastNumber 2 [.ref 8, .int a1] [] σ (sm_I (fun x σ' => (x = -1 ∨ ∃ n : Nat, n < 96 ∧ x.toInt = n ∧ σ 9 n = -1) ∧ σ' = σ)) := by
  intro d
  induction d with
  | zero =>
    intro k a1 h1 hk
    refine d_B_leastNumber_2 a1 σ _ ⟨fun _ => ⟨_, rfl, Or.inl rfl, rfl⟩, fun h => absurd ?_ h⟩
    rw [t_le, h1]
    show (96 : Int) ≤ _
    omega
  | succ d ih =>
    intro k a1 h1 hk
    have h1' : (a1 + 1).toInt = ((k + 1 : Nat) : Int) := by
      rw [t_add h1 (y := 1) rfl (by omega) (by omega)]
      omega
    refine d_B_leastNumber_2 a1 σ _ ⟨fun _ => ⟨_, rfl, Or.inl rfl, rfl⟩, fun _ => ⟨t_vp h1 (by omega), fun _ => ih (k + 1) _ h1' (by omega), fun h => ⟨_, rfl, Or.inr ⟨k, by omega, h1, ?_⟩, rfl⟩⟩⟩
    rw [t_nat h1] at h
    exact Classical.not_not.mp h
theorem e_leastNumber (σ : sm_S) : xC xD j_B_leastNumber [.ref 8] σ (sm_I (fun x σ' => (x = -1 ∨ ∃ n : Nat, n < 96 ∧ x.toInt = n ∧ σ 9 n = -1) ∧ σ' = σ)) := d_B_leastNumber σ _ (l_leastNumber σ 96 0 0 rfl rfl)
def luc (σ : sm_S) (x : Int32) : Prop := x = -1 ∨ ∃ n : Nat, n < 96 ∧ x.toInt = n ∧ σ 9 n ≠ -1 ∧ σ 11 n = 2 ∧ σ 13 n = 0 ∧ σ 14 n = -1
theorem l_leastUsedCache (σ : sm_S) : ∀ (d k : Nat) (a1 a2 : Int32), a2.toInt = k → k + d = 96 → luc σ a1 → xE xD m_B_leastUsedCache 4 [.ref 8, .int a1, .int a2] [] σ (sm_I (fun x σ' => luc σ x ∧ σ' = σ)) := by
  intro d
  induction d with
  | zero =>
    intro k a1 a2 h2 hk hl
    refine d_B_leastUsedCache_4 a1 a2 σ _ ⟨fun _ => ⟨_, rfl, hl, rfl⟩, fun h => absurd ?_ h⟩
    rw [t_le, h2]
    show (96 : Int) ≤ _
    omega
  | succ d ih =>
    intro k a1 a2 h2 hk hl
    have h2' : (a2 + 1).toInt = ((k + 1 : Nat) : Int) := by
      rw [t_add h2 (y := 1) rfl (by omega) (by omega)]
      omega
    have next : ∀ b : Int32, luc σ b → xE xD m_B_leastUsedCache 4 [.ref 8, .int b, .int (a2 + 1)] [] σ (sm_I (fun x σ' => luc σ x ∧ σ' = σ)) := fun b hb => ih (k + 1) b _ h2' (by omega) hb
    have v2 : vp_in a2 96 := t_vp h2 (by omega)
    refine d_B_leastUsedCache_4 a1 a2 σ _ ⟨fun _ => ⟨_, rfl, hl, rfl⟩, fun _ => ⟨v2, fun _ => next _ hl, fun n9 => ⟨v2, fun _ => next _ hl, fun n11 => (e_isLoose h2 (by omega) σ).int ?_⟩⟩⟩
    rw [t_nat h2] at n9 n11
    rintro x2 σ ⟨hx2, rfl⟩
    refine ⟨fun _ => next _ hl, fun n2 => ?_⟩
    obtain ⟨-, g1, g2⟩ := hx2.resolve_right n2
    have new : luc σ a2 := Or.inr ⟨k, by omega, h2, n9, Classical.not_not.mp n11, g1, g2⟩
    refine ⟨fun _ => next _ new, fun na => ⟨v2, ?_, fun _ => next _ hl, fun _ => next _ new⟩⟩
    obtain ⟨n, hn, hn2, -⟩ := hl.resolve_left na
    exact t_vp hn2 hn
theorem e_leastUsedCache (σ : sm_S) : xC xD j_B_leastUsedCache [.ref 8] σ (sm_I (fun x σ' => luc σ x ∧ σ' = σ)) := d_B_leastUsedCache σ _ (l_leastUsedCache σ 96 0 _ 0 rfl rfl (Or.inl rfl))
theorem l_canGo {a1 : Int32} {n : Nat} (σ : sm_S) (hon : σ 18 n = 1) : ∀ (d k : Nat) (a2 : Int32), a2.toInt = k → k + d = 8 → xE xD m_S_canGo 14 [.ref 17, .int a1, .int a2] [] σ (sm_I (fun x σ' => (x = 0 ∨ (x = 1 ∧ σ 18 n = 1)) ∧ σ' = σ)) := by
  intro d
  induction d with
  | zero =>
    intro k a2 h2 hk
    refine d_S_canGo_14 a1 a2 σ _ ⟨fun _ => ⟨Or.inl rfl, _, rfl, Or.inl rfl, rfl⟩, fun h => absurd ?_ h⟩
    rw [t_le, h2]
    show (8 : Int) ≤ _
    omega
  | succ d ih =>
    intro k a2 h2 hk
    have h2' : (a2 + 1).toInt = ((k + 1 : Nat) : Int) := by
      rw [t_add h2 (y := 1) rfl (by omega) (by omega)]
      omega
    have next := ih (k + 1) (a2 + 1) h2' (by omega)
    have v := t_vp (N := 8) h2 (by omega)
    exact d_S_canGo_14 a1 a2 σ _ ⟨fun _ => ⟨Or.inl rfl, _, rfl, Or.inl rfl, rfl⟩, fun _ => ⟨fun _ => next, fun _ => ⟨v, fun _ => next, fun _ => ⟨v, fun _ => next, fun _ => ⟨Or.inr rfl, _, rfl, Or.inr ⟨rfl, hon⟩, rfl⟩⟩⟩⟩⟩
theorem e_canGo {a1 : Int32} {n : Nat} (h1 : a1.toInt = n) (hn : n < 8) (σ : sm_S) : xC xD j_S_canGo [.ref 17, .int a1] σ (sm_I (fun x σ' => (x = 0 ∨ (x = 1 ∧ σ 18 n = 1)) ∧ σ' = σ)) := by
  refine d_S_canGo a1 σ _ ⟨t_vp h1 hn, fun h => l_canGo σ ?_ 8 0 0 rfl rfl, fun _ => ⟨Or.inl rfl, _, rfl, Or.inl rfl, rfl⟩⟩
  rw [t_nat h1] at h
  exact h
theorem l_inZone (a1 : Int32) (σ : sm_S) : ∀ (d k : Nat) (a2 a3 : Int32), a3.toInt = k → k + d = 8 → 0 ≤ a2.toInt → a2.toInt ≤ k → xE xD m_S_inZone 4 [.ref 17, .int a1, .int a2, .int a3] [] σ (sm_I (fun x σ' => (0 ≤ x.toInt ∧ x.toInt ≤ 8) ∧ σ' = σ)) := by
  intro d
  induction d with
  | zero =>
    intro k a2 a3 h3 hk l1 l2
    refine d_S_inZone_4 a1 a2 a3 σ _ ⟨fun _ => ⟨_, rfl, ⟨l1, by omega⟩, rfl⟩, fun h => absurd ?_ h⟩
    rw [t_le, h3]
    show (8 : Int) ≤ _
    omega
  | succ d ih =>
    intro k a2 a3 h3 hk l1 l2
    have h3' : (a3 + 1).toInt = ((k + 1 : Nat) : Int) := by
      rw [t_add h3 (y := 1) rfl (by omega) (by omega)]
      omega
    have e0 : (a2 + 0).toInt = a2.toInt := by rw [t_add (x := a2.toInt) rfl (y := 0) rfl (by omega) (by omega)]; omega
    have e1 : (a2 + 1).toInt = a2.toInt + 1 := by rw [t_add (x := a2.toInt) rfl (y := 1) rfl (by omega) (by omega)]
    exact d_S_inZone_4 a1 a2 a3 σ _ ⟨fun _ => ⟨_, rfl, ⟨l1, by omega⟩, rfl⟩, fun _ => ⟨t_vp h3 (by omega), fun _ => ih (k + 1) _ _ h3' (by omega) (by omega) (by omega), fun _ => ih (k + 1) _ _ h3' (by omega) (by omega) (by omega)⟩⟩
theorem e_inZone (a1 : Int32) (σ : sm_S) : xC xD j_S_inZone [.ref 17, .int a1] σ (sm_I (fun x σ' => (0 ≤ x.toInt ∧ x.toInt ≤ 8) ∧ σ' = σ)) := d_S_inZone a1 σ _ (l_inZone a1 σ 8 0 0 0 rfl rfl (by decide) (by decide))
theorem e_isGoing {a1 : Int32} {n : Nat} (h1 : a1.toInt = n) (hn : n < 8) (σ : sm_S) : xC xD j_S_isGoing [.ref 17, .int a1] σ (sm_I (fun x σ' => ((x = 1 ∧ (σ 18 n = 2 ∨ σ 18 n = 3)) ∨ x = 0) ∧ σ' = σ)) := by
  refine d_S_isGoing a1 σ _ ?_
  rw [t_nat h1]
  exact ⟨t_vp h1 hn, fun h => ⟨Or.inr rfl, _, rfl, Or.inl ⟨rfl, Or.inl h⟩, rfl⟩, fun _ => ⟨t_vp h1 hn, fun _ => ⟨Or.inl rfl, _, rfl, Or.inr rfl, rfl⟩, fun h => ⟨Or.inr rfl, _, rfl, Or.inl ⟨rfl, Or.inr (Classical.not_not.mp h)⟩, rfl⟩⟩⟩
def nbt (σ : sm_S) (x : Int32) : Prop := x = -1 ∨ ∃ n : Nat, n < 8 ∧ x.toInt = n ∧ σ 18 n = 0
theorem l_nextByTurns21 (σ : sm_S) {a3 : Int32} (K : ∀ (a1 a2 a4 a5 a6 : Int32), nbt σ a1 → xE xD m_S_nextByTurns 7 [.ref 17, .int a1, .int a2, .int (a3 + 1), .int a4, .int a5, .int a6] [] σ (sm_I (fun x σ' => nbt σ x ∧ σ' = σ))) : ∀ (d k : Nat) (a1 a2 a4 a5 a6 : Int32), a6.toInt = k → 8 ≤ k + d → k ≤ 20 → nbt σ a1 → nbt σ a5 → xE xD m_S_nextByTurns 21 [.ref 17, .int a1, .int a2, .int a3, .int a4, .int a5, .int a6] [] σ (sm_I (fun x σ' => nbt σ x ∧ σ' = σ)) := by
  intro d
  induction d with
  | zero =>
    intro k a1 a2 a4 a5 a6 h6 hk hk2 b1 b5
    refine d_S_nextByTurns_21 a1 a2 a3 a4 a5 a6 σ _ ⟨fun _ => ⟨fun _ => K _ _ _ _ _ b1, fun _ => ⟨fun _ => K _ _ _ _ _ b1, fun _ => K _ _ _ _ _ b5⟩⟩, fun h => absurd ?_ h⟩
    rw [t_le, h6]
    show (8 : Int) ≤ _
    omega
  | succ d ih =>
    intro k a1 a2 a4 a5 a6 h6 hk hk2 b1 b5
    refine d_S_nextByTurns_21 a1 a2 a3 a4 a5 a6 σ _ ⟨fun _ => ⟨fun _ => K _ _ _ _ _ b1, fun _ => ⟨fun _ => K _ _ _ _ _ b1, fun _ => K _ _ _ _ _ b5⟩⟩, fun h => ?_⟩
    rw [t_le, h6] at h
    have h : ¬ (8 : Int) ≤ k := h
    have h6' : (a6 + 2).toInt = ((k + 2 : Nat) : Int) := by
      rw [t_add h6 (y := 2) rfl (by omega) (by omega)]
      omega
    have next : ∀ b4 b5 : Int32, nbt σ b5 → xE xD m_S_nextByTurns 21 [.ref 17, .int a1, .int a2, .int a3, .int b4, .int b5, .int (a6 + 2)] [] σ (sm_I (fun x σ' => nbt σ x ∧ σ' = σ)) := fun b4 b5 hb => ih (k + 2) _ _ _ _ _ h6' (by omega) (by omega) b1 hb
    refine ⟨t_vp h6 (by omega), fun h0 => ⟨fun _ => next _ _ b5, fun _ => next _ _ (Or.inr ⟨k, by omega, h6, ?_⟩)⟩, fun _ => next _ _ b5⟩
    rw [t_nat h6] at h0
    exact h0
theorem e_nextByTurns (σ : sm_S) : xC xD j_S_nextByTurns [.ref 17] σ (sm_I (fun x σ' => nbt σ x ∧ σ' = σ)) := by
  have k2 : ∀ (a1 a2 : Int32) (v4 v5 v6 : Value), nbt σ a1 → xE xD m_S_nextByTurns 7 [.ref 17, .int a1, .int a2, .int 2, v4, v5, v6] [] σ (sm_I (fun x σ' => nbt σ x ∧ σ' = σ)) := fun a1 a2 v4 v5 v6 b => d_S_nextByTurns_7 a1 a2 2 v4 v5 v6 σ _ ⟨fun _ => ⟨_, rfl, b, rfl⟩, fun h => absurd (by decide) h⟩
  have k1 : ∀ (a1 a2 : Int32) (v4 v5 v6 : Value), nbt σ a1 → xE xD m_S_nextByTurns 7 [.ref 17, .int a1, .int a2, .int 1, v4, v5, v6] [] σ (sm_I (fun x σ' => nbt σ x ∧ σ' = σ)) := fun a1 a2 v4 v5 v6 b => d_S_nextByTurns_7 a1 a2 1 v4 v5 v6 σ _ ⟨fun h => absurd h (by decide), fun _ => l_nextByTurns21 σ (a3 := 1) (fun _ _ _ _ _ hb => k2 _ _ _ _ _ hb) 8 1 a1 a2 _ _ 1 rfl (by omega) (by omega) b (Or.inl rfl)⟩
  exact d_S_nextByTurns σ _ (d_S_nextByTurns_7 _ _ 0 _ _ _ σ _ ⟨fun h => absurd h (by decide), fun _ => l_nextByTurns21 σ (a3 := 0) (fun _ _ _ _ _ hb => k1 _ _ _ _ _ hb) 8 0 _ _ _ _ 0 rfl (by omega) (by omega) (Or.inl rfl) (Or.inl rfl)⟩)
/-- a frame's block -/
theorem kf_at {σ : sm_S} (h : kf σ) {f : Nat} (hf : f < 256) (hne : σ 6 f ≠ -1) : ∃ b : Nat, b < 96 ∧ (σ 6 f).toInt = b := by
  obtain ⟨m, h1, h2⟩ := h f hf
  have : m ≠ 0 := fun z => hne (t_inj (by rw [h2, z]; rfl))
  exact ⟨m - 1, by omega, by omega⟩
theorem e_blockAt {a1 : Int32} {n : Nat} (h1 : a1.toInt = n) (hn : n < 256) (σ : sm_S) (hf : kf σ) : xC xD j_Y_blockAt [.ref 0, .int a1] σ (sm_I (fun x σ' => (x = -1 ∨ ∃ b : Nat, b < 96 ∧ x.toInt = b ∧ (σ 9 b).toInt = n) ∧ σ' = σ)) := by
  refine d_Y_blockAt a1 σ _ ?_
  rw [t_nat h1]
  refine ⟨t_vp h1 hn, fun _ => ⟨_, rfl, Or.inl rfl, rfl⟩, fun hne => ?_⟩
  obtain ⟨b, hb, hb2⟩ := kf_at hf hn hne
  rw [t_nat hb2]
  refine ⟨t_vp hb2 hb, fun _ => ⟨_, rfl, Or.inl rfl, rfl⟩, fun h9 => ⟨_, rfl, Or.inr ⟨b, hb, hb2, ?_⟩, rfl⟩⟩
  rw [Classical.not_not.mp h9]; exact h1
theorem e_staysInRatio (a1 a2 : Int32) (σ : sm_S) : xC xD j_Y_staysInRatio [.ref 0, .int a1, .int a2] σ (sm_I (fun x σ' => (x = 0 ∨ x = 1) ∧ σ' = σ)) :=
  d_Y_staysInRatio a1 a2 σ _ ⟨t_vp (n := 2) rfl (by omega), fun _ => ⟨Or.inl rfl, _, rfl, Or.inl rfl, rfl⟩, fun _ => ⟨Or.inr rfl, _, rfl, Or.inr rfl, rfl⟩⟩
theorem e_zoneByRatio (σ : sm_S) : xC xD j_Y_zoneByRatio [.ref 0] σ (sm_I (fun x σ' => (x = 0 ∨ x = 1) ∧ σ' = σ)) := by
  refine d_Y_zoneByRatio σ _ ((e_inZone _ σ).int ?_)
  rintro x2 σ ⟨-, rfl⟩
  refine (e_inZone _ _).int ?_
  rintro x4 σ ⟨-, rfl⟩
  refine (e_staysInRatio _ _ _).int ?_
  rintro x6 σ ⟨-, rfl⟩
  exact ⟨fun _ => ⟨_, rfl, Or.inl rfl, rfl⟩, fun _ => ⟨_, rfl, Or.inr rfl, rfl⟩⟩
theorem t_s32 {a : Int32} {s : Nat} (h : a.toInt = s) (hs : s < 10) : (a * 32).toInt = ((32 * s : Nat) : Int) := by
  rw [t_mul h (y := 32) rfl (by omega) (by omega)]
  omega
theorem t_s33 {a : Int32} {s : Nat} (h : a.toInt = s) (hs : s < 9) : ((a + 1) * 32).toInt = ((32 * s + 32 : Nat) : Int) := by
  have h1 : (a + 1).toInt = ((s + 1 : Nat) : Int) := by
    rw [t_add h (y := 1) rfl (by omega) (by omega)]
    omega
  rw [t_s32 h1 (by omega)]
  omega
theorem l_blockFrom {a1 a2 : Int32} {s : Nat} (h1 : a1.toInt = s) (hs : s < 8) (σ : sm_S) (hf : kf σ) : ∀ (d k : Nat) (a3 : Int32) (v4 : Value), a3.toInt = k → 32 * s ≤ k → 32 * s + 32 ≤ k + d → xE xD m_G_blockFrom 7 [.ref 41, .int a1, .int a2, .int a3, v4] [] σ (sm_I (fun x σ' => (x = -1 ∨ ∃ b f : Nat, b < 96 ∧ x.toInt = b ∧ (σ 9 b).toInt = f ∧ f / 32 = s) ∧ σ' = σ)) := by
  intro d
  induction d with
  | zero =>
    intro k a3 v4 h3 hk hk2
    refine d_G_blockFrom_7 a1 a2 a3 v4 σ _ ⟨fun _ => ⟨_, rfl, Or.inl rfl, rfl⟩, fun h => absurd ?_ h⟩
    rw [t_le, h3, t_s33 h1 (by omega)]
    omega
  | succ d ih =>
    intro k a3 v4 h3 hk hk2
    refine d_G_blockFrom_7 a1 a2 a3 v4 σ _ ⟨fun _ => ⟨_, rfl, Or.inl rfl, rfl⟩, fun h => ?_⟩
    rw [t_le, h3, t_s33 h1 (by omega)] at h
    have h3' : (a3 + 1).toInt = ((k + 1 : Nat) : Int) := by
      rw [t_add h3 (y := 1) rfl (by omega) (by omega)]
      omega
    refine ⟨t_vp h3 (by omega), fun _ => ih (k + 1) _ _ h3' (by omega) (by omega), fun hne => ?_⟩
    rw [t_nat h3] at hne ⊢
    obtain ⟨b, hb, hb2⟩ := kf_at hf (by omega) hne
    rw [t_nat hb2]
    refine ⟨t_vp hb2 hb, fun _ => ih (k + 1) _ _ h3' (by omega) (by omega), fun h9 => ⟨_, rfl, Or.inr ⟨b, k, hb, hb2, ?_, by omega⟩, rfl⟩⟩
    rw [Classical.not_not.mp h9]; exact h3
theorem e_blockFrom {a1 a2 : Int32} {s r : Nat} (h1 : a1.toInt = s) (hs : s < 8) (h2 : a2.toInt = r) (hr : r ≤ 64) (σ : sm_S) (hf : kf σ) : xC xD j_G_blockFrom [.ref 41, .int a1, .int a2] σ (sm_I (fun x σ' => (x = -1 ∨ ∃ b f : Nat, b < 96 ∧ x.toInt = b ∧ (σ 9 b).toInt = f ∧ f / 32 = s) ∧ σ' = σ)) := by
  refine d_G_blockFrom a1 a2 σ _ (l_blockFrom h1 hs σ hf 32 (32 * s + r) _ _ ?_ (by omega) (by omega))
  rw [t_add (t_s32 h1 (by omega)) h2 (by omega) (by omega)]
  omega
theorem l_hasUnmovable {a1 : Int32} {q : Nat} (h1 : a1.toInt = q) (hq : q < 400) (σ : sm_S) (hf : kf σ) : ∀ (d k : Nat) (a2 : Int32) (v3 : Value), a2.toInt = k → q + 8 ≤ k + d → xE xD m_G_hasUnmovable 2 [.ref 41, .int a1, .int a2, v3] [] σ (sm_I (fun _ σ' => σ' = σ)) := by
  have h8 : (a1 + 8).toInt = ((q + 8 : Nat) : Int) := by
    rw [t_add h1 (y := 8) rfl (by omega) (by omega)]
    omega
  intro d
  induction d with
  | zero =>
    intro k a2 v3 h2 hk
    refine d_G_hasUnmovable_2 a1 a2 v3 σ _ ⟨fun _ => ⟨Or.inl rfl, _, rfl, rfl⟩, fun h => absurd ?_ h⟩
    rw [t_le, h2, h8]
    omega
  | succ d ih =>
    intro k a2 v3 h2 hk
    refine d_G_hasUnmovable_2 a1 a2 v3 σ _ ⟨fun _ => ⟨Or.inl rfl, _, rfl, rfl⟩, fun h => ⟨fun _ => ⟨Or.inl rfl, _, rfl, rfl⟩, fun hl => ?_⟩⟩
    rw [t_le, h2] at hl
    have hl : ¬ (256 : Int) ≤ k := hl
    have h2' : (a2 + 1).toInt = ((k + 1 : Nat) : Int) := by
      rw [t_add h2 (y := 1) rfl (by omega) (by omega)]
      omega
    refine ⟨t_vp h2 (by omega), fun _ => ih (k + 1) _ _ h2' (by omega), fun hne => ?_⟩
    rw [t_nat h2] at hne ⊢
    obtain ⟨b, hb, hb2⟩ := kf_at hf (by omega) hne
    exact ⟨t_vp hb2 hb, fun _ => ih (k + 1) _ _ h2' (by omega), fun _ => ⟨Or.inr rfl, _, rfl, rfl⟩⟩
theorem e_hasUnmovable {a1 : Int32} {q : Nat} (h1 : a1.toInt = q) (hq : q < 400) (σ : sm_S) (hf : kf σ) : xC xD j_G_hasUnmovable [.ref 41, .int a1] σ (sm_I (fun _ σ' => σ' = σ)) :=
  d_G_hasUnmovable a1 σ _ (l_hasUnmovable h1 hq σ hf 8 q a1 _ h1 (by omega))
theorem e_whyFails {a1 : Int32} {s : Nat} (h1 : a1.toInt = s) (hs : s < 8) (σ : sm_S) (hf : kf σ) : xC xD j_G_whyFails [.ref 41, .int a1] σ (sm_I (fun _ σ' => σ' = σ)) := by
  refine d_G_whyFails a1 σ _ ((e_blockFrom (r := 0) h1 hs rfl (by omega) σ hf).int ?_)
  rintro x2 σ ⟨hx2, rfl⟩
  refine ⟨fun hne => ?_, fun _ => ⟨_, rfl, rfl⟩⟩
  obtain ⟨b, f, hb, hb2, -⟩ := hx2.resolve_left hne
  exact ⟨t_vp hb2 hb, fun _ => ⟨t_vp hb2 hb, fun _ => ⟨_, rfl, rfl⟩, fun _ => ⟨_, rfl, rfl⟩⟩, fun _ => ⟨_, rfl, rfl⟩⟩
theorem l_hasPlaceBeside {a1 a2 a3 : Int32} {b f o w : Nat} (h2 : a2.toInt = b) (hb : b < 96) (σ : sm_S) (he : eb σ b f o w) : ∀ (d k : Nat) (a4 : Int32), a4.toInt = k → k + d = 8 → xE xD m_Y_hasPlaceBeside 21 [.ref 0, .int a1, .int a2, .int a3, .int a4] [] σ (sm_I (fun _ σ' => σ' = σ)) := by
  intro d
  induction d with
  | zero =>
    intro k a4 h4 hk
    refine d_Y_hasPlaceBeside_21 a1 a2 a3 a4 σ _ ⟨fun _ => ⟨Or.inl rfl, _, rfl, rfl⟩, fun h => absurd ?_ h⟩
    rw [t_le, h4]
    show (8 : Int) ≤ _
    omega
  | succ d ih =>
    intro k a4 h4 hk
    have h4' : (a4 + 1).toInt = ((k + 1 : Nat) : Int) := by
      rw [t_add h4 (y := 1) rfl (by omega) (by omega)]
      omega
    have next := ih (k + 1) (a4 + 1) h4' (by omega)
    have v4 := t_vp (N := 8) h4 (by omega)
    have v2 := t_vp h2 hb
    refine d_Y_hasPlaceBeside_21 a1 a2 a3 a4 σ _ ⟨fun _ => ⟨Or.inl rfl, _, rfl, rfl⟩, fun _ => ⟨fun _ => next, fun _ => ⟨v4, fun _ => next, fun _ => ⟨v2, (c_rank h4 (by omega) _ _ σ).int ?_⟩⟩⟩⟩
    rintro x2 σ rfl
    refine ⟨fun _ => next, fun _ => ⟨v4, v2, (c_starts (o := o) ?_ (by have := he.2.2.1; omega) _ _).int ?_⟩⟩
    · rw [t_nat h2]; exact he.2.1
    · rintro x4 σ ⟨-, rfl⟩
      exact ⟨fun _ => next, fun _ => ⟨Or.inr rfl, _, rfl, rfl⟩⟩
theorem e_hasPlaceBeside {a1 a2 : Int32} {b f o w : Nat} (h2 : a2.toInt = b) (hb : b < 96) (σ : sm_S) (he : eb σ b f o w) : xC xD j_Y_hasPlaceBeside [.ref 0, .int a1, .int a2] σ (sm_I (fun _ σ' => σ' = σ)) := by
  refine d_Y_hasPlaceBeside a1 a2 σ _ ?_
  rw [t_nat h2]
  exact ⟨t_vp h2 hb, t_vp he.2.2.2.2.1 he.2.2.2.2.2, l_hasPlaceBeside h2 hb σ he 8 0 0 rfl rfl⟩
theorem e_whyKeeps {a1 a2 : Int32} {b f o w : Nat} (h2 : a2.toInt = b) (hb : b < 96) (σ : sm_S) (he : eb σ b f o w) : xC xD j_Y_whyKeeps [.ref 0, .int a1, .int a2] σ (sm_I (fun _ σ' => σ' = σ)) := by
  have v2 := t_vp h2 hb
  refine d_Y_whyKeeps a1 a2 σ _ ⟨v2, fun _ => ⟨v2, fun _ => ⟨v2, fun _ => ⟨_, rfl, rfl⟩, fun _ => (e_hasPlaceBeside h2 hb σ he).int ?_⟩, fun _ => ⟨_, rfl, rfl⟩⟩, fun _ => ⟨_, rfl, rfl⟩⟩
  rintro x2 σ rfl
  exact ⟨fun _ => ⟨_, rfl, rfl⟩, fun _ => ⟨_, rfl, rfl⟩⟩
/-- a block by its first frame -/
theorem kb_at {σ : sm_S} (hk : ∀ b, b < 96 → kb σ b) {b n : Nat} (hb : b < 96) (h9 : (σ 9 b).toInt = n) : ∃ f o w, eb σ b f o w := kb_has (hk b hb) (ne_m1 h9)
theorem l_keepers {a1 : Int32} {s : Nat} (h1 : a1.toInt = s) (hs : s < 8) (σ : sm_S) (hk : kk σ) : ∀ (d k : Nat) (a2 a3 : Int32) (v4 : Value), a3.toInt = k → k + d = 32 * s + 32 → xE xD m_Y_keepers 7 [.ref 0, .int a1, .int a2, .int a3, v4] [] σ (sm_I (fun _ σ' => σ' = σ)) := by
  intro d
  induction d with
  | zero =>
    intro k a2 a3 v4 h3 hkd
    refine d_Y_keepers_7 a1 a2 a3 v4 σ _ ⟨fun _ => ⟨_, rfl, rfl⟩, fun h => absurd ?_ h⟩
    rw [t_le, h3, t_s33 h1 (by omega)]
    omega
  | succ d ih =>
    intro k a2 a3 v4 h3 hkd
    have h3' : (a3 + 1).toInt = ((k + 1 : Nat) : Int) := by
      rw [t_add h3 (y := 1) rfl (by omega) (by omega)]
      omega
    have next : ∀ (a2 : Int32) (v4 : Value), xE xD m_Y_keepers 7 [.ref 0, .int a1, .int a2, .int (a3 + 1), v4] [] σ (sm_I (fun _ σ' => σ' = σ)) := fun a2 v4 => ih (k + 1) a2 _ v4 h3' (by omega)
    refine d_Y_keepers_7 a1 a2 a3 v4 σ _ ⟨fun _ => ⟨_, rfl, rfl⟩, fun _ => (e_blockAt h3 (by omega) σ hk.2.2.2.1).int ?_⟩
    rintro x2 σ ⟨hx2, rfl⟩
    refine ⟨fun _ => next _ _, fun n2 => ?_⟩
    obtain ⟨b, hb, hb2, h9⟩ := hx2.resolve_left n2
    obtain ⟨f, o, w, he⟩ := kb_at hk.1 hb h9
    refine (e_whyKeeps hb2 hb _ he).int ?_
    rintro x4 σ rfl
    exact ⟨fun _ => next _ _, fun _ => next _ _⟩
theorem e_keepers {a1 : Int32} {s : Nat} (h1 : a1.toInt = s) (hs : s < 8) (σ : sm_S) (hk : kk σ) : xC xD j_Y_keepers [.ref 0, .int a1] σ (sm_I (fun _ σ' => σ' = σ)) :=
  d_Y_keepers a1 σ _ (l_keepers h1 hs σ hk 32 (32 * s) _ _ _ (t_s32 h1 (by omega)) (by omega))
theorem l_keeper {a1 a2 : Int32} {s : Nat} (h1 : a1.toInt = s) (hs : s < 8) (σ : sm_S) (hk : kk σ) : ∀ (d k : Nat) (a3 a4 : Int32) (v5 : Value), a4.toInt = k → k + d = 32 * s + 32 → xE xD m_Y_keeper 8 [.ref 0, .int a1, .int a2, .int a3, .int a4, v5] [] σ (sm_I (fun x σ' => (x = -1 ∨ ∃ b f o w : Nat, b < 96 ∧ x.toInt = b ∧ eb σ b f o w) ∧ σ' = σ)) := by
  intro d
  induction d with
  | zero =>
    intro k a3 a4 v5 h3 hkd
    refine d_Y_keeper_8 a1 a2 a3 a4 v5 σ _ ⟨fun _ => ⟨_, rfl, Or.inl rfl, rfl⟩, fun h => absurd ?_ h⟩
    rw [t_le, h3, t_s33 h1 (by omega)]
    omega
  | succ d ih =>
    intro k a3 a4 v5 h3 hkd
    have h3' : (a4 + 1).toInt = ((k + 1 : Nat) : Int) := by
      rw [t_add h3 (y := 1) rfl (by omega) (by omega)]
      omega
    have next : ∀ (a3 : Int32) (v5 : Value), xE xD m_Y_keeper 8 [.ref 0, .int a1, .int a2, .int a3, .int (a4 + 1), v5] [] σ (sm_I (fun x σ' => (x = -1 ∨ ∃ b f o w : Nat, b < 96 ∧ x.toInt = b ∧ eb σ b f o w) ∧ σ' = σ)) := fun a3 v5 => ih (k + 1) a3 _ v5 h3' (by omega)
    refine d_Y_keeper_8 a1 a2 a3 a4 v5 σ _ ⟨fun _ => ⟨_, rfl, Or.inl rfl, rfl⟩, fun _ => (e_blockAt h3 (by omega) σ hk.2.2.2.1).int ?_⟩
    rintro x2 σ ⟨hx2, rfl⟩
    refine ⟨fun _ => next _ _, fun n2 => ?_⟩
    obtain ⟨b, hb, hb2, h9⟩ := hx2.resolve_left n2
    obtain ⟨f, o, w, he⟩ := kb_at hk.1 hb h9
    refine (e_whyKeeps hb2 hb _ he).int ?_
    rintro x4 σ rfl
    exact ⟨fun _ => next _ _, fun _ => ⟨fun _ => next _ _, fun _ => ⟨_, rfl, Or.inr ⟨b, f, o, w, hb, hb2, he⟩, rfl⟩⟩⟩
theorem e_keeper {a1 : Int32} {s : Nat} (h1 : a1.toInt = s) (hs : s < 8) (a2 : Int32) (σ : sm_S) (hk : kk σ) : xC xD j_Y_keeper [.ref 0, .int a1, .int a2] σ (sm_I (fun x σ' => (x = -1 ∨ ∃ b f o w : Nat, b < 96 ∧ x.toInt = b ∧ eb σ b f o w) ∧ σ' = σ)) :=
  d_Y_keeper a1 a2 σ _ (l_keeper h1 hs σ hk 32 (32 * s) _ _ _ (t_s32 h1 (by omega)) (by omega))
theorem l_holdersOf {a1 : Int32} {s : Nat} (h1 : a1.toInt = s) (hs : s < 8) (σ : sm_S) (hk : kk σ) : ∀ (d k : Nat) (a2 a3 : Int32) (v4 : Value), a3.toInt = k → k + d = 32 * s + 32 → xE xD m_Y_holdersOf 7 [.ref 0, .int a1, .int a2, .int a3, v4] [] σ (sm_I (fun _ σ' => σ' = σ)) := by
  intro d
  induction d with
  | zero =>
    intro k a2 a3 v4 h3 hkd
    refine d_Y_holdersOf_7 a1 a2 a3 v4 σ _ ⟨fun _ => ⟨_, rfl, rfl⟩, fun h => absurd ?_ h⟩
    rw [t_le, h3, t_s33 h1 (by omega)]
    omega
  | succ d ih =>
    intro k a2 a3 v4 h3 hkd
    have h3' : (a3 + 1).toInt = ((k + 1 : Nat) : Int) := by
      rw [t_add h3 (y := 1) rfl (by omega) (by omega)]
      omega
    have next : ∀ (a2 : Int32) (v4 : Value), xE xD m_Y_holdersOf 7 [.ref 0, .int a1, .int a2, .int (a3 + 1), v4] [] σ (sm_I (fun _ σ' => σ' = σ)) := fun a2 v4 => ih (k + 1) a2 _ v4 h3' (by omega)
    refine d_Y_holdersOf_7 a1 a2 a3 v4 σ _ ⟨fun _ => ⟨_, rfl, rfl⟩, fun _ => (e_blockAt h3 (by omega) σ hk.2.2.2.1).int ?_⟩
    rintro x2 σ ⟨hx2, rfl⟩
    refine ⟨fun _ => next _ _, fun n2 => ?_⟩
    obtain ⟨b, hb, hb2, h9⟩ := hx2.resolve_left n2
    have v := t_vp hb2 hb
    exact ⟨v, v, fun _ => next _ _, fun _ => ⟨v, next _ _⟩⟩
theorem e_holdersOf {a1 : Int32} {s : Nat} (h1 : a1.toInt = s) (hs : s < 8) (σ : sm_S) (hk : kk σ) : xC xD j_Y_holdersOf [.ref 0, .int a1] σ (sm_I (fun _ σ' => σ' = σ)) :=
  d_Y_holdersOf a1 σ _ (l_holdersOf h1 hs σ hk 32 (32 * s) _ _ _ (t_s32 h1 (by omega)) (by omega))
/-- the best place so far: its span, its hole -/
def bpG (σ : sm_S) (o : Nat) (x y : Int32) : Prop := x = -1 ∨ ∃ s h : Nat, s < 8 ∧ x.toInt = s ∧ y.toInt = h ∧ o ≤ h ∧ h ≤ 5 ∧ al5 (st (σ 2 s) h) h ≠ 0
theorem l_bestPlaceE {a1 a2 a3 a4 : Int32} {m o : Nat} (h1 : a1.toInt = m) (hm : m < 6) (h3 : a3.toInt = o) (ho : o ≤ 4) (σ : sm_S) : ∀ (d k : Nat) (a5 a6 a7 a8 : Int32) (v9 v10 v11 : Value), a8.toInt = k → k + d = 8 → bpG σ o a5 a7 → xE xD m_Y_bestPlace 12 [.ref 0, .int a1, .int a2, .int a3, .int a4, .int a5, .int a6, .int a7, .int a8, v9, v10, v11] [] σ (sm_I (fun x σ' => (x = -1 ∨ ∃ p : Nat, x.toInt = p ∧ p + 2 ^ o ≤ 256) ∧ σ' = σ)) := by
  intro d
  induction d with
  | zero =>
    intro k a5 a6 a7 a8 v9 v10 v11 h8 hk hG
    refine d_Y_bestPlace_12 a1 a2 a3 a4 a5 a6 a7 a8 v9 v10 v11 σ _ ⟨fun _ => ⟨fun n5 => ?_, fun _ => ⟨_, rfl, Or.inl rfl, rfl⟩⟩, fun h => absurd ?_ h⟩
    · obtain ⟨s, h, hs, g1, g2, g3, g4, g5⟩ := hG.resolve_left n5
      rw [t_nat g1]
      refine ⟨t_vp g1 hs, (c_starts g2 g4 _ σ).int ?_⟩
      rintro x2 σ ⟨rfl, rfl⟩
      refine (c_alone g2 g4 _ _).int ?_
      rintro x4 σ ⟨rfl, rfl⟩
      refine (c_ntz _ _).int ?_
      rintro x6 σ ⟨hx6, rfl⟩
      obtain ⟨p, p1, p2, p3⟩ := hx6.resolve_left (fun z => g5 z.1)
      have pa := st_al g4 p1 (al5_bit p3)
      have pb : p % 2 ^ o = 0 := Nat.mod_eq_zero_of_dvd (Nat.dvd_trans (Nat.pow_dvd_pow 2 g3) (Nat.dvd_of_mod_eq_zero pa))
      have pc := t_al (by omega) pb
      refine ⟨_, rfl, Or.inr ⟨32 * s + p, ?_, by omega⟩, rfl⟩
      rw [t_add (t_s32 g1 (by omega)) p2 (by omega) (by omega)]
      omega
    · rw [t_le, h8]
      show (8 : Int) ≤ _
      omega
  | succ d ih =>
    intro k a5 a6 a7 a8 v9 v10 v11 h8 hk hG
    have h8' : (a8 + 1).toInt = ((k + 1 : Nat) : Int) := by
      rw [t_add h8 (y := 1) rfl (by omega) (by omega)]
      omega
    have next : ∀ (a5 a6 a7 : Int32) (v9 v10 v11 : Value), bpG σ o a5 a7 → xE xD m_Y_bestPlace 12 [.ref 0, .int a1, .int a2, .int a3, .int a4, .int a5, .int a6, .int a7, .int (a8 + 1), v9, v10, v11] [] σ (sm_I (fun x σ' => (x = -1 ∨ ∃ p : Nat, x.toInt = p ∧ p + 2 ^ o ≤ 256) ∧ σ' = σ)) := fun a5 a6 a7 v9 v10 v11 hG => ih (k + 1) a5 a6 a7 _ v9 v10 v11 h8' (by omega) hG
    have v8 := t_vp (N := 8) h8 (by omega)
    refine d_Y_bestPlace_12 a1 a2 a3 a4 a5 a6 a7 a8 v9 v10 v11 σ _ ⟨fun h => ?_, fun _ => ⟨v8, (c_starts h3 (by omega) _ σ).int ?_⟩⟩
    · rw [t_le, h8] at h
      have h : (8 : Int) ≤ k := h
      omega
    · rw [t_nat h8]
      rintro x8 σ ⟨rfl, rfl⟩
      refine ⟨fun _ => next _ _ _ _ _ _ hG, fun n8 => ⟨fun _ => ⟨t_vp h1 hm, (c_rank h8 (by omega) _ _ _).int ?_⟩, fun _ => ⟨v8, fun _ => ⟨t_vp h1 hm, (c_rank h8 (by omega) _ _ _).int ?_⟩, fun _ => next _ _ _ _ _ _ hG⟩⟩⟩
      all_goals
        rintro x10 σ rfl
        refine ⟨fun _ => next _ _ _ _ _ _ hG, fun _ => ⟨fun _ => (c_leastHole h3 (by omega) n8 _).int ?_, fun _ => ⟨fun _ => (c_leastHole h3 (by omega) n8 _).int ?_, fun _ => next _ _ _ _ _ _ hG⟩⟩⟩
        all_goals
          rintro x12 σ ⟨⟨h, q1, q2, q3, q4⟩, rfl⟩
          have new : bpG σ o a8 x12 := Or.inr ⟨k, h, by omega, h8, q1, q2, q3, q4⟩
          exact ⟨fun _ => next _ _ _ _ _ _ new, fun _ => ⟨fun _ => next _ _ _ _ _ _ new, fun _ => ⟨fun _ => next _ _ _ _ _ _ hG, fun _ => next _ _ _ _ _ _ new⟩⟩⟩
theorem e_bestPlace {a1 a2 a3 a4 : Int32} {m o : Nat} (h1 : a1.toInt = m) (hm : m < 6) (h3 : a3.toInt = o) (ho : o ≤ 4) (σ : sm_S) : xC xD j_Y_bestPlace [.ref 0, .int a1, .int a2, .int a3, .int a4] σ (sm_I (fun x σ' => (x = -1 ∨ ∃ p : Nat, x.toInt = p ∧ p + 2 ^ o ≤ 256) ∧ σ' = σ)) :=
  d_Y_bestPlace a1 a2 a3 a4 σ _ (l_bestPlaceE h1 hm h3 ho σ 8 0 _ _ _ 0 _ _ _ rfl rfl (Or.inl rfl))
theorem e_nearerPlace {a1 : Int32} {b f o w : Nat} (h1 : a1.toInt = b) (hb : b < 96) (σ : sm_S) (he : eb σ b f o w) : xC xD j_Y_nearerPlace [.ref 0, .int a1] σ (sm_I (fun x σ' => (x = -1 ∨ (σ 14 b = -1 ∧ ∃ p : Nat, x.toInt = p ∧ p + 2 ^ o ≤ 256)) ∧ σ' = σ)) := by
  obtain ⟨e1, e2, e3, e4, e5, e6⟩ := he
  have hp := Nat.two_pow_pos o
  have v := t_vp h1 hb
  have non : ∀ σ1 : sm_S, σ1 = σ → sm_I (fun x σ' => (x = -1 ∨ (σ 14 b = -1 ∧ ∃ p : Nat, x.toInt = p ∧ p + 2 ^ o ≤ 256)) ∧ σ' = σ) (some (.int (-1))) σ1 := fun σ1 h => ⟨_, rfl, Or.inl rfl, h⟩
  refine d_Y_nearerPlace a1 σ _ ?_
  rw [t_nat h1]
  have hsp : (σ 9 b / 32).toInt = ((f / 32 : Nat) : Int) := t_div (d := 32) e1 rfl (by decide)
  refine ⟨v, by decide, v, fun _ => non _ rfl, fun _ => (e_isLoose h1 hb σ).int ?_⟩
  rintro x2 σ ⟨hx2, rfl⟩
  refine ⟨fun _ => non _ rfl, fun n2 => ⟨t_vp hsp (by omega), fun _ => ⟨v, v, (e_bestPlace e5 e6 e2 e3 _).int ?_⟩, fun _ => non _ rfl⟩⟩
  obtain ⟨-, -, g2⟩ := hx2.resolve_right n2
  rintro x4 σ ⟨hx4, rfl⟩
  refine ⟨fun n4 => ?_, fun _ => non _ rfl⟩
  obtain ⟨p, p1, p2⟩ := hx4.resolve_left n4
  have hsp4 : (x4 / 32).toInt = ((p / 32 : Nat) : Int) := t_div (d := 32) p1 rfl (by decide)
  refine ⟨t_vp e5 e6, by decide, (c_rank hsp4 (by omega) _ _ _).int ?_⟩
  rintro x6 σ rfl
  refine (c_rank hsp (by omega) _ _ _).int ?_
  rintro x8 σ rfl
  have yes : sm_I (fun x σ' => (x = -1 ∨ (σ 14 b = -1 ∧ ∃ p : Nat, x.toInt = p ∧ p + 2 ^ o ≤ 256)) ∧ σ' = σ) (some (.int x4)) σ := ⟨_, rfl, Or.inr ⟨g2, p, p1, p2⟩, rfl⟩
  exact ⟨fun _ => ⟨fun _ => non _ rfl, fun _ => yes⟩, fun _ => ⟨fun _ => non _ rfl, fun _ => yes⟩⟩
