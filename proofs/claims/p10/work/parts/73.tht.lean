/-! ===== the class: what would be ===== -/
theorem kk_bs0 {σ : sm_S} (h : kk σ) : kk (bs 0 σ) := kk_of (fun k _ => by show σ (0 + k) = σ k; rw [Nat.zero_add]) h
theorem bs0_kk {σ : sm_S} (h : kk (bs 0 σ)) : kk σ := kk_of (fun k _ => by show σ k = σ (0 + k); rw [Nat.zero_add]) h
theorem l_canGoT {a1 : Int32} {n : Nat} (σ : sm_S) (hon : σ 104 n = 1) : ∀ (d k : Nat) (a2 : Int32), a2.toInt = k → k + d = 8 → xE xF m_S_canGo 14 [.ref 103, .int a1, .int a2] [] σ (sm_I (fun x σ' => (x = 0 ∨ (x = 1 ∧ σ 104 n = 1)) ∧ σ' = σ)) := by
  intro d
  induction d with
  | zero =>
    intro k a2 h2 hk
    refine f_S_canGo_t_14 a1 a2 σ _ ⟨fun _ => ⟨Or.inl rfl, _, rfl, Or.inl rfl, rfl⟩, fun h => absurd ?_ h⟩
    rw [t_le, h2]
    show (8 : Int) ≤ _
    omega
  | succ d ih =>
    intro k a2 h2 hk
    have h2' : (a2 + 1).toInt = ((k + 1 : Nat) : Int) := by
      rw [t_add h2 (y := 1) rfl (by omega) (by omega)]
      omega
    have next := ih (k + 1) (a2 + 1) h2' (by omega)
    have v := t_vp (N := 8) h2 (by omega)
    exact f_S_canGo_t_14 a1 a2 σ _ ⟨fun _ => ⟨Or.inl rfl, _, rfl, Or.inl rfl, rfl⟩, fun _ => ⟨fun _ => next, fun _ => ⟨v, fun _ => next, fun _ => ⟨v, fun _ => next, fun _ => ⟨Or.inr rfl, _, rfl, Or.inr ⟨rfl, hon⟩, rfl⟩⟩⟩⟩⟩
theorem g_canGo_t {a1 : Int32} {n : Nat} (h1 : a1.toInt = n) (hn : n < 8) (σ : sm_S) : xC xF j_S_canGo [.ref 103, .int a1] σ (sm_I (fun x σ' => (x = 0 ∨ (x = 1 ∧ σ 104 n = 1)) ∧ σ' = σ)) := by
  refine f_S_canGo_t a1 σ _ ⟨t_vp h1 hn, fun h => l_canGoT σ ?_ 8 0 0 rfl rfl, fun _ => ⟨Or.inl rfl, _, rfl, Or.inl rfl, rfl⟩⟩
  rw [t_nat h1] at h
  exact h
theorem g_canGo_n {a1 : Int32} {n : Nat} (h1 : a1.toInt = n) (hn : n < 8) (σ : sm_S) : xC xF j_S_canGo [.ref 17, .int a1] σ (sm_I (fun x σ' => (x = 0 ∨ (x = 1 ∧ σ 18 n = 1)) ∧ σ' = σ)) := nw0 (e_canGo h1 hn σ)
/-- the trial's cells and Thought alone -/
def th (σ σ' : sm_S) : Prop := ∀ a, a < 43 ∨ 86 ≤ a → σ' a = σ a
theorem th.tr {a b c : sm_S} (h1 : th a b) (h2 : th b c) : th a c := fun k hk => (h2 k hk).trans (h1 k hk)
theorem th.of {σ σ' : sm_S} (h : ∀ a, a < 43 ∨ 85 ≤ a → σ' a = σ a) : th σ σ' := fun a ha => h a (by omega)
theorem l_tryOut_n {a2 : Int32} {s : Nat} (h2 : a2.toInt = s) (hs : s < 8) : ∀ (d k : Nat) (a3 : Int32) (σ : sm_S), a3.toInt = k → k + d = 500 → kk (bs 43 σ) → xE xF m_H_tryOut 18 [.ref 85, .ref 0, .int a2, .int a3] [] σ (sm_I (fun _ σ' => th σ σ' ∧ kk (bs 43 σ'))) := by
  have v := t_vp h2 hs
  have stop : ∀ (a3 : Int32) (σ : sm_S), kk (bs 43 σ) → ∀ σ1, σ1 = sm_set σ 85 (upd (σ 85) 3 a3) → (vp_in a2 8 ∧ (((σ1 61 (a2).toNatClampNeg) ≠ 0 → (((0 : Int32) = 0 ∨ (0 : Int32) = 1) ∧ (sm_I (fun _ σ' => th σ σ' ∧ kk (bs 43 σ'))) (some (.int 0)) σ1)) ∧ (¬ ((σ1 61 (a2).toNatClampNeg) ≠ 0) → (((1 : Int32) = 0 ∨ (1 : Int32) = 1) ∧ (sm_I (fun _ σ' => th σ σ' ∧ kk (bs 43 σ'))) (some (.int 1)) σ1)))) := by
    intro a3 σ hk σ1 e1
    have h1 : th σ σ1 := fun a ha => by rw [e1, s_ne (by omega)]
    have h3 : kk (bs 43 σ1) := kk_of (fun k hk => by show σ1 (43 + k) = σ (43 + k); rw [e1, s_ne (by omega)]) hk
    exact ⟨v, fun _ => ⟨Or.inl rfl, _, rfl, h1, h3⟩, fun _ => ⟨Or.inr rfl, _, rfl, h1, h3⟩⟩
  intro d
  induction d with
  | zero =>
    intro k a3 σ h3 hk hkk
    refine f_H_tryOut_n_18 a2 a3 σ _ ⟨fun _ => stop a3 σ hkk, fun h => absurd ?_ h⟩
    rw [t_le, h3]
    show (500 : Int) ≤ _
    omega
  | succ d ih =>
    intro k a3 σ h3 hk hkk
    have h3' : (a3 + 1).toInt = ((k + 1 : Nat) : Int) := by
      rw [t_add h3 (y := 1) rfl (by omega) (by omega)]
      omega
    refine f_H_tryOut_n_18 a2 a3 σ _ ⟨fun _ => stop a3 σ hkk, fun _ => (x_up0 shTF (as := [.ref 17, .int a2]) rfl (e_isGoing h2 hs (sh rT σ))).int ?_⟩
    rintro x3 σ ⟨-, rfl⟩
    refine ⟨fun _ => stop a3 σ hkk, fun _ => (trV (as := [.ref 41]) rfl (fun _ h => h) (e_oneTick (sh rT σ) (kk_tr hkk))).void ?_⟩
    rintro σ5 ⟨k5, o5⟩
    refine (ih (k + 1) _ σ5 h3' (by omega) k5).mono ?_
    rintro r σ' ⟨x, rfl, g1, g2⟩
    exact ⟨x, rfl, (th.of o5).tr g1, g2⟩
theorem g_tryOut_n {a2 : Int32} {s : Nat} (h2 : a2.toInt = s) (hs : s < 8) (σ : sm_S) (hk : kk σ) (hl : kl (bs 43 σ)) (hon : σ 18 s = 1) : xC xF j_H_tryOut [.ref 85, .ref 0, .int a2] σ (sm_I (fun _ σ' => th σ σ' ∧ kk (bs 43 σ'))) := by
  refine f_H_tryOut_n a2 σ _ ((x_cpy shP1 σ).void ?_)
  rintro σ1 ⟨o1, e1, n1⟩
  have k1 : kk (bs 43 σ1) := kk_eqr e1 (kl_of (σ := bs 43 σ) n1 hl) (kk_bs0 hk)
  have h18 : (sh rT σ1) 18 s ≠ 3 := by
    have g1 : (bs 43 σ1) 18 s = (bs 0 σ) 18 s := (e1.2.2.1 s hs).1
    have g2 : (bs 0 σ) 18 s = 1 := hon
    rw [rT_bs 18 (by omega), g1, g2]
    decide
  refine (trV (as := [.ref 41, .int a2]) rfl (fun _ h => h) (e_Gbegin h2 hs (sh rT σ1) (kk_tr k1) h18)).void ?_
  rintro σ2 ⟨k2, o2⟩
  obtain ⟨d, hd⟩ : ∃ d, d = 500 := ⟨_, rfl⟩
  refine (l_tryOut_n h2 hs d 0 0 σ2 rfl (by omega) k2).mono ?_
  rintro r σ' ⟨x, rfl, g1, g2⟩
  exact ⟨x, rfl, ((th.of (fun a ha => o1 a (by omega))).tr (th.of o2)).tr g1, g2⟩
theorem l_findEasiest_n (σ : sm_S) (hk : kk σ) : ∀ (d k : Nat) (a2 a3 : Int32) (τ : sm_S), a3.toInt = k → k + d = 8 → th σ τ → kl (bs 43 τ) → (a2 = -1 ∨ ∃ s : Nat, s < 8 ∧ a2.toInt = s ∧ σ 18 s = 1) → xE xF m_H_findEasiest 4 [.ref 85, .ref 0, .int a2, .int a3] [] τ (sm_I (fun x σ' => th σ σ' ∧ kl (bs 43 σ') ∧ (x = -1 ∨ ∃ s : Nat, s < 8 ∧ x.toInt = s ∧ σ 18 s = 1))) := by
  intro d
  induction d with
  | zero =>
    intro k a2 a3 τ h3 hkd ht hl hb
    refine f_H_findEasiest_n_4 a2 a3 τ _ ⟨fun _ => ⟨_, rfl, ht, hl, hb⟩, fun h => absurd ?_ h⟩
    rw [t_le, h3]
    show (8 : Int) ≤ _
    omega
  | succ d ih =>
    intro k a2 a3 τ h3 hkd ht hl hb
    have h3' : (a3 + 1).toInt = ((k + 1 : Nat) : Int) := by
      rw [t_add h3 (y := 1) rfl (by omega) (by omega)]
      omega
    refine f_H_findEasiest_n_4 a2 a3 τ _ ⟨fun _ => ⟨_, rfl, ht, hl, hb⟩, fun _ => (g_canGo_n h3 (by omega) τ).int ?_⟩
    rintro x2 τ ⟨hx2, rfl⟩
    refine ⟨fun _ => ih (k + 1) _ _ τ h3' (by omega) ht hl hb, fun n2 => ?_⟩
    obtain ⟨-, hon⟩ := hx2.resolve_left n2
    have hkτ : kk τ := kk_of (fun k hk => ht k (by omega)) hk
    refine (g_tryOut_n h3 (by omega) τ hkτ hl hon).int ?_
    rintro x4 σ3 ⟨t3, k3⟩
    have hon' : σ 18 k = 1 := by rw [← ht 18 (by omega)]; exact hon
    have new : a3 = -1 ∨ ∃ s : Nat, s < 8 ∧ a3.toInt = s ∧ σ 18 s = 1 := Or.inr ⟨k, by omega, h3, hon'⟩
    have mk : ∀ (y : Int32) (σ5 : sm_S), σ5 = sm_set σ3 85 (upd (σ3 85) 4 y) → th σ σ5 ∧ kl (bs 43 σ5) := fun y σ5 e5 => ⟨(ht.tr t3).tr (fun a ha => by rw [e5, s_ne (by omega)]), kl_of (by show σ5 77 5 = σ3 77 5; rw [e5, s_ne (by decide)]) k3.2.2.2.2.1⟩
    refine ⟨fun _ => ih (k + 1) _ _ σ3 h3' (by omega) (ht.tr t3) k3.2.2.2.2.1 hb, fun _ => ⟨fun _ σ5 e5 => ih (k + 1) _ _ σ5 h3' (by omega) (mk _ σ5 e5).1 (mk _ σ5 e5).2 new, fun _ => ⟨fun _ => ih (k + 1) _ _ σ3 h3' (by omega) (ht.tr t3) k3.2.2.2.2.1 hb, fun _ σ5 e5 => ih (k + 1) _ _ σ5 h3' (by omega) (mk _ σ5 e5).1 (mk _ σ5 e5).2 new⟩⟩⟩
theorem g_findEasiest_n (σ : sm_S) (hk : kk σ) (hl : kl (bs 43 σ)) : xC xF j_H_findEasiest [.ref 85, .ref 0] σ (sm_I (fun x σ' => th σ σ' ∧ kl (bs 43 σ') ∧ (x = -1 ∨ ∃ s : Nat, s < 8 ∧ x.toInt = s ∧ σ 18 s = 1))) :=
  f_H_findEasiest_n σ _ (l_findEasiest_n σ hk 8 0 (-1) 0 σ rfl rfl (fun _ _ => rfl) hl (Or.inl rfl))
theorem l_tryOut_t {a2 : Int32} {s : Nat} (h2 : a2.toInt = s) (hs : s < 8) : ∀ (d k : Nat) (a3 : Int32) (σ : sm_S), a3.toInt = k → k + d = 500 → kk (bs 43 σ) → xE xF m_H_tryOut 18 [.ref 85, .ref 86, .int a2, .int a3] [] σ (sm_I (fun _ σ' => th σ σ' ∧ kk (bs 43 σ'))) := by
  have v := t_vp h2 hs
  have stop : ∀ (a3 : Int32) (σ : sm_S), kk (bs 43 σ) → ∀ σ1, σ1 = sm_set σ 85 (upd (σ 85) 3 a3) → (vp_in a2 8 ∧ (((σ1 61 (a2).toNatClampNeg) ≠ 0 → (((0 : Int32) = 0 ∨ (0 : Int32) = 1) ∧ (sm_I (fun _ σ' => th σ σ' ∧ kk (bs 43 σ'))) (some (.int 0)) σ1)) ∧ (¬ ((σ1 61 (a2).toNatClampNeg) ≠ 0) → (((1 : Int32) = 0 ∨ (1 : Int32) = 1) ∧ (sm_I (fun _ σ' => th σ σ' ∧ kk (bs 43 σ'))) (some (.int 1)) σ1)))) := by
    intro a3 σ hk σ1 e1
    have h1 : th σ σ1 := fun a ha => by rw [e1, s_ne (by omega)]
    have h3 : kk (bs 43 σ1) := kk_of (fun k hk => by show σ1 (43 + k) = σ (43 + k); rw [e1, s_ne (by omega)]) hk
    exact ⟨v, fun _ => ⟨Or.inl rfl, _, rfl, h1, h3⟩, fun _ => ⟨Or.inr rfl, _, rfl, h1, h3⟩⟩
  intro d
  induction d with
  | zero =>
    intro k a3 σ h3 hk hkk
    refine f_H_tryOut_t_18 a2 a3 σ _ ⟨fun _ => stop a3 σ hkk, fun h => absurd ?_ h⟩
    rw [t_le, h3]
    show (500 : Int) ≤ _
    omega
  | succ d ih =>
    intro k a3 σ h3 hk hkk
    have h3' : (a3 + 1).toInt = ((k + 1 : Nat) : Int) := by
      rw [t_add h3 (y := 1) rfl (by omega) (by omega)]
      omega
    refine f_H_tryOut_t_18 a2 a3 σ _ ⟨fun _ => stop a3 σ hkk, fun _ => (x_up0 shTF (as := [.ref 17, .int a2]) rfl (e_isGoing h2 hs (sh rT σ))).int ?_⟩
    rintro x3 σ ⟨-, rfl⟩
    refine ⟨fun _ => stop a3 σ hkk, fun _ => (trV (as := [.ref 41]) rfl (fun _ h => h) (e_oneTick (sh rT σ) (kk_tr hkk))).void ?_⟩
    rintro σ5 ⟨k5, o5⟩
    refine (ih (k + 1) _ σ5 h3' (by omega) k5).mono ?_
    rintro r σ' ⟨x, rfl, g1, g2⟩
    exact ⟨x, rfl, (th.of o5).tr g1, g2⟩
theorem g_tryOut_t {a2 : Int32} {s : Nat} (h2 : a2.toInt = s) (hs : s < 8) (σ : sm_S) (hk : kk (bs 86 σ)) (hl : kl (bs 43 σ)) (hon : σ 104 s = 1) : xC xF j_H_tryOut [.ref 85, .ref 86, .int a2] σ (sm_I (fun _ σ' => th σ σ' ∧ kk (bs 43 σ'))) := by
  refine f_H_tryOut_t a2 σ _ ((x_cpy shP2 σ).void ?_)
  rintro σ1 ⟨o1, e1, n1⟩
  have k1 : kk (bs 43 σ1) := kk_eqr e1 (kl_of (σ := bs 43 σ) n1 hl) (hk)
  have h18 : (sh rT σ1) 18 s ≠ 3 := by
    have g1 : (bs 43 σ1) 18 s = (bs 86 σ) 18 s := (e1.2.2.1 s hs).1
    have g2 : (bs 86 σ) 18 s = 1 := hon
    rw [rT_bs 18 (by omega), g1, g2]
    decide
  refine (trV (as := [.ref 41, .int a2]) rfl (fun _ h => h) (e_Gbegin h2 hs (sh rT σ1) (kk_tr k1) h18)).void ?_
  rintro σ2 ⟨k2, o2⟩
  obtain ⟨d, hd⟩ : ∃ d, d = 500 := ⟨_, rfl⟩
  refine (l_tryOut_t h2 hs d 0 0 σ2 rfl (by omega) k2).mono ?_
  rintro r σ' ⟨x, rfl, g1, g2⟩
  exact ⟨x, rfl, ((th.of (fun a ha => o1 a (by omega))).tr (th.of o2)).tr g1, g2⟩
theorem l_findEasiest_t (σ : sm_S) (hk : kk (bs 86 σ)) : ∀ (d k : Nat) (a2 a3 : Int32) (τ : sm_S), a3.toInt = k → k + d = 8 → th σ τ → kl (bs 43 τ) → (a2 = -1 ∨ ∃ s : Nat, s < 8 ∧ a2.toInt = s ∧ σ 104 s = 1) → xE xF m_H_findEasiest 4 [.ref 85, .ref 86, .int a2, .int a3] [] τ (sm_I (fun x σ' => th σ σ' ∧ kl (bs 43 σ') ∧ (x = -1 ∨ ∃ s : Nat, s < 8 ∧ x.toInt = s ∧ σ 104 s = 1))) := by
  intro d
  induction d with
  | zero =>
    intro k a2 a3 τ h3 hkd ht hl hb
    refine f_H_findEasiest_t_4 a2 a3 τ _ ⟨fun _ => ⟨_, rfl, ht, hl, hb⟩, fun h => absurd ?_ h⟩
    rw [t_le, h3]
    show (8 : Int) ≤ _
    omega
  | succ d ih =>
    intro k a2 a3 τ h3 hkd ht hl hb
    have h3' : (a3 + 1).toInt = ((k + 1 : Nat) : Int) := by
      rw [t_add h3 (y := 1) rfl (by omega) (by omega)]
      omega
    refine f_H_findEasiest_t_4 a2 a3 τ _ ⟨fun _ => ⟨_, rfl, ht, hl, hb⟩, fun _ => (g_canGo_t h3 (by omega) τ).int ?_⟩
    rintro x2 τ ⟨hx2, rfl⟩
    refine ⟨fun _ => ih (k + 1) _ _ τ h3' (by omega) ht hl hb, fun n2 => ?_⟩
    obtain ⟨-, hon⟩ := hx2.resolve_left n2
    have hkτ : kk (bs 86 τ) := kk_of (fun k hk => by show τ (86 + k) = σ (86 + k); exact ht _ (by omega)) hk
    refine (g_tryOut_t h3 (by omega) τ hkτ hl hon).int ?_
    rintro x4 σ3 ⟨t3, k3⟩
    have hon' : σ 104 k = 1 := by rw [← ht 104 (by omega)]; exact hon
    have new : a3 = -1 ∨ ∃ s : Nat, s < 8 ∧ a3.toInt = s ∧ σ 104 s = 1 := Or.inr ⟨k, by omega, h3, hon'⟩
    have mk : ∀ (y : Int32) (σ5 : sm_S), σ5 = sm_set σ3 85 (upd (σ3 85) 4 y) → th σ σ5 ∧ kl (bs 43 σ5) := fun y σ5 e5 => ⟨(ht.tr t3).tr (fun a ha => by rw [e5, s_ne (by omega)]), kl_of (by show σ5 77 5 = σ3 77 5; rw [e5, s_ne (by decide)]) k3.2.2.2.2.1⟩
    refine ⟨fun _ => ih (k + 1) _ _ σ3 h3' (by omega) (ht.tr t3) k3.2.2.2.2.1 hb, fun _ => ⟨fun _ σ5 e5 => ih (k + 1) _ _ σ5 h3' (by omega) (mk _ σ5 e5).1 (mk _ σ5 e5).2 new, fun _ => ⟨fun _ => ih (k + 1) _ _ σ3 h3' (by omega) (ht.tr t3) k3.2.2.2.2.1 hb, fun _ σ5 e5 => ih (k + 1) _ _ σ5 h3' (by omega) (mk _ σ5 e5).1 (mk _ σ5 e5).2 new⟩⟩⟩
theorem g_findEasiest_t (σ : sm_S) (hk : kk (bs 86 σ)) (hl : kl (bs 43 σ)) : xC xF j_H_findEasiest [.ref 85, .ref 86] σ (sm_I (fun x σ' => th σ σ' ∧ kl (bs 43 σ') ∧ (x = -1 ∨ ∃ s : Nat, s < 8 ∧ x.toInt = s ∧ σ 104 s = 1))) :=
  f_H_findEasiest_t σ _ (l_findEasiest_t σ hk 8 0 (-1) 0 σ rfl rfl (fun _ _ => rfl) hl (Or.inl rfl))
theorem g_widestPacked {a2 : Int32} {s : Nat} (h2 : a2.toInt = s) (hs : s < 8) (σ : sm_S) (hk : kk σ) (hl : kl (bs 43 σ)) : xC xF j_H_widestPacked [.ref 85, .ref 0, .int a2] σ (sm_I (fun _ σ' => th σ σ' ∧ kl (bs 43 σ'))) := by
  refine f_H_widestPacked a2 σ _ ((x_cpy shP1 σ).void ?_)
  rintro σ1 ⟨o1, e1, n1⟩
  have k1 : kk (bs 43 σ1) := kk_eqr e1 (kl_of (σ := bs 43 σ) n1 hl) (kk_bs0 hk)
  refine (trK (as := [.ref 0, .int a2]) rfl (fun _ _ h => h) (e_pack h2 hs (sh rT σ1) (kk_tr k1))).int ?_
  rintro x3 σ2 ⟨k2, o2⟩
  refine ⟨t_vp h2 hs, (nw1 (c_widest _ σ2)).int ?_⟩
  rintro x5 σ2 rfl
  exact ⟨_, rfl, (th.of (fun a ha => o1 a (by omega))).tr (th.of o2), k2.2.2.2.2.1⟩
theorem g_grownSince {a2 : Int32} {n : Nat} (h2 : a2.toInt = n) (hn : n < 11) (σ : sm_S) : xC xF j_H_grownSince [.ref 85, .ref 0, .int a2] σ (sm_I (fun _ σ' => σ' = σ)) :=
  f_H_grownSince a2 σ _ ⟨t_vp h2 hn, t_vp h2 hn, _, rfl, rfl⟩
