section
/-! ===== the model's world with the ticks of the easiest span: easiestNow, easiest, givenBack ===== -/
def xN : List sm_Sh := [.inr (9, [.inl 0, .inr 1, .inr 2, .inr 3, .inr 4, .inl 0, .inl 1, .inr 5]), .inl (0, 2662), .inl (0, 2662), .inl (0, 2662), .inl (1, 96), .inl (0, 2662)]
set_option maxRecDepth 100000 in
set_option maxHeartbeats 4000000 in
theorem w_N_easiest (a1 : Int32) (σ : sm_S) (Q : Option Value → sm_S → Prop) (h : (∀ σ1, σ1 = sm_set σ 0 (upd (σ 0) 0 0) → xC xN j_M_isIn [.ref 0, .int a1, .int 0, .int 1] σ1 (sm_ri False (fun x3 σ2 => ((x3 ≠ 0 → xC xN j_M_easiestNow [.ref 0] σ2 (sm_ri False (fun x5 σ4 => ((x5 ≠ (-1) → ((a1 ≠ 0 → Q (some (.int (σ4 0 5))) σ4) ∧ (¬ (a1 ≠ 0) → Q (some (.int x5)) σ4))) ∧ (¬ (x5 ≠ (-1)) → Q (some (.int (-1))) σ4))))) ∧ (¬ (x3 ≠ 0) → Q (some (.int (-1))) σ2)))))) : xC xN j_M_easiest [.ref 0, .int a1] σ Q := sm_wp_C (M := m_M_easiest) rfl [] 21 h
set_option maxRecDepth 100000 in
set_option maxHeartbeats 4000000 in
theorem w_N_easiestNow (σ : sm_S) (Q : Option Value → sm_S → Prop) (h : xE xN m_M_easiestNow 4 [.ref 0, .int (-1), .int 0, .null, .null, .null] [] σ Q) : xC xN j_M_easiestNow [.ref 0] σ Q := sm_wp_C (M := m_M_easiestNow) rfl [4, 31, 72] 5 h
set_option maxRecDepth 100000 in
set_option maxHeartbeats 4000000 in
theorem w_N_easiestNow_4 (a1 a2 : Int32) (v3 v4 v5 : Value) (σ : sm_S) (Q : Option Value → sm_S → Prop) (h : ((2662 ≤ a2 → xE xN m_M_easiestNow 31 [.ref 0, .int a1, .int 0, v3, v4, v5] [] σ Q) ∧ (¬ (2662 ≤ a2) → (vp_in a2 2662 ∧ (vp_in a2 2662 ∧ ∀ σ1, σ1 = sm_set σ 3 (upd (σ 3) (a2).toNatClampNeg (σ 1 (a2).toNatClampNeg)) → xE xN m_M_easiestNow 4 [.ref 0, .int a1, .int (a2 + 1), v3, v4, v5] [] σ1 Q))))) : xE xN m_M_easiestNow 4 [.ref 0, .int a1, .int a2, v3, v4, v5] [] σ Q := sm_wp_E (M := m_M_easiestNow) [4, 31, 72] 14 h
set_option maxRecDepth 100000 in
set_option maxHeartbeats 4000000 in
theorem w_N_easiestNow_31 (a1 a2 : Int32) (v3 v4 v5 : Value) (σ : sm_S) (Q : Option Value → sm_S → Prop) (h : ((8 ≤ a2 → Q (some (.int a1)) σ) ∧ (¬ (8 ≤ a2) → xC xN j_M_canGo [.ref 0, .int a2] σ (sm_ri False (fun x2 σ1 => ((x2 ≠ 0 → xC xN j_M_goesAway [.ref 0, .int a2] σ1 (sm_ri False (fun x4 σ3 => xC xN j_M_spanState [.ref 0, .int a2] σ3 (sm_ri False (fun x6 σ5 => ((x6 ≠ 0 → xE xN m_M_easiestNow 72 [.ref 0, .int a1, .int a2, .int x4, .int 0, .int 0] [] σ5 Q) ∧ (¬ (x6 ≠ 0) → xE xN m_M_easiestNow 72 [.ref 0, .int a1, .int a2, .int x4, .int 1, .int 0] [] σ5 Q))))))) ∧ (¬ (x2 ≠ 0) → xE xN m_M_easiestNow 31 [.ref 0, .int a1, .int (a2 + 1), v3, v4, v5] [] σ1 Q))))))) : xE xN m_M_easiestNow 31 [.ref 0, .int a1, .int a2, v3, v4, v5] [] σ Q := sm_wp_E (M := m_M_easiestNow) [4, 31, 72] 21 h
set_option maxRecDepth 100000 in
set_option maxHeartbeats 4000000 in
theorem w_N_easiestNow_72 (a1 a2 a3 a4 a5 : Int32) (σ : sm_S) (Q : Option Value → sm_S → Prop) (h : ((2662 ≤ a5 → ((a4 = 0 → xE xN m_M_easiestNow 31 [.ref 0, .int a1, .int (a2 + 1), .int a3, .int a4, .int a5] [] σ Q) ∧ (¬ (a4 = 0) → ((a1 = (-1) → (∀ σ1, σ1 = sm_set σ 0 (upd (σ 0) 5 a3) → xE xN m_M_easiestNow 31 [.ref 0, .int a2, .int (a2 + 1), .int a3, .int a4, .int a5] [] σ1 Q)) ∧ (¬ (a1 = (-1)) → ((a3 < (σ 0 5) → (∀ σ2, σ2 = sm_set σ 0 (upd (σ 0) 5 a3) → xE xN m_M_easiestNow 31 [.ref 0, .int a2, .int (a2 + 1), .int a3, .int a4, .int a5] [] σ2 Q)) ∧ (¬ (a3 < (σ 0 5)) → xE xN m_M_easiestNow 31 [.ref 0, .int a1, .int (a2 + 1), .int a3, .int a4, .int a5] [] σ Q))))))) ∧ (¬ (2662 ≤ a5) → (vp_in a5 2662 ∧ (vp_in a5 2662 ∧ ∀ σ3, σ3 = sm_set σ 1 (upd (σ 1) (a5).toNatClampNeg (σ 3 (a5).toNatClampNeg)) → xE xN m_M_easiestNow 72 [.ref 0, .int a1, .int a2, .int a3, .int a4, .int (a5 + 1)] [] σ3 Q))))) : xE xN m_M_easiestNow 72 [.ref 0, .int a1, .int a2, .int a3, .int a4, .int a5] [] σ Q := sm_wp_E (M := m_M_easiestNow) [4, 31, 72] 20 h
set_option maxRecDepth 100000 in
set_option maxHeartbeats 4000000 in
theorem w_N_givenBack (σ : sm_S) (Q : Option Value → sm_S → Prop) (h : (∀ σ1, σ1 = sm_set σ 0 (upd (σ 0) 0 0) → xC xN j_M_thinks [.ref 0] σ1 (sm_rv False (fun σ2 => xC xN j_M_easiestNow [.ref 0] σ2 (sm_ri False (fun x4 σ3 => xE xN m_M_givenBack 16 [.ref 0, .int 0, .int x4] [] σ3 Q)))))) : xC xN j_M_givenBack [.ref 0] σ Q := sm_wp_C (M := m_M_givenBack) rfl [16] 11 h
set_option maxRecDepth 100000 in
set_option maxHeartbeats 4000000 in
theorem w_N_givenBack_16 (a1 a2 : Int32) (σ : sm_S) (Q : Option Value → sm_S → Prop) (h : ((a2 = (-1) → xC xN j_M_forgets [.ref 0] σ (sm_rv False (fun σ1 => Q (some (.int a1)) σ1))) ∧ (¬ (a2 = (-1)) → xC xN j_M_goesAway [.ref 0, .int a2] σ (sm_ri False (fun x3 σ2 => xC xN j_M_easiestNow [.ref 0] σ2 (sm_ri False (fun x5 σ4 => xE xN m_M_givenBack 16 [.ref 0, .int (a1 + 1), .int x5] [] σ4 Q))))))) : xE xN m_M_givenBack 16 [.ref 0, .int a1, .int a2] [] σ Q := sm_wp_E (M := m_M_givenBack) [16] 16 h
end
section
/-! ===== the model: the easiest span, how many go ===== -/
theorem nvM {a i : Nat} (h : ¬ sm_vis id xM a i) : a ≠ 1 := by
  rintro rfl
  exact h ⟨1, rfl, Or.inl ⟨(0, 2662), rfl⟩⟩
theorem nvM2 {a i : Nat} (h : ¬ sm_vis id xM a i) : a ≠ 2 := by
  rintro rfl
  exact h ⟨2, rfl, Or.inl ⟨(0, 2662), rfl⟩⟩
theorem shMN : sm_shR id xM xN := by
  refine ⟨fun k q h => ?_, fun k ci fl h => ?_, fun i j _ _ h => h, fun a _ => rfl, by decide⟩
  · match k, h with
    | 0, h => cases h
    | 1, h => exact h
    | 2, h => exact h
    | 3, h => exact h
    | 4, h => exact h
    | 5, h => exact h
    | _ + 6, h => cases h
  · match k, h with
    | 0, h =>
      cases h
      refine ⟨_, rfl, fun j o hj => ?_⟩
      match j, hj with
      | 0, hj => cases hj; exact ⟨_, rfl, fun _ => rfl⟩
      | 1, hj => cases hj; exact ⟨_, rfl, rfl⟩
      | 2, hj => cases hj; exact ⟨_, rfl, rfl⟩
      | 3, hj => cases hj; exact ⟨_, rfl, rfl⟩
      | 4, hj => cases hj; exact ⟨_, rfl, rfl⟩
      | 5, hj => cases hj; exact ⟨_, rfl, fun h => absurd h (by decide)⟩
      | 6, hj => cases hj; exact ⟨_, rfl, fun _ => rfl⟩
      | 7, hj => cases hj; exact ⟨_, rfl, rfl⟩
      | _ + 8, hj => cases hj
    | 1, h => cases h
    | 2, h => cases h
    | 3, h => cases h
    | 4, h => cases h
    | 5, h => cases h
    | _ + 6, h => cases h
theorem agM {σ τ : sm_S} (h0 : τ 0 0 = σ 0 0) (h6 : τ 0 6 = σ 0 6) (h1 : ∀ i, i < 2662 → τ 1 i = σ 1 i) (h2 : ∀ k, 2 ≤ k → τ k = σ k) : sm_stW id xM σ τ := by
  refine ⟨fun k q h i hi => ?_, fun k ci fl j t h hj ht => ?_⟩
  · match k, h with
    | 0, h => cases h
    | 1, h => cases h; exact h1 i hi
    | 2, h => exact congrFun (h2 2 (by omega)) i
    | 3, h => exact congrFun (h2 3 (by omega)) i
    | 4, h => exact congrFun (h2 4 (by omega)) i
    | 5, h => exact congrFun (h2 5 (by omega)) i
    | _ + 6, h => cases h
  · match k, h with
    | 0, h =>
      cases h
      match j, hj with
      | 0, hj => exact h0
      | 1, hj => cases hj
      | 2, hj => cases hj
      | 3, hj => cases hj
      | 4, hj => cases hj
      | 5, hj => cases hj; omega
      | 6, hj => exact h6
      | 7, hj => cases hj
      | _ + 8, hj => cases hj
    | 1, h => cases h
    | 2, h => cases h
    | 3, h => cases h
    | 4, h => cases h
    | 5, h => cases h
    | _ + 6, h => cases h
theorem stW_tr {SH : List sm_Sh} {a b c : sm_S} (h1 : sm_stW id SH a b) (h2 : sm_stW id SH b c) : sm_stW id SH a c :=
  ⟨fun k q h i hi => (h2.1 k q h i hi).trans (h1.1 k q h i hi), fun k ci fl j t h hj ht => (h2.2 k ci fl j t h hj ht).trans (h1.2 k ci fl j t h hj ht)⟩
/-- a call that leaves the store as it is -/
theorem x_liftI {j : Nat} {as : List Value} {σ : sm_S} {P : Int32 → Prop} (h : xC xM j as σ (sm_I (fun x σ' => P x ∧ σ' = σ))) : xC xN j as σ (sm_I (fun x σ' => P x ∧ σ' = σ)) := by
  refine x_lift shMN h ?_
  rintro r σ' ⟨x, rfl, -, rfl⟩ a i -
  rfl
theorem n_canGo (a1 : Int32) (σ : sm_S) : xC xN j_M_canGo [.ref 0, .int a1] σ (sm_I (fun x σ' => (x = 0 ∨ (x = 1 ∧ ∃ s : Nat, s < 8 ∧ a1.toInt = s ∧ σ 1 (2358 + 8 * s) = 1 ∧ onElse (σ 1) 0 a1)) ∧ σ' = σ)) := x_liftI (c_canGo a1 σ)
theorem n_spanState {s : Int32} {n : Nat} (hs : s.toInt = n) (hn : n < 8) (σ : sm_S) : xC xN j_M_spanState [.ref 0, .int s] σ (sm_I (fun x σ' => x = σ 1 (2358 + 8 * n) ∧ σ' = σ)) := x_liftI (c_spanState hs hn σ)
theorem n_isIn (a b c : Int32) (σ : sm_S) : xC xN j_M_isIn [.ref 0, .int a, .int b, .int c] σ (sm_I (fun x σ' => ((x = 1 ∧ b.toInt ≤ a.toInt ∧ a.toInt ≤ c.toInt) ∨ (x = 0 ∧ (a.toInt < b.toInt ∨ c.toInt < a.toInt))) ∧ σ' = σ)) := x_liftI (c_isIn a b c σ)
theorem n_thinks (σ : sm_S) : xC xN j_M_thinks [.ref 0] σ (sm_V (fun σ' => ∃ f, σ' = sm_set σ 2 f ∧ ∀ i, i < 2662 → f i = σ 1 i)) := by
  refine x_lift shMN (c_thinks σ) ?_
  rintro r σ' ⟨rfl, f, rfl, -⟩ a i hv
  rw [s_ne (nvM2 hv)]
theorem n_forgets (σ : sm_S) : xC xN j_M_forgets [.ref 0] σ (sm_V (fun σ' => ∃ f, σ' = sm_set σ 1 f ∧ ∀ i, i < 2662 → f i = σ 2 i)) := by
  refine x_lift shMN (c_forgets σ) ?_
  rintro r σ' ⟨rfl, f, rfl, -⟩ a i hv
  rw [s_ne (nvM hv)]
theorem n_goesAway {a1 : Int32} {s N : Nat} (h1 : a1.toInt = s) (hs : s < 8) (hN : N < 1730000000) (σ : sm_S) (hj : jj N (σ 1)) (hon : σ 1 (2358 + 8 * s) = 1) (hel : onElse (σ 1) 0 a1) : xC xN j_M_goesAway [.ref 0, .int a1] σ (sm_I (fun x σ' => (∃ w N', σ' = sm_set σ 1 w ∧ jj N' w ∧ N ≤ N' ∧ N' ≤ N + 12400001 ∧ offs (σ 1) w) ∧ ∀ τ, sm_stW id xM σ τ → xC xN j_M_goesAway [.ref 0, .int a1] τ (sm_I (fun _ τ' => sm_stW id xM σ' τ')))) := by
  refine (x_lift shMN (x_det shMN (c_goesAway h1 hs hN σ hj hon hel)) ?_).mono ?_
  · rintro r σ' ⟨⟨x, rfl, w, N', rfl, -⟩, -⟩ a i hv
    rw [s_ne (nvM hv)]
  · rintro r σ' ⟨⟨x, rfl, hP⟩, hd⟩
    refine ⟨x, rfl, hP, fun τ hτ => (hd τ hτ).mono ?_⟩
    rintro r2 τ' ⟨rfl, h2⟩
    exact ⟨x, rfl, h2⟩
theorem onElse_eq {v v' : Nat → Int32} {z b : Int32} (h : ∀ i, i < 2662 → v' i = v i) (ho : onElse v z b) : onElse v' z b := by
  obtain ⟨s, h1, h2, h3, h4⟩ := ho
  exact ⟨s, h1, h2, by rw [h _ (by omega)]; exact h3, by rw [h _ (by omega)]; exact h4⟩
def esI (σ0 σ : sm_S) : Prop := (∀ k, 2 ≤ k → σ k = σ0 k) ∧ (∀ i, i < 2662 → σ 1 i = σ0 1 i) ∧ ∀ i, i ≠ 5 → σ 0 i = σ0 0 i
theorem esI.ag {σ0 σ : sm_S} (h : esI σ0 σ) : sm_stW id xM σ0 σ := agM (h.2.2 0 (by decide)) (h.2.2 6 (by decide)) h.2.1 h.1
theorem esI.ga {σ0 σ : sm_S} (h : esI σ0 σ) : sm_stW id xM σ σ0 := agM (h.2.2 0 (by decide)).symm (h.2.2 6 (by decide)).symm (fun i hi => (h.2.1 i hi).symm) (fun k hk => (h.1 k hk).symm)
def esG (σ0 : sm_S) (x : Int32) : Prop := x = -1 ∨ ∃ s : Nat, s < 8 ∧ x.toInt = s ∧ σ0 1 (2358 + 8 * s) = 1 ∧ onElse (σ0 1) 0 x ∧ ∀ τ, sm_stW id xM σ0 τ → xC xN j_M_goesAway [.ref 0, .int x] τ (sm_I (fun _ τ' => τ' 1 (2358 + 8 * s) = 0))
theorem l_en72 {σ0 : sm_S} {a1 a2 a3 a4 : Int32} {Q : Option Value → sm_S → Prop} (h3 : ∀ i, i < 2662 → σ0 3 i = σ0 1 i) (hb : esG σ0 a1) (hn : a4 ≠ 0 → esG σ0 a2) (K : ∀ (b : Int32) (v3 v4 v5 : Value) (σ' : sm_S), esI σ0 σ' → esG σ0 b → xE xN m_M_easiestNow 31 [.ref 0, .int b, .int (a2 + 1), v3, v4, v5] [] σ' Q) : ∀ (d k : Nat) (a5 : Int32) (σ : sm_S), a5.toInt = k → k + d = 2662 → (∀ k, 2 ≤ k → σ k = σ0 k) → (∀ i, i < k → σ 1 i = σ0 1 i) → (∀ i, i ≠ 5 → σ 0 i = σ0 0 i) → xE xN m_M_easiestNow 72 [.ref 0, .int a1, .int a2, .int a3, .int a4, .int a5] [] σ Q := by
  intro d
  induction d with
  | zero =>
    intro k a5 σ h5 hk g2 g1 g0
    have hI : esI σ0 σ := ⟨g2, fun i hi => g1 i (by omega), g0⟩
    have hI' : ∀ σ1, σ1 = sm_set σ 0 (upd (σ 0) 5 a3) → esI σ0 σ1 := by
      rintro _ rfl
      exact ⟨fun k hk => by rw [s_ne (by omega)]; exact g2 k hk, fun i hi => by rw [s_ne (by decide)]; exact hI.2.1 i hi, fun i hi => by rw [s_at, u_ne hi]; exact g0 i hi⟩
    refine w_N_easiestNow_72 a1 a2 a3 a4 a5 σ Q ⟨fun _ => ⟨fun _ => K _ _ _ _ _ hI hb, fun n4 => ⟨fun _ σ1 e1 => K _ _ _ _ _ (hI' σ1 e1) (hn n4), fun _ => ⟨fun _ σ1 e1 => K _ _ _ _ _ (hI' σ1 e1) (hn n4), fun _ => K _ _ _ _ _ hI hb⟩⟩⟩, fun h => absurd ?_ h⟩
    rw [t_le, h5]
    show (2662 : Int) ≤ _
    omega
  | succ d ih =>
    intro k a5 σ h5 hk g2 g1 g0
    have h5' : (a5 + 1).toInt = ((k + 1 : Nat) : Int) := by
      rw [t_add h5 (y := 1) rfl (by omega) (by omega)]
      omega
    refine w_N_easiestNow_72 a1 a2 a3 a4 a5 σ Q ⟨fun h => ?_, fun _ => ⟨t_vp h5 (by omega), t_vp h5 (by omega), fun σ1 e1 => ?_⟩⟩
    · rw [t_le, h5] at h
      have h : (2662 : Int) ≤ k := h
      omega
    · rw [t_nat h5] at e1
      subst e1
      refine ih (k + 1) (a5 + 1) _ h5' (by omega) (fun k hk => by rw [s_ne (by omega)]; exact g2 k hk) (fun i hi => ?_) (fun i hi => by rw [s_ne (by decide)]; exact g0 i hi)
      rw [s_at]
      rcases Nat.lt_or_ge i k with hl | hl
      · rw [u_ne (by omega)]; exact g1 i hl
      · have hik : i = k := by omega
        subst hik
        rw [u_at, g2 3 (by omega)]
        exact h3 i (by omega)
theorem l_en31 {σ0 : sm_S} {N : Nat} (hN : N < 1730000000) (hj : jj N (σ0 1)) (h3 : ∀ i, i < 2662 → σ0 3 i = σ0 1 i) : ∀ (d k : Nat) (a1 a2 : Int32) (v3 v4 v5 : Value) (σ : sm_S), a2.toInt = k → k + d = 8 → esI σ0 σ → esG σ0 a1 → xE xN m_M_easiestNow 31 [.ref 0, .int a1, .int a2, v3, v4, v5] [] σ (sm_I (fun x σ' => esI σ0 σ' ∧ esG σ0 x)) := by
  intro d
  induction d with
  | zero =>
    intro k a1 a2 v3 v4 v5 σ h2 hk hI hG
    refine w_N_easiestNow_31 a1 a2 v3 v4 v5 σ _ ⟨fun _ => ⟨a1, rfl, hI, hG⟩, fun h => absurd ?_ h⟩
    rw [t_le, h2]
    show (8 : Int) ≤ _
    omega
  | succ d ih =>
    intro k a1 a2 v3 v4 v5 σ h2 hk hI hG
    have h2' : (a2 + 1).toInt = ((k + 1 : Nat) : Int) := by
      rw [t_add h2 (y := 1) rfl (by omega) (by omega)]
      omega
    have K : ∀ (b : Int32) (v3 v4 v5 : Value) (σ' : sm_S), esI σ0 σ' → esG σ0 b → xE xN m_M_easiestNow 31 [.ref 0, .int b, .int (a2 + 1), v3, v4, v5] [] σ' (sm_I (fun x σ' => esI σ0 σ' ∧ esG σ0 x)) := fun b v3 v4 v5 σ' hI' hG' => ih (k + 1) b (a2 + 1) v3 v4 v5 σ' h2' (by omega) hI' hG'
    refine w_N_easiestNow_31 a1 a2 v3 v4 v5 σ _ ⟨fun h => ?_, fun _ => (n_canGo a2 σ).int ?_⟩
    · rw [t_le, h2] at h
      have h : (8 : Int) ≤ k := h
      omega
    · rintro x2 σ ⟨hx2, rfl⟩
      refine ⟨fun n2 => ?_, fun _ => K _ _ _ _ _ hI hG⟩
      obtain ⟨-, s, hs, hs2, hon, hel⟩ := hx2.resolve_left n2
      refine (n_goesAway (N := N) hs2 hs hN σ (jj_eq hI.2.1 hj) hon hel).int ?_
      rintro x4 _ ⟨⟨w, N', rfl, hw, -⟩, hd⟩
      refine (n_spanState hs2 hs _).int ?_
      rintro x6 σ6 ⟨hx6, rfl⟩
      have m2 : ∀ k, 2 ≤ k → (sm_set σ 1 w) k = σ0 k := fun k hk => by rw [s_ne (by omega)]; exact hI.1 k hk
      have m0 : ∀ i, i ≠ 5 → (sm_set σ 1 w) 0 i = σ0 0 i := fun i hi => by rw [s_ne (by decide)]; exact hI.2.2 i hi
      refine ⟨fun _ => ?_, fun n6 => ?_⟩
      · exact l_en72 h3 hG (fun z => absurd rfl z) K 2662 0 0 _ rfl (Nat.zero_add _) m2 (fun i hi => by omega) m0
      · refine l_en72 h3 hG (fun _ => Or.inr ⟨s, hs, hs2, ?_, ?_, fun τ hτ => ?_⟩) K 2662 0 0 _ rfl (Nat.zero_add _) m2 (fun i hi => by omega) m0
        · rw [← hI.2.1 _ (by omega)]; exact hon
        · exact onElse_eq (fun i hi => (hI.2.1 i hi).symm) hel
        · refine (hd τ (stW_tr hI.ga hτ)).mono ?_
          rintro r τ' ⟨y, rfl, hy⟩
          refine ⟨y, rfl, ?_⟩
          have := hy.1 1 (0, 2662) rfl (2358 + 8 * s) (by show _ < 2662; omega)
          exact this.trans (hx6.symm.trans (Classical.not_not.mp n6))
theorem l_en4 : ∀ (d k : Nat) (a1 a2 : Int32) (v3 v4 v5 : Value) (σ : sm_S) (Q : Option Value → sm_S → Prop), a2.toInt = k → k + d = 2662 → (∀ f, (∀ i, k ≤ i → i < 2662 → f i = σ 1 i) → (∀ i, i < k → f i = σ 3 i) → xE xN m_M_easiestNow 31 [.ref 0, .int a1, .int 0, v3, v4, v5] [] (sm_set σ 3 f) Q) → xE xN m_M_easiestNow 4 [.ref 0, .int a1, .int a2, v3, v4, v5] [] σ Q := by
  intro d
  induction d with
  | zero =>
    intro k a1 a2 v3 v4 v5 σ Q h2 hk K
    refine w_N_easiestNow_4 a1 a2 v3 v4 v5 σ Q ⟨fun _ => ?_, fun h => absurd ?_ h⟩
    · have := K (σ 3) (fun i _ _ => by omega) (fun _ _ => rfl)
      rw [s_id] at this
      exact this
    · rw [t_le, h2]
      show (2662 : Int) ≤ _
      omega
  | succ d ih =>
    intro k a1 a2 v3 v4 v5 σ Q h2 hk K
    have h2' : (a2 + 1).toInt = ((k + 1 : Nat) : Int) := by
      rw [t_add h2 (y := 1) rfl (by omega) (by omega)]
      omega
    refine w_N_easiestNow_4 a1 a2 v3 v4 v5 σ Q ⟨fun h => ?_, fun _ => ⟨t_vp h2 (by omega), t_vp h2 (by omega), fun σ1 e1 => ?_⟩⟩
    · rw [t_le, h2] at h
      have h : (2662 : Int) ≤ k := h
      omega
    · rw [t_nat h2] at e1
      subst e1
      refine ih (k + 1) a1 (a2 + 1) v3 v4 v5 _ Q h2' (by omega) (fun f f1 f2 => ?_)
      rw [s_ss]
      refine K f (fun i i1 i2 => ?_) (fun i i1 => ?_)
      · rcases Nat.lt_or_ge k i with hl | hl
        · rw [f1 i hl i2, s_ne (by decide)]
        · have hik : i = k := by omega
          rw [f2 i (by omega), s_at, hik, u_at]
      · rw [f2 i (by omega), s_at, u_ne (by omega)]
theorem n_easiestNow {N : Nat} (hN : N < 1730000000) (σ : sm_S) (hj : jj N (σ 1)) : xC xN j_M_easiestNow [.ref 0] σ (sm_I (fun x σ' => ∃ f, esI (sm_set σ 3 f) σ' ∧ esG (sm_set σ 3 f) x)) := by
  refine w_N_easiestNow σ _ (l_en4 2662 0 _ 0 _ _ _ σ _ rfl (Nat.zero_add _) (fun f f1 _ => ?_))
  refine (l_en31 hN (by rw [s_ne (by decide)]; exact hj) (fun i hi => by rw [s_at, s_ne (by decide)]; exact f1 i (Nat.zero_le i) hi) 8 0 (-1) 0 _ _ _ _ rfl rfl ⟨fun _ _ => rfl, fun _ _ => rfl, fun _ _ => rfl⟩ (Or.inl rfl)).mono ?_
  rintro r σ' ⟨x, rfl, h1, h2⟩
  exact ⟨x, rfl, f, h1, h2⟩
theorem n_easiest {N : Nat} (a1 : Int32) (hN : N < 1600000000) (σ : sm_S) (hj : jj N (σ 1)) : xC xN j_M_easiest [.ref 0, .int a1] σ (sm_I (pubX N 0 σ)) := by
  refine w_N_easiest a1 σ _ (fun σ1 e1 => (n_isIn a1 0 1 σ1).int ?_)
  have hj1 : jj N (σ1 1) := by rw [e1, s_ne (by decide)]; exact hj
  rintro x3 σ1 ⟨-, rfl⟩
  refine ⟨fun _ => (n_easiestNow (N := N) (by omega) σ1 hj1).int ?_, fun _ => ⟨_, rfl, pub_X (pub_keep hj e1)⟩⟩
  rintro x5 σ5 ⟨f, hI, -⟩
  have fin : pubX N 0 σ x5 σ5 := by
    refine ⟨N, jj_eq hI.2.1 (by rw [s_ne (by decide)]; exact hj1), Nat.le_refl N, by omega, ?_, ?_, fun k hk => ?_⟩
    · rw [hI.1 5 (by decide), s_ne (by decide), e1, s_ne (by decide)]
    · rw [hI.2.2 6 (by decide), s_ne (by decide), e1, s_at, u_ne (by decide)]
    · rw [hI.1 k (by omega), s_ne (by omega), e1, s_ne (by omega)]
  exact ⟨fun _ => ⟨fun _ => ⟨_, rfl, fin⟩, fun _ => ⟨_, rfl, fin⟩⟩, fun _ => ⟨_, rfl, fin⟩⟩
theorem l_gb {N : Nat} {σ0 σ1 : sm_S} {f : Nat → Int32} (hj0 : jj N (σ0 1)) (e1 : σ1 = sm_set σ0 0 (upd (σ0 0) 0 0)) (hf : ∀ i, i < 2662 → f i = σ0 1 i) : ∀ (m N1 : Nat) (a1 a2 : Int32) (σ σp : sm_S), cn (fun s => !decide (σ 1 (2358 + 8 * s) = 0)) 8 ≤ m → jj N1 (σ 1) → N1 + 12400001 * m < 1720000000 → σ 2 = f → (∀ k, 5 ≤ k → σ k = σ1 k) → σ 0 6 = σ1 0 6 → esI σp σ → esG σp a2 → xE xN m_M_givenBack 16 [.ref 0, .int a1, .int a2] [] σ (sm_I (pubX N 0 σ0)) := by
  have fin : ∀ (y : Int32) (σ : sm_S), σ 2 = f → (∀ k, 5 ≤ k → σ k = σ1 k) → σ 0 6 = σ1 0 6 → xC xN j_M_forgets [.ref 0] σ (sm_rv False (fun σ9 => sm_I (pubX N 0 σ0) (some (.int y)) σ9)) := by
    intro y σ h2 h3 h6
    refine (n_forgets _).void ?_
    rintro _ ⟨g, rfl, hg⟩
    refine ⟨y, rfl, N, ?_, Nat.le_refl N, by omega, ?_, ?_, fun k hk => ?_⟩
    · rw [s_at]
      exact jj_eq (fun i hi => by rw [hg i hi, h2, hf i hi]) hj0
    · rw [s_ne (by decide), h3 5 (by decide), e1, s_ne (by decide)]
    · rw [s_ne (by decide), h6, e1, s_at, u_ne (by decide)]
    · rw [s_ne (by omega), h3 k (by omega), e1, s_ne (by omega)]
  intro m
  induction m with
  | zero =>
    intro N1 a1 a2 σ σp hm hj hN h2 h3 h6 hI hG
    refine w_N_givenBack_16 a1 a2 σ _ ⟨fun _ => fin _ _ h2 h3 h6, fun n2 => ?_⟩
    obtain ⟨s, hs, hs2, hon, -⟩ := hG.resolve_left n2
    rw [← hI.2.1 _ (by omega)] at hon
    have := cn_lt (P := fun s => !decide (σ 1 (2358 + 8 * s) = 0)) (P' := fun _ => false) (j := s) (by rw [hon]; rfl) rfl (N := 8) hs (fun i _ h => by cases h)
    omega
  | succ m ih =>
    intro N1 a1 a2 σ σp hm hj hN h2 h3 h6 hI hG
    refine w_N_givenBack_16 a1 a2 σ _ ⟨fun _ => fin _ _ h2 h3 h6, fun n2 => ?_⟩
    obtain ⟨s, hs, hs2, hon, hel, hga⟩ := hG.resolve_left n2
    rw [← hI.2.1 _ (by omega)] at hon
    refine ((n_goesAway (N := N1) hs2 hs (by omega) σ hj hon (onElse_eq hI.2.1 hel)).and (hga σ hI.ag)).mono ?_
    rintro r _ ⟨⟨x3, rfl, ⟨w, N', rfl, hw, l1, l2, l3⟩, -⟩, y, -, hoff⟩
    rw [s_at] at hoff
    refine (n_easiestNow (N := N') (by omega) _ (by rw [s_at]; exact hw)).int ?_
    rintro x5 σ5 ⟨g, hI5, hG5⟩
    have e51 : ∀ i, i < 2662 → σ5 1 i = w i := fun i hi => by rw [hI5.2.1 i hi, s_ne (by decide), s_at]
    refine ih N' (a1 + 1) x5 σ5 _ ?_ (jj_eq e51 hw) (by omega) ?_ (fun k hk => ?_) ?_ hI5 hG5
    · have := cn_lt (P := fun s => !decide (σ 1 (2358 + 8 * s) = 0)) (P' := fun s => !decide (σ5 1 (2358 + 8 * s) = 0)) (j := s) (by rw [hon]; rfl) (by rw [e51 _ (by omega), hoff]; rfl) (N := 8) hs (fun i hi h => by
        cases hd : decide (σ 1 (2358 + 8 * i) = 0) with
        | false => rfl
        | true =>
          rw [e51 _ (by omega), l3 i hi (of_decide_eq_true hd)] at h
          cases h)
      omega
    · rw [hI5.1 2 (by omega), s_ne (by decide), s_ne (by decide)]; exact h2
    · rw [hI5.1 k (by omega), s_ne (by omega), s_ne (by omega)]; exact h3 k hk
    · rw [hI5.2.2 6 (by decide), s_ne (by decide), s_ne (by decide)]; exact h6
theorem n_givenBack {N : Nat} (hN : N < 1600000000) (σ : sm_S) (hj : jj N (σ 1)) : xC xN j_M_givenBack [.ref 0] σ (sm_I (pubX N 0 σ)) := by
  refine w_N_givenBack σ _ (fun σ1 e1 => (n_thinks σ1).void ?_)
  have hj1 : jj N (σ1 1) := by rw [e1, s_ne (by decide)]; exact hj
  rintro _ ⟨f, rfl, hf⟩
  have hf' : ∀ i, i < 2662 → f i = σ 1 i := fun i hi => by rw [hf i hi, e1, s_ne (by decide)]
  refine (n_easiestNow (N := N) (by omega) _ (by rw [s_ne (by decide)]; exact hj1)).int ?_
  rintro x4 σ4 ⟨g, hI4, hG4⟩
  refine l_gb hj e1 hf' 8 N 0 x4 σ4 _ cn_bd (jj_eq hI4.2.1 (by rw [s_ne (by decide), s_ne (by decide)]; exact hj1)) (by omega) ?_ (fun k hk => ?_) ?_ hI4 hG4
  · rw [hI4.1 2 (by omega), s_ne (by decide), s_at]
  · rw [hI4.1 k (by omega), s_ne (by omega), s_ne (by omega)]
  · rw [hI4.2.2 6 (by decide), s_ne (by decide), s_ne (by decide)]
end
section
/-! ===== the model: what is told ===== -/
theorem in_n {a c : Int32} {C : Nat} (hc : c.toInt = C) (h : (0 : Int32).toInt ≤ a.toInt) (h2 : a.toInt ≤ c.toInt) : ∃ n : Nat, a.toInt = n ∧ n ≤ C := by
  have h : (0 : Int) ≤ a.toInt := h
  obtain ⟨n, hn⟩ := t_of h
  exact ⟨n, hn, by omega⟩
theorem c_frame {N : Nat} (a1 a2 : Int32) (σ : sm_S) (hj : jj N (σ 1)) : xC xM j_M_frame [.ref 0, .int a1, .int a2] σ (sm_I (pubX N 0 σ)) := by
  refine w_M_frame a1 a2 σ _ (fun σ1 e1 => (c_isIn a1 0 255 σ1).int ?_)
  rintro x3 σ1 ⟨hx3, rfl⟩
  have keep : ∀ y : Int32, sm_I (pubX N 0 σ) (some (.int y)) σ1 := fun y => ⟨_, rfl, pub_X (pub_keep hj e1)⟩
  refine ⟨fun _ => keep _, fun n3 => (c_isIn a2 0 2 _).int ?_⟩
  obtain ⟨-, g1, g2⟩ := hx3.resolve_right (fun z => n3 z.1)
  obtain ⟨n, hn, hn2⟩ := in_n (C := 255) rfl g1 g2
  rintro x5 σ1 ⟨hx5, rfl⟩
  refine ⟨fun n5 => (c_frameAt a1 _).int ?_, fun _ => keep _⟩
  obtain ⟨-, g3, g4⟩ := hx5.resolve_right (fun z => n5 z.1)
  obtain ⟨m, hm, hm2⟩ := in_n (C := 2) rfl g3 g4
  rintro x7 σ1 ⟨rfl, rfl⟩
  exact ⟨t_vp (t_ix (C := 18) (M := 3) rfl rfl hn hm (by omega)) (by omega), fun _ => keep _, fun _ => keep _⟩
theorem c_block {N : Nat} (a1 a2 : Int32) (σ : sm_S) (hj : jj N (σ 1)) : xC xM j_M_block [.ref 0, .int a1, .int a2] σ (sm_I (pubX N 0 σ)) := by
  refine w_M_block a1 a2 σ _ (fun σ1 e1 => (c_isBlock a1 σ1).int ?_)
  rintro x3 σ1 ⟨hx3, rfl⟩
  have keep : ∀ y : Int32, sm_I (pubX N 0 σ) (some (.int y)) σ1 := fun y => ⟨_, rfl, pub_X (pub_keep hj e1)⟩
  refine ⟨fun _ => keep _, fun n3 => (c_isIn a2 0 8 _).int ?_⟩
  obtain ⟨-, n, hn2, hn, -⟩ := hx3.resolve_right (fun z => n3 z.1)
  rintro x5 σ1 ⟨hx5, rfl⟩
  refine ⟨fun n5 => ?_, fun _ => keep _⟩
  obtain ⟨-, g3, g4⟩ := hx5.resolve_right (fun z => n5 z.1)
  obtain ⟨m, hm, hm2⟩ := in_n (C := 8) rfl g3 g4
  have hm1 : (a2 + 1).toInt = ((m + 1 : Nat) : Int) := by
    rw [t_add hm (y := 1) rfl (by omega) (by omega)]
    omega
  refine (c_of hn hm1 (by omega) _).int ?_
  rintro x7 σ1 ⟨-, rfl⟩
  exact ⟨fun _ => keep _, fun _ => keep _⟩
theorem c_span {N : Nat} (a1 a2 : Int32) (σ : sm_S) (hj : jj N (σ 1)) : xC xM j_M_span [.ref 0, .int a1, .int a2] σ (sm_I (pubX N 0 σ)) := by
  refine w_M_span a1 a2 σ _ (fun σ1 e1 => (c_isSpan a1 σ1).int ?_)
  rintro x3 σ1 ⟨hx3, rfl⟩
  have keep : ∀ y : Int32, sm_I (pubX N 0 σ) (some (.int y)) σ1 := fun y => ⟨_, rfl, pub_X (pub_keep hj e1)⟩
  refine ⟨fun _ => keep _, fun n3 => (c_isIn a2 0 10 _).int ?_⟩
  obtain ⟨-, n, hn2, hn⟩ := hx3.resolve_right (fun z => n3 z.1)
  have vs : ∀ (c : Int32) (j : Nat), c.toInt = j → j < 8 → vp_in (2358 + 8 * a1 + c) 2662 := fun c j hc hj => t_vp (t_ix (C := 2358) (M := 8) rfl rfl hn hc (by omega)) (by omega)
  rintro x5 σ1 ⟨-, rfl⟩
  refine ⟨fun n5 => (c_spanAt a1 _).int ?_, fun _ => keep _⟩
  rintro x7 σ1 ⟨rfl, rfl⟩
  refine ⟨fun _ => ⟨fun _ => ⟨fun _ => ⟨fun _ => ⟨fun _ => ⟨fun _ => ⟨fun _ => ⟨vs 7 7 rfl (by omega), keep _⟩, fun _ => ⟨vs 6 6 rfl (by omega), keep _⟩⟩, fun _ => ⟨vs 4 4 rfl (by omega), keep _⟩⟩, fun _ => ⟨vs 3 3 rfl (by omega), keep _⟩⟩, fun _ => ⟨vs 2 2 rfl (by omega), keep _⟩⟩, fun _ => (c_manyIn hn hn2 _ _).int ?_⟩, fun _ => (c_zoneOf hn hn2 _).int ?_⟩, fun _ => ⟨vs 0 0 rfl (by omega), keep _⟩⟩
  · rintro x9 σ1 rfl; exact keep _
  · rintro x9 σ1 ⟨-, rfl⟩; exact keep _
theorem l_ownsMany (a1 a2 : Int32) (σ : sm_S) : ∀ (d k : Nat) (a3 a4 : Int32), a4.toInt = k → k + d = 96 → xE xM m_M_ownsMany 5 [.ref 0, .int a1, .int a2, .int a3, .int a4] [] σ (sm_I (fun _ σ' => σ' = σ)) := by
  intro d
  induction d with
  | zero =>
    intro k a3 a4 h4 hk
    refine w_M_ownsMany_5 a1 a2 a3 a4 σ _ ⟨fun _ => ⟨_, rfl, rfl⟩, fun h => absurd ?_ h⟩
    rw [t_le, h4]
    show (96 : Int) ≤ _
    omega
  | succ d ih =>
    intro k a3 a4 h4 hk
    have h4' : (a4 + 1).toInt = ((k + 1 : Nat) : Int) := by
      rw [t_add h4 (y := 1) rfl (by omega) (by omega)]
      omega
    have next : ∀ b : Int32, xE xM m_M_ownsMany 5 [.ref 0, .int a1, .int a2, .int b, .int (a4 + 1)] [] σ (sm_I (fun _ σ' => σ' = σ)) := fun b => ih (k + 1) b _ h4' (by omega)
    refine w_M_ownsMany_5 a1 a2 a3 a4 σ _ ⟨fun _ => ⟨_, rfl, rfl⟩, fun _ => (c_isBlock a4 σ).int ?_⟩
    rintro x2 σ ⟨-, rfl⟩
    refine ⟨fun _ => next _, fun _ => ⟨fun _ => (c_hasPin h4 (by omega) _).int ?_, fun _ => (c_of (k := 4) (j := 4) h4 rfl (by omega) _).int ?_⟩⟩
    · rintro x4 σ ⟨-, rfl⟩
      exact ⟨fun _ => next _, fun _ => next _⟩
    · rintro x4 σ ⟨-, rfl⟩
      exact ⟨fun _ => next _, fun _ => next _⟩
theorem c_ownsMany (a1 a2 : Int32) (σ : sm_S) : xC xM j_M_ownsMany [.ref 0, .int a1, .int a2] σ (sm_I (fun _ σ' => σ' = σ)) := w_M_ownsMany a1 a2 σ _ (l_ownsMany a1 a2 σ 96 0 0 0 rfl rfl)
theorem c_task {N : Nat} (a1 a2 : Int32) (σ : sm_S) (hj : jj N (σ 1)) : xC xM j_M_task [.ref 0, .int a1, .int a2] σ (sm_I (pubX N 0 σ)) := by
  refine w_M_task a1 a2 σ _ (fun σ1 e1 => (c_isTask a1 σ1).int ?_)
  rintro x3 σ1 ⟨hx3, rfl⟩
  have keep : ∀ y : Int32, sm_I (pubX N 0 σ) (some (.int y)) σ1 := fun y => ⟨_, rfl, pub_X (pub_keep hj e1)⟩
  refine ⟨fun _ => keep _, fun n3 => (c_isIn a2 0 5 _).int ?_⟩
  obtain ⟨-, n, hn2, hn⟩ := hx3.resolve_right (fun z => n3 z.1)
  have vs : ∀ (c : Int32) (j : Nat), c.toInt = j → j < 6 → vp_in (2322 + 6 * a1 + c) 2662 := fun c j hc hj => t_vp (t_ix (C := 2322) (M := 6) rfl rfl hn hc (by omega)) (by omega)
  rintro x5 σ1 ⟨-, rfl⟩
  refine ⟨fun n5 => (c_taskAt a1 _).int ?_, fun _ => keep _⟩
  rintro x7 σ1 ⟨rfl, rfl⟩
  refine ⟨fun _ => ⟨fun _ => ⟨fun _ => ⟨fun _ => ⟨fun _ => (c_ownsMany _ _ _).int ?_, fun _ => (c_ownsMany _ _ _).int ?_⟩, fun _ => ⟨vs 5 5 rfl (by omega), keep _⟩⟩, fun _ => ⟨vs 1 1 rfl (by omega), keep _⟩⟩, fun _ => ⟨vs 1 1 rfl (by omega), fun _ => keep _, fun _ => keep _⟩⟩, fun _ => ⟨vs 0 0 rfl (by omega), keep _⟩⟩
  · rintro x9 σ1 rfl; exact keep _
  · rintro x9 σ1 rfl; exact keep _
theorem l_freeIn (a1 : Int32) (σ : sm_S) : ∀ (d k : Nat) (a2 a3 : Int32), a3.toInt = k → k + d = 256 → xE xM m_M_freeIn 4 [.ref 0, .int a1, .int a2, .int a3] [] σ (sm_I (fun _ σ' => σ' = σ)) := by
  intro d
  induction d with
  | zero =>
    intro k a2 a3 h4 hk
    refine w_M_freeIn_4 a1 a2 a3 σ _ ⟨fun _ => ⟨_, rfl, rfl⟩, fun h => absurd ?_ h⟩
    rw [t_le, h4]
    show (256 : Int) ≤ _
    omega
  | succ d ih =>
    intro k a2 a3 h4 hk
    have h4' : (a3 + 1).toInt = ((k + 1 : Nat) : Int) := by
      rw [t_add h4 (y := 1) rfl (by omega) (by omega)]
      omega
    have next : ∀ b : Int32, xE xM m_M_freeIn 4 [.ref 0, .int a1, .int b, .int (a3 + 1)] [] σ (sm_I (fun _ σ' => σ' = σ)) := fun b => ih (k + 1) b _ h4' (by omega)
    refine w_M_freeIn_4 a1 a2 a3 σ _ ⟨fun _ => ⟨_, rfl, rfl⟩, fun _ => (c_isFree h4 (by omega) σ).int ?_⟩
    rintro x2 σ ⟨-, rfl⟩
    refine ⟨fun _ => next _, fun _ => (c_spanOf h4 _).int ?_⟩
    rintro x4 σ ⟨hx4, rfl⟩
    refine (c_zoneOf hx4 (by omega) _).int ?_
    rintro x6 σ ⟨-, rfl⟩
    exact ⟨fun _ => next _, fun _ => next _⟩
theorem c_freeIn (a1 : Int32) (σ : sm_S) : xC xM j_M_freeIn [.ref 0, .int a1] σ (sm_I (fun _ σ' => σ' = σ)) := w_M_freeIn a1 σ _ (l_freeIn a1 σ 256 0 0 0 rfl rfl)
theorem l_zone (a1 a2 : Int32) (σ : sm_S) : ∀ (d k : Nat) (a3 a4 : Int32), a4.toInt = k → k + d = 8 → xE xM m_M_zone 56 [.ref 0, .int a1, .int a2, .int a3, .int a4] [] σ (sm_I (fun _ σ' => σ' = σ)) := by
  intro d
  induction d with
  | zero =>
    intro k a3 a4 h4 hk
    refine w_M_zone_56 a1 a2 a3 a4 σ _ ⟨fun _ => ⟨_, rfl, rfl⟩, fun h => absurd ?_ h⟩
    rw [t_le, h4]
    show (8 : Int) ≤ _
    omega
  | succ d ih =>
    intro k a3 a4 h4 hk
    have h4' : (a4 + 1).toInt = ((k + 1 : Nat) : Int) := by
      rw [t_add h4 (y := 1) rfl (by omega) (by omega)]
      omega
    have next : ∀ b : Int32, xE xM m_M_zone 56 [.ref 0, .int a1, .int a2, .int b, .int (a4 + 1)] [] σ (sm_I (fun _ σ' => σ' = σ)) := fun b => ih (k + 1) b _ h4' (by omega)
    refine w_M_zone_56 a1 a2 a3 a4 σ _ ⟨fun _ => ⟨_, rfl, rfl⟩, fun _ => (c_zoneOf h4 (by omega) σ).int ?_⟩
    rintro x2 σ ⟨-, rfl⟩
    refine ⟨fun _ => next _, fun _ => (c_greatestIn h4 (by omega) _).int ?_⟩
    rintro x4 σ rfl
    refine ⟨fun _ => next _, fun _ => (c_greatestIn h4 (by omega) _).int ?_⟩
    rintro x6 σ rfl
    exact next _
theorem c_zone {N : Nat} (a1 a2 : Int32) (σ : sm_S) (hj : jj N (σ 1)) : xC xM j_M_zone [.ref 0, .int a1, .int a2] σ (sm_I (pubX N 0 σ)) := by
  refine w_M_zone a1 a2 σ _ (fun σ1 e1 => (c_isIn a1 0 1 σ1).int ?_)
  rintro x3 σ1 ⟨-, rfl⟩
  have keep : ∀ y : Int32, sm_I (pubX N 0 σ) (some (.int y)) σ1 := fun y => ⟨_, rfl, pub_X (pub_keep hj e1)⟩
  refine ⟨fun _ => keep _, fun n3 => (c_isIn a2 0 2 _).int ?_⟩
  rintro x5 σ1 ⟨-, rfl⟩
  refine ⟨fun _ => ⟨fun _ => ⟨fun _ => (l_zone a1 a2 _ 8 0 _ 0 rfl rfl).mono ?_, fun _ => (c_freeIn a1 _).int ?_⟩, fun _ => (c_framesOf a1 _).int ?_⟩, fun _ => keep _⟩
  · rintro r σ1 ⟨x, rfl, rfl⟩; exact keep _
  · rintro r σ1 rfl; exact keep _
  · rintro r σ1 ⟨-, rfl⟩; exact ⟨by decide, keep _⟩
theorem l_loose {a2 : Int32} {o : Nat} (h2 : a2.toInt = o) (ho : o ≤ 5) (a1 : Int32) (σ : sm_S) : ∀ (d k : Nat) (a3 a4 : Int32), a4.toInt = k → k + d = 256 → xE xM m_M_loose 32 [.ref 0, .int a1, .int a2, .int a3, .int a4] [] σ (sm_I (fun _ σ' => σ' = σ)) := by
  intro d
  induction d with
  | zero =>
    intro k a3 a4 h4 hk
    refine w_M_loose_32 a1 a2 a3 a4 σ _ ⟨fun _ => ⟨_, rfl, rfl⟩, fun h => absurd ?_ h⟩
    rw [t_le, h4]
    show (256 : Int) ≤ _
    omega
  | succ d ih =>
    intro k a3 a4 h4 hk
    have h4' : (a4 + 1).toInt = ((k + 1 : Nat) : Int) := by
      rw [t_add h4 (y := 1) rfl (by omega) (by omega)]
      omega
    have next : ∀ b : Int32, xE xM m_M_loose 32 [.ref 0, .int a1, .int a2, .int b, .int (a4 + 1)] [] σ (sm_I (fun _ σ' => σ' = σ)) := fun b => ih (k + 1) b _ h4' (by omega)
    refine w_M_loose_32 a1 a2 a3 a4 σ _ ⟨fun _ => ⟨_, rfl, rfl⟩, fun _ => (c_isFree h4 (by omega) σ).int ?_⟩
    rintro x2 σ ⟨-, rfl⟩
    refine ⟨fun _ => next _, fun _ => (c_spanOf h4 _).int ?_⟩
    rintro x4 σ ⟨hx4, rfl⟩
    refine (c_zoneOf hx4 (by omega) _).int ?_
    rintro x6 σ ⟨-, rfl⟩
    refine ⟨fun _ => next _, fun _ => (c_areFree h4 (by omega) h2 ho _).int ?_⟩
    rintro x8 σ ⟨-, rfl⟩
    exact ⟨fun _ => next _, fun _ => next _⟩
theorem c_loose {N : Nat} (a1 a2 : Int32) (σ : sm_S) (hj : jj N (σ 1)) : xC xM j_M_loose [.ref 0, .int a1, .int a2] σ (sm_I (pubX N 0 σ)) := by
  refine w_M_loose a1 a2 σ _ (fun σ1 e1 => (c_isIn a1 0 1 σ1).int ?_)
  rintro x3 σ1 ⟨-, rfl⟩
  have keep : ∀ y : Int32, sm_I (pubX N 0 σ) (some (.int y)) σ1 := fun y => ⟨_, rfl, pub_X (pub_keep hj e1)⟩
  refine ⟨fun _ => keep _, fun n3 => (c_isIn a2 0 5 _).int ?_⟩
  rintro x5 σ1 ⟨hx5, rfl⟩
  refine ⟨fun n5 => ?_, fun _ => keep _⟩
  obtain ⟨-, g3, g4⟩ := hx5.resolve_right (fun z => n5 z.1)
  obtain ⟨m, hm, hm2⟩ := in_n (C := 5) rfl g3 g4
  refine (l_loose hm hm2 a1 _ 256 0 _ 0 rfl rfl).mono ?_
  rintro r σ1 ⟨x, rfl, rfl⟩; exact keep _
theorem c_place {N : Nat} (a1 a2 a3 : Int32) (σ : sm_S) (hj : jj N (σ 1)) : xC xM j_M_place [.ref 0, .int a1, .int a2, .int a3] σ (sm_I (pubX N 0 σ)) := by
  refine w_M_place a1 a2 a3 σ _ (fun σ1 e1 => (c_isTask a1 σ1).int ?_)
  rintro x3 σ1 ⟨hx3, rfl⟩
  have keep : ∀ y : Int32, sm_I (pubX N 0 σ) (some (.int y)) σ1 := fun y => ⟨_, rfl, pub_X (pub_keep hj e1)⟩
  refine ⟨fun _ => keep _, fun n3 => (c_isIn a2 0 2 _).int ?_⟩
  obtain ⟨-, n, hn2, hn⟩ := hx3.resolve_right (fun z => n3 z.1)
  rintro x5 σ1 ⟨-, rfl⟩
  refine ⟨fun _ => keep _, fun n5 => (c_isIn a3 0 4 _).int ?_⟩
  rintro x7 σ1 ⟨hx7, rfl⟩
  refine ⟨fun _ => keep _, fun n7 => ?_⟩
  obtain ⟨-, g3, g4⟩ := hx7.resolve_right (fun z => n7 z.1)
  obtain ⟨m, hm, hm2⟩ := in_n (C := 4) rfl g3 g4
  refine (c_bestPlace hn hn2 hm hm2 _).int ?_
  rintro x9 σ1 ⟨-, rfl⟩; exact keep _
theorem c_hole {N : Nat} (a1 : Int32) (σ : sm_S) (hj : jj N (σ 1)) : xC xM j_M_hole [.ref 0, .int a1] σ (sm_I (pubX N 0 σ)) := by
  refine w_M_hole a1 σ _ (fun σ1 e1 => (c_isIn a1 0 255 σ1).int ?_)
  rintro x3 σ1 ⟨hx3, rfl⟩
  have keep : ∀ y : Int32, sm_I (pubX N 0 σ) (some (.int y)) σ1 := fun y => ⟨_, rfl, pub_X (pub_keep hj e1)⟩
  refine ⟨fun _ => keep _, fun n3 => ?_⟩
  obtain ⟨-, g3, g4⟩ := hx3.resolve_right (fun z => n3 z.1)
  obtain ⟨m, hm, hm2⟩ := in_n (C := 255) rfl g3 g4
  refine (c_isFree hm (by omega) _).int ?_
  rintro x5 σ1 ⟨-, rfl⟩
  refine ⟨fun _ => keep _, fun n5 => (c_holeOf hm (by omega) _).int ?_⟩
  rintro x9 σ1 ⟨-, rfl⟩; exact keep _
theorem l_at {N : Nat} (a1 a2 : Int32) (σ : sm_S) (hj : jj N (σ 1)) : ∀ (d k : Nat) (a3 a4 : Int32), a4.toInt = k → k + d = 256 → xE xM m_M_at 30 [.ref 0, .int a1, .int a2, .int a3, .int a4] [] σ (sm_I (fun _ σ' => σ' = σ)) := by
  intro d
  induction d with
  | zero =>
    intro k a3 a4 h4 hk
    refine w_M_at_30 a1 a2 a3 a4 σ _ ⟨fun _ => ⟨_, rfl, rfl⟩, fun h => absurd ?_ h⟩
    rw [t_le, h4]
    show (256 : Int) ≤ _
    omega
  | succ d ih =>
    intro k a3 a4 h4 hk
    have h4' : (a4 + 1).toInt = ((k + 1 : Nat) : Int) := by
      rw [t_add h4 (y := 1) rfl (by omega) (by omega)]
      omega
    have next : ∀ b : Int32, xE xM m_M_at 30 [.ref 0, .int a1, .int a2, .int b, .int (a4 + 1)] [] σ (sm_I (fun _ σ' => σ' = σ)) := fun b => ih (k + 1) b _ h4' (by omega)
    refine w_M_at_30 a1 a2 a3 a4 σ _ ⟨fun _ => ⟨_, rfl, rfl⟩, fun _ => (c_spanOf h4 σ).int ?_⟩
    rintro x2 σ ⟨-, rfl⟩
    refine ⟨by decide, fun _ => next _, fun _ => (c_stateOf h4 (by omega) _).int ?_⟩
    rintro x4 σ ⟨-, rfl⟩
    refine ⟨fun _ => next _, fun _ => (c_frameAt a4 _).int ?_⟩
    rintro x6 σ ⟨rfl, rfl⟩
    have hi := t_ix (C := 18) (M := 3) (c := 18) (m := 3) (k := 1) (j := 1) rfl rfl h4 rfl (by omega)
    obtain ⟨f1, f2⟩ := hj.1.1 k (by omega)
    obtain ⟨q, hq⟩ := t_of f1
    refine ⟨t_vp hi (by omega), (c_ofm (m := q) (k := 4) (j := 4) ?_ (by omega) rfl (by omega) _).int ?_⟩
    · rw [t_nat hi, t_sub hq (y := 1) rfl (by omega) (by omega)]
    · rintro x8 σ ⟨-, rfl⟩
      exact ⟨fun _ => next _, fun _ => next _⟩
theorem c_at {N : Nat} (a1 a2 : Int32) (σ : sm_S) (hj : jj N (σ 1)) : xC xM j_M_at [.ref 0, .int a1, .int a2] σ (sm_I (pubX N 0 σ)) := by
  refine w_M_at a1 a2 σ _ (fun σ1 e1 => (c_isTask a1 σ1).int ?_)
  have hj1 : jj N (σ1 1) := by rw [e1, s_ne (by decide)]; exact hj
  rintro x3 σ1 ⟨-, rfl⟩
  have keep : ∀ y : Int32, sm_I (pubX N 0 σ) (some (.int y)) σ1 := fun y => ⟨_, rfl, pub_X (pub_keep hj e1)⟩
  refine ⟨fun _ => keep _, fun n3 => (c_isIn a2 0 1 _).int ?_⟩
  rintro x5 σ1 ⟨-, rfl⟩
  refine ⟨fun n5 => (l_at a1 a2 _ hj1 256 0 _ 0 rfl rfl).mono ?_, fun _ => keep _⟩
  rintro r σ1 ⟨x, rfl, rfl⟩; exact keep _
theorem c_log {N : Nat} (a1 a2 : Int32) (σ : sm_S) (hj : jj N (σ 1)) : xC xM j_M_log [.ref 0, .int a1, .int a2] σ (sm_I (pubX N 0 σ)) := by
  refine w_M_log a1 a2 σ _ (fun σ1 e1 => ?_)
  have hj1 : jj N (σ1 1) := by rw [e1, s_ne (by decide)]; exact hj
  have keep : ∀ y : Int32, sm_I (pubX N 0 σ) (some (.int y)) σ1 := fun y => ⟨_, rfl, pub_X (pub_keep hj e1)⟩
  have h5 : (σ1 1 ((5 : Int32)).toNatClampNeg).toInt = N := hj1.2.2
  refine ⟨fun _ => keep _, fun n1 => ⟨fun _ => keep _, fun n2 => ⟨t_vp (n := 5) rfl (by omega), fun _ => keep _, fun n5 => (c_isIn a2 0 3 _).int ?_⟩⟩⟩
  rw [t_lt] at n1
  rw [t_le] at n2
  rw [t_le, h5] at n5
  have n1 : ¬ a1.toInt < (0 : Int) := n1
  have n2 : ¬ (60 : Int) ≤ a1.toInt := n2
  obtain ⟨n, hn⟩ := t_of (x := a1) (by omega)
  have bN := t_bd (σ1 1 ((5 : Int32)).toNatClampNeg)
  rintro x3 σ1 ⟨hx3, rfl⟩
  refine ⟨fun n3 => ?_, fun _ => keep _⟩
  obtain ⟨-, g3, g4⟩ := hx3.resolve_right (fun z => n3 z.1)
  obtain ⟨m, hm, hm2⟩ := in_n (C := 3) rfl g3 g4
  have q1 := t_sub h5 (y := 1) (b := 1) rfl (by omega) (by omega)
  have q2 := t_sub q1 hn (by omega) (by omega)
  have q2' : (σ1 1 ((5 : Int32)).toNatClampNeg - 1 - a1).toInt = ((N - 1 - n : Nat) : Int) := by rw [q2]; omega
  have q3 := t_rem (d := 60) (b := 60) q2' rfl (by decide)
  exact ⟨t_vp (n := 5) rfl (by omega), by decide, t_vp (t_ix (C := 2422) (M := 4) rfl rfl q3 hm (by omega)) (by omega), keep _⟩
theorem c_count {N : Nat} (a1 : Int32) (σ : sm_S) (hj : jj N (σ 1)) : xC xM j_M_count [.ref 0, .int a1] σ (sm_I (pubX N 0 σ)) := by
  refine w_M_count a1 σ _ (fun σ1 e1 => (c_isIn a1 0 10 σ1).int ?_)
  rintro x3 σ1 ⟨hx3, rfl⟩
  have keep : ∀ y : Int32, sm_I (pubX N 0 σ) (some (.int y)) σ1 := fun y => ⟨_, rfl, pub_X (pub_keep hj e1)⟩
  refine ⟨fun _ => keep _, fun n3 => ?_⟩
  obtain ⟨-, g3, g4⟩ := hx3.resolve_right (fun z => n3 z.1)
  obtain ⟨m, hm, hm2⟩ := in_n (C := 10) rfl g3 g4
  have q : (7 + a1).toInt = ((7 + m : Nat) : Int) := by
    rw [t_add (x := 7) rfl hm (by omega) (by omega)]
    omega
  exact ⟨t_vp q (by omega), keep _⟩
theorem l_framesIn (a1 : Int32) (σ : sm_S) : ∀ (d k : Nat) (a2 a3 : Int32), a3.toInt = k → k + d = 8 → xE xM m_M_framesIn 4 [.ref 0, .int a1, .int a2, .int a3] [] σ (sm_I (fun _ σ' => σ' = σ)) := by
  intro d
  induction d with
  | zero =>
    intro k a2 a3 h4 hk
    refine w_M_framesIn_4 a1 a2 a3 σ _ ⟨fun _ => ⟨_, rfl, rfl⟩, fun h => absurd ?_ h⟩
    rw [t_le, h4]
    show (8 : Int) ≤ _
    omega
  | succ d ih =>
    intro k a2 a3 h4 hk
    have h4' : (a3 + 1).toInt = ((k + 1 : Nat) : Int) := by
      rw [t_add h4 (y := 1) rfl (by omega) (by omega)]
      omega
    refine w_M_framesIn_4 a1 a2 a3 σ _ ⟨fun _ => ⟨_, rfl, rfl⟩, fun _ => (c_manyIn h4 (by omega) _ σ).int ?_⟩
    rintro x2 σ rfl
    exact ih (k + 1) _ _ h4' (by omega)
theorem c_framesIn (a1 : Int32) (σ : sm_S) : xC xM j_M_framesIn [.ref 0, .int a1] σ (sm_I (fun _ σ' => σ' = σ)) := w_M_framesIn a1 σ _ (l_framesIn a1 σ 8 0 0 0 rfl rfl)
theorem l_blocks (σ : sm_S) : ∀ (d k : Nat) (a1 a2 : Int32), a2.toInt = k → k + d = 96 → xE xM m_M_blocks 4 [.ref 0, .int a1, .int a2] [] σ (sm_I (fun _ σ' => σ' = σ)) := by
  intro d
  induction d with
  | zero =>
    intro k a1 a2 h4 hk
    refine w_M_blocks_4 a1 a2 σ _ ⟨fun _ => ⟨_, rfl, rfl⟩, fun h => absurd ?_ h⟩
    rw [t_le, h4]
    show (96 : Int) ≤ _
    omega
  | succ d ih =>
    intro k a1 a2 h4 hk
    have h4' : (a2 + 1).toInt = ((k + 1 : Nat) : Int) := by
      rw [t_add h4 (y := 1) rfl (by omega) (by omega)]
      omega
    refine w_M_blocks_4 a1 a2 σ _ ⟨fun _ => ⟨_, rfl, rfl⟩, fun _ => (c_of (k := 0) (j := 0) h4 rfl (by omega) σ).int ?_⟩
    rintro x2 σ ⟨-, rfl⟩
    exact ih (k + 1) _ _ h4' (by omega)
theorem c_blocks (σ : sm_S) : xC xM j_M_blocks [.ref 0] σ (sm_I (fun _ σ' => σ' = σ)) := w_M_blocks σ _ (l_blocks σ 96 0 0 0 rfl rfl)
theorem l_waiters (σ : sm_S) : ∀ (d k : Nat) (a1 a2 : Int32), a2.toInt = k → k + d = 6 → xE xM m_M_waiters 4 [.ref 0, .int a1, .int a2] [] σ (sm_I (fun _ σ' => σ' = σ)) := by
  intro d
  induction d with
  | zero =>
    intro k a1 a2 h4 hk
    refine w_M_waiters_4 a1 a2 σ _ ⟨fun _ => ⟨_, rfl, rfl⟩, fun h => absurd ?_ h⟩
    rw [t_le, h4]
    show (6 : Int) ≤ _
    omega
  | succ d ih =>
    intro k a1 a2 h4 hk
    have h4' : (a2 + 1).toInt = ((k + 1 : Nat) : Int) := by
      rw [t_add h4 (y := 1) rfl (by omega) (by omega)]
      omega
    refine w_M_waiters_4 a1 a2 σ _ ⟨fun _ => ⟨_, rfl, rfl⟩, fun _ => (c_taskAt a2 σ).int ?_⟩
    rintro x2 σ ⟨rfl, rfl⟩
    exact ⟨t_vp (t_ix (C := 2322) (M := 6) (j := 1) rfl rfl h4 rfl (by omega)) (by omega), fun _ => ih (k + 1) _ _ h4' (by omega), fun _ => ih (k + 1) _ _ h4' (by omega)⟩
theorem c_waiters (σ : sm_S) : xC xM j_M_waiters [.ref 0] σ (sm_I (fun _ σ' => σ' = σ)) := w_M_waiters σ _ (l_waiters σ 6 0 0 0 rfl rfl)
theorem l_goers (σ : sm_S) : ∀ (d k : Nat) (a1 a2 : Int32), a2.toInt = k → k + d = 8 → xE xM m_M_goers 4 [.ref 0, .int a1, .int a2] [] σ (sm_I (fun _ σ' => σ' = σ)) := by
  intro d
  induction d with
  | zero =>
    intro k a1 a2 h4 hk
    refine w_M_goers_4 a1 a2 σ _ ⟨fun _ => ⟨_, rfl, rfl⟩, fun h => absurd ?_ h⟩
    rw [t_le, h4]
    show (8 : Int) ≤ _
    omega
  | succ d ih =>
    intro k a1 a2 h4 hk
    have h4' : (a2 + 1).toInt = ((k + 1 : Nat) : Int) := by
      rw [t_add h4 (y := 1) rfl (by omega) (by omega)]
      omega
    refine w_M_goers_4 a1 a2 σ _ ⟨fun _ => ⟨_, rfl, rfl⟩, fun _ => (c_isGoing h4 (by omega) σ).int ?_⟩
    rintro x2 σ ⟨-, rfl⟩
    exact ⟨fun _ => ih (k + 1) _ _ h4' (by omega), fun _ => ih (k + 1) _ _ h4' (by omega)⟩
theorem c_goers (σ : sm_S) : xC xM j_M_goers [.ref 0] σ (sm_I (fun _ σ' => σ' = σ)) := w_M_goers σ _ (l_goers σ 8 0 0 0 rfl rfl)
theorem c_look {N : Nat} (a1 : Int32) (σ : sm_S) (hj : jj N (σ 1)) : xC xM j_M_look [.ref 0, .int a1] σ (sm_I (pubX N 0 σ)) := by
  refine w_M_look a1 σ _ (fun σ1 e1 => (c_isIn a1 0 3 σ1).int ?_)
  have hj1 : jj N (σ1 1) := by rw [e1, s_ne (by decide)]; exact hj
  rintro x3 σ1 ⟨hx3, rfl⟩
  have keep : ∀ y : Int32, sm_I (pubX N 0 σ) (some (.int y)) σ1 := fun y => ⟨_, rfl, pub_X (pub_keep hj e1)⟩
  refine ⟨fun _ => ⟨fun _ => ⟨fun _ => ⟨fun _ => (c_isIn a1 7 10 _).int ?_, fun _ => (c_framesOf 0 _).int ?_⟩, fun _ => (c_blocks _).int ?_⟩, fun _ => ⟨t_vp (n := 4) rfl (by omega), keep _⟩⟩, fun n3 => ?_⟩
  · rintro x5 σ1 ⟨-, rfl⟩
    refine ⟨fun _ => ⟨fun _ => ⟨fun _ => ⟨fun _ => ⟨fun _ => keep _, fun _ => (c_framesOf 1 _).int ?_⟩, fun _ => ⟨t_vp (n := 5) rfl (by omega), keep _⟩⟩, fun _ => (c_goers _).int ?_⟩, fun _ => (c_waiters _).int ?_⟩, fun _ => (c_framesIn _ _).int ?_⟩
    · rintro x7 σ1 ⟨-, rfl⟩
      refine (c_framesOf 0 _).int ?_
      rintro x9 σ1 ⟨⟨c, hc, -, hc1⟩, rfl⟩
      obtain ⟨s, hs, z1, z2⟩ := hj1.2.1.2.2.2.2
      have := hc1 s hs (fun z => by rw [show 2358 + 8 * s = 2358 + 8 * s + 0 from rfl, z1] at z; exact absurd z (by decide)) z2
      refine ⟨fun z => ?_, keep _⟩
      rw [z] at hc
      have hc : (0 : Int) = ((32 * c : Nat) : Int) := hc
      omega
    · rintro x7 σ1 rfl; exact keep _
    · rintro x7 σ1 rfl; exact keep _
    · rintro x7 σ1 rfl; exact keep _
  · rintro x7 σ1 ⟨-, rfl⟩
    refine (c_framesOf 1 _).int ?_
    rintro x9 σ1 ⟨-, rfl⟩
    exact ⟨by decide, keep _⟩
  · rintro x7 σ1 rfl; exact keep _
  · obtain ⟨-, g3, g4⟩ := hx3.resolve_right (fun z => n3 z.1)
    obtain ⟨m, hm, hm2⟩ := in_n (C := 3) rfl g3 g4
    refine (c_settingOf hm (by omega) _).int ?_
    rintro x7 σ1 rfl; exact keep _
/-- what holds between the calls: at most B lines in the log, now and in the image -/
def lw (B : Nat) (σ : sm_S) : Prop := (∃ N, N ≤ B ∧ jj N (σ 1)) ∧ (σ 0 6 ≠ 0 → ∃ N, N ≤ B ∧ jj N (σ 5))
theorem lw.pub {B D N : Nat} {σ σ' : sm_S} {x : Int32} (h : lw B σ) (hN : N ≤ B) (hp : pubX N D σ x σ') : lw (B + D) σ' := by
  obtain ⟨N', h1, h2, h3, h4, h5, -⟩ := hp
  refine ⟨⟨N', by omega, h1⟩, fun h0 => ?_⟩
  rw [h5] at h0
  obtain ⟨M, m1, m2⟩ := h.2 h0
  exact ⟨M, by omega, by rw [h4]; exact m2⟩
theorem l_imageT {a1 : Int32} (h1 : a1 ≠ 0) : ∀ (d k : Nat) (a2 : Int32) (σ : sm_S), a2.toInt = k → k + d = 2662 → xE xM m_M_image 25 [.ref 0, .int a1, .int a2] [] σ (sm_I (fun _ σ' => ∃ f, σ' = sm_set σ 5 f ∧ (∀ i, k ≤ i → i < 2662 → f i = σ 1 i) ∧ ∀ i, i < k → f i = σ 5 i)) := by
  intro d
  induction d with
  | zero =>
    intro k a2 σ h2 hk
    refine w_M_image_25 a1 a2 σ _ ⟨fun _ => ⟨Or.inr rfl, _, rfl, σ 5, s_id.symm, fun i _ _ => by omega, fun _ _ => rfl⟩, fun h => absurd ?_ h⟩
    rw [t_le, h2]
    show (2662 : Int) ≤ _
    omega
  | succ d ih =>
    intro k a2 σ h2 hk
    have h2' : (a2 + 1).toInt = ((k + 1 : Nat) : Int) := by
      rw [t_add h2 (y := 1) rfl (by omega) (by omega)]
      omega
    refine w_M_image_25 a1 a2 σ _ ⟨fun h => ?_, fun _ => ⟨fun z => absurd z h1, fun _ => ⟨t_vp h2 (by omega), t_vp h2 (by omega), fun σ1 e1 => ?_⟩⟩⟩
    · rw [t_le, h2] at h
      have h : (2662 : Int) ≤ k := h
      omega
    · rw [t_nat h2] at e1
      refine (ih (k + 1) (a2 + 1) σ1 h2' (by omega)).mono ?_
      rintro r σ' ⟨x, rfl, f, rfl, g1, g2⟩
      subst e1
      refine ⟨x, rfl, f, s_ss, fun i i1 i2 => ?_, fun i i1 => ?_⟩
      · rcases Nat.lt_or_ge k i with hl | hl
        · rw [g1 i hl i2, s_ne (by decide)]
        · have hik : i = k := by omega
          rw [g2 i (by omega), s_at, hik, u_at]
      · rw [g2 i (by omega), s_at, u_ne (by omega)]
theorem l_imageF {a1 : Int32} (h1 : ¬ a1 ≠ 0) : ∀ (d k : Nat) (a2 : Int32) (σ : sm_S), a2.toInt = k → k + d = 2662 → xE xM m_M_image 25 [.ref 0, .int a1, .int a2] [] σ (sm_I (fun _ σ' => ∃ f, σ' = sm_set σ 1 f ∧ (∀ i, k ≤ i → i < 2662 → f i = σ 5 i) ∧ ∀ i, i < k → f i = σ 1 i)) := by
  intro d
  induction d with
  | zero =>
    intro k a2 σ h2 hk
    refine w_M_image_25 a1 a2 σ _ ⟨fun _ => ⟨Or.inr rfl, _, rfl, σ 1, s_id.symm, fun i _ _ => by omega, fun _ _ => rfl⟩, fun h => absurd ?_ h⟩
    rw [t_le, h2]
    show (2662 : Int) ≤ _
    omega
  | succ d ih =>
    intro k a2 σ h2 hk
    have h2' : (a2 + 1).toInt = ((k + 1 : Nat) : Int) := by
      rw [t_add h2 (y := 1) rfl (by omega) (by omega)]
      omega
    refine w_M_image_25 a1 a2 σ _ ⟨fun h => ?_, fun _ => ⟨fun _ => ⟨t_vp h2 (by omega), t_vp h2 (by omega), fun σ1 e1 => ?_⟩, fun z => absurd (Classical.not_not.mp h1) z⟩⟩
    · rw [t_le, h2] at h
      have h : (2662 : Int) ≤ k := h
      omega
    · rw [t_nat h2] at e1
      refine (ih (k + 1) (a2 + 1) σ1 h2' (by omega)).mono ?_
      rintro r σ' ⟨x, rfl, f, rfl, g1, g2⟩
      subst e1
      refine ⟨x, rfl, f, s_ss, fun i i1 i2 => ?_, fun i i1 => ?_⟩
      · rcases Nat.lt_or_ge k i with hl | hl
        · rw [g1 i hl i2, s_ne (by decide)]
        · have hik : i = k := by omega
          rw [g2 i (by omega), s_at, hik, u_at]
      · rw [g2 i (by omega), s_at, u_ne (by omega)]
theorem c_image {B : Nat} (a1 : Int32) (σ : sm_S) (hj : lw B σ) : xC xM j_M_image [.ref 0, .int a1] σ (sm_I (fun _ σ' => lw B σ' ∧ ∀ k, 5 < k → σ' k = σ k)) := by
  obtain ⟨⟨N, hN, hj1⟩, hj5⟩ := hj
  refine w_M_image a1 σ _ (fun σ1 e1 => ⟨fun n1 => ⟨Or.inr rfl, fun σ2 e2 => ?_⟩, fun n1 => ⟨fun n6 => ⟨Or.inr rfl, fun σ2 e2 => ?_⟩, fun n6 => ⟨Or.inl rfl, _, rfl, ?_⟩⟩⟩)
  · refine (l_imageT n1 2662 0 0 σ2 rfl (Nat.zero_add _)).mono ?_
    rintro r σ' ⟨x, rfl, f, rfl, g1, -⟩
    have e21 : σ2 1 = σ 1 := by rw [e2, s_ne (by decide), e1, s_ne (by decide)]
    refine ⟨x, rfl, ⟨⟨N, hN, ?_⟩, fun _ => ⟨N, hN, ?_⟩⟩, fun k hk => ?_⟩
    · rw [s_ne (by decide), e21]; exact hj1
    · rw [s_at]; exact jj_eq (fun i hi => by rw [g1 i (Nat.zero_le i) hi, e21]) hj1
    · rw [s_ne (by omega), e2, s_ne (by omega), e1, s_ne (by omega)]
  · refine (l_imageF n1 2662 0 0 σ2 rfl (Nat.zero_add _)).mono ?_
    rintro r σ' ⟨x, rfl, f, rfl, g1, -⟩
    have e25 : σ2 5 = σ 5 := by rw [e2, s_ne (by decide), e1, s_ne (by decide)]
    obtain ⟨M, hM, hj5'⟩ := hj5 (by rw [e1, s_at, u_ne (by decide)] at n6; exact n6)
    refine ⟨x, rfl, ⟨⟨M, hM, ?_⟩, fun _ => ⟨M, hM, ?_⟩⟩, fun k hk => ?_⟩
    · rw [s_at]; exact jj_eq (fun i hi => by rw [g1 i (Nat.zero_le i) hi, e25]) hj5'
    · rw [s_ne (by decide), e25]; exact hj5'
    · rw [s_ne (by omega), e2, s_ne (by omega), e1, s_ne (by omega)]
  · refine ⟨⟨⟨N, hN, ?_⟩, fun z => ?_⟩, fun k hk => ?_⟩
    · rw [e1, s_ne (by decide)]; exact hj1
    · exact absurd z n6
    · rw [e1, s_ne (by omega)]
end
section
/-! ===== the model: how it begins ===== -/
def bgS (i : Nat) : Prop := i = 2358 ∨ i = 2366 ∨ ∃ f, f < 256 ∧ i = 18 + 3 * f
def bg (w : Nat → Int32) : Prop := ∀ i, w i = 0 ∨ (w i = 1 ∧ bgS i)
theorem bg0 {w : Nat → Int32} (h : bg w) {i : Nat} (hi : ¬ bgS i) : w i = 0 := (h i).resolve_right (fun z => hi z.2)
theorem bg_up {w : Nat → Int32} (h : bg w) {i : Nat} (hi : bgS i) : bg (upd w i 1) := by
  intro j
  by_cases hj : j = i
  · subst hj; exact Or.inr ⟨u_at, hi⟩
  · rw [u_ne hj]; exact h j
theorem bg_jj {w : Nat → Int32} (h : bg w) (hs : w 2358 = 1) : jj 0 w := by
  have hb : ∀ b k, b < 96 → k < 16 → w (786 + 16 * b + k) = 0 := fun b k hb hk => bg0 h (by
    rintro (z | z | ⟨f, hf, z⟩) <;> omega)
  have z0 : (0 : Int32).toInt = ((0 : Nat) : Int) := rfl
  have h2 : ∀ s k, s < 8 → 0 < k → k < 8 → w (2358 + 8 * s + k) = 0 := fun s k hs hk hk2 => bg0 h (by
    rintro (z | z | ⟨f, hf, z⟩) <;> omega)
  refine ⟨⟨fun f hf => ?_, fun n hn => Or.inr (fun fr hfr _ _ => ?_)⟩, ⟨fun b hb' => ?_, fun b hb' => ?_, fun s hs' => ?_, fun b hb' hne => ?_, 0, by omega, hs, ?_⟩, ?_⟩
  · rw [bg0 h (i := 18 + 3 * f + 1) (by rintro (z | z | ⟨f, hf, z⟩) <;> omega)]
    exact ⟨by decide, by decide⟩
  · rw [bg0 h (i := 18 + 3 * fr + 1) (by rintro (z | z | ⟨f, hf, z⟩) <;> omega), z0]
    omega
  · refine ⟨0, 0, ?_, by omega, ?_, by omega, rfl, ⟨0, ?_, by omega⟩, ⟨0, ?_, Or.inl rfl⟩, ?_⟩
    · rw [hb b 2 hb' (by omega)]; rfl
    · rw [hb b 1 hb' (by omega)]; rfl
    · rw [hb b 4 hb' (by omega)]; rfl
    · rw [hb b 6 hb' (by omega)]; rfl
    · rw [hb b 7 hb' (by omega)]; decide
  · refine ⟨0, 0, ?_, by omega, ?_, fun z => absurd z (by decide), fun n hn => absurd hn (by omega), fun n m h1 h2 => absurd h2 (by omega)⟩
    · rw [hb b 9 hb' (by omega)]; rfl
    · rw [hb b 2 hb' (by omega)]; rfl
  · have hst : ∃ st : Nat, (w (2358 + 8 * s + 0)).toInt = st ∧ st ≤ 1 := by
      rcases h (2358 + 8 * s + 0) with z | ⟨z, -⟩
      · exact ⟨0, by rw [z]; rfl, by omega⟩
      · exact ⟨1, by rw [z]; rfl, by omega⟩
    obtain ⟨st, q1, q2⟩ := hst
    refine ⟨st, 0, 0, 0, q1, by omega, ?_, by omega, fun _ => by omega, ?_, by omega, ?_, Or.inl rfl⟩
    · rw [h2 s 2 hs' (by omega) (by omega)]; rfl
    · rw [h2 s 5 hs' (by omega) (by omega)]; rfl
    · rw [h2 s 6 hs' (by omega) (by omega)]; rfl
  · exact absurd (hb b 6 hb' (by omega)) hne
  · exact h2 0 1 (by omega) (by omega) (by omega)
  · rw [bg0 h (i := 5) (by rintro (z | z | ⟨f, hf, z⟩) <;> omega)]; rfl
theorem l_begins25 {σ0 : sm_S} {a1 : Int32} {s : Nat} (h1 : a1.toInt = s) (hs : s < 2) {Q : Option Value → sm_S → Prop} (K : ∀ (v2 : Value) (w : Nat → Int32), bg w → w 2358 = 1 → xE xM m_M_begins 2 [.ref 0, .int (a1 + 1), v2] [] (sm_set σ0 1 w) Q) : ∀ (d k : Nat) (a2 : Int32) (w : Nat → Int32), a2.toInt = k → k + d = 32 * s + 32 → bg w → w 2358 = 1 → xE xM m_M_begins 25 [.ref 0, .int a1, .int a2] [] (sm_set σ0 1 w) Q := by
  have hb : (32 * a1 + 32).toInt = ((32 * s + 32 : Nat) : Int) := by
    rw [t_add (t_32s h1 (by omega)) (y := 32) rfl (by omega) (by omega)]
    omega
  intro d
  induction d with
  | zero =>
    intro k a2 w h2 hk hb1 hb2
    exact w_M_begins_25 a1 a2 _ _ ⟨fun _ => K _ _ hb1 hb2, fun h => absurd (by rw [t_le, hb, h2]; omega) h⟩
  | succ d ih =>
    intro k a2 w h2 hk hb1 hb2
    have h2' : (a2 + 1).toInt = ((k + 1 : Nat) : Int) := by
      rw [t_add h2 (y := 1) rfl (by omega) (by omega)]
      omega
    refine w_M_begins_25 a1 a2 _ _ ⟨fun h => ?_, fun _ => (c_frameAt a2 _).int ?_⟩
    · rw [t_le, hb, h2] at h; omega
    · rintro x2 σ ⟨rfl, rfl⟩
      have hi := t_ix (C := 18) (M := 3) (c := 18) (m := 3) (k := 0) (j := 0) rfl rfl h2 rfl (by omega)
      refine ⟨t_vp hi (by omega), fun σ3 e3 => ?_⟩
      rw [t_nat hi, s_at, s_ss] at e3
      subst e3
      refine ih (k + 1) (a2 + 1) _ h2' (by omega) ?_ ?_
      · exact bg_up hb1 (Or.inr (Or.inr ⟨k, by omega, by omega⟩))
      · rw [u_ne (by omega)]; exact hb2
theorem l_begins2 {σ0 : sm_S} : ∀ (d k : Nat) (a1 : Int32) (v2 : Value) (w : Nat → Int32), a1.toInt = k → k + d = 2 → bg w → (0 < k → w 2358 = 1) → xE xM m_M_begins 2 [.ref 0, .int a1, v2] [] (sm_set σ0 1 w) (sm_V (fun σ' => ∃ w, σ' = sm_set σ0 1 w ∧ jj 0 w)) := by
  intro d
  induction d with
  | zero =>
    intro k a1 v2 w h1 hk hb hb2
    refine w_M_begins_2 a1 v2 _ _ ⟨fun _ => ⟨rfl, w, rfl, bg_jj hb (hb2 (by omega))⟩, fun h => absurd ?_ h⟩
    rw [t_le, h1]
    show (2 : Int) ≤ _
    omega
  | succ d ih =>
    intro k a1 v2 w h1 hk hb hb2
    have h1' : (a1 + 1).toInt = ((k + 1 : Nat) : Int) := by
      rw [t_add h1 (y := 1) rfl (by omega) (by omega)]
      omega
    refine w_M_begins_2 a1 v2 _ _ ⟨fun h => ?_, fun _ => (c_spanAt a1 _).int ?_⟩
    · rw [t_le, h1] at h
      have h : (2 : Int) ≤ k := h
      omega
    · rintro x2 σ ⟨rfl, rfl⟩
      have hi := t_ix (C := 2358) (M := 8) (c := 2358) (m := 8) (k := 0) (j := 0) rfl rfl h1 rfl (by omega)
      refine ⟨t_vp hi (by omega), fun σ3 e3 => ?_⟩
      rw [t_nat hi, s_at, s_ss] at e3
      subst e3
      refine l_begins25 h1 (by omega) (fun v w hw hw2 => ih (k + 1) (a1 + 1) v w h1' (by omega) hw (fun _ => hw2)) 32 (32 * k) (32 * a1) _ (t_32s h1 (by omega)) rfl ?_ ?_
      · exact bg_up hb (by rcases (show k = 0 ∨ k = 1 by omega) with rfl | rfl; exact Or.inl rfl; exact Or.inr (Or.inl rfl))
      · rcases Nat.eq_zero_or_pos k with hk0 | hk0
        · subst hk0; exact u_at
        · rw [u_ne (by omega)]; exact hb2 hk0
theorem c_begins (σ : sm_S) (h : ∀ i, σ 1 i = 0) : xC xM j_M_begins [.ref 0] σ (sm_V (fun σ' => ∃ w, σ' = sm_set σ 1 w ∧ jj 0 w)) := by
  refine w_M_begins σ _ ?_
  have := l_begins2 (σ0 := σ) 2 0 0 .null (σ 1) rfl rfl (fun i => Or.inl (h i)) (fun z => absurd z (by decide))
  rw [s_id] at this
  exact this
end
