/-! ===== the model: the easiest span, how many go ===== -/
theorem nvM {a i : Nat} (h : ¬ sm_vis id xM a i) : a ≠ 1 := by
  rintro rfl
  exact h ⟨1, rfl, Or.inl ⟨(0, 2662), rfl⟩⟩
theorem nvM2 {a i : Nat} (h : ¬ sm_vis id xM a i) : a ≠ 2 := by
  rintro rfl
  exact h ⟨2, rfl, Or.inl ⟨(0, 2662), rfl⟩⟩
theorem shMN : sm_shR id xM xN := by
  refine ⟨fun k q h => ?_, fun k ci fl h => ?_, fun i j _ _ h => h, fun a _ => rfl, by decide⟩
  · match k, h with
    | 0, h => cases h
    | 1, h => exact h
    | 2, h => exact h
    | 3, h => exact h
    | 4, h => exact h
    | 5, h => exact h
    | _ + 6, h => cases h
  · match k, h with
    | 0, h =>
      cases h
      refine ⟨_, rfl, fun j o hj => ?_⟩
      match j, hj with
      | 0, hj => cases hj; exact ⟨_, rfl, fun _ => rfl⟩
      | 1, hj => cases hj; exact ⟨_, rfl, rfl⟩
      | 2, hj => cases hj; exact ⟨_, rfl, rfl⟩
      | 3, hj => cases hj; exact ⟨_, rfl, rfl⟩
      | 4, hj => cases hj; exact ⟨_, rfl, rfl⟩
      | 5, hj => cases hj; exact ⟨_, rfl, fun h => absurd h (by decide)⟩
      | 6, hj => cases hj; exact ⟨_, rfl, fun _ => rfl⟩
      | 7, hj => cases hj; exact ⟨_, rfl, rfl⟩
      | _ + 8, hj => cases hj
    | 1, h => cases h
    | 2, h => cases h
    | 3, h => cases h
    | 4, h => cases h
    | 5, h => cases h
    | _ + 6, h => cases h
theorem agM {σ τ : sm_S} (h0 : τ 0 0 = σ 0 0) (h6 : τ 0 6 = σ 0 6) (h1 : ∀ i, i < 2662 → τ 1 i = σ 1 i) (h2 : ∀ k, 2 ≤ k → τ k = σ k) : sm_stW id xM σ τ := by
  refine ⟨fun k q h i hi => ?_, fun k ci fl j t h hj ht => ?_⟩
  · match k, h with
    | 0, h => cases h
    | 1, h => cases h; exact h1 i hi
    | 2, h => exact congrFun (h2 2 (by omega)) i
    | 3, h => exact congrFun (h2 3 (by omega)) i
    | 4, h => exact congrFun (h2 4 (by omega)) i
    | 5, h => exact congrFun (h2 5 (by omega)) i
    | _ + 6, h => cases h
  · match k, h with
    | 0, h =>
      cases h
      match j, hj with
      | 0, hj => exact h0
      | 1, hj => cases hj
      | 2, hj => cases hj
      | 3, hj => cases hj
      | 4, hj => cases hj
      | 5, hj => cases hj; omega
      | 6, hj => exact h6
      | 7, hj => cases hj
      | _ + 8, hj => cases hj
    | 1, h => cases h
    | 2, h => cases h
    | 3, h => cases h
    | 4, h => cases h
    | 5, h => cases h
    | _ + 6, h => cases h
theorem stW_tr {SH : List sm_Sh} {a b c : sm_S} (h1 : sm_stW id SH a b) (h2 : sm_stW id SH b c) : sm_stW id SH a c :=
  ⟨fun k q h i hi => (h2.1 k q h i hi).trans (h1.1 k q h i hi), fun k ci fl j t h hj ht => (h2.2 k ci fl j t h hj ht).trans (h1.2 k ci fl j t h hj ht)⟩
/-- a call that leaves the store as it is -/
theorem x_liftI {j : Nat} {as : List Value} {σ : sm_S} {P : Int32 → Prop} (h : xC xM j as σ (sm_I (fun x σ' => P x ∧ σ' = σ))) : xC xN j as σ (sm_I (fun x σ' => P x ∧ σ' = σ)) := by
  refine x_lift shMN h ?_
  rintro r σ' ⟨x, rfl, -, rfl⟩ a i -
  rfl
theorem n_canGo (a1 : Int32) (σ : sm_S) : xC xN j_M_canGo [.ref 0, .int a1] σ (sm_I (fun x σ' => (x = 0 ∨ (x = 1 ∧ ∃ s : Nat, s < 8 ∧ a1.toInt = s ∧ σ 1 (2358 + 8 * s) = 1 ∧ onElse (σ 1) 0 a1)) ∧ σ' = σ)) := x_liftI (c_canGo a1 σ)
theorem n_spanState {s : Int32} {n : Nat} (hs : s.toInt = n) (hn : n < 8) (σ : sm_S) : xC xN j_M_spanState [.ref 0, .int s] σ (sm_I (fun x σ' => x = σ 1 (2358 + 8 * n) ∧ σ' = σ)) := x_liftI (c_spanState hs hn σ)
theorem n_isIn (a b c : Int32) (σ : sm_S) : xC xN j_M_isIn [.ref 0, .int a, .int b, .int c] σ (sm_I (fun x σ' => ((x = 1 ∧ b.toInt ≤ a.toInt ∧ a.toInt ≤ c.toInt) ∨ (x = 0 ∧ (a.toInt < b.toInt ∨ c.toInt < a.toInt))) ∧ σ' = σ)) := x_liftI (c_isIn a b c σ)
theorem n_thinks (σ : sm_S) : xC xN j_M_thinks [.ref 0] σ (sm_V (fun σ' => ∃ f, σ' = sm_set σ 2 f ∧ ∀ i, i < 2662 → f i = σ 1 i)) := by
  refine x_lift shMN (c_thinks σ) ?_
  rintro r σ' ⟨rfl, f, rfl, -⟩ a i hv
  rw [s_ne (nvM2 hv)]
theorem n_forgets (σ : sm_S) : xC xN j_M_forgets [.ref 0] σ (sm_V (fun σ' => ∃ f, σ' = sm_set σ 1 f ∧ ∀ i, i < 2662 → f i = σ 2 i)) := by
  refine x_lift shMN (c_forgets σ) ?_
  rintro r σ' ⟨rfl, f, rfl, -⟩ a i hv
  rw [s_ne (nvM hv)]
theorem n_goesAway {a1 : Int32} {s N : Nat} (h1 : a1.toInt = s) (hs : s < 8) (hN : N < 1730000000) (σ : sm_S) (hj : jj N (σ 1)) (hon : σ 1 (2358 + 8 * s) = 1) (hel : onElse (σ 1) 0 a1) : xC xN j_M_goesAway [.ref 0, .int a1] σ (sm_I (fun x σ' => (∃ w N', σ' = sm_set σ 1 w ∧ jj N' w ∧ N ≤ N' ∧ N' ≤ N + 12400001 ∧ offs (σ 1) w) ∧ ∀ τ, sm_stW id xM σ τ → xC xN j_M_goesAway [.ref 0, .int a1] τ (sm_I (fun _ τ' => sm_stW id xM σ' τ')))) := by
  refine (x_lift shMN (x_det shMN (c_goesAway h1 hs hN σ hj hon hel)) ?_).mono ?_
  · rintro r σ' ⟨⟨x, rfl, w, N', rfl, -⟩, -⟩ a i hv
    rw [s_ne (nvM hv)]
  · rintro r σ' ⟨⟨x, rfl, hP⟩, hd⟩
    refine ⟨x, rfl, hP, fun τ hτ => (hd τ hτ).mono ?_⟩
    rintro r2 τ' ⟨rfl, h2⟩
    exact ⟨x, rfl, h2⟩
theorem onElse_eq {v v' : Nat → Int32} {z b : Int32} (h : ∀ i, i < 2662 → v' i = v i) (ho : onElse v z b) : onElse v' z b := by
  obtain ⟨s, h1, h2, h3, h4⟩ := ho
  exact ⟨s, h1, h2, by rw [h _ (by omega)]; exact h3, by rw [h _ (by omega)]; exact h4⟩
def esI (σ0 σ : sm_S) : Prop := (∀ k, 2 ≤ k → σ k = σ0 k) ∧ (∀ i, i < 2662 → σ 1 i = σ0 1 i) ∧ ∀ i, i ≠ 5 → σ 0 i = σ0 0 i
theorem esI.ag {σ0 σ : sm_S} (h : esI σ0 σ) : sm_stW id xM σ0 σ := agM (h.2.2 0 (by decide)) (h.2.2 6 (by decide)) h.2.1 h.1
theorem esI.ga {σ0 σ : sm_S} (h : esI σ0 σ) : sm_stW id xM σ σ0 := agM (h.2.2 0 (by decide)).symm (h.2.2 6 (by decide)).symm (fun i hi => (h.2.1 i hi).symm) (fun k hk => (h.1 k hk).symm)
def esG (σ0 : sm_S) (x : Int32) : Prop := x = -1 ∨ ∃ s : Nat, s < 8 ∧ x.toInt = s ∧ σ0 1 (2358 + 8 * s) = 1 ∧ onElse (σ0 1) 0 x ∧ ∀ τ, sm_stW id xM σ0 τ → xC xN j_M_goesAway [.ref 0, .int x] τ (sm_I (fun _ τ' => τ' 1 (2358 + 8 * s) = 0))
theorem l_en72 {σ0 : sm_S} {a1 a2 a3 a4 : Int32} {Q : Option Value → sm_S → Prop} (h3 : ∀ i, i < 2662 → σ0 3 i = σ0 1 i) (hb : esG σ0 a1) (hn : a4 ≠ 0 → esG σ0 a2) (K : ∀ (b : Int32) (v3 v4 v5 : Value) (σ' : sm_S), esI σ0 σ' → esG σ0 b → xE xN m_M_easiestNow 31 [.ref 0, .int b, .int (a2 + 1), v3, v4, v5] [] σ' Q) : ∀ (d k : Nat) (a5 : Int32) (σ : sm_S), a5.toInt = k → k + d = 2662 → (∀ k, 2 ≤ k → σ k = σ0 k) → (∀ i, i < k → σ 1 i = σ0 1 i) → (∀ i, i ≠ 5 → σ 0 i = σ0 0 i) → xE xN m_M_easiestNow 72 [.ref 0, .int a1, .int a2, .int a3, .int a4, .int a5] [] σ Q := by
  intro d
  induction d with
  | zero =>
    intro k a5 σ h5 hk g2 g1 g0
    have hI : esI σ0 σ := ⟨g2, fun i hi => g1 i (by omega), g0⟩
    have hI' : ∀ σ1, σ1 = sm_set σ 0 (upd (σ 0) 5 a3) → esI σ0 σ1 := by
      rintro _ rfl
      exact ⟨fun k hk => by rw [s_ne (by omega)]; exact g2 k hk, fun i hi => by rw [s_ne (by decide)]; exact hI.2.1 i hi, fun i hi => by rw [s_at, u_ne hi]; exact g0 i hi⟩
    refine w_N_easiestNow_72 a1 a2 a3 a4 a5 σ Q ⟨fun _ => ⟨fun _ => K _ _ _ _ _ hI hb, fun n4 => ⟨fun _ σ1 e1 => K _ _ _ _ _ (hI' σ1 e1) (hn n4), fun _ => ⟨fun _ σ1 e1 => K _ _ _ _ _ (hI' σ1 e1) (hn n4), fun _ => K _ _ _ _ _ hI hb⟩⟩⟩, fun h => absurd ?_ h⟩
    rw [t_le, h5]
    show (2662 : Int) ≤ _
    omega
  | succ d ih =>
    intro k a5 σ h5 hk g2 g1 g0
    have h5' : (a5 + 1).toInt = ((k + 1 : Nat) : Int) := by
      rw [t_add h5 (y := 1) rfl (by omega) (by omega)]
      omega
    refine w_N_easiestNow_72 a1 a2 a3 a4 a5 σ Q ⟨fun h => ?_, fun _ => ⟨t_vp h5 (by omega), t_vp h5 (by omega), fun σ1 e1 => ?_⟩⟩
    · rw [t_le, h5] at h
      have h : (2662 : Int) ≤ k := h
      omega
    · rw [t_nat h5] at e1
      subst e1
      refine ih (k + 1) (a5 + 1) _ h5' (by omega) (fun k hk => by rw [s_ne (by omega)]; exact g2 k hk) (fun i hi => ?_) (fun i hi => by rw [s_ne (by decide)]; exact g0 i hi)
      rw [s_at]
      rcases Nat.lt_or_ge i k with hl | hl
      · rw [u_ne (by omega)]; exact g1 i hl
      · have hik : i = k := by omega
        subst hik
        rw [u_at, g2 3 (by omega)]
        exact h3 i (by omega)
theorem l_en31 {σ0 : sm_S} {N : Nat} (hN : N < 1730000000) (hj : jj N (σ0 1)) (h3 : ∀ i, i < 2662 → σ0 3 i = σ0 1 i) : ∀ (d k : Nat) (a1 a2 : Int32) (v3 v4 v5 : Value) (σ : sm_S), a2.toInt = k → k + d = 8 → esI σ0 σ → esG σ0 a1 → xE xN m_M_easiestNow 31 [.ref 0, .int a1, .int a2, v3, v4, v5] [] σ (sm_I (fun x σ' => esI σ0 σ' ∧ esG σ0 x)) := by
  intro d
  induction d with
  | zero =>
    intro k a1 a2 v3 v4 v5 σ h2 hk hI hG
    refine w_N_easiestNow_31 a1 a2 v3 v4 v5 σ _ ⟨fun _ => ⟨a1, rfl, hI, hG⟩, fun h => absurd ?_ h⟩
    rw [t_le, h2]
    show (8 : Int) ≤ _
    omega
  | succ d ih =>
    intro k a1 a2 v3 v4 v5 σ h2 hk hI hG
    have h2' : (a2 + 1).toInt = ((k + 1 : Nat) : Int) := by
      rw [t_add h2 (y := 1) rfl (by omega) (by omega)]
      omega
    have K : ∀ (b : Int32) (v3 v4 v5 : Value) (σ' : sm_S), esI σ0 σ' → esG σ0 b → xE xN m_M_easiestNow 31 [.ref 0, .int b, .int (a2 + 1), v3, v4, v5] [] σ' (sm_I (fun x σ' => esI σ0 σ' ∧ esG σ0 x)) := fun b v3 v4 v5 σ' hI' hG' => ih (k + 1) b (a2 + 1) v3 v4 v5 σ' h2' (by omega) hI' hG'
    refine w_N_easiestNow_31 a1 a2 v3 v4 v5 σ _ ⟨fun h => ?_, fun _ => (n_canGo a2 σ).int ?_⟩
    · rw [t_le, h2] at h
      have h : (8 : Int) ≤ k := h
      omega
    · rintro x2 σ ⟨hx2, rfl⟩
      refine ⟨fun n2 => ?_, fun _ => K _ _ _ _ _ hI hG⟩
      obtain ⟨-, s, hs, hs2, hon, hel⟩ := hx2.resolve_left n2
      refine (n_goesAway (N := N) hs2 hs hN σ (jj_eq hI.2.1 hj) hon hel).int ?_
      rintro x4 _ ⟨⟨w, N', rfl, hw, -⟩, hd⟩
      refine (n_spanState hs2 hs _).int ?_
      rintro x6 σ6 ⟨hx6, rfl⟩
      have m2 : ∀ k, 2 ≤ k → (sm_set σ 1 w) k = σ0 k := fun k hk => by rw [s_ne (by omega)]; exact hI.1 k hk
      have m0 : ∀ i, i ≠ 5 → (sm_set σ 1 w) 0 i = σ0 0 i := fun i hi => by rw [s_ne (by decide)]; exact hI.2.2 i hi
      refine ⟨fun _ => ?_, fun n6 => ?_⟩
      · exact l_en72 h3 hG (fun z => absurd rfl z) K 2662 0 0 _ rfl (Nat.zero_add _) m2 (fun i hi => by omega) m0
      · refine l_en72 h3 hG (fun _ => Or.inr ⟨s, hs, hs2, ?_, ?_, fun τ hτ => ?_⟩) K 2662 0 0 _ rfl (Nat.zero_add _) m2 (fun i hi => by omega) m0
        · rw [← hI.2.1 _ (by omega)]; exact hon
        · exact onElse_eq (fun i hi => (hI.2.1 i hi).symm) hel
        · refine (hd τ (stW_tr hI.ga hτ)).mono ?_
          rintro r τ' ⟨y, rfl, hy⟩
          refine ⟨y, rfl, ?_⟩
          have := hy.1 1 (0, 2662) rfl (2358 + 8 * s) (by show _ < 2662; omega)
          exact this.trans (hx6.symm.trans (Classical.not_not.mp n6))
theorem l_en4 : ∀ (d k : Nat) (a1 a2 : Int32) (v3 v4 v5 : Value) (σ : sm_S) (Q : Option Value → sm_S → Prop), a2.toInt = k → k + d = 2662 → (∀ f, (∀ i, k ≤ i → i < 2662 → f i = σ 1 i) → (∀ i, i < k → f i = σ 3 i) → xE xN m_M_easiestNow 31 [.ref 0, .int a1, .int 0, v3, v4, v5] [] (sm_set σ 3 f) Q) → xE xN m_M_easiestNow 4 [.ref 0, .int a1, .int a2, v3, v4, v5] [] σ Q := by
  intro d
  induction d with
  | zero =>
    intro k a1 a2 v3 v4 v5 σ Q h2 hk K
    refine w_N_easiestNow_4 a1 a2 v3 v4 v5 σ Q ⟨fun _ => ?_, fun h => absurd ?_ h⟩
    · have := K (σ 3) (fun i _ _ => by omega) (fun _ _ => rfl)
      rw [s_id] at this
      exact this
    · rw [t_le, h2]
      show (2662 : Int) ≤ _
      omega
  | succ d ih =>
    intro k a1 a2 v3 v4 v5 σ Q h2 hk K
    have h2' : (a2 + 1).toInt = ((k + 1 : Nat) : Int) := by
      rw [t_add h2 (y := 1) rfl (by omega) (by omega)]
      omega
    refine w_N_easiestNow_4 a1 a2 v3 v4 v5 σ Q ⟨fun h => ?_, fun _ => ⟨t_vp h2 (by omega), t_vp h2 (by omega), fun σ1 e1 => ?_⟩⟩
    · rw [t_le, h2] at h
      have h : (2662 : Int) ≤ k := h
      omega
    · rw [t_nat h2] at e1
      subst e1
      refine ih (k + 1) a1 (a2 + 1) v3 v4 v5 _ Q h2' (by omega) (fun f f1 f2 => ?_)
      rw [s_ss]
      refine K f (fun i i1 i2 => ?_) (fun i i1 => ?_)
      · rcases Nat.lt_or_ge k i with hl | hl
        · rw [f1 i hl i2, s_ne (by decide)]
        · have hik : i = k := by omega
          rw [f2 i (by omega), s_at, hik, u_at]
      · rw [f2 i (by omega), s_at, u_ne (by omega)]
theorem n_easiestNow {N : Nat} (hN : N < 1730000000) (σ : sm_S) (hj : jj N (σ 1)) : xC xN j_M_easiestNow [.ref 0] σ (sm_I (fun x σ' => ∃ f, esI (sm_set σ 3 f) σ' ∧ esG (sm_set σ 3 f) x)) := by
  refine w_N_easiestNow σ _ (l_en4 2662 0 _ 0 _ _ _ σ _ rfl (Nat.zero_add _) (fun f f1 _ => ?_))
  refine (l_en31 hN (by rw [s_ne (by decide)]; exact hj) (fun i hi => by rw [s_at, s_ne (by decide)]; exact f1 i (Nat.zero_le i) hi) 8 0 (-1) 0 _ _ _ _ rfl rfl ⟨fun _ _ => rfl, fun _ _ => rfl, fun _ _ => rfl⟩ (Or.inl rfl)).mono ?_
  rintro r σ' ⟨x, rfl, h1, h2⟩
  exact ⟨x, rfl, f, h1, h2⟩
theorem n_easiest {N : Nat} (a1 : Int32) (hN : N < 1600000000) (σ : sm_S) (hj : jj N (σ 1)) : xC xN j_M_easiest [.ref 0, .int a1] σ (sm_I (pubX N 0 σ)) := by
  refine w_N_easiest a1 σ _ (fun σ1 e1 => (n_isIn a1 0 1 σ1).int ?_)
  have hj1 : jj N (σ1 1) := by rw [e1, s_ne (by decide)]; exact hj
  rintro x3 σ1 ⟨-, rfl⟩
  refine ⟨fun _ => (n_easiestNow (N := N) (by omega) σ1 hj1).int ?_, fun _ => ⟨_, rfl, pub_X (pub_keep hj e1)⟩⟩
  rintro x5 σ5 ⟨f, hI, -⟩
  have fin : pubX N 0 σ x5 σ5 := by
    refine ⟨N, jj_eq hI.2.1 (by rw [s_ne (by decide)]; exact hj1), Nat.le_refl N, by omega, ?_, ?_, fun k hk => ?_⟩
    · rw [hI.1 5 (by decide), s_ne (by decide), e1, s_ne (by decide)]
    · rw [hI.2.2 6 (by decide), s_ne (by decide), e1, s_at, u_ne (by decide)]
    · rw [hI.1 k (by omega), s_ne (by omega), e1, s_ne (by omega)]
  exact ⟨fun _ => ⟨fun _ => ⟨_, rfl, fin⟩, fun _ => ⟨_, rfl, fin⟩⟩, fun _ => ⟨_, rfl, fin⟩⟩
theorem l_gb {N : Nat} {σ0 σ1 : sm_S} {f : Nat → Int32} (hj0 : jj N (σ0 1)) (e1 : σ1 = sm_set σ0 0 (upd (σ0 0) 0 0)) (hf : ∀ i, i < 2662 → f i = σ0 1 i) : ∀ (m N1 : Nat) (a1 a2 : Int32) (σ σp : sm_S), cn (fun s => !decide (σ 1 (2358 + 8 * s) = 0)) 8 ≤ m → jj N1 (σ 1) → N1 + 12400001 * m < 1720000000 → σ 2 = f → (∀ k, 5 ≤ k → σ k = σ1 k) → σ 0 6 = σ1 0 6 → esI σp σ → esG σp a2 → xE xN m_M_givenBack 16 [.ref 0, .int a1, .int a2] [] σ (sm_I (pubX N 0 σ0)) := by
  have fin : ∀ (y : Int32) (σ : sm_S), σ 2 = f → (∀ k, 5 ≤ k → σ k = σ1 k) → σ 0 6 = σ1 0 6 → xC xN j_M_forgets [.ref 0] σ (sm_rv False (fun σ9 => sm_I (pubX N 0 σ0) (some (.int y)) σ9)) := by
    intro y σ h2 h3 h6
    refine (n_forgets _).void ?_
    rintro _ ⟨g, rfl, hg⟩
    refine ⟨y, rfl, N, ?_, Nat.le_refl N, by omega, ?_, ?_, fun k hk => ?_⟩
    · rw [s_at]
      exact jj_eq (fun i hi => by rw [hg i hi, h2, hf i hi]) hj0
    · rw [s_ne (by decide), h3 5 (by decide), e1, s_ne (by decide)]
    · rw [s_ne (by decide), h6, e1, s_at, u_ne (by decide)]
    · rw [s_ne (by omega), h3 k (by omega), e1, s_ne (by omega)]
  intro m
  induction m with
  | zero =>
    intro N1 a1 a2 σ σp hm hj hN h2 h3 h6 hI hG
    refine w_N_givenBack_16 a1 a2 σ _ ⟨fun _ => fin _ _ h2 h3 h6, fun n2 => ?_⟩
    obtain ⟨s, hs, hs2, hon, -⟩ := hG.resolve_left n2
    rw [← hI.2.1 _ (by omega)] at hon
    have := cn_lt (P := fun s => !decide (σ 1 (2358 + 8 * s) = 0)) (P' := fun _ => false) (j := s) (by rw [hon]; rfl) rfl (N := 8) hs (fun i _ h => by cases h)
    omega
  | succ m ih =>
    intro N1 a1 a2 σ σp hm hj hN h2 h3 h6 hI hG
    refine w_N_givenBack_16 a1 a2 σ _ ⟨fun _ => fin _ _ h2 h3 h6, fun n2 => ?_⟩
    obtain ⟨s, hs, hs2, hon, hel, hga⟩ := hG.resolve_left n2
    rw [← hI.2.1 _ (by omega)] at hon
    refine ((n_goesAway (N := N1) hs2 hs (by omega) σ hj hon (onElse_eq hI.2.1 hel)).and (hga σ hI.ag)).mono ?_
    rintro r _ ⟨⟨x3, rfl, ⟨w, N', rfl, hw, l1, l2, l3⟩, -⟩, y, -, hoff⟩
    rw [s_at] at hoff
    refine (n_easiestNow (N := N') (by omega) _ (by rw [s_at]; exact hw)).int ?_
    rintro x5 σ5 ⟨g, hI5, hG5⟩
    have e51 : ∀ i, i < 2662 → σ5 1 i = w i := fun i hi => by rw [hI5.2.1 i hi, s_ne (by decide), s_at]
    refine ih N' (a1 + 1) x5 σ5 _ ?_ (jj_eq e51 hw) (by omega) ?_ (fun k hk => ?_) ?_ hI5 hG5
    · have := cn_lt (P := fun s => !decide (σ 1 (2358 + 8 * s) = 0)) (P' := fun s => !decide (σ5 1 (2358 + 8 * s) = 0)) (j := s) (by rw [hon]; rfl) (by rw [e51 _ (by omega), hoff]; rfl) (N := 8) hs (fun i hi h => by
        cases hd : decide (σ 1 (2358 + 8 * i) = 0) with
        | false => rfl
        | true =>
          rw [e51 _ (by omega), l3 i hi (of_decide_eq_true hd)] at h
          cases h)
      omega
    · rw [hI5.1 2 (by omega), s_ne (by decide), s_ne (by decide)]; exact h2
    · rw [hI5.1 k (by omega), s_ne (by omega), s_ne (by omega)]; exact h3 k hk
    · rw [hI5.2.2 6 (by decide), s_ne (by decide), s_ne (by decide)]; exact h6
theorem n_givenBack {N : Nat} (hN : N < 1600000000) (σ : sm_S) (hj : jj N (σ 1)) : xC xN j_M_givenBack [.ref 0] σ (sm_I (pubX N 0 σ)) := by
  refine w_N_givenBack σ _ (fun σ1 e1 => (n_thinks σ1).void ?_)
  have hj1 : jj N (σ1 1) := by rw [e1, s_ne (by decide)]; exact hj
  rintro _ ⟨f, rfl, hf⟩
  have hf' : ∀ i, i < 2662 → f i = σ 1 i := fun i hi => by rw [hf i hi, e1, s_ne (by decide)]
  refine (n_easiestNow (N := N) (by omega) _ (by rw [s_ne (by decide)]; exact hj1)).int ?_
  rintro x4 σ4 ⟨g, hI4, hG4⟩
  refine l_gb hj e1 hf' 8 N 0 x4 σ4 _ cn_bd (jj_eq hI4.2.1 (by rw [s_ne (by decide), s_ne (by decide)]; exact hj1)) (by omega) ?_ (fun k hk => ?_) ?_ hI4 hG4
  · rw [hI4.1 2 (by omega), s_ne (by decide), s_at]
  · rw [hI4.1 k (by omega), s_ne (by omega), s_ne (by omega)]
  · rw [hI4.2.2 6 (by decide), s_ne (by decide), s_ne (by decide)]
