/-! ===== the simulation: what asks, keeps (the class) ===== -/
def BQ (σ σ' : sm_S) : Prop := AQ σ σ' ∧ ∀ a, a < 43 ∨ 127 ≤ a → σ' a = σ a
theorem BQ.rf {σ : sm_S} (h : WW σ) : BQ σ σ := ⟨AQ.rf h, fun _ _ => rfl⟩
theorem BQ.th {σ σ' : sm_S} (h : WW σ) (ht : th σ σ') (hl : kl (bs 43 σ')) : BQ σ σ' := ⟨AQ.th h ht hl, fun a ha => ht a (by omega)⟩
theorem BQ.t2 {σ σ' : sm_S} (h : WW σ) (ht : ∀ a, a < 43 ∨ 127 ≤ a → σ' a = σ a) (hl : kl (bs 43 σ')) (hl2 : kl (bs 86 σ')) : BQ σ σ' := ⟨AQ.t2 h ht hl hl2, ht⟩
theorem kpQ {σ : sm_S} (h : WW σ) (y : Int32) : sm_I (fun _ σ' => BQ σ σ') (some (.int y)) σ := ⟨y, rfl, BQ.rf h⟩
theorem kpbQ {σ : sm_S} (h : WW σ) : ((0 : Int32) = 0 ∨ (0 : Int32) = 1) ∧ sm_I (fun _ σ' => BQ σ σ') (some (.int 0)) σ := ⟨Or.inl rfl, kpQ h 0⟩
theorem kp1Q {σ : sm_S} (h : WW σ) {j : Nat} {as : List Value} (hc : xC xD j as σ (sm_I (fun _ σ' => σ' = σ))) : xC xF j as σ (sm_ri False (fun x σ' => sm_I (fun _ σ' => BQ σ σ') (some (.int x)) σ')) := (nw1 hc).int (fun x σ' e => by rw [e]; exact kpQ h x)
theorem kp0Q {σ : sm_S} (h : WW σ) {j : Nat} {as : List Value} {P : Int32 → Prop} (hc : xC xD j as σ (sm_I (fun x σ' => P x ∧ σ' = σ))) : xC xF j as σ (sm_ri False (fun x σ' => sm_I (fun _ σ' => BQ σ σ') (some (.int x)) σ')) := (nw0 hc).int (fun x σ' e => by rw [e.2]; exact kpQ h x)
theorem a_frameQ (a1 a2 : Int32) (σ : sm_S) (h : WW σ) : xC xF j_A_frame [.ref 42, .int a1, .int a2] σ (sm_I (fun _ σ' => BQ σ σ')) := by
  refine f_A_frame a1 a2 σ _ ⟨fun _ => kpQ h _, fun h1 => ⟨fun h2 => ?_, fun _ => kpQ h _⟩⟩
  obtain ⟨n, hn⟩ := rg_n h1
  rw [t_lt, hn] at h2
  have h2 : (n : Int) < 256 := h2
  have v := t_vp (N := 256) hn (by omega)
  exact ⟨fun _ => kp1Q h (e_stateOf hn (by omega) σ), fun _ => ⟨fun _ => ⟨v, kpQ h _⟩, fun _ => ⟨fun _ => ⟨v, kpQ h _⟩, fun _ => kpQ h _⟩⟩⟩
theorem a_blockQ (a1 a2 : Int32) (σ : sm_S) (h : WW σ) : xC xF j_A_block [.ref 42, .int a1, .int a2] σ (sm_I (fun _ σ' => BQ σ σ')) := by
  refine f_A_block a1 a2 σ _ ((nw0 (e_has a1 σ)).int ?_)
  rintro x2 σ ⟨hx2, rfl⟩
  refine ⟨fun n2 => ?_, fun _ => kpQ h _⟩
  obtain ⟨-, b, hb, hb2, -⟩ := hx2.resolve_right n2
  have v := t_vp hb2 hb
  exact ⟨fun _ => ⟨v, kpQ h _⟩, fun _ => ⟨fun _ => ⟨v, kpQ h _⟩, fun _ => ⟨fun _ => ⟨v, kpQ h _⟩, fun _ => ⟨fun _ => ⟨v, kpQ h _⟩, fun _ => ⟨fun _ => ⟨v, kpQ h _⟩, fun _ => ⟨fun _ => ⟨v, kpQ h _⟩, fun _ => ⟨fun _ => ⟨v, kpQ h _⟩, fun _ => ⟨fun _ => ⟨v, kpQ h _⟩, fun _ => ⟨fun _ => kp1Q h (e_lineOf a1 σ), fun _ => kpQ h _⟩⟩⟩⟩⟩⟩⟩⟩⟩
theorem a_spanQ (a1 a2 : Int32) (σ : sm_S) (h : WW σ) : xC xF j_A_span [.ref 42, .int a1, .int a2] σ (sm_I (fun _ σ' => BQ σ σ')) := by
  refine f_A_span a1 a2 σ _ ((nw0 (e_isSpan a1 σ)).int ?_)
  rintro x2 σ ⟨hx2, rfl⟩
  refine ⟨fun n2 => ?_, fun _ => kpQ h _⟩
  obtain ⟨-, s, hs, h1⟩ := hx2.resolve_right n2
  have v := t_vp h1 hs
  exact ⟨fun _ => ⟨v, kpQ h _⟩, fun _ => ⟨fun _ => ⟨v, kpQ h _⟩, fun _ => ⟨fun _ => ⟨v, kp1Q h (c_bitCount _ σ)⟩, fun _ => ⟨fun _ => ⟨v, kp1Q h (c_bitCount _ σ)⟩, fun _ => ⟨fun _ => ⟨v, kp1Q h (c_bitCount _ σ)⟩, fun _ => ⟨fun _ => ⟨v, kp1Q h (c_bitCount _ σ)⟩, fun _ => ⟨fun _ => ⟨v, kpQ h _⟩, fun _ => ⟨fun _ => ⟨v, kpQ h _⟩, fun _ => ⟨fun _ => ⟨v, kpQ h _⟩, fun _ => ⟨fun _ => ⟨v, kpQ h _⟩, fun _ => ⟨fun _ => ⟨v, kpQ h _⟩, fun _ => kpQ h _⟩⟩⟩⟩⟩⟩⟩⟩⟩⟩⟩
theorem a_taskQ (a1 a2 : Int32) (σ : sm_S) (h : WW σ) : xC xF j_A_task [.ref 42, .int a1, .int a2] σ (sm_I (fun _ σ' => BQ σ σ')) := by
  refine f_A_task a1 a2 σ _ ((nw0 (e_isTask a1 σ)).int ?_)
  rintro x2 σ ⟨hx2, rfl⟩
  refine ⟨fun n2 => ?_, fun _ => kpQ h _⟩
  obtain ⟨-, s, hs, h1⟩ := hx2.resolve_right n2
  have v := t_vp h1 hs
  exact ⟨fun _ => ⟨v, kpQ h _⟩, fun _ => ⟨fun _ => ⟨v, fun _ => kpQ h _, fun _ => kpQ h _⟩, fun _ => ⟨fun _ => ⟨v, kpQ h _⟩, fun _ => ⟨fun _ => ⟨v, kpQ h _⟩, fun _ => ⟨fun _ => kp1Q h (e_ownedBy a1 σ), fun _ => ⟨fun _ => kp1Q h (e_pinnedBy a1 σ), fun _ => kpQ h _⟩⟩⟩⟩⟩⟩
theorem a_zoneQ (a1 a2 : Int32) (σ : sm_S) (h : WW σ) : xC xF j_A_zone [.ref 42, .int a1, .int a2] σ (sm_I (fun _ σ' => BQ σ σ')) := by
  refine f_A_zone a1 a2 σ _ ((nw0 (e_isZone a1 σ)).int ?_)
  rintro x2 σ ⟨-, rfl⟩
  exact ⟨fun _ => ⟨fun _ => kp0Q h (e_inZone a1 σ), fun _ => ⟨fun _ => kp1Q h (e_freeInZone a1 σ), fun _ => ⟨fun _ => kp1Q h (e_widestInZone a1 σ), fun _ => kpQ h _⟩⟩⟩, fun _ => kpQ h _⟩
theorem l_looseAQ {a2 : Int32} {o : Nat} (h2 : a2.toInt = o) (ho : o ≤ 5) (a1 : Int32) (σ : sm_S) (hw : WW σ) : ∀ (d k : Nat) (a3 a4 : Int32) (v5 v6 : Value), a4.toInt = k → k + d = 8 → xE xF m_A_loose 23 [.ref 42, .int a1, .int a2, .int a3, .int a4, v5, v6] [] σ (sm_I (fun _ σ' => BQ σ σ')) := by
  intro d
  induction d with
  | zero =>
    intro k a3 a4 v5 v6 h4 hk
    refine f_A_loose_23 a1 a2 a3 a4 v5 v6 σ _ ⟨fun _ => kpQ hw _, fun h => absurd ?_ h⟩
    rw [t_le, h4]
    show (8 : Int) ≤ _
    omega
  | succ d ih =>
    intro k a3 a4 v5 v6 h4 hk
    have h4' : (a4 + 1).toInt = ((k + 1 : Nat) : Int) := by
      rw [t_add h4 (y := 1) rfl (by omega) (by omega)]
      omega
    have v := t_vp (N := 8) h4 (by omega)
    refine f_A_loose_23 a1 a2 a3 a4 v5 v6 σ _ ⟨fun _ => kpQ hw _, fun _ => ⟨v, fun _ => ih (k + 1) _ _ _ _ h4' (by omega), fun _ => ⟨v, (nw0 (c_starts h2 ho _ σ)).int ?_⟩⟩⟩
    rintro x2 σ ⟨-, rfl⟩
    refine (nw1 (c_bitCount _ σ)).int ?_
    rintro x4 σ rfl
    refine (nw1 (c_bitCount _ σ)).int ?_
    rintro x6 σ rfl
    exact ih (k + 1) _ _ _ _ h4' (by omega)
theorem a_looseQ (a1 a2 : Int32) (σ : sm_S) (h : WW σ) : xC xF j_A_loose [.ref 42, .int a1, .int a2] σ (sm_I (fun _ σ' => BQ σ σ')) := by
  refine f_A_loose a1 a2 σ _ ((nw0 (e_isZone a1 σ)).int ?_)
  rintro x2 σ ⟨-, rfl⟩
  refine ⟨fun _ => kpQ h _, fun _ => ⟨fun _ => kpQ h _, fun h0 => ⟨fun h5 => ?_, fun _ => kpQ h _⟩⟩⟩
  obtain ⟨n, hn⟩ := rg_n h0
  rw [t_le, hn] at h5
  have h5 : (n : Int) ≤ 5 := h5
  exact l_looseAQ hn (by omega) a1 σ h 8 0 _ 0 _ _ rfl rfl
theorem a_placeQ (a1 a2 a3 : Int32) (σ : sm_S) (h : WW σ) : xC xF j_A_place [.ref 42, .int a1, .int a2, .int a3] σ (sm_I (fun _ σ' => BQ σ σ')) := by
  refine f_A_place a1 a2 a3 σ _ ((nw0 (e_isTask a1 σ)).int ?_)
  rintro x2 σ ⟨hx2, rfl⟩
  refine ⟨fun _ => kpQ h _, fun n2 => (nw0 (e_isKind a2 σ)).int ?_⟩
  obtain ⟨-, t, ht, h1⟩ := hx2.resolve_right n2
  rintro x4 σ ⟨-, rfl⟩
  refine ⟨fun _ => kpQ h _, fun n4 => (nw0 (e_isBlockOrder a3 σ)).int ?_⟩
  rintro x6 σ ⟨hx6, rfl⟩
  refine ⟨fun n6 => ?_, fun _ => kpQ h _⟩
  obtain ⟨-, o, ho, h3⟩ := hx6.resolve_right n6
  exact kp0Q h (e_bestPlace h1 ht h3 (by omega) σ)
theorem a_holeQ (a1 : Int32) (σ : sm_S) (h : WW σ) : xC xF j_A_hole [.ref 42, .int a1] σ (sm_I (fun _ σ' => BQ σ σ')) := by
  refine f_A_hole a1 σ _ ⟨fun _ => kpQ h _, fun h1 => ⟨fun h2 => ?_, fun _ => kpQ h _⟩⟩
  obtain ⟨n, hn⟩ := rg_n h1
  rw [t_lt, hn] at h2
  have h2 : (n : Int) < 256 := h2
  exact ⟨by decide, t_vp (t_d32 hn) (by omega), by decide, kp1Q h (c_holeRound _ _ σ)⟩
theorem a_keepsQ (a1 a2 a3 : Int32) (σ : sm_S) (h : WW σ) : xC xF j_A_keeps [.ref 42, .int a1, .int a2, .int a3] σ (sm_I (fun _ σ' => BQ σ σ')) := by
  refine f_A_keeps a1 a2 a3 σ _ ((nw0 (e_isSpan a1 σ)).int ?_)
  rintro x2 σ ⟨hx2, rfl⟩
  refine ⟨fun _ => kpQ h _, fun n2 => ⟨fun _ => kpQ h _, fun _ => ⟨fun _ => ?_, fun _ => kpQ h _⟩⟩⟩
  obtain ⟨-, s, hs, h1⟩ := hx2.resolve_right n2
  refine ⟨fun _ => (nw0 (e_keeper h1 hs a2 σ h.1)).int ?_, fun _ => kp1Q h (e_keepers h1 hs σ h.1)⟩
  rintro x4 σ ⟨hx4, rfl⟩
  refine ⟨fun n4 => ?_, fun _ => kpQ h _⟩
  obtain ⟨b, f, o, w, hb, hb2, he⟩ := hx4.resolve_left n4
  have v := t_vp hb2 hb
  exact ⟨fun _ => kpQ h _, fun _ => ⟨fun _ => kp1Q h (e_whyKeeps hb2 hb σ he), fun _ => ⟨fun _ => ⟨v, kpQ h _⟩, fun _ => ⟨v, kpQ h _⟩⟩⟩⟩
theorem a_holdersQ (a1 : Int32) (σ : sm_S) (h : WW σ) : xC xF j_A_holders [.ref 42, .int a1] σ (sm_I (fun _ σ' => BQ σ σ')) := by
  refine f_A_holders a1 σ _ ((nw0 (e_isSpan a1 σ)).int ?_)
  rintro x2 σ ⟨hx2, rfl⟩
  refine ⟨fun n2 => ?_, fun _ => kpQ h _⟩
  obtain ⟨-, s, hs, h1⟩ := hx2.resolve_right n2
  exact kp1Q h (e_holdersOf h1 hs σ h.1)
theorem a_pressedQ (a1 : Int32) (σ : sm_S) (h : WW σ) : xC xF j_A_pressed [.ref 42, .int a1] σ (sm_I (fun _ σ' => BQ σ σ')) := by
  refine f_A_pressed a1 σ _ ((nw0 (e_isSpan a1 σ)).int ?_)
  rintro x2 σ ⟨hx2, rfl⟩
  refine ⟨fun _ => kpQ h _, fun n2 => ?_⟩
  obtain ⟨-, s, hs, h1⟩ := hx2.resolve_right n2
  refine ⟨t_vp h1 hs, fun _ => (g_widestPacked h1 hs σ h.1 h.2.1).int ?_, fun _ => kpQ h _⟩
  rintro x4 σ3 ⟨t3, l3⟩
  exact ⟨_, rfl, BQ.th h t3 l3⟩
theorem a_atQ (a1 a2 : Int32) (σ : sm_S) (h : WW σ) : xC xF j_A_at [.ref 42, .int a1, .int a2] σ (sm_I (fun _ σ' => BQ σ σ')) := by
  refine f_A_at a1 a2 σ _ ((nw0 (e_isTask a1 σ)).int ?_)
  rintro x2 σ ⟨-, rfl⟩
  refine ⟨fun _ => kpQ h _, fun n2 => (nw0 (e_isNode a2 σ)).int ?_⟩
  rintro x4 σ ⟨-, rfl⟩
  exact ⟨fun _ => kp1Q h (e_framesAt a1 a2 σ), fun _ => kpQ h _⟩
theorem l_movableAQ (a1 a2 a3 : Int32) (σ : sm_S) (hw : WW σ) : ∀ (d : Nat) (a4 : Int32), 0 ≤ a4.toInt → a3.toInt ≤ a4.toInt + d → xE xF m_A_movable 34 [.ref 42, .int a1, .int a2, .int a3, .int a4] [] σ (sm_I (fun _ σ' => BQ σ σ')) := by
  have b3 := t_bd a3
  intro d
  induction d with
  | zero =>
    intro a4 h4 hd
    exact f_A_movable_34 a1 a2 a3 a4 σ _ ⟨fun _ => kpQ hw _, fun h => absurd (by rw [t_le]; omega) h⟩
  | succ d ih =>
    intro a4 h4 hd
    refine f_A_movable_34 a1 a2 a3 a4 σ _ ⟨fun _ => kpQ hw _, fun h => (nw0 (e_staysInRatio _ _ σ)).int ?_⟩
    rw [t_le] at h
    have h4' : (a4 + 1).toInt = a4.toInt + 1 := t_add (x := a4.toInt) rfl (y := 1) rfl (by omega) (by omega)
    rintro x2 σ ⟨-, rfl⟩
    exact ⟨fun _ => kpQ hw _, fun _ => ih _ (by omega) (by omega)⟩
theorem a_movableQ (σ : sm_S) (h : WW σ) : xC xF j_A_movable [.ref 42] σ (sm_I (fun _ σ' => BQ σ σ')) := by
  refine f_A_movable σ _ ((nw0 (e_inZone 0 σ)).int ?_)
  rintro x2 σ ⟨⟨g1, g2⟩, rfl⟩
  refine (nw0 (e_inZone 1 σ)).int ?_
  rintro x4 σ ⟨⟨g3, g4⟩, rfl⟩
  have e1 := t_sub (a := 8) (b := x2) (x := 8) (y := x2.toInt) rfl rfl (by omega) (by omega)
  have e2 := t_sub e1 (b := x4) (y := x4.toInt) rfl (by omega) (by omega)
  exact l_movableAQ _ _ _ σ h 8 0 (by decide) (by rw [e2]; show _ ≤ (0 : Int) + _; omega)
theorem a_wouldQ (a1 a2 : Int32) (σ : sm_S) (h : WW σ) : xC xF j_A_would [.ref 42, .int a1, .int a2] σ (sm_I (fun _ σ' => BQ σ σ')) := by
  refine f_A_would a1 a2 σ _ ⟨fun _ => kpQ h _, fun _ => ⟨fun _ => kpQ h _, fun _ => (nw0 (e_isSpan a1 σ)).int ?_⟩⟩
  rintro x2 σ ⟨hx2, rfl⟩
  refine ⟨fun _ => kpQ h _, fun n2 => ?_⟩
  obtain ⟨-, s, hs, h1⟩ := hx2.resolve_right n2
  refine (nw0 (e_canGo h1 hs σ)).int ?_
  rintro x4 σ ⟨hx4, rfl⟩
  refine ⟨fun n4 => ?_, fun _ => kpQ h _⟩
  obtain ⟨-, hon⟩ := hx4.resolve_left n4
  refine (g_tryOut_n h1 hs σ h.1 h.2.1 hon).int ?_
  rintro x6 σ5 ⟨t5, k5⟩
  have q : BQ σ σ5 := BQ.th h t5 k5.2.2.2.2.1
  have gs : ∀ (c : Int32) (n : Nat), c.toInt = n → n < 11 → xC xF j_H_grownSince [.ref 85, .ref 0, .int c] σ5 (sm_ri False (fun x σ' => sm_I (fun _ σ' => BQ σ σ') (some (.int x)) σ')) := fun c n hc hn => (g_grownSince hc hn σ5).int (fun x σ' e => by rw [e]; exact ⟨x, rfl, q⟩)
  exact ⟨fun _ => ⟨fun _ => ⟨_, rfl, q⟩, fun _ => ⟨_, rfl, q⟩⟩, fun _ => ⟨fun _ => ⟨_, rfl, q⟩, fun _ => ⟨fun _ => gs 3 3 rfl (by omega), fun _ => ⟨fun _ => gs 4 4 rfl (by omega), fun _ => gs 5 5 rfl (by omega)⟩⟩⟩⟩
theorem a_easiestQ (a1 : Int32) (σ : sm_S) (h : WW σ) : xC xF j_A_easiest [.ref 42, .int a1] σ (sm_I (fun _ σ' => BQ σ σ')) := by
  refine f_A_easiest a1 σ _ ⟨fun _ => kpQ h _, fun _ => ⟨fun _ => (g_findEasiest_n σ h.1 h.2.1).int ?_, fun _ => kpQ h _⟩⟩
  rintro x2 σ1 ⟨t1, l1, -⟩
  have q : BQ σ σ1 := BQ.th h t1 l1
  exact ⟨fun _ => ⟨_, rfl, q⟩, fun _ => ⟨fun _ => ⟨_, rfl, q⟩, fun _ => ⟨_, rfl, q⟩⟩⟩
/-- then and the trial alone -/
theorem l_givenBackAQ (σ0 : sm_S) (hw : WW σ0) : ∀ (d k : Nat) (a2 : Int32) (v3 : Value) (σ : sm_S), a2.toInt = k → k + d = 8 → (∀ a, a < 43 ∨ 127 ≤ a → σ a = σ0 a) → kl (bs 43 σ) → kk (bs 86 σ) → xE xF m_A_givenBack 18 [.ref 42, .ref 86, .int a2, v3] [] σ (sm_I (fun _ σ' => BQ σ0 σ')) := by
  intro d
  induction d with
  | zero =>
    intro k a2 v3 σ h2 hk ht hl hk2
    refine f_A_givenBack_18 a2 v3 σ _ ⟨fun _ => ⟨_, rfl, BQ.t2 hw ht hl hk2.2.2.2.2.1⟩, fun h => absurd ?_ h⟩
    rw [t_le, h2]
    show (8 : Int) ≤ _
    omega
  | succ d ih =>
    intro k a2 v3 σ h2 hk ht hl hk2
    have h2' : (a2 + 1).toInt = ((k + 1 : Nat) : Int) := by
      rw [t_add h2 (y := 1) rfl (by omega) (by omega)]
      omega
    refine f_A_givenBack_18 a2 v3 σ _ ⟨fun _ => ⟨_, rfl, BQ.t2 hw ht hl hk2.2.2.2.2.1⟩, fun _ => (g_findEasiest_t σ hk2 hl).int ?_⟩
    rintro x2 σ1 ⟨t1, l1, hx2⟩
    have k1 : kk (bs 86 σ1) := kk_of (fun k hk => by show σ1 (86 + k) = σ (86 + k); exact t1 _ (by omega)) hk2
    have r1 : ∀ a, a < 43 ∨ 127 ≤ a → σ1 a = σ0 a := fun a ha => (t1 a (by omega)).trans (ht a ha)
    refine ⟨fun n2 => ?_, fun _ => ⟨_, rfl, BQ.t2 hw r1 l1 k1.2.2.2.2.1⟩⟩
    obtain ⟨s, hs, hs2, hon⟩ := hx2.resolve_left n2
    refine (g_tryOut_t hs2 hs σ1 k1 l1 (by rw [t1 104 (by omega)]; exact hon)).int ?_
    rintro x4 σ3 ⟨t3, k3⟩
    refine (x_cpy shP4 σ3).void ?_
    rintro σ5 ⟨o5, e5, n5⟩
    have k3' : kk (bs 86 σ3) := kk_of (fun k hk => by show σ3 (86 + k) = σ1 (86 + k); exact t3 _ (by omega)) k1
    refine ih (k + 1) _ _ σ5 h2' (by omega) (fun a ha => (o5 a (by omega)).trans ((t3 a (by omega)).trans (r1 a ha))) ?_ ?_
    · exact kl_of (σ := bs 43 σ3) (by show σ5 77 5 = σ3 77 5; rw [o5 77 (by omega)]) k3.2.2.2.2.1
    · exact kk_eqr e5 (kl_of (σ := bs 86 σ3) n5 k3'.2.2.2.2.1) k3
theorem a_givenBackQ (σ : sm_S) (h : WW σ) : xC xF j_A_givenBack [.ref 42] σ (sm_I (fun _ σ' => BQ σ σ')) := by
  refine f_A_givenBack σ _ ((x_cpy shP3 σ).void ?_)
  rintro σ1 ⟨o1, e1, n1⟩
  refine l_givenBackAQ σ h 8 0 0 _ σ1 rfl rfl (fun a ha => o1 a (by omega)) ?_ ?_
  · exact kl_of (σ := bs 43 σ) (by show σ1 77 5 = σ 77 5; rw [o1 77 (by omega)]) h.2.1
  · exact kk_eqr e1 (kl_of (σ := bs 86 σ) n1 h.2.2.1) (kk_bs0 h.1)
theorem a_logQ (a1 a2 : Int32) (σ : sm_S) (h : WW σ) : xC xF j_A_log [.ref 42, .int a1, .int a2] σ (sm_I (fun _ σ' => BQ σ σ')) :=
  f_A_log a1 a2 σ _ (kp1Q h (e_cell a1 a2 σ h.1.2.2.2.2.1))
theorem a_countQ (a1 : Int32) (σ : sm_S) (h : WW σ) : xC xF j_A_count [.ref 42, .int a1] σ (sm_I (fun _ σ' => BQ σ σ')) := by
  refine f_A_count a1 σ _ ⟨fun _ => kpQ h _, fun h1 => ⟨fun h2 => ?_, fun _ => kpQ h _⟩⟩
  obtain ⟨n, hn⟩ := rg_n h1
  rw [t_lt, hn] at h2
  have h2 : (n : Int) < 11 := h2
  exact ⟨t_vp hn (by omega), kpQ h _⟩
theorem a_movableByNormalQ (σ : sm_S) (h : WW σ) : xC xF j_A_movableByNormal [.ref 42] σ (sm_ri False (fun x σ' => sm_I (fun _ σ' => BQ σ σ') (some (.int x)) σ')) := by
  refine f_A_movableByNormal σ _ ((nw0 (e_inZone 0 σ)).int ?_)
  rintro x2 σ ⟨-, rfl⟩
  refine ⟨fun n2 => (nw0 (e_inZone 1 σ)).int ?_, fun _ => kpQ h _⟩
  rintro x4 σ ⟨-, rfl⟩
  exact ⟨n2, kpQ h _⟩
theorem l_bitsIn2Q (σ : sm_S) (hw : WW σ) : ∀ (d k : Nat) (a1 a4 : Int32) (v5 : Value), a4.toInt = k → k + d = 8 → xE xF m_R_bitsIn 10 [.ref 2, .int a1, .ref 2, .int (Int32.ofNat 8), .int a4, v5] [] σ (sm_I (fun _ σ' => BQ σ σ')) := by
  intro d
  induction d with
  | zero =>
    intro k a1 a4 v5 h4 hk
    refine f_R_bitsIn2_10 a1 _ a4 v5 σ _ ⟨fun _ => kpQ hw _, fun h => absurd ?_ h⟩
    rw [t_le, h4]
    show (8 : Int) ≤ _
    omega
  | succ d ih =>
    intro k a1 a4 v5 h4 hk
    have h4' : (a4 + 1).toInt = ((k + 1 : Nat) : Int) := by
      rw [t_add h4 (y := 1) rfl (by omega) (by omega)]
      omega
    refine f_R_bitsIn2_10 a1 _ a4 v5 σ _ ⟨fun _ => kpQ hw _, fun _ => ⟨t_vp h4 (by omega), (nw1 (c_bitCount _ σ)).int ?_⟩⟩
    rintro x2 σ rfl
    exact ih (k + 1) _ _ _ h4' (by omega)
theorem a_bitsIn2Q (σ : sm_S) (h : WW σ) : xC xF j_R_bitsIn [.ref 2] σ (sm_ri False (fun x σ' => sm_I (fun _ σ' => BQ σ σ') (some (.int x)) σ')) :=
  sm_C.int (P := fun _ σ' => BQ σ σ') (f_R_bitsIn2 σ _ (l_bitsIn2Q σ h 8 0 _ 0 _ rfl rfl)) (fun x σ' q => ⟨x, rfl, q⟩)
theorem l_bitsIn3Q (σ : sm_S) (hw : WW σ) : ∀ (d k : Nat) (a1 a4 : Int32) (v5 : Value), a4.toInt = k → k + d = 8 → xE xF m_R_bitsIn 10 [.ref 3, .int a1, .ref 3, .int (Int32.ofNat 8), .int a4, v5] [] σ (sm_I (fun _ σ' => BQ σ σ')) := by
  intro d
  induction d with
  | zero =>
    intro k a1 a4 v5 h4 hk
    refine f_R_bitsIn3_10 a1 _ a4 v5 σ _ ⟨fun _ => kpQ hw _, fun h => absurd ?_ h⟩
    rw [t_le, h4]
    show (8 : Int) ≤ _
    omega
  | succ d ih =>
    intro k a1 a4 v5 h4 hk
    have h4' : (a4 + 1).toInt = ((k + 1 : Nat) : Int) := by
      rw [t_add h4 (y := 1) rfl (by omega) (by omega)]
      omega
    refine f_R_bitsIn3_10 a1 _ a4 v5 σ _ ⟨fun _ => kpQ hw _, fun _ => ⟨t_vp h4 (by omega), (nw1 (c_bitCount _ σ)).int ?_⟩⟩
    rintro x2 σ rfl
    exact ih (k + 1) _ _ _ h4' (by omega)
theorem a_bitsIn3Q (σ : sm_S) (h : WW σ) : xC xF j_R_bitsIn [.ref 3] σ (sm_ri False (fun x σ' => sm_I (fun _ σ' => BQ σ σ') (some (.int x)) σ')) :=
  sm_C.int (P := fun _ σ' => BQ σ σ') (f_R_bitsIn3 σ _ (l_bitsIn3Q σ h 8 0 _ 0 _ rfl rfl)) (fun x σ' q => ⟨x, rfl, q⟩)
theorem l_bitsIn4Q (σ : sm_S) (hw : WW σ) : ∀ (d k : Nat) (a1 a4 : Int32) (v5 : Value), a4.toInt = k → k + d = 8 → xE xF m_R_bitsIn 10 [.ref 4, .int a1, .ref 4, .int (Int32.ofNat 8), .int a4, v5] [] σ (sm_I (fun _ σ' => BQ σ σ')) := by
  intro d
  induction d with
  | zero =>
    intro k a1 a4 v5 h4 hk
    refine f_R_bitsIn4_10 a1 _ a4 v5 σ _ ⟨fun _ => kpQ hw _, fun h => absurd ?_ h⟩
    rw [t_le, h4]
    show (8 : Int) ≤ _
    omega
  | succ d ih =>
    intro k a1 a4 v5 h4 hk
    have h4' : (a4 + 1).toInt = ((k + 1 : Nat) : Int) := by
      rw [t_add h4 (y := 1) rfl (by omega) (by omega)]
      omega
    refine f_R_bitsIn4_10 a1 _ a4 v5 σ _ ⟨fun _ => kpQ hw _, fun _ => ⟨t_vp h4 (by omega), (nw1 (c_bitCount _ σ)).int ?_⟩⟩
    rintro x2 σ rfl
    exact ih (k + 1) _ _ _ h4' (by omega)
theorem a_bitsIn4Q (σ : sm_S) (h : WW σ) : xC xF j_R_bitsIn [.ref 4] σ (sm_ri False (fun x σ' => sm_I (fun _ σ' => BQ σ σ') (some (.int x)) σ')) :=
  sm_C.int (P := fun _ σ' => BQ σ σ') (f_R_bitsIn4 σ _ (l_bitsIn4Q σ h 8 0 _ 0 _ rfl rfl)) (fun x σ' q => ⟨x, rfl, q⟩)
theorem l_bitsIn5Q (σ : sm_S) (hw : WW σ) : ∀ (d k : Nat) (a1 a4 : Int32) (v5 : Value), a4.toInt = k → k + d = 8 → xE xF m_R_bitsIn 10 [.ref 5, .int a1, .ref 5, .int (Int32.ofNat 8), .int a4, v5] [] σ (sm_I (fun _ σ' => BQ σ σ')) := by
  intro d
  induction d with
  | zero =>
    intro k a1 a4 v5 h4 hk
    refine f_R_bitsIn5_10 a1 _ a4 v5 σ _ ⟨fun _ => kpQ hw _, fun h => absurd ?_ h⟩
    rw [t_le, h4]
    show (8 : Int) ≤ _
    omega
  | succ d ih =>
    intro k a1 a4 v5 h4 hk
    have h4' : (a4 + 1).toInt = ((k + 1 : Nat) : Int) := by
      rw [t_add h4 (y := 1) rfl (by omega) (by omega)]
      omega
    refine f_R_bitsIn5_10 a1 _ a4 v5 σ _ ⟨fun _ => kpQ hw _, fun _ => ⟨t_vp h4 (by omega), (nw1 (c_bitCount _ σ)).int ?_⟩⟩
    rintro x2 σ rfl
    exact ih (k + 1) _ _ _ h4' (by omega)
theorem a_bitsIn5Q (σ : sm_S) (h : WW σ) : xC xF j_R_bitsIn [.ref 5] σ (sm_ri False (fun x σ' => sm_I (fun _ σ' => BQ σ σ') (some (.int x)) σ')) :=
  sm_C.int (P := fun _ σ' => BQ σ σ') (f_R_bitsIn5 σ _ (l_bitsIn5Q σ h 8 0 _ 0 _ rfl rfl)) (fun x σ' q => ⟨x, rfl, q⟩)
theorem a_lookQ (a1 : Int32) (σ : sm_S) (h : WW σ) : xC xF j_A_look [.ref 42, .int a1] σ (sm_I (fun _ σ' => BQ σ σ')) := by
  have z6 : xC xF j_S_inZone [.ref 17, .int 0] σ (sm_ri False (fun x16 σ15 => xC xF j_S_inZone [.ref 17, .int 1] σ15 (sm_ri False (fun x18 σ17 => sm_I (fun _ σ' => BQ σ σ') (some (.int (x16 + x18))) σ17)))) := by
    refine (nw0 (e_inZone 0 σ)).int ?_
    rintro x2 σ ⟨-, rfl⟩
    refine (nw0 (e_inZone 1 σ)).int ?_
    rintro x4 σ ⟨-, rfl⟩
    exact kpQ h _
  refine f_A_look a1 σ _ ⟨fun _ => ?_, fun h0 => ⟨fun _ => ?_, fun h4 => ?_⟩⟩
  · exact ⟨fun _ => kpQ h _, fun _ => ⟨fun _ => kp1Q h (e_howMany σ), fun _ => ⟨fun _ => z6, fun _ => ⟨fun _ => a_bitsIn2Q σ h, fun _ => ⟨fun _ => a_bitsIn3Q σ h, fun _ => ⟨fun _ => a_bitsIn4Q σ h, fun _ => ⟨fun _ => a_bitsIn5Q σ h, fun _ => ⟨fun _ => kp1Q h (e_waitingSet σ), fun _ => ⟨fun _ => kp1Q h (e_goingSet σ), fun _ => ⟨fun _ => kpQ h _, fun _ => ⟨fun _ => a_movableByNormalQ σ h, fun _ => kpQ h _⟩⟩⟩⟩⟩⟩⟩⟩⟩⟩⟩
  · exact ⟨fun _ => kpQ h _, fun _ => ⟨fun _ => kp1Q h (e_howMany σ), fun _ => ⟨fun _ => z6, fun _ => ⟨fun _ => a_bitsIn2Q σ h, fun _ => ⟨fun _ => a_bitsIn3Q σ h, fun _ => ⟨fun _ => a_bitsIn4Q σ h, fun _ => ⟨fun _ => a_bitsIn5Q σ h, fun _ => ⟨fun _ => kp1Q h (e_waitingSet σ), fun _ => ⟨fun _ => kp1Q h (e_goingSet σ), fun _ => ⟨fun _ => kpQ h _, fun _ => ⟨fun _ => a_movableByNormalQ σ h, fun _ => kpQ h _⟩⟩⟩⟩⟩⟩⟩⟩⟩⟩⟩
  · obtain ⟨n, hn⟩ := rg_n h0
    rw [t_le, hn] at h4
    have h4 : ¬ (4 : Int) ≤ n := h4
    exact ⟨t_vp hn (by omega), kpQ h _⟩
