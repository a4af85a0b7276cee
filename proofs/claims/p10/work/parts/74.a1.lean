/-! ===== the class: every call keeps what holds ===== -/
def WW (σ : sm_S) : Prop := kk σ ∧ kl (bs 43 σ) ∧ kl (bs 86 σ) ∧ (σ 42 4 = 0 ∨ σ 42 4 = 1) ∧ (σ 42 4 ≠ 0 → kk (bs 127 σ))
def AQ (σ σ' : sm_S) : Prop := WW σ' ∧ (∀ a, 168 ≤ a → σ' a = σ a) ∧ σ' 42 4 = σ 42 4
theorem AQ.rf {σ : sm_S} (h : WW σ) : AQ σ σ := ⟨h, fun _ _ => rfl, rfl⟩
theorem AQ.now {σ σ' : sm_S} (h : WW σ) (hk : kk σ') (ho : ∀ a, 42 ≤ a → σ' a = σ a) : AQ σ σ' := by
  obtain ⟨-, h2, h3, h4, h5⟩ := h
  refine ⟨⟨hk, kl_of (σ := bs 43 σ) (by show σ' 77 5 = σ 77 5; rw [ho 77 (by omega)]) h2, kl_of (σ := bs 86 σ) (by show σ' 120 5 = σ 120 5; rw [ho 120 (by omega)]) h3, by rw [ho 42 (by omega)]; exact h4, fun hn => ?_⟩, fun a ha => ho a (by omega), by rw [ho 42 (by omega)]⟩
  rw [ho 42 (by omega)] at hn
  exact kk_of (fun k hk => by show σ' (127 + k) = σ (127 + k); exact ho _ (by omega)) (h5 hn)
theorem AQ.th {σ σ' : sm_S} (h : WW σ) (ht : th σ σ') (hl : kl (bs 43 σ')) : AQ σ σ' := by
  obtain ⟨h1, h2, h3, h4, h5⟩ := h
  refine ⟨⟨kk_of (fun k hk => ht k (by omega)) h1, hl, kl_of (σ := bs 86 σ) (by show σ' 120 5 = σ 120 5; rw [ht 120 (by omega)]) h3, by rw [ht 42 (by omega)]; exact h4, fun hn => ?_⟩, fun a ha => ht a (by omega), by rw [ht 42 (by omega)]⟩
  rw [ht 42 (by omega)] at hn
  exact kk_of (fun k hk => by show σ' (127 + k) = σ (127 + k); exact ht _ (by omega)) (h5 hn)
theorem AQ.tr {a b c : sm_S} (h1 : AQ a b) (h2 : AQ b c) : AQ a c := ⟨h2.1, fun k hk => (h2.2.1 k hk).trans (h1.2.1 k hk), h2.2.2.trans h1.2.2⟩
theorem kk_tld {σ σ1 : sm_S} {n : Nat} {x : Int32} (e : σ1 = sm_set σ 39 (upd (σ 39) n x)) (hx : 0 ≤ x.toInt) (h : kk σ) : kk σ1 := by
  subst e
  obtain ⟨k1, k2, k3, k4, k5, k6⟩ := h
  refine ⟨k1, k2, k3, k4, k5, ?_⟩
  rw [s_at]
  by_cases hn : 0 = n
  · subst hn; rw [u_at]; exact hx
  · rw [u_ne hn]; exact k6
theorem a_set (a1 a2 : Int32) (σ : sm_S) (h : WW σ) : xC xF j_A_set [.ref 42, .int a1, .int a2] σ (sm_I (fun x σ' => isYes (ansSet a1 a2) x ∧ AQ σ σ')) := by
  have no : ¬ ansSet a1 a2 → ((0 : Int32) = 0 ∨ (0 : Int32) = 1) ∧ sm_I (fun x σ' => isYes (ansSet a1 a2) x ∧ AQ σ σ') (some (.int 0)) σ := fun hn => ⟨Or.inl rfl, _, rfl, Or.inr ⟨rfl, hn⟩, AQ.rf h⟩
  refine f_A_set a1 a2 σ _ ⟨fun h1 => no ?_, fun h1 => ⟨fun h2 => no ?_, fun h2 => ?_⟩⟩
  · rintro (⟨rfl, -⟩ | ⟨rfl, -⟩ | ⟨rfl, -⟩ | ⟨rfl, -⟩) <;> revert h1 <;> decide
  · rintro (⟨rfl, -⟩ | ⟨rfl, -⟩ | ⟨rfl, -⟩ | ⟨rfl, -⟩) <;> revert h2 <;> decide
  · rw [t_lt] at h1
    rw [t_le] at h2
    have h1 : ¬ a1.toInt < (0 : Int) := h1
    have h2 : ¬ (4 : Int) ≤ a1.toInt := h2
    obtain ⟨n, hn⟩ := t_of (x := a1) (by omega)
    have stp : ∀ (lo hi : Int32), 0 ≤ lo.toInt → (ansSet a1 a2 ↔ lo.toInt ≤ a2.toInt ∧ a2.toInt ≤ hi.toInt) → (xT 0).getD n 0 = lo → (xT 1).getD n 0 = hi → (vp_in a1 (xT 0).length ∧ ((a2 < ((xT 0).getD (a1).toNatClampNeg 0) → (((0 : Int32) = 0 ∨ (0 : Int32) = 1) ∧ sm_I (fun x σ' => isYes (ansSet a1 a2) x ∧ AQ σ σ') (some (.int 0)) σ)) ∧ (¬ (a2 < ((xT 0).getD (a1).toNatClampNeg 0)) → (vp_in a1 (xT 1).length ∧ ((a2 ≤ ((xT 1).getD (a1).toNatClampNeg 0) → (vp_in a1 4 ∧ ∀ σ1, σ1 = sm_set σ 39 (upd (σ 39) (a1).toNatClampNeg a2) → (((1 : Int32) = 0 ∨ (1 : Int32) = 1) ∧ sm_I (fun x σ' => isYes (ansSet a1 a2) x ∧ AQ σ σ') (some (.int 1)) σ1))) ∧ (¬ (a2 ≤ ((xT 1).getD (a1).toNatClampNeg 0)) → (((0 : Int32) = 0 ∨ (0 : Int32) = 1) ∧ sm_I (fun x σ' => isYes (ansSet a1 a2) x ∧ AQ σ σ') (some (.int 0)) σ))))))) := by
      intro lo hi h0 hiff elo ehi
      rw [t_nat hn, elo, ehi]
      refine ⟨t_vp hn (show n < 4 by omega), fun g => no ?_, fun g => ⟨t_vp hn (show n < 4 by omega), fun g2 => ⟨t_vp hn (by omega), fun σ1 e1 => ⟨Or.inr rfl, _, rfl, Or.inl ⟨rfl, ?_⟩, ?_⟩⟩, fun g2 => no ?_⟩⟩
      · rw [t_lt] at g
        rw [hiff]
        omega
      · rw [t_lt] at g
        rw [t_le] at g2
        rw [hiff]
        omega
      · rw [t_lt] at g
        refine AQ.now h ?_ (fun a ha => by rw [e1, s_ne (by omega)])
        exact kk_tld e1 (by omega) h.1
      · rw [t_le] at g2
        rw [hiff]
        omega
    rcases (show n = 0 ∨ n = 1 ∨ n = 2 ∨ n = 3 by omega) with rfl | rfl | rfl | rfl
    · have e : a1 = 0 := t_inj hn
      refine stp 1 16 (by decide) ?_ rfl rfl
      rw [e]
      exact ⟨fun z => z.elim (fun z => z.2) (fun z => by rcases z with ⟨z, -⟩ | ⟨z, -⟩ | ⟨z, -⟩ <;> exact absurd z (by decide)), fun z => Or.inl ⟨rfl, z⟩⟩
    · have e : a1 = 1 := t_inj hn
      refine stp 1 9 (by decide) ?_ rfl rfl
      rw [e]
      exact ⟨fun z => by rcases z with ⟨z, -⟩ | ⟨-, z⟩ | ⟨z, -⟩ | ⟨z, -⟩ <;> first | exact z | exact absurd z (by decide), fun z => Or.inr (Or.inl ⟨rfl, z⟩)⟩
    · have e : a1 = 2 := t_inj hn
      refine stp 0 400 (by decide) ?_ rfl rfl
      rw [e]
      exact ⟨fun z => by rcases z with ⟨z, -⟩ | ⟨z, -⟩ | ⟨-, z⟩ | ⟨z, -⟩ <;> first | exact z | exact absurd z (by decide), fun z => Or.inr (Or.inr (Or.inl ⟨rfl, z⟩))⟩
    · have e : a1 = 3 := t_inj hn
      refine stp 1 20 (by decide) ?_ rfl rfl
      rw [e]
      exact ⟨fun z => by rcases z with ⟨z, -⟩ | ⟨z, -⟩ | ⟨z, -⟩ | ⟨-, z⟩ <;> first | exact z | exact absurd z (by decide), fun z => Or.inr (Or.inr (Or.inr ⟨rfl, z⟩))⟩
theorem e_isTaskX (a : Int32) (σ : sm_S) : xC xD j_A_isTask [.int a] σ (sm_I (fun x σ' => isYes (0 ≤ a.toInt ∧ a.toInt < 6) x ∧ σ' = σ)) := by
  refine d_A_isTask a σ _ ⟨fun h => ⟨Or.inl rfl, _, rfl, Or.inr ⟨rfl, fun z => ?_⟩, rfl⟩, fun h => ⟨fun h2 => ⟨Or.inl rfl, _, rfl, Or.inr ⟨rfl, fun z => ?_⟩, rfl⟩, fun h2 => ⟨Or.inr rfl, _, rfl, Or.inl ⟨rfl, ?_⟩, rfl⟩⟩⟩
  · rw [t_lt] at h
    have h : a.toInt < (0 : Int) := h
    omega
  · rw [t_le] at h2
    have h2 : (6 : Int) ≤ a.toInt := h2
    omega
  · rw [t_lt] at h
    rw [t_le] at h2
    have h : ¬ a.toInt < (0 : Int) := h
    have h2 : ¬ (6 : Int) ≤ a.toInt := h2
    omega
theorem e_isNodeX (a : Int32) (σ : sm_S) : xC xD j_A_isNode [.int a] σ (sm_I (fun x σ' => isYes (0 ≤ a.toInt ∧ a.toInt < 2) x ∧ σ' = σ)) := by
  refine d_A_isNode a σ _ ⟨fun h => ⟨Or.inl rfl, _, rfl, Or.inr ⟨rfl, fun z => ?_⟩, rfl⟩, fun h => ⟨fun h2 => ⟨Or.inl rfl, _, rfl, Or.inr ⟨rfl, fun z => ?_⟩, rfl⟩, fun h2 => ⟨Or.inr rfl, _, rfl, Or.inl ⟨rfl, ?_⟩, rfl⟩⟩⟩
  · rw [t_lt] at h
    have h : a.toInt < (0 : Int) := h
    omega
  · rw [t_le] at h2
    have h2 : (2 : Int) ≤ a.toInt := h2
    omega
  · rw [t_lt] at h
    rw [t_le] at h2
    have h : ¬ a.toInt < (0 : Int) := h
    have h2 : ¬ (2 : Int) ≤ a.toInt := h2
    omega
theorem a_home (a1 a2 : Int32) (σ : sm_S) (h : WW σ) : xC xF j_A_home [.ref 42, .int a1, .int a2] σ (sm_I (fun x σ' => isYes (ansHome a1 a2) x ∧ AQ σ σ')) := by
  refine f_A_home a1 a2 σ _ ((nw0 (e_isTaskX a1 σ)).int ?_)
  rintro x2 σ ⟨hx2, rfl⟩
  refine ⟨fun z2 => ⟨Or.inl rfl, _, rfl, Or.inr ⟨rfl, fun z => ?_⟩, AQ.rf h⟩, fun n2 => ?_⟩
  · rcases hx2 with ⟨g, -⟩ | ⟨-, g⟩
    · rw [g] at z2; exact absurd z2 (by decide)
    · exact g ⟨z.1, z.2.1⟩
  · obtain ⟨-, g1, g2⟩ := hx2.resolve_right (fun z => n2 z.1)
    obtain ⟨t, ht⟩ := t_of g1
    refine (nw0 (e_isNodeX a2 σ)).int ?_
    rintro x4 σ ⟨hx4, rfl⟩
    refine ⟨fun n4 => ⟨t_vp ht (by omega), fun σ5 e5 => ⟨Or.inr rfl, _, rfl, Or.inl ⟨rfl, ?_⟩, AQ.now h (kk_id (by rw [e5]; exact kx.rf.set rfl) h.1) (fun a ha => by rw [e5, s_ne (by omega)])⟩⟩, fun z4 => ⟨Or.inl rfl, _, rfl, Or.inr ⟨rfl, fun z => ?_⟩, AQ.rf h⟩⟩
    · obtain ⟨-, g3, g4⟩ := hx4.resolve_right (fun z => n4 z.1)
      exact ⟨g1, g2, g3, by omega⟩
    · rcases hx4 with ⟨g, -⟩ | ⟨-, g⟩
      · exact z4 (by rw [g]; decide)
      · obtain ⟨-, -, q1, q2⟩ := z
        exact g ⟨q1, by omega⟩
theorem kp {σ : sm_S} (h : WW σ) (y : Int32) : sm_I (fun _ σ' => AQ σ σ') (some (.int y)) σ := ⟨y, rfl, AQ.rf h⟩
theorem kpb {σ : sm_S} (h : WW σ) : ((0 : Int32) = 0 ∨ (0 : Int32) = 1) ∧ sm_I (fun _ σ' => AQ σ σ') (some (.int 0)) σ := ⟨Or.inl rfl, kp h 0⟩
theorem a_take (a1 a2 a3 a4 : Int32) (σ : sm_S) (h : WW σ) : xC xF j_A_take [.ref 42, .int a1, .int a2, .int a3, .int a4] σ (sm_I (fun _ σ' => AQ σ σ')) := by
  refine f_A_take a1 a2 a3 a4 σ _ ((nw0 (e_isTask a1 σ)).int ?_)
  rintro x2 σ ⟨hx2, rfl⟩
  refine ⟨fun _ => kp h _, fun n2 => (nw0 (e_isKind a2 σ)).int ?_⟩
  obtain ⟨-, t, ht, h1⟩ := hx2.resolve_right n2
  rintro x4 σ ⟨-, rfl⟩
  refine ⟨fun _ => kp h _, fun n4 => (nw0 (e_isBlockOrder a3 σ)).int ?_⟩
  rintro x6 σ ⟨hx6, rfl⟩
  refine ⟨fun n6 => ?_, fun _ => kp h _⟩
  obtain ⟨-, o, ho, h3⟩ := hx6.resolve_right n6
  refine (nwK (fun _ _ h => h) (e_bring h1 ht h3 (by omega) a2 a4 σ h.1)).int ?_
  rintro x8 σ7 ⟨k7, o7⟩
  exact ⟨_, rfl, AQ.now h k7 o7⟩
theorem a_free (a1 : Int32) (σ : sm_S) (h : WW σ) : xC xF j_A_free [.ref 42, .int a1] σ (sm_I (fun _ σ' => AQ σ σ')) := by
  refine f_A_free a1 σ _ ((nw0 (e_has a1 σ)).int ?_)
  rintro x2 σ ⟨hx2, rfl⟩
  refine ⟨fun _ => kpb h, fun n2 => ?_⟩
  obtain ⟨-, b, hb, hb2, h9⟩ := hx2.resolve_right n2
  obtain ⟨f, o, w, he⟩ := kb_has (h.1.1 b hb) h9
  refine (nw0 (e_isLoose hb2 hb σ)).int ?_
  rintro x4 σ ⟨hx4, rfl⟩
  refine ⟨fun n4 => ?_, fun _ => kpb h⟩
  obtain ⟨-, -, h14⟩ := hx4.resolve_right n4
  refine (nwV (fun τ g => kk_rem hb g.1 g.2 h.1 h14) (e_remove hb2 hb σ he)).void ?_
  rintro σ5 ⟨k5, o5⟩
  exact ⟨Or.inr rfl, _, rfl, AQ.now h k5 o5⟩
theorem nwW {a1 : Int32} {t b f o w a : Nat} (h1 : a1.toInt = t) (ht : t < 6) (a2 a3 a4 : Int32) (σ : sm_S) (hk : kk σ) (he : eb σ b f o w) (h28 : σ 28 t = -1) (h3 : a3.toInt = a) : xC xF j_K_wants [.ref 26, .int a1, .int a2, .int a3, .int a4] σ (sm_V (fun σ' => kk σ' ∧ (∀ a, 42 ≤ a → σ' a = σ a) ∧ eb σ' b f o w ∧ (σ' 31 t).toInt = a)) := by
  refine sm_C.mono (sm_cv_ids _ ▸ x_up shDF (e_wants h1 ht a2 a3 a4 σ)) ?_
  rintro r σ' ⟨r1, τ, rfl, ⟨rfl, x, e⟩, hs, ho⟩
  have g9 : σ' 9 = τ 9 := hs.1 9 (0, 96) rfl
  have g10 : σ' 10 = τ 10 := hs.1 10 (0, 96) rfl
  have g12 : σ' 12 = τ 12 := hs.1 12 (0, 96) rfl
  have g31 : σ' 31 = τ 31 := hs.1 31 (0, 6) rfl
  refine ⟨rfl, stD_kk hs (kk_wnt x e hk h28), fun a ha => off_out (n := 42) rfl ho (fun k hk z => by have z : k = a := z; omega), eb_cong (by rw [g9, x.1 9 rfl rfl]) (by rw [g10, x.1 10 rfl rfl]) (by rw [g12, x.1 12 rfl rfl]) he, ?_⟩
  rw [g31, e, u_at]
  exact h3
theorem a_touch (a1 a2 a3 a4 a5 : Int32) (σ : sm_S) (h : WW σ) : xC xF j_A_touch [.ref 42, .int a1, .int a2, .int a3, .int a4, .int a5] σ (sm_I (fun _ σ' => AQ σ σ')) := by
  refine f_A_touch a1 a2 a3 a4 a5 σ _ ((nw0 (e_isTask a1 σ)).int ?_)
  rintro x2 σ ⟨hx2, rfl⟩
  refine ⟨fun _ => kp h _, fun n2 => (nw0 (e_has a2 σ)).int ?_⟩
  obtain ⟨-, t, ht, h1⟩ := hx2.resolve_right n2
  rintro x4 σ ⟨hx4, rfl⟩
  refine ⟨fun _ => kp h _, fun n4 => ?_⟩
  obtain ⟨-, b, hb, hb2, h9⟩ := hx4.resolve_right n4
  obtain ⟨f, o, w, he⟩ := kb_has (h.1.1 b hb) h9
  rw [t_nat h1]
  refine ⟨t_vp h1 ht, fun h28 => ⟨fun _ => kp h _, fun n0 => (nw0 (e_size hb2 hb σ)).int ?_⟩, fun _ => kp h _⟩
  rintro x6 σ ⟨rfl, rfl⟩
  refine ⟨fun hlt => ?_, fun _ => kp h _⟩
  rw [t_lt] at n0
  rw [t_lt, t_sz he] at hlt
  have n0 : ¬ a4.toInt < (0 : Int) := n0
  obtain ⟨a, ha⟩ := t_of (x := a4) (by omega)
  refine (nwW h1 ht a3 a4 a5 σ h.1 he h28 ha).void ?_
  rintro σ7 ⟨k7, o7, e7, f7⟩
  refine (nwK (fun _ _ h => h) (e_doOrWait h1 ht hb2 hb σ7 k7 e7 f7 (by omega))).int ?_
  rintro x9 σ8 ⟨k8, o8⟩
  exact ⟨_, rfl, AQ.now h k8 (fun a ha => (o8 a ha).trans (o7 a ha))⟩
theorem a_read (a1 a2 a3 : Int32) (σ : sm_S) (h : WW σ) : xC xF j_A_read [.ref 42, .int a1, .int a2, .int a3] σ (sm_I (fun _ σ' => AQ σ σ')) :=
  f_A_read a1 a2 a3 σ _ ((a_touch _ _ _ _ _ σ h).int (fun x σ' hq => ⟨x, rfl, hq⟩))
theorem a_write (a1 a2 a3 a4 : Int32) (σ : sm_S) (h : WW σ) : xC xF j_A_write [.ref 42, .int a1, .int a2, .int a3, .int a4] σ (sm_I (fun _ σ' => AQ σ σ')) :=
  f_A_write a1 a2 a3 a4 σ _ ((a_touch _ _ _ _ _ σ h).int (fun x σ' hq => ⟨x, rfl, hq⟩))
theorem a_hasPin (a1 a2 : Int32) (σ : sm_S) : xC xF j_A_hasPin [.ref 42, .int a1, .int a2] σ (sm_I (fun x σ' => (x = 0 ∨ (x = 1 ∧ ∃ b : Nat, b < 96 ∧ a2.toInt = b)) ∧ σ' = σ)) := by
  refine f_A_hasPin a1 a2 σ _ ((nw0 (e_isTask a1 σ)).int ?_)
  rintro x2 σ ⟨-, rfl⟩
  refine ⟨fun _ => ⟨Or.inl rfl, _, rfl, Or.inl rfl, rfl⟩, fun _ => (nw0 (e_has a2 σ)).int ?_⟩
  rintro x4 σ ⟨hx4, rfl⟩
  refine ⟨fun _ => ⟨Or.inl rfl, _, rfl, Or.inl rfl, rfl⟩, fun n4 => ?_⟩
  obtain ⟨-, b, hb, hb2, -⟩ := hx4.resolve_right n4
  exact ⟨t_vp hb2 hb, fun _ => ⟨Or.inl rfl, _, rfl, Or.inl rfl, rfl⟩, fun _ => ⟨Or.inr rfl, _, rfl, Or.inr ⟨rfl, b, hb, hb2⟩, rfl⟩⟩
theorem a_pin (a1 a2 : Int32) (σ : sm_S) (h : WW σ) : xC xF j_A_pin [.ref 42, .int a1, .int a2] σ (sm_I (fun _ σ' => AQ σ σ')) := by
  refine f_A_pin a1 a2 σ _ ((a_hasPin a1 a2 σ).int ?_)
  rintro x2 σ ⟨-, rfl⟩
  exact ⟨fun _ => (a_touch _ _ _ _ _ σ h).int (fun x σ' hq => ⟨x, rfl, hq⟩), fun _ => kp h _⟩
theorem a_unpin (a1 a2 : Int32) (σ : sm_S) (h : WW σ) : xC xF j_A_unpin [.ref 42, .int a1, .int a2] σ (sm_I (fun _ σ' => AQ σ σ')) := by
  refine f_A_unpin a1 a2 σ _ ((a_hasPin a1 a2 σ).int ?_)
  rintro x2 σ ⟨hx2, rfl⟩
  refine ⟨fun n2 => ?_, fun _ => kpb h⟩
  obtain ⟨-, b, hb, hb2⟩ := hx2.resolve_left n2
  refine ⟨t_vp hb2 hb, t_vp hb2 hb, fun σ3 e3 => ⟨Or.inr rfl, _, rfl, AQ.now h (kk_id (by rw [e3]; exact kx.rf.set rfl) h.1) (fun a ha => by rw [e3, s_ne (by omega)])⟩⟩
theorem a_come (a1 a2 : Int32) (σ : sm_S) (h : WW σ) : xC xF j_A_come [.ref 42, .int a1, .int a2] σ (sm_I (fun _ σ' => AQ σ σ')) := by
  refine f_A_come a1 a2 σ _ ((nw0 (e_isSpan a1 σ)).int ?_)
  rintro x2 σ ⟨hx2, rfl⟩
  refine ⟨fun _ => kp h _, fun n2 => ⟨fun _ => kp h _, fun _ => ⟨fun _ => kp h _, fun _ => ?_⟩⟩⟩
  obtain ⟨-, s, hs, h1⟩ := hx2.resolve_right n2
  rw [t_nat h1]
  refine ⟨t_vp h1 hs, fun h18 => ⟨fun _ => (nwV (fun _ h => h) (e_open h1 hs _ σ h.1 (by rw [h18]; decide))).void ?_, fun _ => (nw0 (e_zoneByRatio σ)).int ?_⟩, fun _ => kp h _⟩
  · rintro σ3 ⟨k3, o3⟩
    exact ⟨_, rfl, AQ.now h k3 o3⟩
  · rintro x5 σ ⟨-, rfl⟩
    refine (nwV (fun _ h => h) (e_open h1 hs _ σ h.1 (by rw [h18]; decide))).void ?_
    rintro σ3 ⟨k3, o3⟩
    exact ⟨_, rfl, AQ.now h k3 o3⟩
theorem l_byTurnsA {a1 : Int32} {n : Nat} (h1 : a1.toInt = n) (hn : n ≤ 8) (σ0 : sm_S) : ∀ (d k : Nat) (a2 a3 : Int32) (v4 : Value) (σ : sm_S), a3.toInt = k → k + d = n → AQ σ0 σ → xE xF m_A_byTurns 17 [.ref 42, .int a1, .int a2, .int a3, v4] [] σ (sm_I (fun _ σ' => AQ σ0 σ')) := by
  intro d
  induction d with
  | zero =>
    intro k a2 a3 v4 σ h3 hk hq
    exact f_A_byTurns_17 a1 a2 a3 v4 σ _ ⟨fun _ => ⟨_, rfl, hq⟩, fun h => absurd (by rw [t_le, h1, h3]; omega) h⟩
  | succ d ih =>
    intro k a2 a3 v4 σ h3 hk hq
    have h3' : (a3 + 1).toInt = ((k + 1 : Nat) : Int) := by
      rw [t_add h3 (y := 1) rfl (by omega) (by omega)]
      omega
    refine f_A_byTurns_17 a1 a2 a3 v4 σ _ ⟨fun _ => ⟨_, rfl, hq⟩, fun _ => (nw0 (e_nextByTurns σ)).int ?_⟩
    rintro x2 σ ⟨hx2, rfl⟩
    refine ⟨fun n2 => (nw0 (e_zoneByRatio σ)).int ?_, fun _ => ⟨_, rfl, hq⟩⟩
    obtain ⟨s, hs, hs2, h18⟩ := hx2.resolve_left n2
    rintro x4 σ ⟨-, rfl⟩
    refine (nwV (fun _ h => h) (e_open hs2 hs _ σ hq.1.1 (by rw [h18]; decide))).void ?_
    rintro σ5 ⟨k5, o5⟩
    exact ih (k + 1) _ _ _ σ5 h3' (by omega) (hq.tr (AQ.now hq.1 k5 o5))
theorem a_byTurns (a1 : Int32) (σ : sm_S) (h : WW σ) : xC xF j_A_byTurns [.ref 42, .int a1] σ (sm_I (fun _ σ' => AQ σ σ')) := by
  refine f_A_byTurns a1 σ _ ⟨fun _ => kp h _, fun h1 => ⟨fun h8 => ?_, fun _ => kp h _⟩⟩
  rw [t_lt] at h1
  rw [t_le] at h8
  have h1 : ¬ a1.toInt < (1 : Int) := h1
  have h8 : a1.toInt ≤ (8 : Int) := h8
  obtain ⟨n, hn⟩ := t_of (x := a1) (by omega)
  exact l_byTurnsA hn (by omega) σ n 0 _ 0 _ σ rfl (by omega) (AQ.rf h)
theorem a_press (a1 : Int32) (σ : sm_S) (h : WW σ) : xC xF j_A_press [.ref 42, .int a1] σ (sm_I (fun _ σ' => AQ σ σ')) := by
  refine f_A_press a1 σ _ ((nw0 (e_isSpan a1 σ)).int ?_)
  rintro x2 σ ⟨hx2, rfl⟩
  refine ⟨fun _ => kp h _, fun n2 => ?_⟩
  obtain ⟨-, s, hs, h1⟩ := hx2.resolve_right n2
  refine ⟨t_vp h1 hs, fun _ => (nwK (fun _ _ h => h) (e_pack h1 hs σ h.1)).int ?_, fun _ => kp h _⟩
  rintro x4 σ3 ⟨k3, o3⟩
  exact ⟨_, rfl, AQ.now h k3 o3⟩
theorem a_gather (a1 : Int32) (σ : sm_S) (h : WW σ) : xC xF j_A_gather [.ref 42, .int a1] σ (sm_I (fun _ σ' => AQ σ σ')) := by
  refine f_A_gather a1 σ _ ((nw0 (e_isTask a1 σ)).int ?_)
  rintro x2 σ ⟨hx2, rfl⟩
  refine ⟨fun _ => (nwK (fun _ _ h => h) (e_bringNearer a1 σ h.1)).int ?_, fun _ => kp h _⟩
  rintro x4 σ3 ⟨k3, o3⟩
  exact ⟨_, rfl, AQ.now h k3 o3⟩
theorem a_go (a1 : Int32) (σ : sm_S) (h : WW σ) : xC xF j_A_go [.ref 42, .int a1] σ (sm_I (fun _ σ' => AQ σ σ')) := by
  refine f_A_go a1 σ _ ((nw0 (e_isSpan a1 σ)).int ?_)
  rintro x2 σ ⟨hx2, rfl⟩
  refine ⟨fun _ => kpb h, fun n2 => ?_⟩
  obtain ⟨-, s, hs, h1⟩ := hx2.resolve_right n2
  refine (nw0 (e_canGo h1 hs σ)).int ?_
  rintro x4 σ ⟨hx4, rfl⟩
  refine ⟨fun n4 => ?_, fun _ => kpb h⟩
  obtain ⟨-, hon⟩ := hx4.resolve_left n4
  refine (nwV (fun _ h => h) (e_Gbegin h1 hs σ h.1 (by rw [hon]; decide))).void ?_
  rintro σ5 ⟨k5, o5⟩
  exact ⟨Or.inr rfl, _, rfl, AQ.now h k5 o5⟩
theorem a_giveUp (a1 : Int32) (σ : sm_S) (h : WW σ) : xC xF j_A_giveUp [.ref 42, .int a1] σ (sm_I (fun _ σ' => AQ σ σ')) := by
  refine f_A_giveUp a1 σ _ ((nw0 (e_isSpan a1 σ)).int ?_)
  rintro x2 σ ⟨hx2, rfl⟩
  refine ⟨fun _ => kpb h, fun n2 => ?_⟩
  obtain ⟨-, s, hs, h1⟩ := hx2.resolve_right n2
  refine (nw0 (e_isGoing h1 hs σ)).int ?_
  rintro x4 σ ⟨-, rfl⟩
  refine ⟨fun n4 => (nwV (fun _ h => h) (e_callOff h1 hs σ h.1)).void ?_, fun _ => kpb h⟩
  rintro σ5 ⟨k5, o5⟩
  exact ⟨Or.inr rfl, _, rfl, AQ.now h k5 o5⟩
theorem l_tickA {a1 : Int32} {n : Nat} (h1 : a1.toInt = n) (hn : n ≤ 60) (σ0 : sm_S) : ∀ (d k : Nat) (a2 : Int32) (σ : sm_S), a2.toInt = k → k + d = n → AQ σ0 σ → xE xF m_A_tick 30 [.ref 42, .int a1, .int a2] [] σ (sm_I (fun _ σ' => AQ σ0 σ')) := by
  intro d
  induction d with
  | zero =>
    intro k a2 σ h2 hk hq
    exact f_A_tick_30 a1 a2 σ _ ⟨fun _ => ⟨_, rfl, hq⟩, fun h => absurd (by rw [t_le, h1, h2]; omega) h⟩
  | succ d ih =>
    intro k a2 σ h2 hk hq
    have h2' : (a2 + 1).toInt = ((k + 1 : Nat) : Int) := by
      rw [t_add h2 (y := 1) rfl (by omega) (by omega)]
      omega
    refine f_A_tick_30 a1 a2 σ _ ⟨fun _ => ⟨_, rfl, hq⟩, fun _ => (nwV (fun _ h => h) (e_oneTick σ hq.1.1)).void ?_⟩
    rintro σ1 ⟨k1, o1⟩
    exact ih (k + 1) _ σ1 h2' (by omega) (hq.tr (AQ.now hq.1 k1 o1))
theorem a_tick (a1 : Int32) (σ : sm_S) (h : WW σ) : xC xF j_A_tick [.ref 42, .int a1] σ (sm_I (fun _ σ' => AQ σ σ')) := by
  refine f_A_tick a1 σ _ ⟨fun _ => kp h _, fun h1 => ⟨fun _ => kp h _, fun h60 => ⟨fun _ => ?_, fun _ => kp h _⟩⟩⟩
  rw [t_lt] at h1 h60
  have h1 : ¬ a1.toInt < (1 : Int) := h1
  have h60 : ¬ (60 : Int) < a1.toInt := h60
  obtain ⟨n, hn⟩ := t_of (x := a1) (by omega)
  exact l_tickA hn (by omega) σ n 0 0 σ rfl (by omega) (AQ.rf h)
