/-! ===== the simulation: the trial; pressed answers the same ===== -/
theorem arD {k : Nat} (h : arK k) : ∃ q : Nat × Nat, xD[k]? = some (.inl q) := by
  obtain ⟨h1, h2, h3, h4, h5, h6, h7⟩ := h
  have dec : ∀ k, k < 41 → (k ≠ 0 ∧ k ≠ 1 ∧ k ≠ 8 ∧ k ≠ 17 ∧ k ≠ 26 ∧ k ≠ 34) → (match xD[k]? with | some (.inl _) => true | _ => false) = true := by decide +kernel
  have := dec k h1 ⟨h2, h3, h4, h5, h6, h7⟩
  revert this
  split
  · rename_i q hq
    exact fun _ => ⟨q, hq⟩
  · exact fun z => absurd z (by decide)
theorem eqT.stR {ρ : Nat → Nat} {τ σ' : sm_S} (h : sm_stR ρ xD τ σ') : eqT τ (sh ρ σ') := by
  refine ⟨fun k hk i _ => ?_, h.2 0 4 _ 7 0 rfl rfl (by omega), h.2 8 0 _ 8 0 rfl rfl (by omega), h.2 26 6 _ 7 0 rfl rfl (by omega), h.2 34 3 _ 4 0 rfl rfl (by omega), h.2 34 3 _ 5 0 rfl rfl (by omega)⟩
  obtain ⟨q, hq⟩ := arD hk
  exact congrFun (h.1 k q hq) i
theorem tie.tr {g : Prop} {N : Nat} {σ : sm_S} {v : Nat → Int32} (h : tie g N (bs 43 σ) v) : tie g N (sh rT σ) v := h.eq (eqT.of (fun k hk => rT_bs k hk)) (fun _ _ => rfl)
theorem tie.rt {g : Prop} {N : Nat} {σ : sm_S} {v : Nat → Int32} (h : tie g N (sh rT σ) v) : tie g N (bs 43 σ) v := h.eq (eqT.of (fun k hk => (rT_bs k hk).symm)) (fun _ _ => rfl)
theorem tie.no {g : Prop} {N : Nat} {c : sm_S} {v : Nat → Int32} (h : tie g N c v) : tie False N c v := ⟨h.s, fun z => z.elim, h.k, h.b, h.n⟩
theorem tie.z0 {g : Prop} {N : Nat} {σ : sm_S} {v : Nat → Int32} (h : tie g N σ v) : tie g N (bs 0 σ) v := h.eq (eqT.of (fun k hk => by show σ (0 + k) = σ k; rw [Nat.zero_add])) (fun _ _ => rfl)
/-- a store whose trial is c -/
def mkT (c : sm_S) : sm_S := fun k => c (k - 43)
theorem tie.mk {g : Prop} {N : Nat} {c : sm_S} {v : Nat → Int32} (h : tie g N c v) : tie g N (bs 43 (mkT c)) v := h.eq (eqT.of (fun k hk => by show c (43 + k - 43) = c k; rw [Nat.add_sub_cancel_left])) (fun _ _ => rfl)
theorem trT {g : Prop} {N j : Nat} {as as' : List Value} {σ c' : sm_S} {r : Int32} {v' : Nat → Int32} (ha : as.map (sm_cv rT) = as') (h : xC xD j as (sh rT σ) (sm_I (fun y σ' => y = r ∧ σ' = c'))) (t : tie g N c' v') : xC xF j as' σ (sm_I (fun y σ' => y = r ∧ tie g N (bs 43 σ') v' ∧ ∀ a, a < 43 ∨ 85 ≤ a → σ' a = σ a)) := by
  subst ha
  refine (x_up shTF h).mono ?_
  rintro r1 σ' ⟨r2, τ, rfl, ⟨x, rfl, hx, rfl⟩, hs, ho⟩
  exact ⟨x, rfl, hx, (t.eq (eqT.stR hs) (fun _ _ => rfl)).rt, fun a ha => off_out (n := 42) rfl ho (rT_out ha)⟩
theorem trTV {g : Prop} {N j : Nat} {as as' : List Value} {σ c' : sm_S} {v' : Nat → Int32} (ha : as.map (sm_cv rT) = as') (h : xC xD j as (sh rT σ) (sm_V (fun σ' => σ' = c'))) (t : tie g N c' v') : xC xF j as' σ (sm_V (fun σ' => tie g N (bs 43 σ') v' ∧ ∀ a, a < 43 ∨ 85 ≤ a → σ' a = σ a)) := by
  subst ha
  refine (x_up shTF h).mono ?_
  rintro r1 σ' ⟨r2, τ, rfl, ⟨rfl, rfl⟩, hs, ho⟩
  exact ⟨rfl, (t.eq (eqT.stR hs) (fun _ _ => rfl)).rt, fun a ha => off_out (n := 42) rfl ho (rT_out ha)⟩
def cpM (c c' : sm_S) : sm_S := fun k => if 34 ≤ k ∧ k ≤ 38 then c k else c' k
theorem cpM_o {c c' : sm_S} {k : Nat} (h : k < 34 ∨ 38 < k) : cpM c c' k = c' k := by
  unfold cpM
  rw [if_neg (by omega)]
theorem cpM_i {c c' : sm_S} {k : Nat} (h : 34 ≤ k ∧ k ≤ 38) : cpM c c' k = c k := by
  unfold cpM
  rw [if_pos h]
theorem tie.cpy {g : Prop} {N a b : Nat} {σ σ' : sm_S} {v : Nat → Int32} (h : tie g N (bs b σ) v) (hl : kl (bs a σ)) (e : ∀ k, arK k → (k < 34 ∨ 38 < k) → ∀ i, i < ln k → σ' (a + k) i = σ (b + k) i) (e26 : σ' (a + 26) 7 = σ (b + 26) 7) (e8 : σ' (a + 8) 8 = σ (b + 8) 8) (e0 : σ' (a + 0) 7 = σ (b + 0) 7) (n : σ' (a + 34) 5 = σ (a + 34) 5) : tie False N (bs a σ') v := by
  have E : eqT (bs b σ) (cpM (bs b σ) (bs a σ')) := by
    refine ⟨fun k hk i hi => ?_, ?_, ?_, ?_, ?_, ?_⟩
    · by_cases q : k < 34 ∨ 38 < k
      · rw [cpM_o q]
        exact e k hk q i hi
      · rw [cpM_i (by omega)]
    · rw [cpM_o (by omega)]; exact e0
    · rw [cpM_o (by omega)]; exact e8
    · rw [cpM_o (by omega)]; exact e26
    · rw [cpM_i (by omega)]
    · rw [cpM_i (by omega)]
  have s1 : sim0 (cpM (bs b σ) (bs a σ')) v := h.s.eq E (fun _ _ => rfl) h.b
  have o : ∀ k, k < 34 ∨ 38 < k → bs a σ' k = cpM (bs b σ) (bs a σ') k := fun k hk => (cpM_o hk).symm
  have s2 : sim0 (bs a σ') v := s1.n0 h.b (fun k k1 k2 _ => o k (by omega)) (fun _ _ _ => rfl) (s1.N.cg (o 39 (by omega)) (o 40 (by omega)) (by rw [o 0 (by omega)]) (by rw [o 8 (by omega)]) (fun _ _ _ => rfl))
  exact ⟨s2, fun z => z.elim, kl_of (σ := bs a σ) n hl, h.b, h.n⟩
theorem x_cpyT {g : Prop} {N a b : Nat} {σ : sm_S} {v : Nat → Int32} (hR : sm_shR (r2 a b) xP xF) (h : tie g N (bs b σ) v) (hl : kl (bs a σ)) : xC xF j_Y_copyFrom [.ref a, .ref b] σ (sm_V (fun σ' => tie False N (bs a σ') v ∧ ∀ c, c < a ∨ a + 41 ≤ c → σ' c = σ c)) := by
  refine ((x_cpy2 hR σ).and (x_cpy hR σ)).mono ?_
  rintro r σ' ⟨⟨e0, o1, f1, f2, f3, f4⟩, -, -, -, n1⟩
  exact ⟨e0, h.cpy hl f1 f2 f3 f4 n1, o1⟩
def prsR (a1 : Int32) (v u : Nat → Int32) (y : Int32) (v' : Nat → Int32) : Prop := ∀ σ1 : sm_S, σ1 1 = v → σ1 4 = u → xC xM j_M_presses [.ref 0, .int a1] σ1 (sm_I (fun z σ' => z = y ∧ ∃ w', σ' = sm_set (sm_set (sm_set σ1 4 (ckr (σ1 4) 96)) 4 w') 1 v'))
theorem prsR.det {a1 : Int32} {v u v' v2 : Nat → Int32} {y y2 : Int32} (h : prsR a1 v u y v') (h2 : prsR a1 v u y2 v2) : v2 = v' := by
  have e1 : sm_set (rz v) 4 u 1 = v := by rw [s_ne (by decide)]; exact rz_at v
  obtain ⟨M, -, n, r1, σ', -, ⟨z, -, -, w1, q1⟩, z2, -, -, w2, q2⟩ := (h (sm_set (rz v) 4 u) e1 s_at).and (h2 (sm_set (rz v) 4 u) e1 s_at)
  have b1 : σ' 1 = v' := by rw [q1, s_at]
  have b2 : σ' 1 = v2 := by rw [q2, s_at]
  exact b2.symm.trans b1
theorem p_pack {g : Prop} {N s : Nat} {a1 : Int32} {c : sm_S} {v : Nat → Int32} (h : tie g N c v) (hj : jj N v) (hx : jx v) (h1 : a1.toInt = s) (hs : s < 8) (st : v (2358 + 8 * s + 0) = 1) (u : Nat → Int32) : ∃ v' c' y, prsR a1 v u y v' ∧ xC xD j_Y_pack [.ref 0, .int a1] c (sm_I (fun z σ' => z = y ∧ σ' = c')) ∧ tie g N c' v' := by
  obtain ⟨v', c', y, qr, qc, t', j', x', -⟩ := l_pack2 (g := g) h1 hs 32 N 0 31 c v (ckr u 96) h hj hx st rfl (by omega) ⟨fun b fr _ => Nat.mod_lt _ (by decide), fun b fr o hb _ w => absurd (if_pos hb) w⟩
  refine ⟨v', c', y, fun σ1 f1 f4 => w_M_presses a1 σ1 _ ?_, d_Y_pack a1 c _ (qc _ _ _), t'⟩
  have e0 : sm_set σ1 4 (ckr (σ1 4) 0) = σ1 := by
    have : ckr (σ1 4) 0 = σ1 4 := by
      funext i
      exact if_neg (by omega)
    rw [this, s_id]
  have := l_prs4 (a1 := a1) (σ0 := σ1) (fun v4 => qr (sm_set σ1 4 (ckr (σ1 4) 96)) v4 (by rw [s_ne (by decide)]; exact f1) (by rw [s_at, f4])) 96 0 0 .null rfl rfl
  rw [e0] at this
  exact this
theorem ky_pressed {N : Nat} (a1 : Int32) (σ : sm_S) (hw : WW σ) (h : tw N σ (σ 169)) : ky j_A_pressed j_M_pressed [.ref 42, .int a1] [.ref 0, .int a1] σ := by
  obtain ⟨ht, hj, hx⟩ := h
  by_cases k1 : 0 ≤ a1.toInt ∧ a1.toInt < 8
  · obtain ⟨s, hm⟩ := t_of k1.1
    have hs : s < 8 := by omega
    have gS := (ht.s.S s hs).sta
    by_cases st : σ 169 (2358 + 8 * s + 0) = 1
    · obtain ⟨v0, c0, y0, R0, C0, T0⟩ := p_pack ht hj hx hm hs st (σ 172)
      obtain ⟨r, hr, -⟩ := pick (e_widest2 T0.s hs σ)
      refine ⟨r, ?_, fun σ2 e2 => ?_⟩
      · refine f_A_pressed a1 σ _ ((nw0 (e_isSpanX a1 σ)).int ?_)
        rintro x2 σ1 ⟨hx2, es⟩
        rw [es]
        refine ⟨fun z => absurd k1 (hx2.b.1.mp z), fun _ => ⟨t_vp hm hs, fun _ => ?_, fun z => absurd (by rw [t_nat hm, ← gS]; exact st) z⟩⟩
        have run : xC xF j_H_widestPacked [.ref 85, .ref 0, .int a1] σ (sm_I (fun x _ => x = r)) := by
          refine f_H_widestPacked a1 σ _ ((x_cpyT shP1 ht.z0 hw.2.1).void ?_)
          rintro σ3 ⟨t3, o3⟩
          obtain ⟨v1, c1, y1, R1, C1, T1⟩ := p_pack t3.tr hj hx hm hs st (σ 172)
          have e1 := R0.det R1
          refine (trT (as := [.ref 0, .int a1]) rfl C1 T1).int ?_
          rintro x5 σ5 ⟨-, t5, o5⟩
          rw [t_nat hm]
          have w : xC xD j_R_widest [.int (σ5 45 s)] σ5 (sm_I (fun x σ' => wdv v1 s x ∧ σ' = σ5)) := e_widest2 t5.s hs σ5
          refine ⟨t_vp hm hs, (nw0 w).int ?_⟩
          rintro x7 σ7 ⟨hx7, -⟩
          rw [e1] at hx7
          exact ⟨x7, rfl, wdv_un hx7 hr⟩
        exact run.int (fun x σ4 e => an_ e)
      · refine w_M_pressed a1 σ2 _ (fun σ1 e1 => (c_isSpanX a1 σ1).int ?_)
        obtain ⟨f1, -⟩ := told1 e2 e1
        rintro x3 σ3 ⟨hx3, es3⟩
        rw [es3]
        refine ⟨fun z => absurd k1 (hx3.b.1.mp z), fun _ => (c_spanState hm hs σ1).int ?_⟩
        rintro x5 σ5 ⟨hx5, es5⟩
        rw [es5, hx5, f1]
        refine ⟨fun _ => (c_thinks σ1).void ?_, fun z => absurd st z⟩
        rintro σ6 ⟨f, es6, -⟩
        have g1 : σ6 1 = σ 169 := by rw [es6, s_ne (by decide)]; exact f1
        obtain ⟨v1, c1, y1, R1, C1, T1⟩ := p_pack ht hj hx hm hs st (σ6 4)
        have ec : c1 = c0 := by
          obtain ⟨M, -, n, r1, σ', -, ⟨z, -, -, q1⟩, z2, -, -, q2⟩ := C0.and C1
          exact q2.symm.trans q1
        have hr1 : wdv v1 s r := by
          rw [ec] at T1
          obtain ⟨M, -, n, r1, σ', -, ⟨z, q1, q2, -⟩, z2, q3, q4, -⟩ := (e_widest2 T0.s hs σ).and (e_widest2 T1.s hs σ)
          rw [q1] at q3
          cases q3
          rw [wdv_un hr q2]
          exact q4
        refine (R1 σ6 g1 rfl).int ?_
        rintro x8 σ8 ⟨-, w', es8⟩
        refine (c_greatestIn2 hm hs σ8).int ?_
        rintro x10 σ10 ⟨hx10, es10⟩
        have h81 : σ8 1 = v1 := by rw [es8, s_at]
        rw [h81] at hx10
        refine (c_forgets σ10).void ?_
        rintro σ11 -
        exact an_ (wdv_un hx10 hr1)
    · refine ⟨-1, ?_, fun σ2 e2 => ?_⟩
      · refine f_A_pressed a1 σ _ ((nw0 (e_isSpanX a1 σ)).int ?_)
        rintro x2 σ1 ⟨hx2, es⟩
        rw [es]
        refine ⟨fun _ => an_ rfl, fun _ => ⟨t_vp hm hs, fun z => absurd ?_ st, fun _ => an_ rfl⟩⟩
        rw [t_nat hm, ← gS] at z
        exact z
      · refine w_M_pressed a1 σ2 _ (fun σ1 e1 => (c_isSpanX a1 σ1).int ?_)
        obtain ⟨f1, -⟩ := told1 e2 e1
        rintro x3 σ3 ⟨hx3, es3⟩
        rw [es3]
        refine ⟨fun _ => an_ rfl, fun _ => (c_spanState hm hs σ1).int ?_⟩
        rintro x5 σ5 ⟨hx5, es5⟩
        rw [es5, hx5, f1]
        exact ⟨fun z => absurd z st, fun _ => an_ rfl⟩
  · refine ⟨-1, ?_, fun σ2 e2 => ?_⟩
    · refine f_A_pressed a1 σ _ ((nw0 (e_isSpanX a1 σ)).int ?_)
      rintro x2 σ1 ⟨hx2, es⟩
      rw [es]
      exact ⟨fun _ => an_ rfl, fun z => absurd (hx2.b.2.mp z) k1⟩
    · refine w_M_pressed a1 σ2 _ (fun σ1 e1 => (c_isSpanX a1 σ1).int ?_)
      rintro x3 σ3 ⟨hx3, es3⟩
      rw [es3]
      exact ⟨fun _ => an_ rfl, fun z => absurd (hx3.b.2.mp z) k1⟩
theorem ce_pressed {B : Nat} (a1 : Int32) (σ : sm_S) (hB : B < 1500000000) (h : LR B σ) : two (fun x y => x = y) j_A_pressed j_M_pressed [.ref 42, .int a1] [.ref 168, .int a1] B σ := by
  have h2 := h
  obtain ⟨hL, ⟨N, hN, ht⟩, -⟩ := h2
  exact CLk h (a_pressedQ a1 σ h.1.1) (fun σ1 q => m_pressed a1 σ1 hB q.2.1) (fun σ1 q => by
    obtain ⟨N, hN, hj⟩ := (lw_bs q.2.1).1
    exact qU (as := [.ref 0, .int a1]) rfl (k_pressed (N := N) a1 (sh rM σ1) hj)) (asM := [.ref 0, .int a1]) rfl (ky_pressed a1 σ h.1.1 ht)
