section
/-! ===== the simulation: the trial; pressed answers the same ===== -/
theorem arD {k : Nat} (h : arK k) : ∃ q : Nat × Nat, xD[k]? = some (.inl q) := by
  obtain ⟨h1, h2, h3, h4, h5, h6, h7⟩ := h
  have dec : ∀ k, k < 41 → (k ≠ 0 ∧ k ≠ 1 ∧ k ≠ 8 ∧ k ≠ 17 ∧ k ≠ 26 ∧ k ≠ 34) → (match xD[k]? with | some (.inl _) => true | _ => false) = true := by decide +kernel
  have := dec k h1 ⟨h2, h3, h4, h5, h6, h7⟩
  revert this
  split
  · rename_i q hq
    exact fun _ => ⟨q, hq⟩
  · exact fun z => absurd z (by decide)
theorem eqT.stR {ρ : Nat → Nat} {τ σ' : sm_S} (h : sm_stR ρ xD τ σ') : eqT τ (sh ρ σ') := by
  refine ⟨fun k hk i _ => ?_, h.2 0 4 _ 7 0 rfl rfl (by omega), h.2 8 0 _ 8 0 rfl rfl (by omega), h.2 26 6 _ 7 0 rfl rfl (by omega), h.2 34 3 _ 4 0 rfl rfl (by omega), h.2 34 3 _ 5 0 rfl rfl (by omega)⟩
  obtain ⟨q, hq⟩ := arD hk
  exact congrFun (h.1 k q hq) i
theorem tie.tr {g : Prop} {N : Nat} {σ : sm_S} {v : Nat → Int32} (h : tie g N (bs 43 σ) v) : tie g N (sh rT σ) v := h.eq (eqT.of (fun k hk => rT_bs k hk)) (fun _ _ => rfl)
theorem tie.rt {g : Prop} {N : Nat} {σ : sm_S} {v : Nat → Int32} (h : tie g N (sh rT σ) v) : tie g N (bs 43 σ) v := h.eq (eqT.of (fun k hk => (rT_bs k hk).symm)) (fun _ _ => rfl)
theorem tie.no {g : Prop} {N : Nat} {c : sm_S} {v : Nat → Int32} (h : tie g N c v) : tie False N c v := ⟨h.s, fun z => z.elim, h.k, h.b, h.n⟩
theorem tie.z0 {g : Prop} {N : Nat} {σ : sm_S} {v : Nat → Int32} (h : tie g N σ v) : tie g N (bs 0 σ) v := h.eq (eqT.of (fun k hk => by show σ (0 + k) = σ k; rw [Nat.zero_add])) (fun _ _ => rfl)
/-- a store whose trial is c -/
def mkT (c : sm_S) : sm_S := fun k => c (k - 43)
theorem tie.mk {g : Prop} {N : Nat} {c : sm_S} {v : Nat → Int32} (h : tie g N c v) : tie g N (bs 43 (mkT c)) v := h.eq (eqT.of (fun k hk => by show c (43 + k - 43) = c k; rw [Nat.add_sub_cancel_left])) (fun _ _ => rfl)
theorem trT {g : Prop} {N j : Nat} {as as' : List Value} {σ c' : sm_S} {r : Int32} {v' : Nat → Int32} (ha : as.map (sm_cv rT) = as') (h : xC xD j as (sh rT σ) (sm_I (fun y σ' => y = r ∧ σ' = c'))) (t : tie g N c' v') : xC xF j as' σ (sm_I (fun y σ' => y = r ∧ tie g N (bs 43 σ') v' ∧ ∀ a, a < 43 ∨ 85 ≤ a → σ' a = σ a)) := by
  subst ha
  refine (x_up shTF h).mono ?_
  rintro r1 σ' ⟨r2, τ, rfl, ⟨x, rfl, hx, rfl⟩, hs, ho⟩
  exact ⟨x, rfl, hx, (t.eq (eqT.stR hs) (fun _ _ => rfl)).rt, fun a ha => off_out (n := 42) rfl ho (rT_out ha)⟩
theorem trTV {g : Prop} {N j : Nat} {as as' : List Value} {σ c' : sm_S} {v' : Nat → Int32} (ha : as.map (sm_cv rT) = as') (h : xC xD j as (sh rT σ) (sm_V (fun σ' => σ' = c'))) (t : tie g N c' v') : xC xF j as' σ (sm_V (fun σ' => tie g N (bs 43 σ') v' ∧ ∀ a, a < 43 ∨ 85 ≤ a → σ' a = σ a)) := by
  subst ha
  refine (x_up shTF h).mono ?_
  rintro r1 σ' ⟨r2, τ, rfl, ⟨rfl, rfl⟩, hs, ho⟩
  exact ⟨rfl, (t.eq (eqT.stR hs) (fun _ _ => rfl)).rt, fun a ha => off_out (n := 42) rfl ho (rT_out ha)⟩
def cpM (c c' : sm_S) : sm_S := fun k => if 34 ≤ k ∧ k ≤ 38 then c k else c' k
theorem cpM_o {c c' : sm_S} {k : Nat} (h : k < 34 ∨ 38 < k) : cpM c c' k = c' k := by
  unfold cpM
  rw [if_neg (by omega)]
theorem cpM_i {c c' : sm_S} {k : Nat} (h : 34 ≤ k ∧ k ≤ 38) : cpM c c' k = c k := by
  unfold cpM
  rw [if_pos h]
theorem tie.cpy {g : Prop} {N a b : Nat} {σ σ' : sm_S} {v : Nat → Int32} (h : tie g N (bs b σ) v) (hl : kl (bs a σ)) (e : ∀ k, arK k → (k < 34 ∨ 38 < k) → ∀ i, i < ln k → σ' (a + k) i = σ (b + k) i) (e26 : σ' (a + 26) 7 = σ (b + 26) 7) (e8 : σ' (a + 8) 8 = σ (b + 8) 8) (e0 : σ' (a + 0) 7 = σ (b + 0) 7) (n : σ' (a + 34) 5 = σ (a + 34) 5) : tie False N (bs a σ') v := by
  have E : eqT (bs b σ) (cpM (bs b σ) (bs a σ')) := by
    refine ⟨fun k hk i hi => ?_, ?_, ?_, ?_, ?_, ?_⟩
    · by_cases q : k < 34 ∨ 38 < k
      · rw [cpM_o q]
        exact e k hk q i hi
      · rw [cpM_i (by omega)]
    · rw [cpM_o (by omega)]; exact e0
    · rw [cpM_o (by omega)]; exact e8
    · rw [cpM_o (by omega)]; exact e26
    · rw [cpM_i (by omega)]
    · rw [cpM_i (by omega)]
  have s1 : sim0 (cpM (bs b σ) (bs a σ')) v := h.s.eq E (fun _ _ => rfl) h.b
  have o : ∀ k, k < 34 ∨ 38 < k → bs a σ' k = cpM (bs b σ) (bs a σ') k := fun k hk => (cpM_o hk).symm
  have s2 : sim0 (bs a σ') v := s1.n0 h.b (fun k k1 k2 _ => o k (by omega)) (fun _ _ _ => rfl) (s1.N.cg (o 39 (by omega)) (o 40 (by omega)) (by rw [o 0 (by omega)]) (by rw [o 8 (by omega)]) (fun _ _ _ => rfl))
  exact ⟨s2, fun z => z.elim, kl_of (σ := bs a σ) n hl, h.b, h.n⟩
theorem x_cpyT {g : Prop} {N a b : Nat} {σ : sm_S} {v : Nat → Int32} (hR : sm_shR (r2 a b) xP xF) (h : tie g N (bs b σ) v) (hl : kl (bs a σ)) : xC xF j_Y_copyFrom [.ref a, .ref b] σ (sm_V (fun σ' => tie False N (bs a σ') v ∧ ∀ c, c < a ∨ a + 41 ≤ c → σ' c = σ c)) := by
  refine ((x_cpy2 hR σ).and (x_cpy hR σ)).mono ?_
  rintro r σ' ⟨⟨e0, o1, f1, f2, f3, f4⟩, -, -, -, n1⟩
  exact ⟨e0, h.cpy hl f1 f2 f3 f4 n1, o1⟩
def prsR (a1 : Int32) (v u : Nat → Int32) (y : Int32) (v' : Nat → Int32) : Prop := ∀ σ1 : sm_S, σ1 1 = v → σ1 4 = u → xC xM j_M_presses [.ref 0, .int a1] σ1 (sm_I (fun z σ' => z = y ∧ ∃ w', σ' = sm_set (sm_set (sm_set σ1 4 (ckr (σ1 4) 96)) 4 w') 1 v'))
theorem prsR.det {a1 : Int32} {v u v' v2 : Nat → Int32} {y y2 : Int32} (h : prsR a1 v u y v') (h2 : prsR a1 v u y2 v2) : v2 = v' := by
  have e1 : sm_set (rz v) 4 u 1 = v := by rw [s_ne (by decide)]; exact rz_at v
  obtain ⟨M, -, n, r1, σ', -, ⟨z, -, -, w1, q1⟩, z2, -, -, w2, q2⟩ := (h (sm_set (rz v) 4 u) e1 s_at).and (h2 (sm_set (rz v) 4 u) e1 s_at)
  have b1 : σ' 1 = v' := by rw [q1, s_at]
  have b2 : σ' 1 = v2 := by rw [q2, s_at]
  exact b2.symm.trans b1
theorem p_pack {g : Prop} {N s : Nat} {a1 : Int32} {c : sm_S} {v : Nat → Int32} (h : tie g N c v) (hj : jj N v) (hx : jx v) (h1 : a1.toInt = s) (hs : s < 8) (st : v (2358 + 8 * s + 0) = 1) (u : Nat → Int32) : ∃ v' c' y, prsR a1 v u y v' ∧ xC xD j_Y_pack [.ref 0, .int a1] c (sm_I (fun z σ' => z = y ∧ σ' = c')) ∧ tie g N c' v' := by
  obtain ⟨v', c', y, qr, qc, t', j', x', -⟩ := l_pack2 (g := g) h1 hs 32 N 0 31 c v (ckr u 96) h hj hx st rfl (by omega) ⟨fun b fr _ => Nat.mod_lt _ (by decide), fun b fr o hb _ w => absurd (if_pos hb) w⟩
  refine ⟨v', c', y, fun σ1 f1 f4 => w_M_presses a1 σ1 _ ?_, d_Y_pack a1 c _ (qc _ _ _), t'⟩
  have e0 : sm_set σ1 4 (ckr (σ1 4) 0) = σ1 := by
    have : ckr (σ1 4) 0 = σ1 4 := by
      funext i
      exact if_neg (by omega)
    rw [this, s_id]
  have := l_prs4 (a1 := a1) (σ0 := σ1) (fun v4 => qr (sm_set σ1 4 (ckr (σ1 4) 96)) v4 (by rw [s_ne (by decide)]; exact f1) (by rw [s_at, f4])) 96 0 0 .null rfl rfl
  rw [e0] at this
  exact this
theorem ky_pressed {N : Nat} (a1 : Int32) (σ : sm_S) (hw : WW σ) (h : tw N σ (σ 169)) : ky j_A_pressed j_M_pressed [.ref 42, .int a1] [.ref 0, .int a1] σ := by
  obtain ⟨ht, hj, hx⟩ := h
  by_cases k1 : 0 ≤ a1.toInt ∧ a1.toInt < 8
  · obtain ⟨s, hm⟩ := t_of k1.1
    have hs : s < 8 := by omega
    have gS := (ht.s.S s hs).sta
    by_cases st : σ 169 (2358 + 8 * s + 0) = 1
    · obtain ⟨v0, c0, y0, R0, C0, T0⟩ := p_pack ht hj hx hm hs st (σ 172)
      obtain ⟨r, hr, -⟩ := pick (e_widest2 T0.s hs σ)
      refine ⟨r, ?_, fun σ2 e2 => ?_⟩
      · refine f_A_pressed a1 σ _ ((nw0 (e_isSpanX a1 σ)).int ?_)
        rintro x2 σ1 ⟨hx2, es⟩
        rw [es]
        refine ⟨fun z => absurd k1 (hx2.b.1.mp z), fun _ => ⟨t_vp hm hs, fun _ => ?_, fun z => absurd (by rw [t_nat hm, ← gS]; exact st) z⟩⟩
        have run : xC xF j_H_widestPacked [.ref 85, .ref 0, .int a1] σ (sm_I (fun x _ => x = r)) := by
          refine f_H_widestPacked a1 σ _ ((x_cpyT shP1 ht.z0 hw.2.1).void ?_)
          rintro σ3 ⟨t3, o3⟩
          obtain ⟨v1, c1, y1, R1, C1, T1⟩ := p_pack t3.tr hj hx hm hs st (σ 172)
          have e1 := R0.det R1
          refine (trT (as := [.ref 0, .int a1]) rfl C1 T1).int ?_
          rintro x5 σ5 ⟨-, t5, o5⟩
          rw [t_nat hm]
          have w : xC xD j_R_widest [.int (σ5 45 s)] σ5 (sm_I (fun x σ' => wdv v1 s x ∧ σ' = σ5)) := e_widest2 t5.s hs σ5
          refine ⟨t_vp hm hs, (nw0 w).int ?_⟩
          rintro x7 σ7 ⟨hx7, -⟩
          rw [e1] at hx7
          exact ⟨x7, rfl, wdv_un hx7 hr⟩
        exact run.int (fun x σ4 e => an_ e)
      · refine w_M_pressed a1 σ2 _ (fun σ1 e1 => (c_isSpanX a1 σ1).int ?_)
        obtain ⟨f1, -⟩ := told1 e2 e1
        rintro x3 σ3 ⟨hx3, es3⟩
        rw [es3]
        refine ⟨fun z => absurd k1 (hx3.b.1.mp z), fun _ => (c_spanState hm hs σ1).int ?_⟩
        rintro x5 σ5 ⟨hx5, es5⟩
        rw [es5, hx5, f1]
        refine ⟨fun _ => (c_thinks σ1).void ?_, fun z => absurd st z⟩
        rintro σ6 ⟨f, es6, -⟩
        have g1 : σ6 1 = σ 169 := by rw [es6, s_ne (by decide)]; exact f1
        obtain ⟨v1, c1, y1, R1, C1, T1⟩ := p_pack ht hj hx hm hs st (σ6 4)
        have ec : c1 = c0 := by
          obtain ⟨M, -, n, r1, σ', -, ⟨z, -, -, q1⟩, z2, -, -, q2⟩ := C0.and C1
          exact q2.symm.trans q1
        have hr1 : wdv v1 s r := by
          rw [ec] at T1
          obtain ⟨M, -, n, r1, σ', -, ⟨z, q1, q2, -⟩, z2, q3, q4, -⟩ := (e_widest2 T0.s hs σ).and (e_widest2 T1.s hs σ)
          rw [q1] at q3
          cases q3
          rw [wdv_un hr q2]
          exact q4
        refine (R1 σ6 g1 rfl).int ?_
        rintro x8 σ8 ⟨-, w', es8⟩
        refine (c_greatestIn2 hm hs σ8).int ?_
        rintro x10 σ10 ⟨hx10, es10⟩
        have h81 : σ8 1 = v1 := by rw [es8, s_at]
        rw [h81] at hx10
        refine (c_forgets σ10).void ?_
        rintro σ11 -
        exact an_ (wdv_un hx10 hr1)
    · refine ⟨-1, ?_, fun σ2 e2 => ?_⟩
      · refine f_A_pressed a1 σ _ ((nw0 (e_isSpanX a1 σ)).int ?_)
        rintro x2 σ1 ⟨hx2, es⟩
        rw [es]
        refine ⟨fun _ => an_ rfl, fun _ => ⟨t_vp hm hs, fun z => absurd ?_ st, fun _ => an_ rfl⟩⟩
        rw [t_nat hm, ← gS] at z
        exact z
      · refine w_M_pressed a1 σ2 _ (fun σ1 e1 => (c_isSpanX a1 σ1).int ?_)
        obtain ⟨f1, -⟩ := told1 e2 e1
        rintro x3 σ3 ⟨hx3, es3⟩
        rw [es3]
        refine ⟨fun _ => an_ rfl, fun _ => (c_spanState hm hs σ1).int ?_⟩
        rintro x5 σ5 ⟨hx5, es5⟩
        rw [es5, hx5, f1]
        exact ⟨fun z => absurd z st, fun _ => an_ rfl⟩
  · refine ⟨-1, ?_, fun σ2 e2 => ?_⟩
    · refine f_A_pressed a1 σ _ ((nw0 (e_isSpanX a1 σ)).int ?_)
      rintro x2 σ1 ⟨hx2, es⟩
      rw [es]
      exact ⟨fun _ => an_ rfl, fun z => absurd (hx2.b.2.mp z) k1⟩
    · refine w_M_pressed a1 σ2 _ (fun σ1 e1 => (c_isSpanX a1 σ1).int ?_)
      rintro x3 σ3 ⟨hx3, es3⟩
      rw [es3]
      exact ⟨fun _ => an_ rfl, fun z => absurd (hx3.b.2.mp z) k1⟩
theorem ce_pressed {B : Nat} (a1 : Int32) (σ : sm_S) (hB : B < 1500000000) (h : LR B σ) : two (fun x y => x = y) j_A_pressed j_M_pressed [.ref 42, .int a1] [.ref 168, .int a1] B σ := by
  have h2 := h
  obtain ⟨hL, ⟨N, hN, ht⟩, -⟩ := h2
  exact CLk h (a_pressedQ a1 σ h.1.1) (fun σ1 q => m_pressed a1 σ1 hB q.2.1) (fun σ1 q => by
    obtain ⟨N, hN, hj⟩ := (lw_bs q.2.1).1
    exact qU (as := [.ref 0, .int a1]) rfl (k_pressed (N := N) a1 (sh rM σ1) hj)) (asM := [.ref 0, .int a1]) rfl (ky_pressed a1 σ h.1.1 ht)
end
section
/-! ===== the simulation: what would be ===== -/
theorem p_beg {g : Prop} {N s : Nat} {c : sm_S} {v : Nat → Int32} {a1 : Int32} (h : tie g N c v) (hj : jj N v) (hx : jx v) (hN : N < 1999000000) (h1 : a1.toInt = s) (hs : s < 8) (rx : rdI j_M_canGo [.ref 0, .int a1] v 1 v) : ∃ v' c', rd j_M_beginsToGo [.ref 0, .int a1] v v' ∧ xC xD j_G_begin [.ref 41, .int a1] c (sm_V (fun σ' => σ' = c')) ∧ tie g (N + 1) c' v' ∧ jj (N + 1) v' ∧ jx v' := by
  obtain ⟨hq, -⟩ := rx.det (c_canGo a1 (rz v))
  rw [rz_at] at hq
  have ex : ∃ s' : Nat, s' < 8 ∧ a1.toInt = s' ∧ v (2358 + 8 * s') = 1 ∧ onElse v 0 a1 := by
    rcases hq with q | ⟨-, q⟩
    · exact absurd q (by decide)
    · exact q
  obtain ⟨s', hs', h1', hon, hel⟩ := ex
  have es : s' = s := by omega
  rw [es] at hon
  have gS := (h.s.S s hs).sta
  have on : c 18 s = 1 := gS.symm.trans hon
  obtain ⟨nl, hnl, h5l, t1⟩ := (h.to (sim_beg h.s h.b hs on) (fun k k1 k2 => s_ne (by omega)) (by unfold bgF; rw [u_ne (by omega), u_ne (by omega), u_ne (by omega), u_ne (by omega), u_ne (by omega), u_ne (by omega)]) (fun i hi => by unfold bgF; rw [u_ne (by omega), u_ne (by omega), u_ne (by omega), u_ne (by omega), u_ne (by omega), u_ne (by omega)]) (fun b hb => bk_cong (fun k _ _ _ _ => by unfold bgF; rw [u_ne (by omega), u_ne (by omega), u_ne (by omega), u_ne (by omega), u_ne (by omega), u_ne (by omega)]) (h.b b hb))).log (by omega) 0 a1 (a1 - a1 / (2 : Int32) * (2 : Int32))
  have h5' : (c 34 5).toInt = nl := h5l
  have co := e_Gbegin2 h1 hs c h5' hnl
  have ro : rd j_M_beginsToGo [.ref 0, .int a1] v (wrF (bgF v s) N 0 a1 (a1 - a1 / (2 : Int32) * (2 : Int32))) := fun σ e => by
    have q := c_beginsToGo2 (N := N) h1 hs σ (by rw [e]; exact h.n)
    rw [e] at q
    exact q
  obtain ⟨w, ew, jw, -⟩ := ro.det (c_beginsToGo (N := N) h1 hs (by omega) (rz v) (by rw [rz_at]; exact hj) (by rw [rz_at]; exact hon) (by rw [rz_at]; exact hel))
  rw [rz_eq ew] at jw
  refine ⟨_, _, ro, co, t1, jw, ?_⟩
  have old : ∀ i, i < 2422 → i ≠ 5 → (i < 2358 + 8 * s ∨ i = 2358 + 8 * s + 1 ∨ 2358 + 8 * s + 7 ≤ i) → wrF (bgF v s) N 0 a1 (a1 - a1 / (2 : Int32) * (2 : Int32)) i = v i := fun i i1 i2 i3 => by
    rw [wrF_lo i1 i2]
    unfold bgF
    rw [u_ne (by omega), u_ne (by omega), u_ne (by omega), u_ne (by omega), u_ne (by omega), u_ne (by omega)]
  refine hx.cg (fun b k hb hk => old _ (by omega) (by omega) (by omega)) (fun s' hs' z => ⟨?_, ?_⟩) (old 0 (by omega) (by omega) (by omega)) (fun i i1 i2 => old i (by omega) (by omega) (by omega))
  · by_cases q : s' = s
    · rw [q, gS, on]
      decide
    · rw [old _ (by omega) (by omega) (by omega)] at z
      exact z
  · by_cases q : s' = s
    · exact old _ (by omega) (by omega) (by omega)
    · exact old _ (by omega) (by omega) (by omega)
theorem going_iff {N s : Nat} {c : sm_S} {v : Nat → Int32} (h : sim0 c v) (hj : jj N v) (hs : s < 8) : (c 18 s = 2 ∨ c 18 s = 3) ↔ ¬ v (2358 + 8 * s) < 2 := by
  have gS := (h.S s hs).sta
  obtain ⟨st, pt, at', q, s1, s2, -⟩ := hj.2.1.2.2.1 s hs
  have lt2 : v (2358 + 8 * s + 0) < 2 ↔ st < 2 := by
    rw [t_lt, s1]
    show (st : Int) < (2 : Int) ↔ _
    omega
  have g23 : (c 18 s = 2 ∨ c 18 s = 3) ↔ 2 ≤ st := by
    rw [← gS]
    refine ⟨fun z => ?_, fun z => ?_⟩
    · rcases z with z | z
      · rw [z] at s1
        have s1 : (2 : Int) = _ := s1
        omega
      · rw [z] at s1
        have s1 : (3 : Int) = _ := s1
        omega
    · rcases (show st = 2 ∨ st = 3 by omega) with y | y
      · exact Or.inl (t_inj (by rw [s1, y]; rfl))
      · exact Or.inr (t_inj (by rw [s1, y]; rfl))
  have l2 : v (2358 + 8 * s) < 2 ↔ st < 2 := lt2
  rw [g23, l2]
  omega
theorem l_try_n {a2 : Int32} {s : Nat} (h2 : a2.toInt = s) (hs : s < 8) : ∀ (d k N : Nat) (a3 : Int32) (σ : sm_S) (v : Nat → Int32), tie False N (bs 43 σ) v → jj N v → jx v → a3.toInt = k → k + d = 500 → N + 9600 * d + 20000 < 1999990000 → ∃ y v' N', re m_M_goesAway 7 [.ref 0, .int a2, .int a3] v y v' ∧ jj N' v' ∧ jx v' ∧ N' ≤ N + 9600 * d ∧ xE xF m_H_tryOut 18 [.ref 85, .ref 0, .int a2, .int a3] [] σ (sm_I (fun x σ' => isYes (v' (2358 + 8 * s) = 0) x ∧ σ' 85 3 = y ∧ tie False N' (bs 43 σ') v' ∧ th σ σ' ∧ σ' 85 4 = σ 85 4)) := by
  have stop : ∀ (a3 : Int32) (N : Nat) (σ : sm_S) (v : Nat → Int32), tie False N (bs 43 σ) v → ∀ σ1, σ1 = sm_set σ 85 (upd (σ 85) 3 a3) → (vp_in a2 8 ∧ (((σ1 61 (a2).toNatClampNeg) ≠ 0 → (((0 : Int32) = 0 ∨ (0 : Int32) = 1) ∧ (sm_I (fun x σ' => isYes (v (2358 + 8 * s) = 0) x ∧ σ' 85 3 = a3 ∧ tie False N (bs 43 σ') v ∧ th σ σ' ∧ σ' 85 4 = σ 85 4)) (some (.int 0)) σ1)) ∧ (¬ ((σ1 61 (a2).toNatClampNeg) ≠ 0) → (((1 : Int32) = 0 ∨ (1 : Int32) = 1) ∧ (sm_I (fun x σ' => isYes (v (2358 + 8 * s) = 0) x ∧ σ' 85 3 = a3 ∧ tie False N (bs 43 σ') v ∧ th σ σ' ∧ σ' 85 4 = σ 85 4)) (some (.int 1)) σ1)))) := by
    intro a3 N σ v t σ1 e1
    have q61 : σ1 61 s = v (2358 + 8 * s) := by
      have g : v (2358 + 8 * s) = σ 61 s := (t.s.S s hs).sta
      rw [g, e1, s_ne (by decide)]
    have t1 : tie False N (bs 43 σ1) v := t.eq (eqT.of (fun k hk => by show σ1 (43 + k) = σ (43 + k); rw [e1, s_ne (by omega)])) (fun _ _ => rfl)
    have h1 : th σ σ1 := fun a ha => by rw [e1, s_ne (by omega)]
    have h3 : σ1 85 3 = a3 := by rw [e1, s_at, u_at]
    have h4 : σ1 85 4 = σ 85 4 := by rw [e1, s_at, u_ne (by decide)]
    rw [t_nat h2, q61]
    exact ⟨t_vp h2 hs, fun z => ⟨Or.inl rfl, _, rfl, Or.inr ⟨rfl, z⟩, h3, t1, h1, h4⟩, fun z => ⟨Or.inr rfl, _, rfl, Or.inl ⟨rfl, Classical.not_not.mp z⟩, h3, t1, h1, h4⟩⟩
  intro d
  induction d with
  | zero =>
    intro k N a3 σ v h hj hx h3 hk hN
    have le : (500 : Int32) ≤ a3 := by
      rw [t_le, h3]
      show (500 : Int) ≤ _
      omega
    exact ⟨a3, v, N, fun σ2 e => w_M_goesAway_7 a2 a3 σ2 _ ⟨fun _ => ⟨_, rfl, rfl, by rw [← e, s_id]⟩, fun z => absurd le z⟩, hj, hx, by omega, f_H_tryOut_n_18 a2 a3 σ _ ⟨fun _ => stop a3 N σ v h, fun z => absurd le z⟩⟩
  | succ d ih =>
    intro k N a3 σ v h hj hx h3 hk hN
    have nle : ¬ (500 : Int32) ≤ a3 := by
      rw [t_le, h3]
      show ¬ (500 : Int) ≤ _
      omega
    have h3' : (a3 + 1).toInt = ((k + 1 : Nat) : Int) := by
      rw [t_add h3 (y := 1) rfl (by omega) (by omega)]
      omega
    have gi := going_iff h.tr.s hj hs
    by_cases go : v (2358 + 8 * s) < 2
    · refine ⟨a3, v, N, fun σ2 e => w_M_goesAway_7 a2 a3 σ2 _ ⟨fun z => absurd z nle, fun _ => (c_isGoing h2 hs σ2).int ?_⟩, hj, hx, by omega, f_H_tryOut_n_18 a2 a3 σ _ ⟨fun z => absurd z nle, fun _ => (x_up0 shTF (as := [.ref 17, .int a2]) rfl (e_isGoing2 h2 hs (sh rT σ))).int ?_⟩⟩
      · rintro y1 σ1 ⟨hy1, es1⟩
        rw [es1]
        rw [e] at hy1
        refine ⟨fun _ => ⟨_, rfl, rfl, by rw [← e, s_id]⟩, fun z => ?_⟩
        rcases hy1 with ⟨w, -⟩ | ⟨-, w⟩
        · exact absurd w z
        · exact absurd go w
      · rintro y1 σ1 ⟨hy1, es1⟩
        rw [es1]
        exact ⟨fun _ => stop a3 N σ v h, fun z => absurd go (gi.mp (hy1.b.2.mp z))⟩
    · obtain ⟨v1, c1, N1, ro, co, t1, j1, x1, n1⟩ := p_ticks h.tr hj hx (by omega)
      obtain ⟨y, v', N', R1, j', x', n', -⟩ := ih (k + 1) N1 (a3 + 1) (mkT c1) v1 t1.mk j1 x1 h3' (by omega) (by omega)
      refine ⟨y, v', N', fun σ2 e => w_M_goesAway_7 a2 a3 σ2 _ ⟨fun z => absurd z nle, fun _ => (c_isGoing h2 hs σ2).int ?_⟩, j', x', by omega, f_H_tryOut_n_18 a2 a3 σ _ ⟨fun z => absurd z nle, fun _ => (x_up0 shTF (as := [.ref 17, .int a2]) rfl (e_isGoing2 h2 hs (sh rT σ))).int ?_⟩⟩
      · rintro y1 σ1 ⟨hy1, es1⟩
        rw [es1]
        rw [e] at hy1
        refine ⟨fun z => ?_, fun _ => (ro σ2 e).void ?_⟩
        · rcases hy1 with ⟨-, w⟩ | ⟨w, -⟩
          · exact absurd w go
          · rw [w] at z
            exact absurd z (by decide)
        · rintro σ5 es5
          rw [es5]
          refine (R1 (sm_set σ2 1 v1) s_at).mono ?_
          rintro r0 σ6 ⟨y5, q0, q1, q2⟩
          exact ⟨y5, q0, q1, by rw [q2, s_ss]⟩
      · rintro y1 σ1 ⟨hy1, es1⟩
        rw [es1]
        refine ⟨fun z => absurd (gi.mpr go) (hy1.b.1.mp z), fun _ => (trTV (as := [.ref 41]) rfl co t1).void ?_⟩
        rintro σ5 ⟨t5, o5⟩
        obtain ⟨y5, v5, N5, R5, j5, x5, n5, C5⟩ := ih (k + 1) N1 (a3 + 1) σ5 v1 t5 j1 x1 h3' (by omega) (by omega)
        obtain ⟨q1, q2⟩ := R1.det R5
        rw [q1, q2] at C5
        rw [q2] at j5
        have q3 : N5 = N' := by
          have w1 := j5.2.2
          have w2 := j'.2.2
          omega
        rw [q3] at C5
        refine C5.mono ?_
        rintro r0 σ6 ⟨y6, g0, g1, g2, g3, g4, g5⟩
        exact ⟨y6, g0, g1, g2, g3, (th.of o5).tr g4, by rw [g5, o5 85 (by omega)]⟩
theorem p_try_n {g : Prop} {N s : Nat} {a2 : Int32} {σ : sm_S} {v : Nat → Int32} (h2 : a2.toInt = s) (hs : s < 8) (h : tie g N (bs 0 σ) v) (hl : kl (bs 43 σ)) (hj : jj N v) (hx : jx v) (hN : N < 1900000000) (rx : rdI j_M_canGo [.ref 0, .int a2] v 1 v) : ∃ y v' N', rdI j_M_goesAway [.ref 0, .int a2] v y v' ∧ jj N' v' ∧ jx v' ∧ N' ≤ N + 4800001 ∧ xC xF j_H_tryOut [.ref 85, .ref 0, .int a2] σ (sm_I (fun x σ' => isYes (v' (2358 + 8 * s) = 0) x ∧ σ' 85 3 = y ∧ tie False N' (bs 43 σ') v' ∧ th σ σ' ∧ σ' 85 4 = σ 85 4)) := by
  obtain ⟨v1, c1, ro, -, t1, j1, x1⟩ := p_beg h.no hj hx (by omega) h2 hs rx
  obtain ⟨d, hd⟩ : ∃ d, d = 500 := ⟨_, rfl⟩
  obtain ⟨y, v', N', R1, j', x', n', -⟩ := l_try_n h2 hs d 0 (N + 1) 0 (mkT c1) v1 t1.mk j1 x1 rfl (by omega) (by omega)
  refine ⟨y, v', N', fun σ2 e => w_M_goesAway a2 σ2 _ ((ro σ2 e).void ?_), j', x', by omega, ?_⟩
  · rintro σ3 es3
    rw [es3]
    refine (R1 (sm_set σ2 1 v1) s_at).mono ?_
    rintro r0 σ6 ⟨y5, q0, q1, q2⟩
    exact ⟨y5, q0, q1, by rw [q2, s_ss]⟩
  · refine f_H_tryOut_n a2 σ _ ((x_cpyT shP1 h hl).void ?_)
    rintro σ1 ⟨t3, o1⟩
    obtain ⟨v2, c2, ro2, co2, t2, j2, x2⟩ := p_beg t3.tr hj hx (by omega) h2 hs rx
    have ev : v2 = v1 := rz_eq (ro.det (ro2 (rz v) (rz_at v)))
    rw [ev] at t2
    refine (trTV (as := [.ref 41, .int a2]) rfl co2 t2).void ?_
    rintro σ5 ⟨t5, o5⟩
    obtain ⟨y5, v5, N5, R5, j5, x5, n5, C5⟩ := l_try_n h2 hs d 0 (N + 1) 0 σ5 v1 t5 j1 x1 rfl (by omega) (by omega)
    obtain ⟨q1, q2⟩ := R1.det R5
    rw [q1, q2] at C5
    rw [q2] at j5
    have q3 : N5 = N' := by
      have w1 := j5.2.2
      have w2 := j'.2.2
      omega
    rw [q3] at C5
    refine C5.mono ?_
    rintro r0 σ6 ⟨y6, g0, g1, g2, g3, g4, g5⟩
    exact ⟨y6, g0, g1, g2, g3, (th.of (fun a ha => o1 a (by omega))).tr ((th.of o5).tr g4), by rw [g5, o5 85 (by omega), o1 85 (by omega)]⟩
theorem l_try_t {a2 : Int32} {s : Nat} (h2 : a2.toInt = s) (hs : s < 8) : ∀ (d k N : Nat) (a3 : Int32) (σ : sm_S) (v : Nat → Int32), tie False N (bs 43 σ) v → jj N v → jx v → a3.toInt = k → k + d = 500 → N + 9600 * d + 20000 < 1999990000 → ∃ y v' N', re m_M_goesAway 7 [.ref 0, .int a2, .int a3] v y v' ∧ jj N' v' ∧ jx v' ∧ N' ≤ N + 9600 * d ∧ xE xF m_H_tryOut 18 [.ref 85, .ref 86, .int a2, .int a3] [] σ (sm_I (fun x σ' => isYes (v' (2358 + 8 * s) = 0) x ∧ σ' 85 3 = y ∧ tie False N' (bs 43 σ') v' ∧ th σ σ' ∧ σ' 85 4 = σ 85 4)) := by
  have stop : ∀ (a3 : Int32) (N : Nat) (σ : sm_S) (v : Nat → Int32), tie False N (bs 43 σ) v → ∀ σ1, σ1 = sm_set σ 85 (upd (σ 85) 3 a3) → (vp_in a2 8 ∧ (((σ1 61 (a2).toNatClampNeg) ≠ 0 → (((0 : Int32) = 0 ∨ (0 : Int32) = 1) ∧ (sm_I (fun x σ' => isYes (v (2358 + 8 * s) = 0) x ∧ σ' 85 3 = a3 ∧ tie False N (bs 43 σ') v ∧ th σ σ' ∧ σ' 85 4 = σ 85 4)) (some (.int 0)) σ1)) ∧ (¬ ((σ1 61 (a2).toNatClampNeg) ≠ 0) → (((1 : Int32) = 0 ∨ (1 : Int32) = 1) ∧ (sm_I (fun x σ' => isYes (v (2358 + 8 * s) = 0) x ∧ σ' 85 3 = a3 ∧ tie False N (bs 43 σ') v ∧ th σ σ' ∧ σ' 85 4 = σ 85 4)) (some (.int 1)) σ1)))) := by
    intro a3 N σ v t σ1 e1
    have q61 : σ1 61 s = v (2358 + 8 * s) := by
      have g : v (2358 + 8 * s) = σ 61 s := (t.s.S s hs).sta
      rw [g, e1, s_ne (by decide)]
    have t1 : tie False N (bs 43 σ1) v := t.eq (eqT.of (fun k hk => by show σ1 (43 + k) = σ (43 + k); rw [e1, s_ne (by omega)])) (fun _ _ => rfl)
    have h1 : th σ σ1 := fun a ha => by rw [e1, s_ne (by omega)]
    have h3 : σ1 85 3 = a3 := by rw [e1, s_at, u_at]
    have h4 : σ1 85 4 = σ 85 4 := by rw [e1, s_at, u_ne (by decide)]
    rw [t_nat h2, q61]
    exact ⟨t_vp h2 hs, fun z => ⟨Or.inl rfl, _, rfl, Or.inr ⟨rfl, z⟩, h3, t1, h1, h4⟩, fun z => ⟨Or.inr rfl, _, rfl, Or.inl ⟨rfl, Classical.not_not.mp z⟩, h3, t1, h1, h4⟩⟩
  intro d
  induction d with
  | zero =>
    intro k N a3 σ v h hj hx h3 hk hN
    have le : (500 : Int32) ≤ a3 := by
      rw [t_le, h3]
      show (500 : Int) ≤ _
      omega
    exact ⟨a3, v, N, fun σ2 e => w_M_goesAway_7 a2 a3 σ2 _ ⟨fun _ => ⟨_, rfl, rfl, by rw [← e, s_id]⟩, fun z => absurd le z⟩, hj, hx, by omega, f_H_tryOut_t_18 a2 a3 σ _ ⟨fun _ => stop a3 N σ v h, fun z => absurd le z⟩⟩
  | succ d ih =>
    intro k N a3 σ v h hj hx h3 hk hN
    have nle : ¬ (500 : Int32) ≤ a3 := by
      rw [t_le, h3]
      show ¬ (500 : Int) ≤ _
      omega
    have h3' : (a3 + 1).toInt = ((k + 1 : Nat) : Int) := by
      rw [t_add h3 (y := 1) rfl (by omega) (by omega)]
      omega
    have gi := going_iff h.tr.s hj hs
    by_cases go : v (2358 + 8 * s) < 2
    · refine ⟨a3, v, N, fun σ2 e => w_M_goesAway_7 a2 a3 σ2 _ ⟨fun z => absurd z nle, fun _ => (c_isGoing h2 hs σ2).int ?_⟩, hj, hx, by omega, f_H_tryOut_t_18 a2 a3 σ _ ⟨fun z => absurd z nle, fun _ => (x_up0 shTF (as := [.ref 17, .int a2]) rfl (e_isGoing2 h2 hs (sh rT σ))).int ?_⟩⟩
      · rintro y1 σ1 ⟨hy1, es1⟩
        rw [es1]
        rw [e] at hy1
        refine ⟨fun _ => ⟨_, rfl, rfl, by rw [← e, s_id]⟩, fun z => ?_⟩
        rcases hy1 with ⟨w, -⟩ | ⟨-, w⟩
        · exact absurd w z
        · exact absurd go w
      · rintro y1 σ1 ⟨hy1, es1⟩
        rw [es1]
        exact ⟨fun _ => stop a3 N σ v h, fun z => absurd go (gi.mp (hy1.b.2.mp z))⟩
    · obtain ⟨v1, c1, N1, ro, co, t1, j1, x1, n1⟩ := p_ticks h.tr hj hx (by omega)
      obtain ⟨y, v', N', R1, j', x', n', -⟩ := ih (k + 1) N1 (a3 + 1) (mkT c1) v1 t1.mk j1 x1 h3' (by omega) (by omega)
      refine ⟨y, v', N', fun σ2 e => w_M_goesAway_7 a2 a3 σ2 _ ⟨fun z => absurd z nle, fun _ => (c_isGoing h2 hs σ2).int ?_⟩, j', x', by omega, f_H_tryOut_t_18 a2 a3 σ _ ⟨fun z => absurd z nle, fun _ => (x_up0 shTF (as := [.ref 17, .int a2]) rfl (e_isGoing2 h2 hs (sh rT σ))).int ?_⟩⟩
      · rintro y1 σ1 ⟨hy1, es1⟩
        rw [es1]
        rw [e] at hy1
        refine ⟨fun z => ?_, fun _ => (ro σ2 e).void ?_⟩
        · rcases hy1 with ⟨-, w⟩ | ⟨w, -⟩
          · exact absurd w go
          · rw [w] at z
            exact absurd z (by decide)
        · rintro σ5 es5
          rw [es5]
          refine (R1 (sm_set σ2 1 v1) s_at).mono ?_
          rintro r0 σ6 ⟨y5, q0, q1, q2⟩
          exact ⟨y5, q0, q1, by rw [q2, s_ss]⟩
      · rintro y1 σ1 ⟨hy1, es1⟩
        rw [es1]
        refine ⟨fun z => absurd (gi.mpr go) (hy1.b.1.mp z), fun _ => (trTV (as := [.ref 41]) rfl co t1).void ?_⟩
        rintro σ5 ⟨t5, o5⟩
        obtain ⟨y5, v5, N5, R5, j5, x5, n5, C5⟩ := ih (k + 1) N1 (a3 + 1) σ5 v1 t5 j1 x1 h3' (by omega) (by omega)
        obtain ⟨q1, q2⟩ := R1.det R5
        rw [q1, q2] at C5
        rw [q2] at j5
        have q3 : N5 = N' := by
          have w1 := j5.2.2
          have w2 := j'.2.2
          omega
        rw [q3] at C5
        refine C5.mono ?_
        rintro r0 σ6 ⟨y6, g0, g1, g2, g3, g4, g5⟩
        exact ⟨y6, g0, g1, g2, g3, (th.of o5).tr g4, by rw [g5, o5 85 (by omega)]⟩
theorem p_try_t {g : Prop} {N s : Nat} {a2 : Int32} {σ : sm_S} {v : Nat → Int32} (h2 : a2.toInt = s) (hs : s < 8) (h : tie g N (bs 86 σ) v) (hl : kl (bs 43 σ)) (hj : jj N v) (hx : jx v) (hN : N < 1900000000) (rx : rdI j_M_canGo [.ref 0, .int a2] v 1 v) : ∃ y v' N', rdI j_M_goesAway [.ref 0, .int a2] v y v' ∧ jj N' v' ∧ jx v' ∧ N' ≤ N + 4800001 ∧ xC xF j_H_tryOut [.ref 85, .ref 86, .int a2] σ (sm_I (fun x σ' => isYes (v' (2358 + 8 * s) = 0) x ∧ σ' 85 3 = y ∧ tie False N' (bs 43 σ') v' ∧ th σ σ' ∧ σ' 85 4 = σ 85 4)) := by
  obtain ⟨v1, c1, ro, -, t1, j1, x1⟩ := p_beg h.no hj hx (by omega) h2 hs rx
  obtain ⟨d, hd⟩ : ∃ d, d = 500 := ⟨_, rfl⟩
  obtain ⟨y, v', N', R1, j', x', n', -⟩ := l_try_t h2 hs d 0 (N + 1) 0 (mkT c1) v1 t1.mk j1 x1 rfl (by omega) (by omega)
  refine ⟨y, v', N', fun σ2 e => w_M_goesAway a2 σ2 _ ((ro σ2 e).void ?_), j', x', by omega, ?_⟩
  · rintro σ3 es3
    rw [es3]
    refine (R1 (sm_set σ2 1 v1) s_at).mono ?_
    rintro r0 σ6 ⟨y5, q0, q1, q2⟩
    exact ⟨y5, q0, q1, by rw [q2, s_ss]⟩
  · refine f_H_tryOut_t a2 σ _ ((x_cpyT shP2 h hl).void ?_)
    rintro σ1 ⟨t3, o1⟩
    obtain ⟨v2, c2, ro2, co2, t2, j2, x2⟩ := p_beg t3.tr hj hx (by omega) h2 hs rx
    have ev : v2 = v1 := rz_eq (ro.det (ro2 (rz v) (rz_at v)))
    rw [ev] at t2
    refine (trTV (as := [.ref 41, .int a2]) rfl co2 t2).void ?_
    rintro σ5 ⟨t5, o5⟩
    obtain ⟨y5, v5, N5, R5, j5, x5, n5, C5⟩ := l_try_t h2 hs d 0 (N + 1) 0 σ5 v1 t5 j1 x1 rfl (by omega) (by omega)
    obtain ⟨q1, q2⟩ := R1.det R5
    rw [q1, q2] at C5
    rw [q2] at j5
    have q3 : N5 = N' := by
      have w1 := j5.2.2
      have w2 := j'.2.2
      omega
    rw [q3] at C5
    refine C5.mono ?_
    rintro r0 σ6 ⟨y6, g0, g1, g2, g3, g4, g5⟩
    exact ⟨y6, g0, g1, g2, g3, (th.of (fun a ha => o1 a (by omega))).tr ((th.of o5).tr g4), by rw [g5, o5 85 (by omega), o1 85 (by omega)]⟩
theorem cs5 {a : Int32} (h : 0 ≤ a.toInt ∧ a.toInt < 5) : a = 0 ∨ a = 1 ∨ a = 2 ∨ a = 3 ∨ a = 4 := by
  rcases (show a.toInt = 0 ∨ a.toInt = 1 ∨ a.toInt = 2 ∨ a.toInt = 3 ∨ a.toInt = 4 by omega) with q | q | q | q | q
  · exact Or.inl (t_inj q)
  · exact Or.inr (Or.inl (t_inj q))
  · exact Or.inr (Or.inr (Or.inl (t_inj q)))
  · exact Or.inr (Or.inr (Or.inr (Or.inl (t_inj q))))
  · exact Or.inr (Or.inr (Or.inr (Or.inr (t_inj q))))
theorem ky_would {N : Nat} (a1 a2 : Int32) (σ : sm_S) (hN : N < 1600000000) (hw : WW σ) (h : tw N σ (σ 169)) : ky j_A_would j_M_would [.ref 42, .int a1, .int a2] [.ref 0, .int a1, .int a2] σ := by
  obtain ⟨ht, hj, hx⟩ := h
  have l0 : a2 < 0 ↔ a2.toInt < 0 := by rw [t_lt]; exact Iff.rfl
  have l4 : 4 < a2 ↔ 4 < a2.toInt := by rw [t_lt]; exact Iff.rfl
  have v10 : vp_in (10 : Int32) 2662 := t_vp (n := 10) rfl (by decide)
  have v11 : vp_in (11 : Int32) 2662 := t_vp (n := 11) rfl (by decide)
  have v12 : vp_in (12 : Int32) 2662 := t_vp (n := 12) rfl (by decide)
  by_cases k2 : 0 ≤ a2.toInt ∧ a2.toInt < 5
  · by_cases k1 : 0 ≤ a1.toInt ∧ a1.toInt < 8
    · obtain ⟨s, hm⟩ := t_of k1.1
      have hs : s < 8 := by omega
      obtain ⟨x, rx, cx, hxx⟩ := p_canGo ht.s hm hs
      have cla : ∀ (Q : Option Value → sm_S → Prop), (x = 0 → Q (some (.int (-1))) σ) → (x ≠ 0 → xC xF j_H_tryOut [.ref 85, .ref 0, .int a1] σ (sm_ri False (fun x6 σ5 => ((a2 = 0 → ((x6 = 0 → Q (some (.int 0)) σ5) ∧ (¬ (x6 = 0) → Q (some (.int 1)) σ5))) ∧ (¬ (a2 = 0) → ((a2 = 1 → Q (some (.int (σ5 85 3))) σ5) ∧ (¬ (a2 = 1) → ((a2 = 2 → xC xF j_H_grownSince [.ref 85, .ref 0, .int 3] σ5 (sm_ri False (fun x12 σ11 => Q (some (.int x12)) σ11))) ∧ (¬ (a2 = 2) → ((a2 = 3 → xC xF j_H_grownSince [.ref 85, .ref 0, .int 4] σ5 (sm_ri False (fun x10 σ9 => Q (some (.int x10)) σ9))) ∧ (¬ (a2 = 3) → xC xF j_H_grownSince [.ref 85, .ref 0, .int 5] σ5 (sm_ri False (fun x8 σ7 => Q (some (.int x8)) σ7))))))))))))) → xC xF j_A_would [.ref 42, .int a1, .int a2] σ Q := fun Q q0 q1 => by
        refine f_A_would a1 a2 σ Q ⟨fun z => absurd (l0.mp z) (by omega), fun _ => ⟨fun z => absurd (l4.mp z) (by omega), fun _ => (nw0 (e_isSpanX a1 σ)).int ?_⟩⟩
        rintro x2 σ1 ⟨hx2, es⟩
        rw [es]
        refine ⟨fun z => absurd k1 (hx2.b.1.mp z), fun _ => (nw0 cx).int ?_⟩
        rintro y1 σ3 ⟨ey1, es3⟩
        rw [ey1, es3]
        exact ⟨q1, fun z => q0 (Classical.not_not.mp z)⟩
      rcases hxx with ⟨x1, on⟩ | x0
      · rw [x1] at rx
        obtain ⟨y, v', N', RG, j', x', n', C⟩ := p_try_n hm hs ht.z0 hw.2.1 hj hx (by omega) rx
        have xn : x ≠ 0 := by rw [x1]; decide
        have gr : ∀ (k : Nat) (kI : Int32), kI.toInt = k → k < 11 → ∀ (x6 : Int32) (σ5 : sm_S), tie False N' (bs 43 σ5) v' → th σ σ5 → xC xF j_H_grownSince [.ref 85, .ref 0, .int kI] σ5 (sm_ri False (fun x12 σ11 => (sm_I (fun x _ => x = v' (7 + k) - σ 169 (7 + k))) (some (.int x12)) σ11)) := fun k kI hk hk2 x6 σ5 t5 o5 => by
          have run : xC xF j_H_grownSince [.ref 85, .ref 0, .int kI] σ5 (sm_I (fun x _ => x = v' (7 + k) - σ 169 (7 + k))) := by
            refine f_H_grownSince kI σ5 _ ?_
            rw [t_nat hk]
            have e1 : σ5 83 k = v' (7 + k) := t5.s.N.cnt k hk2
            have e2 : σ5 40 k = σ 169 (7 + k) := by rw [o5 40 (by omega)]; exact ht.s.N.cnt k hk2
            rw [e1, e2]
            exact ⟨t_vp hk hk2, t_vp hk hk2, an_ rfl⟩
          exact run.int (fun x _ e => an_ e)
        rcases cs5 k2 with q | q | q | q | q
        · subst q
          refine ⟨(if v' (2358 + 8 * s) = 0 then 1 else 0), cla _ (fun z => absurd z xn) (fun _ => C.int ?_), fun σ2 e2 => ?_⟩
          · rintro x6 σ5 ⟨h6, h3, t5, o5, -⟩
            refine ⟨fun _ => ⟨fun z => an_ ?_, fun z => an_ ?_⟩, fun z => absurd rfl z⟩
            · rw [if_neg (h6.b.1.mp z)]
            · rw [if_pos (h6.b.2.mp z)]
          · refine w_M_would a1 0 σ2 _ (fun σ1 e1 => ?_)
            obtain ⟨f1, -⟩ := told1 e2 e1
            refine (rx.s f1).int ?_
            rintro y1 σ3 ⟨ey1, es3⟩
            rw [ey1, es3]
            refine ⟨fun z => absurd z (by decide), fun _ => (c_isInX (L := 0) (H := 4) rfl rfl 0 σ1).int ?_⟩
            rintro x5 σ5 ⟨hx5, es5⟩
            rw [es5]
            refine ⟨fun _ => (c_thinks σ1).void ?_, fun z => absurd (hx5.b.2.mpr ⟨by decide, by decide⟩) z⟩
            rintro σ6 ⟨f, es6, -⟩
            have f6 : σ6 1 = σ 169 := by rw [es6, s_ne (by decide)]; exact f1
            refine ⟨v10, v11, v12, (RG σ6 f6).int ?_⟩
            rintro x8 σ7 ⟨ey, es7⟩
            have f7 : σ7 1 = v' := by rw [es7, s_at]
            refine ⟨fun z => absurd rfl z, fun _ => (c_spanState hm hs σ7).int ?_⟩
            rintro x18 σ17 ⟨hx18, es17⟩
            rw [f7] at hx18
            refine ⟨fun z => ⟨fun _ => ⟨fun _ => ⟨fun _ => (c_forgets _).void (fun _ _ => an_ ?_), fun z => absurd (by decide) z⟩, fun z => absurd (by decide) z⟩, fun z => absurd (by decide) z⟩, fun z => ⟨fun _ => ⟨fun _ => ⟨fun _ => (c_forgets _).void (fun _ _ => an_ ?_), fun z => absurd (by decide) z⟩, fun z => absurd (by decide) z⟩, fun z => absurd (by decide) z⟩⟩
            · rw [hx18] at z
              rw [if_neg z]
            · rw [hx18] at z
              rw [if_pos (Classical.not_not.mp z)]
        · subst q
          refine ⟨y, cla _ (fun z => absurd z xn) (fun _ => C.int ?_), fun σ2 e2 => ?_⟩
          · rintro x6 σ5 ⟨h6, h3, t5, o5, -⟩
            exact ⟨fun z => absurd z (by decide), fun _ => ⟨fun _ => an_ h3, fun z => absurd rfl z⟩⟩
          · refine w_M_would a1 1 σ2 _ (fun σ1 e1 => ?_)
            obtain ⟨f1, -⟩ := told1 e2 e1
            refine (rx.s f1).int ?_
            rintro y1 σ3 ⟨ey1, es3⟩
            rw [ey1, es3]
            refine ⟨fun z => absurd z (by decide), fun _ => (c_isInX (L := 0) (H := 4) rfl rfl 1 σ1).int ?_⟩
            rintro x5 σ5 ⟨hx5, es5⟩
            rw [es5]
            refine ⟨fun _ => (c_thinks σ1).void ?_, fun z => absurd (hx5.b.2.mpr ⟨by decide, by decide⟩) z⟩
            rintro σ6 ⟨f, es6, -⟩
            have f6 : σ6 1 = σ 169 := by rw [es6, s_ne (by decide)]; exact f1
            refine ⟨v10, v11, v12, (RG σ6 f6).int ?_⟩
            rintro x8 σ7 ⟨ey, es7⟩
            have f7 : σ7 1 = v' := by rw [es7, s_at]
            exact ⟨fun _ => ⟨fun _ => ⟨fun _ => ⟨fun _ => (c_forgets _).void (fun _ _ => an_ ey), fun z => absurd (by decide) z⟩, fun z => absurd (by decide) z⟩, fun z => absurd (by decide) z⟩, fun z => absurd (by decide) z⟩
        · subst q
          refine ⟨(v' 10 - σ 169 10), cla _ (fun z => absurd z xn) (fun _ => C.int ?_), fun σ2 e2 => ?_⟩
          · rintro x6 σ5 ⟨h6, h3, t5, o5, -⟩
            exact ⟨fun z => absurd z (by decide), fun _ => ⟨fun z => absurd z (by decide), fun _ => ⟨fun _ => gr 3 3 rfl (by omega) x6 σ5 t5 o5, fun z => absurd rfl z⟩⟩⟩
          · refine w_M_would a1 2 σ2 _ (fun σ1 e1 => ?_)
            obtain ⟨f1, -⟩ := told1 e2 e1
            refine (rx.s f1).int ?_
            rintro y1 σ3 ⟨ey1, es3⟩
            rw [ey1, es3]
            refine ⟨fun z => absurd z (by decide), fun _ => (c_isInX (L := 0) (H := 4) rfl rfl 2 σ1).int ?_⟩
            rintro x5 σ5 ⟨hx5, es5⟩
            rw [es5]
            refine ⟨fun _ => (c_thinks σ1).void ?_, fun z => absurd (hx5.b.2.mpr ⟨by decide, by decide⟩) z⟩
            rintro σ6 ⟨f, es6, -⟩
            have f6 : σ6 1 = σ 169 := by rw [es6, s_ne (by decide)]; exact f1
            refine ⟨v10, v11, v12, (RG σ6 f6).int ?_⟩
            rintro x8 σ7 ⟨ey, es7⟩
            have f7 : σ7 1 = v' := by rw [es7, s_at]
            exact ⟨fun _ => ⟨fun z => absurd rfl z, fun _ => ⟨v10, fun _ => ⟨fun _ => (c_forgets _).void (fun _ _ => an_ (by rw [f7, f6]; rfl)), fun z => absurd (by decide) z⟩, fun z => absurd (by decide) z⟩⟩, fun z => absurd (by decide) z⟩
        · subst q
          refine ⟨(v' 11 - σ 169 11), cla _ (fun z => absurd z xn) (fun _ => C.int ?_), fun σ2 e2 => ?_⟩
          · rintro x6 σ5 ⟨h6, h3, t5, o5, -⟩
            exact ⟨fun z => absurd z (by decide), fun _ => ⟨fun z => absurd z (by decide), fun _ => ⟨fun z => absurd z (by decide), fun _ => ⟨fun _ => gr 4 4 rfl (by omega) x6 σ5 t5 o5, fun z => absurd rfl z⟩⟩⟩⟩
          · refine w_M_would a1 3 σ2 _ (fun σ1 e1 => ?_)
            obtain ⟨f1, -⟩ := told1 e2 e1
            refine (rx.s f1).int ?_
            rintro y1 σ3 ⟨ey1, es3⟩
            rw [ey1, es3]
            refine ⟨fun z => absurd z (by decide), fun _ => (c_isInX (L := 0) (H := 4) rfl rfl 3 σ1).int ?_⟩
            rintro x5 σ5 ⟨hx5, es5⟩
            rw [es5]
            refine ⟨fun _ => (c_thinks σ1).void ?_, fun z => absurd (hx5.b.2.mpr ⟨by decide, by decide⟩) z⟩
            rintro σ6 ⟨f, es6, -⟩
            have f6 : σ6 1 = σ 169 := by rw [es6, s_ne (by decide)]; exact f1
            refine ⟨v10, v11, v12, (RG σ6 f6).int ?_⟩
            rintro x8 σ7 ⟨ey, es7⟩
            have f7 : σ7 1 = v' := by rw [es7, s_at]
            exact ⟨fun _ => ⟨fun _ => ⟨fun z => absurd rfl z, fun _ => ⟨v11, fun _ => (c_forgets _).void (fun _ _ => an_ (by rw [f7, f6]; rfl)), fun z => absurd (by decide) z⟩⟩, fun z => absurd (by decide) z⟩, fun z => absurd (by decide) z⟩
        · subst q
          refine ⟨(v' 12 - σ 169 12), cla _ (fun z => absurd z xn) (fun _ => C.int ?_), fun σ2 e2 => ?_⟩
          · rintro x6 σ5 ⟨h6, h3, t5, o5, -⟩
            exact ⟨fun z => absurd z (by decide), fun _ => ⟨fun z => absurd z (by decide), fun _ => ⟨fun z => absurd z (by decide), fun _ => ⟨fun z => absurd z (by decide), fun _ => gr 5 5 rfl (by omega) x6 σ5 t5 o5⟩⟩⟩⟩
          · refine w_M_would a1 4 σ2 _ (fun σ1 e1 => ?_)
            obtain ⟨f1, -⟩ := told1 e2 e1
            refine (rx.s f1).int ?_
            rintro y1 σ3 ⟨ey1, es3⟩
            rw [ey1, es3]
            refine ⟨fun z => absurd z (by decide), fun _ => (c_isInX (L := 0) (H := 4) rfl rfl 4 σ1).int ?_⟩
            rintro x5 σ5 ⟨hx5, es5⟩
            rw [es5]
            refine ⟨fun _ => (c_thinks σ1).void ?_, fun z => absurd (hx5.b.2.mpr ⟨by decide, by decide⟩) z⟩
            rintro σ6 ⟨f, es6, -⟩
            have f6 : σ6 1 = σ 169 := by rw [es6, s_ne (by decide)]; exact f1
            refine ⟨v10, v11, v12, (RG σ6 f6).int ?_⟩
            rintro x8 σ7 ⟨ey, es7⟩
            have f7 : σ7 1 = v' := by rw [es7, s_at]
            exact ⟨fun _ => ⟨fun _ => ⟨fun _ => ⟨fun z => absurd rfl z, fun _ => ⟨v12, (c_forgets _).void (fun _ _ => an_ (by rw [f7, f6]; rfl))⟩⟩, fun z => absurd (by decide) z⟩, fun z => absurd (by decide) z⟩, fun z => absurd (by decide) z⟩
      · refine ⟨-1, cla _ (fun _ => an_ rfl) (fun z => absurd x0 z), fun σ2 e2 => ?_⟩
        refine w_M_would a1 a2 σ2 _ (fun σ1 e1 => ?_)
        obtain ⟨f1, -⟩ := told1 e2 e1
        refine (rx.s f1).int ?_
        rintro y1 σ3 ⟨ey1, es3⟩
        rw [ey1, es3]
        exact ⟨fun _ => an_ rfl, fun z => absurd x0 z⟩
    · refine ⟨-1, f_A_would a1 a2 σ _ ⟨fun z => absurd (l0.mp z) (by omega), fun _ => ⟨fun z => absurd (l4.mp z) (by omega), fun _ => (nw0 (e_isSpanX a1 σ)).int ?_⟩⟩, fun σ2 e2 => ?_⟩
      · rintro x2 σ1 ⟨hx2, es⟩
        rw [es]
        exact ⟨fun _ => an_ rfl, fun z => absurd (hx2.b.2.mp z) k1⟩
      · refine w_M_would a1 a2 σ2 _ (fun σ1 e1 => (c_canGo a1 σ1).int ?_)
        rintro x3 σ3 ⟨hx3, es3⟩
        rw [es3]
        refine ⟨fun _ => an_ rfl, fun z => ?_⟩
        exfalso
        rcases hx3 with w | ⟨-, s, w1, w2, -⟩
        · exact z w
        · omega
  · refine ⟨-1, f_A_would a1 a2 σ _ ⟨fun _ => an_ rfl, fun z => ⟨fun _ => an_ rfl, fun z2 => absurd ?_ k2⟩⟩, fun σ2 e2 => ?_⟩
    · rw [l0] at z
      rw [l4] at z2
      omega
    · refine w_M_would a1 a2 σ2 _ (fun σ1 e1 => (c_canGo a1 σ1).int ?_)
      rintro x3 σ3 ⟨hx3, es3⟩
      rw [es3]
      refine ⟨fun _ => an_ rfl, fun _ => (c_isInX (L := 0) (H := 4) rfl rfl a2 σ1).int ?_⟩
      rintro x5 σ5 ⟨hx5, es5⟩
      refine ⟨fun z => absurd ?_ k2, fun _ => an_ rfl⟩
      have := hx5.b.2.mp z
      omega
theorem ce_would {B : Nat} (a1 a2 : Int32) (σ : sm_S) (hB : B < 1500000000) (h : LR B σ) : two (fun x y => x = y) j_A_would j_M_would [.ref 42, .int a1, .int a2] [.ref 168, .int a1, .int a2] B σ := by
  have h2 := h
  obtain ⟨hL, ⟨N, hN, ht⟩, -⟩ := h2
  exact CLk h (a_wouldQ a1 a2 σ h.1.1) (fun σ1 q => m_would a1 a2 σ1 hB q.2.1) (fun σ1 q => by
    obtain ⟨N, hN, hj⟩ := (lw_bs q.2.1).1
    exact qU (as := [.ref 0, .int a1, .int a2]) rfl (k_would (N := N) a1 a2 (by omega) (sh rM σ1) hj)) (asM := [.ref 0, .int a1, .int a2]) rfl (ky_would a1 a2 σ (by omega) h.1.1 ht)
end
section
/-! ===== the simulation: holders answers the same ===== -/
theorem sumN_mo {F : Nat → Nat} {a b : Nat} (h : a ≤ b) : sumN F a ≤ sumN F b := by
  induction b with
  | zero =>
    have e : a = 0 := by omega
    exact Nat.le_of_eq (by rw [e])
  | succ b ih =>
    by_cases e : a = b + 1
    · exact Nat.le_of_eq (by rw [e])
    · have := ih (by omega)
      show sumN F a ≤ sumN F b + F b
      omega
theorem sumN_st {F : Nat → Nat} {a b q : Nat} (h : sumN F a = sumN F b) (h1 : a ≤ q) (h2 : q < b) : F q = 0 := by
  have m1 := sumN_mo (F := F) h1
  have m2 : sumN F q + F q ≤ sumN F b := sumN_mo (F := F) (a := q + 1) (b := b) (by omega)
  omega
theorem sumN_eq {F : Nat → Nat} {a b : Nat} (h : a ≤ b) (hz : ∀ q, a ≤ q → q < b → F q = 0) : sumN F b = sumN F a := by
  induction b with
  | zero =>
    have e : a = 0 := by omega
    rw [e]
  | succ b ih =>
    by_cases e : a = b + 1
    · rw [e]
    · have e1 := hz b (by omega) (by omega)
      have e2 := ih (by omega) (fun q h1 h2 => hz q h1 (by omega))
      show sumN F b + F b = sumN F a
      omega
theorem or0 (x : Int32) : x ||| 0 = x := bit_ext (fun i _ => by
  rw [bit_or]
  exact ⟨fun z => z.resolve_right bit_0, Or.inl⟩)
theorem orA (x y z : Int32) : (x ||| y) ||| z = x ||| (y ||| z) := bit_ext (fun i _ => by
  rw [bit_or, bit_or, bit_or, bit_or]
  exact or_assoc)
theorem orC (x y : Int32) : x ||| y = y ||| x := bit_ext (fun i _ => by
  rw [bit_or, bit_or]
  exact or_comm)
/-- the block of a frame -/
def hb (v : Nat → Int32) (f : Nat) : Nat := (v (18 + 3 * f + 1) - 1).toNatClampNeg
theorem hb_of {v : Nat → Int32} {f n : Nat} (h : (v (18 + 3 * f + 1)).toInt = ((n + 1 : Nat) : Int)) (hn : n < 96) : hb v f = n := t_nat (t_m1 h (by omega))
def ctr (v : Nat → Int32) (f : Nat) : Int32 := if wt v f = 1 then v (786 + 16 * hb v f + 5) ||| (if v (786 + 16 * hb v f + 3) = 1 then (1 : Int32) <<< (v (786 + 16 * hb v f + 4) &&& 31) else 0) else 0
def hacc (v : Nat → Int32) (s : Nat) : Nat → Int32
  | 0 => 0
  | p + 1 => hacc v s p ||| ctr v (32 * s + p)
theorem l_hldr2 {a1 : Int32} {s : Nat} {v : Nat → Int32} (h1 : a1.toInt = s) (hs : s < 8) (σ : sm_S) (h : sim0 σ v) : ∀ (d k : Nat) (a2 a3 : Int32) (v4 : Value), a3.toInt = ((32 * s + k : Nat) : Int) → k + d = 32 → a2 = hacc v s k → xE xD m_Y_holdersOf 7 [.ref 0, .int a1, .int a2, .int a3, v4] [] σ (sm_I (fun x σ' => x = hacc v s 32 ∧ σ' = σ)) := by
  have hI : ((a1 + 1) * 32).toInt = ((32 * s + 32 : Nat) : Int) := by
    rw [t_mul (t_add h1 (y := 1) rfl (by omega) (by omega)) (y := 32) rfl (by omega) (by omega)]
    omega
  intro d
  induction d with
  | zero =>
    intro k a2 a3 v4 h3 hk h2
    have hk : k = 32 := by omega
    subst hk
    have le : (a1 + 1) * 32 ≤ a3 := by rw [t_le, hI, h3]; omega
    exact d_Y_holdersOf_7 a1 a2 a3 v4 σ _ ⟨fun _ => ⟨_, rfl, h2, rfl⟩, fun z => absurd le z⟩
  | succ d ih =>
    intro k a2 a3 v4 h3 hk h2
    have nle : ¬ (a1 + 1) * 32 ≤ a3 := by rw [t_le, hI, h3]; omega
    have h3' : (a3 + 1).toInt = ((32 * s + (k + 1) : Nat) : Int) := by
      rw [t_add h3 (y := 1) rfl (by omega) (by omega)]
      omega
    refine d_Y_holdersOf_7 a1 a2 a3 v4 σ _ ⟨fun z => absurd z nle, fun _ => (e_blockAt2 h3 (by omega) σ h).int ?_⟩
    rintro x2 σ1 ⟨hx2, es⟩
    rw [es]
    rcases hx2 with ⟨xm, wn⟩ | ⟨n, hn, hxn, h0, b3, f3, fb⟩
    · refine ⟨fun _ => ih (k + 1) a2 (a3 + 1) _ h3' (by omega) ?_, fun z => absurd xm z⟩
      have ec : ctr v (32 * s + k) = 0 := if_neg wn
      show a2 = hacc v s k ||| ctr v (32 * s + k)
      rw [ec, or0, h2]
    · have vx := t_vp hxn hn
      have w1 : wt v (32 * s + k) = 1 := by rw [wt_1 f3 fb hn, if_pos b3]
      have gb := ((h.B n hn).al h0).1
      have ec : ctr v (32 * s + k) = σ 13 n ||| (if σ 11 n = 1 then (1 : Int32) <<< (σ 12 n &&& 31) else 0) := by
        unfold ctr
        rw [if_pos w1, hb_of fb hn, gb.kin, gb.pin, gb.own]
      rw [t_nat hxn]
      refine ⟨fun z => absurd z (ne_m1 hxn), fun _ => ⟨vx, vx, fun z => ih (k + 1) _ (a3 + 1) _ h3' (by omega) ?_, fun z => ⟨vx, ih (k + 1) _ (a3 + 1) _ h3' (by omega) ?_⟩⟩⟩
      · show _ = hacc v s k ||| ctr v (32 * s + k)
        rw [ec, h2, if_neg z, or0, or0]
      · show _ = hacc v s k ||| ctr v (32 * s + k)
        rw [ec, h2, if_pos (Classical.not_not.mp z), orA]
theorem c_kw2 {a1 a2 : Int32} {n N : Nat} (h1 : a1.toInt = n) (hn : n < 96) (σ : sm_S) (hj : jj N (σ 1)) : xC xM j_M_keepsWhy [.ref 0, .int a1, .int a2] σ (sm_I (fun x σ' => ((σ 1 (786 + 16 * n + 3) = 1 ∨ σ 1 (786 + 16 * n + 5) ≠ 0) → x ≠ -1) ∧ σ' = σ)) := by
  obtain ⟨o, fr, b1, b2, b3, b4, b5, ⟨t, b6, b6'⟩, -⟩ := hj.2.1.1 n hn
  refine w_M_keepsWhy a1 a2 σ _ ((c_of (k := 3) (j := 3) h1 rfl (by omega) σ).int ?_)
  rintro x2 σ1 ⟨hx2, es1⟩
  rw [es1]
  refine ⟨fun z2 => (c_isPinned h1 hn σ).int ?_, fun _ => ⟨_, rfl, fun _ => by decide, rfl⟩⟩
  rintro x4 σ3 ⟨hx4, es3⟩
  rw [es3]
  refine ⟨fun z4 => (c_of (k := 3) (j := 3) h1 rfl (by omega) σ).int ?_, fun _ => ⟨_, rfl, fun _ => by decide, rfl⟩⟩
  rintro x6 σ5 ⟨hx6, es5⟩
  rw [es5]
  have no : ¬ (σ 1 (786 + 16 * n + 3) = 1 ∨ σ 1 (786 + 16 * n + 5) ≠ 0) := by
    rintro (w | w)
    · exact z2 (hx2.trans w)
    · rcases hx4 with ⟨-, q⟩ | ⟨q, -⟩
      · exact w q
      · rw [q] at z4
        exact absurd z4 (by decide)
  refine ⟨fun _ => (l_keepsWhy h1 hn σ b1 b2 b6 b6' 256 0 0 rfl (by omega) (by omega)).mono ?_, fun _ => ⟨_, rfl, fun w => absurd w no, rfl⟩⟩
  rintro r σ' ⟨x, e, es⟩
  exact ⟨x, e, fun w => absurd w no, es⟩
theorem c_first2 {a1 a2 : Int32} {s r : Nat} (h1 : a1.toInt = s) (hs : s < 8) (h2 : a2.toInt = r) (hr : r ≤ 32) (σ : sm_S) (ow : own (σ 1)) : xC xM j_M_firstBlock [.ref 0, .int a1, .int a2] σ (sm_I (fun x σ' => fst (σ 1) s r x ∧ σ' = σ)) := w_M_firstBlock a1 a2 σ _ (l_first2 h1 hs σ ow (32 - r) r a2 .null .null h2 (by omega) (Nat.le_refl r) (fun f f1 f2 f3 => by exfalso; omega))
def kps (v W : Nat → Int32) (s p : Nat) : Prop := wt v (32 * s + p) = 1 ∧ W (hb v (32 * s + p)) ≠ -1
noncomputable def kct (v W : Nat → Int32) (s r : Nat) : Nat := sumN (fun p => ind (kps v W s p)) r
theorem kct_s (v W : Nat → Int32) (s r : Nat) : kct v W s (r + 1) = kct v W s r + ind (kps v W s r) := rfl
def kat (v W : Nat → Int32) (s : Nat) (a2 x : Int32) : Prop := (a2 = -1 ∧ x.toInt = ((kct v W s 32 : Nat) : Int)) ∨ ∃ j p : Nat, a2.toInt = ((j : Nat) : Int) ∧ p < 32 ∧ kps v W s p ∧ kct v W s p = j ∧ x.toInt = ((hb v (32 * s + p) : Nat) : Int)
theorem l_kat2 {a1 : Int32} {s : Nat} {v W : Nat → Int32} (h1 : a1.toInt = s) (hs : s < 8) (σ : sm_S) (e : σ 1 = v) (ow : own v) (run : ∀ n : Nat, n < 96 → ∀ bI : Int32, bI.toInt = ((n : Nat) : Int) → xC xM j_M_keepsWhy [.ref 0, .int bI, .int a1] σ (sm_I (fun x σ' => x = W n ∧ σ' = σ))) : ∀ (d r m : Nat) (a2 a3 a4 : Int32), r ≤ 32 → 32 ≤ r + d → fst v s r a4 → a3.toInt = ((m : Nat) : Int) → m = kct v W s r → (a2 = -1 ∨ ∃ j : Nat, a2.toInt = ((j : Nat) : Int) ∧ m ≤ j ∧ j < kct v W s 32) → xE xM m_M_keeperAt 10 [.ref 0, .int a1, .int a2, .int a3, .int a4] [] σ (sm_I (fun x σ' => kat v W s a2 x ∧ σ' = σ)) := by
  have stop : ∀ (r m : Nat) (a2 a3 a4 : Int32), r ≤ 32 → a4 = -1 → (∀ f, f < 256 → f / 32 = s → r ≤ f % 32 → wt v f ≠ 1) → a3.toInt = ((m : Nat) : Int) → m = kct v W s r → (a2 = -1 ∨ ∃ j : Nat, a2.toInt = ((j : Nat) : Int) ∧ m ≤ j ∧ j < kct v W s 32) → xE xM m_M_keeperAt 10 [.ref 0, .int a1, .int a2, .int a3, .int a4] [] σ (sm_I (fun x σ' => kat v W s a2 x ∧ σ' = σ)) := by
    intro r m a2 a3 a4 hr am none h3 hm hj
    have eq : kct v W s 32 = kct v W s r := sumN_eq hr (fun q q1 q2 => ind_f (fun z => none (32 * s + q) (by omega) (by omega) (by omega) z.1))
    refine w_M_keeperAt_10 a1 a2 a3 a4 σ _ ⟨fun _ => ⟨fun z => ?_, fun z => ⟨_, rfl, Or.inl ⟨Classical.not_not.mp z, by rw [h3, hm, eq]⟩, rfl⟩⟩, fun z => absurd am z⟩
    exfalso
    rcases hj with w | ⟨j, -, w1, w2⟩
    · exact z w
    · omega
  intro d
  induction d with
  | zero =>
    intro r m a2 a3 a4 hr hd hf h3 hm hj
    rcases hf with ⟨am, none⟩ | ⟨n, fr, hn, hxn, f1, f2, f3, -⟩
    · exact stop r m a2 a3 a4 hr am none h3 hm hj
    · omega
  | succ d ih =>
    intro r m a2 a3 a4 hr hd hf h3 hm hj
    rcases hf with ⟨am, none⟩ | ⟨n, fr, hn, hxn, q1, q2, q3, h0, hfr, f3, fb, none⟩
    · exact stop r m a2 a3 a4 hr am none h3 hm hj
    · obtain ⟨p, hp⟩ : ∃ p, p = fr % 32 := ⟨_, rfl⟩
      have efr : fr = 32 * s + p := by omega
      have hbn : hb v (32 * s + p) = n := by rw [← efr]; exact hb_of fb hn
      have w1 : wt v (32 * s + p) = 1 := by rw [← efr, wt_1 f3 fb hn, if_pos hfr]
      have kr : kct v W s p = m := by
        rw [hm]
        exact sumN_eq (by omega) (fun q y1 y2 => ind_f (fun z => none (32 * s + q) (by omega) (by omega) (by omega) z.1))
      have next : ∀ (b3 : Int32) (m' : Nat), b3.toInt = ((m' : Nat) : Int) → m' = kct v W s (p + 1) → (a2 = -1 ∨ ∃ j : Nat, a2.toInt = ((j : Nat) : Int) ∧ m' ≤ j ∧ j < kct v W s 32) → xC xM j_M_frameOf [.ref 0, .int a4] σ (sm_ri False (fun x4 σ3 => (¬ (32 : Int32) = 0 ∧ xC xM j_M_firstBlock [.ref 0, .int a1, .int ((x4 - x4 / (32 : Int32) * (32 : Int32)) + 1)] σ3 (sm_ri False (fun x6 σ5 => xE xM m_M_keeperAt 10 [.ref 0, .int a1, .int a2, .int b3, .int x6] [] σ5 (sm_I (fun x σ' => kat v W s a2 x ∧ σ' = σ))))))) := by
        intro b3 m' hb3 hm' hj'
        refine (c_frameOf hxn hn σ).int ?_
        rintro x4 σ3 ⟨ex4, es3⟩
        rw [es3]
        have hx4 : x4.toInt = ((fr : Nat) : Int) := by rw [ex4, e]; exact hfr
        have hr1 : (x4 - x4 / (32 : Int32) * (32 : Int32)).toInt = ((fr % 32 : Nat) : Int) := t_rem hx4 rfl (by decide)
        have hr2 : ((x4 - x4 / (32 : Int32) * (32 : Int32)) + 1).toInt = ((p + 1 : Nat) : Int) := by
          rw [t_add hr1 (y := 1) rfl (by omega) (by omega)]
          omega
        refine ⟨by decide, (c_first2 h1 hs hr2 (by omega) σ (by rw [e]; exact ow)).int ?_⟩
        rintro x6 σ5 ⟨hx6, es5⟩
        rw [es5]
        rw [e] at hx6
        exact ih (p + 1) m' a2 b3 x6 (by omega) (by omega) hx6 hb3 hm' hj'
      refine w_M_keeperAt_10 a1 a2 a3 a4 σ _ ⟨fun z => absurd z (ne_m1 hxn), fun _ => (run n hn a4 hxn).int ?_⟩
      rintro x2 σ1 ⟨ex2, es⟩
      rw [es, ex2]
      refine ⟨fun z => ⟨fun z3 => next (a3 + 1) (m + 1) ?_ ?_ ?_, fun z3 => ⟨_, rfl, Or.inr ⟨m, p, ?_, by omega, ⟨w1, ?_⟩, kr, ?_⟩, rfl⟩⟩, fun z => next a3 m h3 ?_ hj⟩
      · rw [t_add h3 (y := 1) rfl (by omega) (by have := t_bd a3; have : kct v W s p ≤ 1 * p := sumN_bd (fun i => ind_le _); omega)]
        omega
      · rw [kct_s, kr, ind_t ⟨w1, by rw [hbn]; exact z⟩]
      · rcases hj with w | ⟨j, y1, y2, y3⟩
        · exact Or.inl w
        · refine Or.inr ⟨j, y1, ?_, y3⟩
          have : m ≠ j := fun q => z3 (t_inj (by rw [h3, y1, q]))
          omega
      · rw [← Classical.not_not.mp z3]
        exact h3
      · rw [hbn]
        exact z
      · rw [hbn]
        exact hxn
      · rw [kct_s, kr, ind_f (fun q => by
          have q2 := q.2
          rw [hbn] at q2
          exact z q2)]
        rfl
theorem c_kat2 {a1 a2 : Int32} {s : Nat} {v W : Nat → Int32} (h1 : a1.toInt = s) (hs : s < 8) (σ : sm_S) (e : σ 1 = v) (ow : own v) (run : ∀ n : Nat, n < 96 → ∀ bI : Int32, bI.toInt = ((n : Nat) : Int) → xC xM j_M_keepsWhy [.ref 0, .int bI, .int a1] σ (sm_I (fun x σ' => x = W n ∧ σ' = σ))) (hj : a2 = -1 ∨ ∃ j : Nat, a2.toInt = ((j : Nat) : Int) ∧ j < kct v W s 32) : xC xM j_M_keeperAt [.ref 0, .int a1, .int a2] σ (sm_I (fun x σ' => kat v W s a2 x ∧ σ' = σ)) := by
  refine w_M_keeperAt a1 a2 σ _ ((c_first2 (r := 0) h1 hs rfl (by omega) σ (by rw [e]; exact ow)).int ?_)
  rintro x2 σ1 ⟨hx2, es⟩
  rw [es]
  rw [e] at hx2
  refine l_kat2 h1 hs σ e ow run 32 0 0 a2 0 x2 (by omega) (by omega) hx2 rfl rfl ?_
  rcases hj with w | ⟨j, y1, y3⟩
  · exact Or.inl w
  · exact Or.inr ⟨j, y1, Nat.zero_le j, y3⟩
theorem hacc_eq {v : Nat → Int32} {s a b : Nat} (h : a ≤ b) (hz : ∀ q, a ≤ q → q < b → ctr v (32 * s + q) = 0) : hacc v s b = hacc v s a := by
  induction b with
  | zero =>
    have e : a = 0 := by omega
    rw [e]
  | succ b ih =>
    by_cases e : a = b + 1
    · rw [e]
    · show hacc v s b ||| ctr v (32 * s + b) = hacc v s a
      rw [hz b (by omega) (by omega), or0]
      exact ih (by omega) (fun q h1 h2 => hz q h1 (by omega))
theorem wt_hb {v : Nat → Int32} {f : Nat} (ow : own v) (hf : f < 256) (h : wt v f = 1) : hb v f < 96 := by
  have h3 : v (18 + 3 * f) = 3 := by
    by_cases q : v (18 + 3 * f) = 3
    · exact q
    · unfold wt at h
      rw [if_neg q] at h
      omega
  obtain ⟨b, fr, o, hb1, fb, -⟩ := ow.tk f hf h3
  rw [hb_of fb hb1]
  exact hb1
theorem l_hd2 {a1 : Int32} {s : Nat} {v W : Nat → Int32} (h1 : a1.toInt = s) (hs : s < 8) (σ : sm_S) (e : σ 1 = v) (ow : own v) (run : ∀ n : Nat, n < 96 → ∀ bI : Int32, bI.toInt = ((n : Nat) : Int) → xC xM j_M_keepsWhy [.ref 0, .int bI, .int a1] σ (sm_I (fun x σ' => x = W n ∧ σ' = σ))) (hW : ∀ n : Nat, n < 96 → (v (786 + 16 * n + 3) = 1 ∨ v (786 + 16 * n + 5) ≠ 0) → W n ≠ -1) : ∀ (d P i : Nat) (a2 a3 : Int32) (v4 : Value), a3.toInt = ((i : Nat) : Int) → i = kct v W s P → P ≤ 32 → 32 ≤ P + d → a2 = hacc v s P → xE xM m_M_holders 19 [.ref 0, .int a1, .int a2, .int a3, v4] [] σ (sm_I (fun x _ => x = hacc v s 32)) := by
  have zc : ∀ p, p < 32 → ind (kps v W s p) = 0 → ctr v (32 * s + p) = 0 := fun p hp z => by
    by_cases w : wt v (32 * s + p) = 1
    · have hn := wt_hb ow (by omega) w
      have wm : ¬ W (hb v (32 * s + p)) ≠ -1 := fun q => by
        rw [ind_t ⟨w, q⟩] at z
        omega
      have k1 : ¬ v (786 + 16 * hb v (32 * s + p) + 3) = 1 := fun q => wm (hW _ hn (Or.inl q))
      have k2 : v (786 + 16 * hb v (32 * s + p) + 5) = 0 := Classical.byContradiction (fun q => wm (hW _ hn (Or.inr q)))
      unfold ctr
      rw [if_pos w, if_neg k1, k2, or0]
    · exact if_neg w
  have kb : ∀ p, kct v W s p ≤ p := fun p => by
    have : kct v W s p ≤ 1 * p := sumN_bd (fun i => ind_le _)
    omega
  have fin : ∀ (P i : Nat) (a2 : Int32), i = kct v W s P → P ≤ 32 → kct v W s 32 ≤ i → a2 = hacc v s P → a2 = hacc v s 32 := fun P i a2 hi hP hle h2 => by
    have m := sumN_mo (F := fun p => ind (kps v W s p)) hP
    have m : kct v W s P ≤ kct v W s 32 := m
    have eq : kct v W s P = kct v W s 32 := by omega
    rw [hacc_eq hP (fun q q1 q2 => zc q q2 (sumN_st (F := fun p => ind (kps v W s p)) eq q1 q2))]
    exact h2
  have tot : ∀ x2 : Int32, kat v W s (-1) x2 → x2.toInt = ((kct v W s 32 : Nat) : Int) := fun x2 hx2 => by
    rcases hx2 with ⟨-, w⟩ | ⟨j, p, w, -⟩
    · exact w
    · have w : (-1 : Int) = _ := w
      omega
  intro d
  induction d with
  | zero =>
    intro P i a2 a3 v4 h3 hi hP hd h2
    refine w_M_holders_19 a1 a2 a3 v4 σ _ ((c_kat2 h1 hs σ e ow run (Or.inl rfl)).int ?_)
    rintro x2 σ1 ⟨hx2, es⟩
    rw [es]
    have T := tot x2 hx2
    have eP : P = 32 := by omega
    refine ⟨fun z => ⟨_, rfl, fin P i a2 hi hP (by rw [hi, eP]; exact Nat.le_refl _) h2⟩, fun z => absurd ?_ z⟩
    rw [t_le, T, h3, hi, eP]
    exact Int.le_refl _
  | succ d ih =>
    intro P i a2 a3 v4 h3 hi hP hd h2
    have kbP := kb P
    refine w_M_holders_19 a1 a2 a3 v4 σ _ ((c_kat2 h1 hs σ e ow run (Or.inl rfl)).int ?_)
    rintro x2 σ1 ⟨hx2, es⟩
    rw [es]
    have T := tot x2 hx2
    refine ⟨fun z => ⟨_, rfl, fin P i a2 hi hP (by rw [t_le, T, h3] at z; omega) h2⟩, fun z => ?_⟩
    rw [t_le, T, h3] at z
    refine (c_kat2 (a2 := a3) h1 hs σ e ow run (Or.inr ⟨i, h3, by omega⟩)).int ?_
    rintro x4 σ3 ⟨hx4, es3⟩
    rw [es3]
    have ex : ∃ p : Nat, p < 32 ∧ kps v W s p ∧ kct v W s p = i ∧ x4.toInt = ((hb v (32 * s + p) : Nat) : Int) := by
      rcases hx4 with ⟨w, -⟩ | ⟨j, p, w1, w2, w3, w4, w5⟩
      · rw [w] at h3
        have h3 : (-1 : Int) = _ := h3
        omega
      · exact ⟨p, w2, w3, by omega, w5⟩
    obtain ⟨p, hp, kp, cp1, hx4n⟩ := ex
    have cs : kct v W s (p + 1) = i + 1 := by rw [kct_s, cp1, ind_t kp]
    have Pp : P ≤ p := by
      refine Classical.byContradiction (fun q => ?_)
      have m := sumN_mo (F := fun p => ind (kps v W s p)) (show p + 1 ≤ P by omega)
      have m : kct v W s (p + 1) ≤ kct v W s P := m
      omega
    have eq : kct v W s P = kct v W s p := by omega
    have hap : hacc v s p = a2 := by
      rw [hacc_eq Pp (fun q q1 q2 => zc q (by omega) (sumN_st (F := fun p => ind (kps v W s p)) eq q1 q2))]
      exact h2.symm
    have hn := wt_hb ow (f := 32 * s + p) (by omega) kp.1
    have h3' : (a3 + 1).toInt = ((i + 1 : Nat) : Int) := by
      rw [t_add h3 (y := 1) rfl (by omega) (by omega)]
      omega
    have ec : ctr v (32 * s + p) = v (786 + 16 * hb v (32 * s + p) + 5) ||| (if v (786 + 16 * hb v (32 * s + p) + 3) = 1 then (1 : Int32) <<< (v (786 + 16 * hb v (32 * s + p) + 4) &&& 31) else 0) := if_pos kp.1
    refine (c_of (k := 3) (j := 3) hx4n rfl (by omega) σ).int ?_
    rintro x6 σ5 ⟨ex6, es5⟩
    rw [es5]
    rw [e] at ex6
    refine ⟨fun z6 => (c_of (k := 5) (j := 5) hx4n rfl (by omega) σ).int ?_, fun z6 => (c_of (k := 4) (j := 4) hx4n rfl (by omega) σ).int ?_⟩
    · rintro x8 σ7 ⟨ex8, es7⟩
      rw [es7]
      rw [e] at ex8
      refine ih (p + 1) (i + 1) _ (a3 + 1) _ h3' cs.symm (by omega) (by omega) ?_
      show _ = hacc v s p ||| ctr v (32 * s + p)
      rw [ec, hap, ex8, if_neg (fun q => z6 (ex6.trans q)), or0]
    · rintro x10 σ9 ⟨ex10, es9⟩
      rw [es9]
      rw [e] at ex10
      refine (c_of (k := 5) (j := 5) hx4n rfl (by omega) σ).int ?_
      rintro x12 σ11 ⟨ex12, es11⟩
      rw [es11]
      rw [e] at ex12
      refine ih (p + 1) (i + 1) _ (a3 + 1) _ h3' cs.symm (by omega) (by omega) ?_
      show _ = hacc v s p ||| ctr v (32 * s + p)
      rw [ec, hap, ex10, ex12, if_pos (ex6.symm.trans (Classical.not_not.mp z6)), orA, orC (v (786 + 16 * hb v (32 * s + p) + 5))]
theorem ky_holders {N : Nat} (a1 : Int32) (σ : sm_S) (h : tw N σ (σ 169)) : ky j_A_holders j_M_holders [.ref 42, .int a1] [.ref 0, .int a1] σ := by
  obtain ⟨ht, hj, hx⟩ := h
  by_cases k1 : 0 ≤ a1.toInt ∧ a1.toInt < 8
  · obtain ⟨s, hm⟩ := t_of k1.1
    have hs : s < 8 := by omega
    have h32 : (a1 * 32).toInt = ((32 * s + 0 : Nat) : Int) := by
      rw [t_mul hm (y := 32) rfl (by omega) (by omega)]
      omega
    refine ⟨hacc (σ 169) s 32, ?_, fun σ2 e2 => ?_⟩
    · refine f_A_holders a1 σ _ ((nw0 (e_isSpanX a1 σ)).int ?_)
      rintro x2 σ1 ⟨hx2, es⟩
      rw [es]
      exact ⟨fun _ => anC (d_Y_holdersOf a1 σ _ (l_hldr2 hm hs σ ht.s 32 0 0 (a1 * 32) .null h32 (by omega) rfl)), fun z => absurd (hx2.b.2.mpr k1) z⟩
    · refine w_M_holders a1 σ2 _ (fun σ1 e1 => (c_isSpanX a1 σ1).int ?_)
      obtain ⟨f1, -⟩ := told1 e2 e1
      rintro x3 σ3 ⟨hx3, es3⟩
      rw [es3]
      refine ⟨fun _ => ?_, fun z => absurd (hx3.b.2.mpr k1) z⟩
      have hj1 : jj N (σ1 1) := by rw [f1]; exact hj
      have ex : ∀ n : Nat, ∃ x : Int32, n < 96 → (((σ1 1 (786 + 16 * n + 3) = 1 ∨ σ1 1 (786 + 16 * n + 5) ≠ 0) → x ≠ -1) ∧ ∀ bI : Int32, bI.toInt = ((n : Nat) : Int) → xC xM j_M_keepsWhy [.ref 0, .int bI, .int a1] σ1 (sm_I (fun y σ' => y = x ∧ σ' = σ1))) := fun n => by
        by_cases hn : n < 96
        · obtain ⟨x, q1, q2⟩ := pick (c_kw2 (a1 := nI n) (a2 := a1) (nI_toInt (by omega)) hn σ1 hj1)
          refine ⟨x, fun _ => ⟨q1, fun bI hbI => ?_⟩⟩
          rw [t_nI hbI]
          exact q2
        · exact ⟨0, fun z => absurd z hn⟩
      obtain ⟨W, hW⟩ : ∃ W : Nat → Int32, ∀ n : Nat, n < 96 → (((σ1 1 (786 + 16 * n + 3) = 1 ∨ σ1 1 (786 + 16 * n + 5) ≠ 0) → W n ≠ -1) ∧ ∀ bI : Int32, bI.toInt = ((n : Nat) : Int) → xC xM j_M_keepsWhy [.ref 0, .int bI, .int a1] σ1 (sm_I (fun y σ' => y = W n ∧ σ' = σ1))) := ⟨fun n => Classical.choose (ex n), fun n => Classical.choose_spec (ex n)⟩
      exact l_hd2 hm hs σ1 f1 ht.s.O (fun n hn => (hW n hn).2) (fun n hn => by rw [← f1]; exact (hW n hn).1) 32 0 0 0 0 .null rfl rfl (by omega) (by omega) rfl
  · refine ⟨-1, ?_, fun σ2 e2 => ?_⟩
    · refine f_A_holders a1 σ _ ((nw0 (e_isSpanX a1 σ)).int ?_)
      rintro x2 σ1 ⟨hx2, es⟩
      rw [es]
      exact ⟨fun z => absurd (hx2.b.2.mp z) k1, fun _ => an_ rfl⟩
    · refine w_M_holders a1 σ2 _ (fun σ1 e1 => (c_isSpanX a1 σ1).int ?_)
      rintro x3 σ3 ⟨hx3, es3⟩
      rw [es3]
      exact ⟨fun z => absurd (hx3.b.2.mp z) k1, fun _ => an_ rfl⟩
theorem ce_holders {B : Nat} (a1 : Int32) (σ : sm_S) (hB : B < 1500000000) (h : LR B σ) : two (fun x y => x = y) j_A_holders j_M_holders [.ref 42, .int a1] [.ref 168, .int a1] B σ := by
  have h2 := h
  obtain ⟨hL, ⟨N, hN, ht⟩, -⟩ := h2
  exact CLk h (a_holdersQ a1 σ h.1.1) (fun σ1 q => m_holders a1 σ1 hB q.2.1) (fun σ1 q => by
    obtain ⟨N, hN, hj⟩ := (lw_bs q.2.1).1
    exact qU (as := [.ref 0, .int a1]) rfl (k_holders (N := N) a1 (sh rM σ1) hj)) (asM := [.ref 0, .int a1]) rfl (ky_holders a1 σ ht)
end
section
/-! ===== the simulation: movable answers the same ===== -/
theorem c_turn3 (σ : sm_S) : xC xM j_M_turnOf [.ref 0] σ (sm_I (fun x σ' => (x = -1 → ∀ s, s < 8 → σ 1 (2358 + 8 * s) ≠ 0) ∧ σ' = σ)) := by
  have ex : ∀ nd, nd < 2 → ∃ x, fof (σ 1) nd x := fun nd hnd => by
    obtain ⟨n, r, σ', -, x, -, hx, -⟩ := l_turn2 (a1 := 0) hnd (rz (σ 1)) 4 0 (nI nd) (by rw [nI_toInt (by omega)]; omega) rfl (fun j hj => by omega)
    rw [rz_at] at hx
    exact ⟨x, hx⟩
  obtain ⟨x0, f0⟩ := ex 0 (by decide)
  obtain ⟨x1, f1⟩ := ex 1 (by decide)
  have z0 := mn0 f0
  have z1 := mn0 f1
  have all : ∀ (nd : Nat) (x : Int32), fof (σ 1) nd x → x = -1 → ∀ i, i < 4 → σ 1 (2358 + 8 * (nd + 2 * i)) ≠ 0 := fun nd x hf e i hi => by
    rcases hf with ⟨-, z⟩ | ⟨j, j1, j2, -⟩
    · exact z i hi
    · rw [e] at j2
      have j2 : (-1 : Int) = _ := j2
      omega
  have both : x0 = -1 → x1 = -1 → ∀ s, s < 8 → σ 1 (2358 + 8 * s) ≠ 0 := fun e0 e1 s hs => by
    by_cases q : s % 2 = 0
    · have w := all 0 x0 f0 e0 (s / 2) (by omega)
      rw [show 0 + 2 * (s / 2) = s by omega] at w
      exact w
    · have w := all 1 x1 f1 e1 (s / 2) (by omega)
      rw [show 1 + 2 * (s / 2) = s by omega] at w
      exact w
  have many : ∀ (aI wI : Int32) (nd w : Nat), aI.toInt = nd → nd < 2 → wI.toInt = w → w < 2 → xC xM j_M_manyOfNode [.ref 0, .int aI, .int wI] σ (sm_I (fun x σ' => x.toInt = ((mnN (σ 1) nd w 4 : Nat) : Int) ∧ σ' = σ)) := fun aI wI nd w e1 e2 e3 e4 => w_M_manyOfNode aI wI σ _ (l_many2 (a1 := aI) e2 e3 e4 σ 4 0 0 aI (by rw [e1]; omega) rfl rfl)
  have go : ∀ (aI : Int32) (nd : Nat) (x : Int32), aI.toInt = nd → nd < 2 → fof (σ 1) nd x → (x = -1 → x0 = -1 ∧ x1 = -1) → xE xM m_M_turnOf 41 [.ref 0, .int aI, .int aI] [] σ (sm_I (fun x σ' => (x = -1 → ∀ s, s < 8 → σ 1 (2358 + 8 * s) ≠ 0) ∧ σ' = σ)) := fun aI nd x e1 e2 e3 e4 => by
    refine (l_turn2 (a1 := aI) e2 σ 4 0 aI (by rw [e1]; omega) rfl (fun j hj => by omega)).mono ?_
    rintro r σ' ⟨y, rfl, hy, es⟩
    have ey := fof_un hy e3
    refine ⟨y, rfl, fun z => ?_, es⟩
    rw [ey] at z
    exact both (e4 z).1 (e4 z).2
  refine w_M_turnOf σ _ ((many 0 1 0 1 rfl (by decide) rfl (by decide)).int ?_)
  rintro y1 σ1 ⟨ey1, es1⟩
  rw [es1]
  refine ⟨fun q => ?_, fun q => (many 1 1 1 1 rfl (by decide) rfl (by decide)).int ?_⟩
  · rw [le0, ey1] at q
    have w : x0 = -1 := z0.mp (by omega)
    exact go 1 1 x1 rfl (by decide) f1 (fun z => ⟨w, z⟩)
  · rw [le0, ey1] at q
    have n0 : x0 ≠ -1 := fun z => by have := z0.mpr z; omega
    rintro y2 σ2 ⟨ey2, es2⟩
    rw [es2]
    refine ⟨fun q2 => go 0 0 x0 rfl (by decide) f0 (fun z => absurd z n0), fun q2 => (many 0 0 0 0 rfl (by decide) rfl (by decide)).int ?_⟩
    have n1 : x1 ≠ -1 := fun z => q2 (t_inj (by rw [ey2, z1.mpr z]; rfl))
    rintro y3 σ3 ⟨ey3, es3⟩
    rw [es3]
    refine (many 1 0 1 0 rfl (by decide) rfl (by decide)).int ?_
    rintro y4 σ4 ⟨ey4, es4⟩
    rw [es4]
    exact ⟨fun q3 => go 1 1 x1 rfl (by decide) f1 (fun z => absurd z n1), fun q3 => go 0 0 x0 rfl (by decide) f0 (fun z => absurd z n0)⟩
theorem sumN_ch {F G : Nat → Nat} {s : Nat} : ∀ {n : Nat}, (∀ i, i < n → i ≠ s → G i = F i) → (s < n → sumN G n + F s = sumN F n + G s) ∧ (n ≤ s → sumN G n = sumN F n) := by
  intro n
  induction n with
  | zero => exact fun _ => ⟨fun h => by omega, fun _ => rfl⟩
  | succ n ih =>
    intro h
    obtain ⟨i1, i2⟩ := ih (fun i hi => h i (by omega))
    refine ⟨fun hs => ?_, fun hs => ?_⟩
    · show sumN G n + G n + F s = sumN F n + F n + G s
      by_cases e : s = n
      · have e1 := i2 (by omega)
        rw [e]
        omega
      · have e1 := i1 (by omega)
        have e2 := h n (by omega) (by omega)
        omega
    · show sumN G n + G n = sumN F n + F n
      have e1 := i2 (by omega)
      have e2 := h n (by omega) (by omega)
      omega
theorem sumN_ge {F : Nat → Nat} {s n : Nat} (h : s < n) : F s ≤ sumN F n := by
  have m : sumN F s + F s ≤ sumN F n := sumN_mo (F := F) (a := s + 1) (b := n) (by omega)
  omega
theorem zV_off {v : Nat → Int32} {s : Nat} (h : v (2358 + 8 * s) = 0) : zV v s = -1 := if_pos h
theorem zV_on {v : Nat → Int32} {s : Nat} (h : v (2358 + 8 * s) ≠ 0) : zV v s = v (2358 + 8 * s + 1) := if_neg h
theorem cn8 {v : Nat → Int32} (hx : jx v) : cnZ v 0 + cnZ v 1 + cnZ v (-1) = 8 := by
  have one : ∀ s, s < 8 → (if zV v s = 0 then 1 else 0) + (if zV v s = 1 then 1 else 0) + (if zV v s = -1 then 1 else 0) = 1 := fun s hs => by
    by_cases q : v (2358 + 8 * s) = 0
    · rw [zV_off q]
      decide
    · rw [zV_on q]
      rcases hx.2.2.1 s hs q with z | z
      · rw [z]
        decide
      · rw [z]
        decide
  have e1 : sumN (fun s => (if zV v s = 0 then 1 else 0) + (if zV v s = 1 then 1 else 0) + (if zV v s = -1 then 1 else 0)) 8 = sumN (fun s => (if zV v s = 0 then 1 else 0) + (if zV v s = 1 then 1 else 0)) 8 + cnZ v (-1) := sumN_add (F := fun s => (if zV v s = 0 then 1 else 0) + (if zV v s = 1 then 1 else 0)) (G := fun s => if zV v s = -1 then 1 else 0) 8
  have e2 : sumN (fun s => (if zV v s = 0 then 1 else 0) + (if zV v s = 1 then 1 else 0)) 8 = cnZ v 0 + cnZ v 1 := sumN_add (F := fun s => if zV v s = 0 then 1 else 0) (G := fun s => if zV v s = 1 then 1 else 0) 8
  rw [← e2, ← e1]
  refine Nat.le_antisymm ?_ ?_
  · have q := sumN_le (F := fun s => (if zV v s = 0 then 1 else 0) + (if zV v s = 1 then 1 else 0) + (if zV v s = -1 then 1 else 0)) (G := fun _ => 1) (n := 8) (fun i hi => Nat.le_of_eq (one i hi))
    rw [sumN_c] at q
    exact q
  · have q := sumN_le (G := fun s => (if zV v s = 0 then 1 else 0) + (if zV v s = 1 then 1 else 0) + (if zV v s = -1 then 1 else 0)) (F := fun _ => 1) (n := 8) (fun i hi => Nat.le_of_eq (one i hi).symm)
    rw [sumN_c] at q
    exact q
theorem l_mov {n0 n1 R : Nat} {σ : sm_S} {v0 : Nat → Int32} (ht : sim0 σ v0) (hR : (v0 2 + 150).toInt = R) (hR2 : R ≤ 400) : ∀ (d k N : Nat) (aK : Int32) (c : sm_S) (v : Nat → Int32), tie False N c v → jj N v → jx v → cnZ v 0 = n0 → cnZ v 1 = n1 + k → v 2 = v0 2 → aK.toInt = ((k : Nat) : Int) → n0 + n1 + k + d = 8 → N + d < 1999000000 → ∃ r : Int32, (∀ σ2 : sm_S, σ2 1 = v → xE xM m_M_movable 11 [.ref 0, .int aK] [] σ2 (sm_I (fun y _ => y = r))) ∧ xE xF m_A_movable 34 [.ref 42, .int (nI n0), .int (nI n1), .int ((8 - nI n0) - nI n1), .int aK] [] σ (sm_I (fun x _ => x = r)) := by
  intro d
  induction d with
  | zero =>
    intro k N aK c v h hj hx c0 c1 h2 hK hd hN
    have h0I : (nI n0).toInt = ((n0 : Nat) : Int) := nI_toInt (by omega)
    have h1I : (nI n1).toInt = ((n1 : Nat) : Int) := nI_toInt (by omega)
    have e8 := cn8 hx
    obtain ⟨x, rx, -, hxx⟩ := p_turn h.s
    have xm : x = -1 := by
      rcases hxx with z | ⟨s, hs, -, z⟩
      · exact z
      · exfalso
        have q : (if zV v s = -1 then 1 else 0) ≤ cnZ v (-1) := sumN_ge (F := fun s => if zV v s = -1 then 1 else 0) hs
        rw [if_pos (zV_off z)] at q
        omega
    have h3I : ((8 - nI n0) - nI n1).toInt = ((k : Nat) : Int) := by
      rw [t_sub (t_sub (x := 8) rfl h0I (by omega) (by omega)) h1I (by omega) (by omega)]
      omega
    refine ⟨aK, fun σ2 e => w_M_movable_11 aK σ2 _ ((rx.s e).int ?_), f_A_movable_34 _ _ _ aK σ _ ⟨fun _ => an_ rfl, fun z => absurd (by rw [t_le, h3I, hK]; exact Int.le_refl _) z⟩⟩
    rintro y1 σ1 ⟨ey1, es1⟩
    rw [ey1, es1]
    exact ⟨fun _ => (c_forgets σ2).void (fun _ _ => an_ rfl), fun z => absurd xm z⟩
  | succ d ih =>
    intro k N aK c v h hj hx c0 c1 h2 hK hd hN
    have h0I : (nI n0).toInt = ((n0 : Nat) : Int) := nI_toInt (by omega)
    have h1I : (nI n1).toInt = ((n1 : Nat) : Int) := nI_toInt (by omega)
    have e8 := cn8 hx
    have hK' : (aK + 1).toInt = ((k + 1 : Nat) : Int) := by
      rw [t_add hK (y := 1) rfl (by omega) (by omega)]
      omega
    have h3I : ((8 - nI n0) - nI n1).toInt = ((k + (d + 1) : Nat) : Int) := by
      rw [t_sub (t_sub (x := 8) rfl h0I (by omega) (by omega)) h1I (by omega) (by omega)]
      omega
    have nle : ¬ ((8 - nI n0) - nI n1) ≤ aK := by rw [t_le, h3I, hK]; omega
    have hqI : ((nI n1 + aK) + 1).toInt = ((n1 + k + 1 : Nat) : Int) := by
      rw [t_add (t_add h1I hK (by omega) (by omega)) (y := 1) rfl (by omega) (by omega)]
      omega
    obtain ⟨x, rx, -, hxx⟩ := p_turn h.s
    have xs : ∃ s : Nat, s < 8 ∧ x.toInt = s ∧ v (2358 + 8 * s + 0) = 0 := by
      rcases hxx with z | z
      · exfalso
        obtain ⟨q, -⟩ := rx.det (c_turn3 (rz v))
        rw [rz_at] at q
        have all := q z
        have : cnZ v (-1) = 0 := by
          have w := sumN_eq (F := fun s => if zV v s = -1 then 1 else 0) (a := 0) (b := 8) (by omega) (fun s _ hs => by
            have on := all s hs
            show (if zV v s = -1 then 1 else 0) = 0
            rw [zV_on on]
            rcases hx.2.2.1 s hs on with y | y
            · rw [y]
              decide
            · rw [y]
              decide)
          exact w
        omega
      · exact z
    obtain ⟨s, hs, hxs, h0⟩ := xs
    have xn : x ≠ -1 := ne_m1 hxs
    obtain ⟨z, rzz, -, -, hz⟩ := p_zbr h.s hx
    have hRn : (v 2 + 150).toInt.toNat = R := by rw [h2]; omega
    rw [hRn, c0, c1] at hz
    have stays := e_stays2 ht hR hR2 hqI h0I (by omega) (by omega)
    by_cases le : 100 * (n1 + k + 1) ≤ R * n0
    · rw [if_pos le] at hz
      obtain ⟨v', c', ro, -, t1, j1, x1⟩ := p_on 1 h hj hx (by omega) hxs hs h0 (Or.inr rfl)
      obtain ⟨-, ev⟩ := ro.det (c_comesOn2 (N := N) hxs hs 1 (rz v) (by rw [rz_at]; exact h.n))
      have ev := rz_eq ev
      rw [rz_at] at ev
      have z2 : v' 2 = v0 2 := by rw [← ev, wrF_lo (by omega) (by omega), opF_o (by omega) (by omega) (by omega)]; exact h2
      have zo : ∀ t, t < 8 → t ≠ s → zV v' t = zV v t := fun t ht q => by
        unfold zV
        rw [← ev, wrF_lo (by omega) (by omega), opF_o (by omega) (by omega) (by omega), wrF_lo (by omega) (by omega), opF_o (by omega) (by omega) (by omega)]
      have zs : zV v' s = 1 := by
        have a : v' (2358 + 8 * s + 0) = 1 := by
          rw [← ev, wrF_lo (by omega) (by omega)]
          unfold opF
          rw [fsF_out (by omega), u_ne (by omega), u_at]
        have b : v' (2358 + 8 * s + 1) = 1 := by
          rw [← ev, wrF_lo (by omega) (by omega)]
          unfold opF
          rw [fsF_out (by omega), u_at]
        have a' : v' (2358 + 8 * s) ≠ 0 := fun q => by
          have q : v' (2358 + 8 * s + 0) = 0 := q
          rw [a] at q
          exact absurd q (by decide)
        rw [zV_on a', b]
      have zv : zV v s = -1 := zV_off h0
      have k0 : cnZ v' 0 = n0 := by
        have q := (sumN_ch (F := fun s => if zV v s = 0 then 1 else 0) (G := fun s => if zV v' s = 0 then 1 else 0) (s := s) (n := 8) (fun i hi q => by show (if zV v' i = 0 then 1 else 0) = (if zV v i = 0 then 1 else 0); rw [zo i hi q])).1 hs
        have q : cnZ v' 0 + (if zV v s = 0 then 1 else 0) = cnZ v 0 + (if zV v' s = 0 then 1 else 0) := q
        rw [zv, zs, if_neg (by decide), if_neg (by decide)] at q
        omega
      have k1 : cnZ v' 1 = n1 + (k + 1) := by
        have q := (sumN_ch (F := fun s => if zV v s = 1 then 1 else 0) (G := fun s => if zV v' s = 1 then 1 else 0) (s := s) (n := 8) (fun i hi q => by show (if zV v' i = 1 then 1 else 0) = (if zV v i = 1 then 1 else 0); rw [zo i hi q])).1 hs
        have q : cnZ v' 1 + (if zV v s = 1 then 1 else 0) = cnZ v 1 + (if zV v' s = 1 then 1 else 0) := q
        rw [zv, zs, if_neg (by decide), if_pos rfl] at q
        omega
      obtain ⟨r, R1, C1⟩ := ih (k + 1) (N + 1) (aK + 1) c' v' t1 j1 x1 k0 k1 z2 hK' (by omega) (by omega)
      refine ⟨r, fun σ2 e => w_M_movable_11 aK σ2 _ ((rx.s e).int ?_), f_A_movable_34 _ _ _ aK σ _ ⟨fun q => absurd q nle, fun _ => (nw0 stays).int ?_⟩⟩
      · rintro y1 σ1 ⟨ey1, es1⟩
        rw [ey1, es1]
        refine ⟨fun q => absurd q xn, fun _ => (rzz.s e).int ?_⟩
        rintro y5 σ4 ⟨ey5, es4⟩
        rw [ey5, es4, hz]
        refine ⟨fun q => absurd rfl q, fun _ => (rx.s e).int ?_⟩
        rintro y8 σ7 ⟨ey8, es7⟩
        rw [ey8, es7]
        refine (ro σ2 e).int ?_
        rintro y10 σ9 ⟨-, es9⟩
        rw [es9]
        exact R1 (sm_set σ2 1 v') s_at
      · rintro y1 σ1 ⟨ey1, es1⟩
        rw [ey1, es1, if_pos le]
        exact ⟨fun q => absurd q (by decide), fun _ => C1⟩
    · rw [if_neg le] at hz
      refine ⟨aK, fun σ2 e => w_M_movable_11 aK σ2 _ ((rx.s e).int ?_), f_A_movable_34 _ _ _ aK σ _ ⟨fun q => absurd q nle, fun _ => (nw0 stays).int ?_⟩⟩
      · rintro y1 σ1 ⟨ey1, es1⟩
        rw [ey1, es1]
        refine ⟨fun q => absurd q xn, fun _ => (rzz.s e).int ?_⟩
        rintro y5 σ4 ⟨ey5, es4⟩
        rw [ey5, es4, hz]
        exact ⟨fun _ => (c_forgets σ2).void (fun _ _ => an_ rfl), fun q => absurd (by decide) q⟩
      · rintro y1 σ1 ⟨ey1, es1⟩
        rw [ey1, es1, if_neg le]
        exact ⟨fun _ => an_ rfl, fun q => absurd rfl q⟩
theorem ky_movable {N : Nat} (σ : sm_S) (hN : N < 1600000000) (h : tw N σ (σ 169)) : ky j_A_movable j_M_movable [.ref 42] [.ref 0] σ := by
  obtain ⟨ht, hj, hx⟩ := h
  obtain ⟨R, hR⟩ := t_of (x := σ 169 2 + 150) hx.2.2.2.2.2.1
  have hR2 : R ≤ 400 := by have := hx.2.2.2.2.2.2; omega
  have e8 := cn8 hx
  obtain ⟨r, R1, C1⟩ := l_mov (n0 := cnZ (σ 169) 0) (n1 := cnZ (σ 169) 1) ht.s hR hR2 (cnZ (σ 169) (-1)) 0 N 0 σ (σ 169) ht.no hj hx rfl rfl rfl rfl (by omega) (by omega)
  refine ⟨r, f_A_movable σ _ ((nw0 (e_inZone2 0 ht.s)).int ?_), fun σ2 e2 => w_M_movable σ2 _ (fun σ1 e1 => (c_thinks σ1).void ?_)⟩
  · rintro x2 σ1 ⟨hx2, es⟩
    rw [es, t_nI hx2]
    refine (nw0 (e_inZone2 1 ht.s)).int ?_
    rintro x4 σ3 ⟨hx4, es3⟩
    rw [es3, t_nI hx4]
    exact C1
  · obtain ⟨f1, -⟩ := told1 e2 e1
    rintro σ3 ⟨f, es3, -⟩
    exact R1 σ3 (by rw [es3, s_ne (by decide)]; exact f1)
theorem ce_movable {B : Nat} (σ : sm_S) (hB : B < 1500000000) (h : LR B σ) : two (fun x y => x = y) j_A_movable j_M_movable [.ref 42] [.ref 168] B σ := by
  have h2 := h
  obtain ⟨hL, ⟨N, hN, ht⟩, -⟩ := h2
  exact CLk h (a_movableQ σ h.1.1) (fun σ1 q => m_movable σ1 hB q.2.1) (fun σ1 q => by
    obtain ⟨N, hN, hj⟩ := (lw_bs q.2.1).1
    exact qU (as := [.ref 0]) rfl (k_movable (N := N) (by omega) (sh rM σ1) hj)) (asM := [.ref 0]) rfl (ky_movable σ (by omega) ht)
end
section
/-! ===== the simulation: the easiest span ===== -/
theorem rdI.N {j : Nat} {as : List Value} {v w : Nat → Int32} {y : Int32} (h : rdI j as v y w) {σ : sm_S} (e : σ 1 = v) : xC xN j as σ (sm_I (fun z σ' => z = y ∧ σ' = sm_set σ 1 w)) := by
  refine x_lift shMN (h σ e) ?_
  rintro r σ' ⟨x, rfl, -, rfl⟩ a i hv
  rw [s_ne (nvM hv)]
theorem rdI.NS {j : Nat} {as : List Value} {v : Nat → Int32} {y : Int32} (h : rdI j as v y v) {σ : sm_S} (e : σ 1 = v) : xC xN j as σ (sm_I (fun z σ' => z = y ∧ σ' = σ)) := (h.N e).mono (by
  rintro r σ' ⟨x, q, e1, e2⟩
  exact ⟨x, q, e1, by rw [e2, ← e, s_id]⟩)
/-- rows that agree, run alike -/
theorem rdI.cg {j : Nat} {as : List Value} {v v2 w w2 : Nat → Int32} {y y2 : Int32} (h : rdI j as v y w) (h2 : rdI j as v2 y2 w2) (e : ∀ i, i < 2662 → v2 i = v i) : y2 = y ∧ ∀ i, i < 2662 → w2 i = w i := by
  obtain ⟨M, -, n, r, σ', -, ⟨x, e1, e2, e3⟩, hd⟩ := x_det shMN (h (rz v) (rz_at v))
  have st : sm_stW id xM (rz v) (rz v2) := agM rfl rfl (fun i hi => by rw [rz_at, rz_at]; exact e i hi) (fun k hk => by unfold rz; rw [s_ne (by omega), s_ne (by omega)])
  have q2 : xC xN j as (rz v2) (sm_I (fun z σ' => z = y2 ∧ σ' = sm_set (rz v2) 1 w2)) := h2.N (rz_at v2)
  obtain ⟨M2, -, n2, r2, τ', -, ⟨e4, e5⟩, x2, e6, e7, e8⟩ := (hd (rz v2) st).and q2
  rw [e4, e1] at e6
  cases e6
  refine ⟨e7.symm.trans e2, fun i hi => ?_⟩
  have a : τ' 1 i = σ' 1 i := e5.1 1 (0, 2662) rfl i hi
  rw [e8, e3, s_at, s_at] at a
  exact a
theorem pickI {SH : List sm_Sh} {j : Nat} {as : List Value} {σ : sm_S} {P : Int32 → sm_S → Prop} (h : xC SH j as σ (sm_I P)) : ∃ x σ', P x σ' ∧ xC SH j as σ (sm_I (fun y τ => y = x ∧ τ = σ')) := by
  obtain ⟨M, hM, n, r, σ', hr, x, e, hq⟩ := h
  exact ⟨x, σ', hq, M, hM, n, r, σ', hr, x, e, rfl, rfl⟩
theorem pickV {SH : List sm_Sh} {j : Nat} {as : List Value} {σ : sm_S} {P : sm_S → Prop} (h : xC SH j as σ (sm_V P)) : ∃ σ', P σ' ∧ xC SH j as σ (sm_V (fun τ => τ = σ')) := by
  obtain ⟨M, hM, n, r, σ', hr, e, hq⟩ := h
  exact ⟨σ', hq, M, hM, n, r, σ', hr, e, rfl⟩
theorem l_canGoT2 {a1 : Int32} {s : Nat} {v : Nat → Int32} (h1 : a1.toInt = s) (σ0 : sm_S) (h : sim0 (bs 86 σ0) v) : ∀ (d k : Nat) (a2 : Int32), a2.toInt = k → k + d = 8 → (∀ t, t < k → ¬ elsN v s t) → xE xF m_S_canGo 14 [.ref 103, .int a1, .int a2] [] σ0 (sm_I (fun x σ' => ((x = 0 ∧ ∀ t, t < 8 → ¬ elsN v s t) ∨ (x = 1 ∧ ∃ t, t < 8 ∧ elsN v s t)) ∧ σ' = σ0)) := by
  intro d
  induction d with
  | zero =>
    intro k a2 h2 hk hb
    exact f_S_canGo_t_14 a1 a2 σ0 _ ⟨fun _ => ⟨Or.inl rfl, _, rfl, Or.inl ⟨rfl, fun t ht => hb t (by omega)⟩, rfl⟩, fun z => absurd (by rw [t_le, h2]; show (8 : Int) ≤ _; omega) z⟩
  | succ d ih =>
    intro k a2 h2 hk hb
    have h2' : (a2 + 1).toInt = ((k + 1 : Nat) : Int) := by
      rw [t_add h2 (y := 1) rfl (by omega) (by omega)]
      omega
    have no : ¬ elsN v s k → ∀ t, t < k + 1 → ¬ elsN v s t := fun z t ht => by
      by_cases e : t = k
      · rw [e]; exact z
      · exact hb t (by omega)
    have st : v (2358 + 8 * k) = σ0 104 k := (h.S k (by omega)).sta
    refine f_S_canGo_t_14 a1 a2 σ0 _ ⟨fun z => ?_, fun _ => ⟨fun q => ih (k + 1) (a2 + 1) h2' (by omega) (no ?_), fun q => ?_⟩⟩
    · rw [t_le, h2] at z
      have z : (8 : Int) ≤ k := z
      omega
    · rintro ⟨z, -⟩
      have := congrArg Int32.toInt q
      rw [h2, h1] at this
      omega
    · rw [t_nat h2, ← st]
      refine ⟨t_vp h2 (by omega), fun q2 => ih (k + 1) (a2 + 1) h2' (by omega) (no (fun z => q2 z.2.1)), fun q2 => ⟨t_vp h2 (by omega), fun q3 => ih (k + 1) (a2 + 1) h2' (by omega) (no ?_), fun q3 => ⟨Or.inr rfl, _, rfl, Or.inr ⟨rfl, k, by omega, fun z => q (t_inj (by rw [h2, h1, z])), Classical.not_not.mp q2, ?_⟩, rfl⟩⟩⟩
      all_goals
        have q2' := Classical.not_not.mp q2
        have ez0 : σ0 105 k = zV v k := sim_zone h (by omega)
        have ez : σ0 105 k = v (2358 + 8 * k + 1) := by
          rw [ez0]
          unfold zV
          rw [q2']
          exact if_neg (by decide)
        rw [ez] at q3
      · exact fun z => q3 z.2.2
      · exact Classical.not_not.mp q3
theorem p_canGoT {σ0 : sm_S} {v : Nat → Int32} {a1 : Int32} {s : Nat} (h : sim0 (bs 86 σ0) v) (h1 : a1.toInt = s) (hs : s < 8) : ∃ x : Int32, rdI j_M_canGo [.ref 0, .int a1] v x v ∧ xC xF j_S_canGo [.ref 103, .int a1] σ0 (sm_I (fun y σ' => y = x ∧ σ' = σ0)) ∧ ((x = 1 ∧ σ0 104 s = 1) ∨ x = 0) := by
  have st : v (2358 + 8 * s) = σ0 104 s := (h.S s hs).sta
  have isS : ∀ σ : sm_S, xC xM j_M_isSpan [.ref 0, .int a1] σ (sm_I (fun y σ' => y = 1 ∧ σ' = σ)) := fun σ => (c_isSpan a1 σ).mono (by
    rintro r σ' ⟨y, rfl, hy, rfl⟩
    refine ⟨y, rfl, ?_, rfl⟩
    rcases hy with ⟨y1, -⟩ | ⟨-, hy⟩
    · exact y1
    · omega)
  by_cases on : σ0 104 s = 1
  · obtain ⟨x, hx, rx⟩ := pick (f_S_canGo_t a1 σ0 _ ⟨t_vp h1 hs, fun _ => l_canGoT2 h1 σ0 h 8 0 0 rfl rfl (fun t ht => by omega), fun z => absurd (by rw [t_nat h1]; exact on) z⟩)
    refine ⟨x, fun σ e => ?_, rx, ?_⟩
    · refine w_M_canGo a1 σ _ ((isS σ).int ?_)
      rintro y1 σ1 ⟨ey1, es1⟩
      rw [ey1, es1]
      refine ⟨fun z => absurd z (by decide), fun _ => (c_spanState h1 hs σ).int ?_⟩
      rintro y2 σ2 ⟨ey2, es2⟩
      rw [ey2, es2, e, st]
      refine ⟨fun z => absurd on z, fun _ => (w_M_onMany 0 a1 σ _ (l_on2 h1 σ 8 0 0 0 0 rfl rfl rfl (Nat.le_refl 0) ⟨fun _ t ht => by omega, fun _ => rfl⟩)).int ?_⟩
      rintro y3 σ3 ⟨⟨m, ey3, hm⟩, es3⟩
      rw [e] at hm
      rw [es3]
      refine ⟨fun z => ⟨Or.inl rfl, _, rfl, ?_, by rw [← e, s_id]⟩, fun z => ⟨Or.inr rfl, _, rfl, ?_, by rw [← e, s_id]⟩⟩
      · rw [le0, ey3] at z
        rcases hx with ⟨w, -⟩ | ⟨-, t, t1, t2⟩
        · exact w.symm
        · exact absurd t2 (hm.mp (by omega) t t1)
      · rw [le0, ey3] at z
        rcases hx with ⟨-, w⟩ | ⟨w, -⟩
        · exact absurd (hm.mpr w) (by omega)
        · exact w.symm
    · rcases hx with ⟨w, -⟩ | ⟨w, -⟩
      · exact Or.inr w
      · exact Or.inl ⟨w, on⟩
  · refine ⟨0, fun σ e => ?_, f_S_canGo_t a1 σ0 _ ⟨t_vp h1 hs, fun z => absurd (by rw [t_nat h1] at z; exact z) on, fun _ => ⟨Or.inl rfl, _, rfl, rfl, rfl⟩⟩, Or.inr rfl⟩
    refine w_M_canGo a1 σ _ ((isS σ).int ?_)
    rintro y1 σ1 ⟨ey1, es1⟩
    rw [ey1, es1]
    refine ⟨fun z => absurd z (by decide), fun _ => (c_spanState h1 hs σ).int ?_⟩
    rintro y2 σ2 ⟨ey2, es2⟩
    rw [ey2, es2, e, st]
    exact ⟨fun _ => ⟨Or.inl rfl, _, rfl, rfl, by rw [← e, s_id]⟩, fun z => absurd (Classical.not_not.mp z) on⟩
theorem l_rs72 {a1 a2 a3 a4 : Int32} {Q : Option Value → sm_S → Prop} {v : Nat → Int32} {τ0 : sm_S} (h3 : ∀ i, i < 2662 → τ0 3 i = v i) (K : ∀ (a5 : Int32) (ω : sm_S), (∀ i, i < 2662 → ω 1 i = v i) → (∀ k, 2 ≤ k → ω k = τ0 k) → ω 0 = τ0 0 → ((a4 = 0 → xE xN m_M_easiestNow 31 [.ref 0, .int a1, .int (a2 + 1), .int a3, .int a4, .int a5] [] ω Q) ∧ (¬ (a4 = 0) → ((a1 = (-1) → (∀ σ1, σ1 = sm_set ω 0 (upd (ω 0) 5 a3) → xE xN m_M_easiestNow 31 [.ref 0, .int a2, .int (a2 + 1), .int a3, .int a4, .int a5] [] σ1 Q)) ∧ (¬ (a1 = (-1)) → ((a3 < (ω 0 5) → (∀ σ2, σ2 = sm_set ω 0 (upd (ω 0) 5 a3) → xE xN m_M_easiestNow 31 [.ref 0, .int a2, .int (a2 + 1), .int a3, .int a4, .int a5] [] σ2 Q)) ∧ (¬ (a3 < (ω 0 5)) → xE xN m_M_easiestNow 31 [.ref 0, .int a1, .int (a2 + 1), .int a3, .int a4, .int a5] [] ω Q))))))) : ∀ (d k : Nat) (a5 : Int32) (σ : sm_S), a5.toInt = k → k + d = 2662 → (∀ k, 2 ≤ k → σ k = τ0 k) → (∀ i, i < k → σ 1 i = v i) → σ 0 = τ0 0 → xE xN m_M_easiestNow 72 [.ref 0, .int a1, .int a2, .int a3, .int a4, .int a5] [] σ Q := by
  intro d
  induction d with
  | zero =>
    intro k a5 σ h5 hk g2 g1 g0
    refine w_N_easiestNow_72 a1 a2 a3 a4 a5 σ Q ⟨fun _ => K a5 σ (fun i hi => g1 i (by omega)) g2 g0, fun h => absurd ?_ h⟩
    rw [t_le, h5]
    show (2662 : Int) ≤ _
    omega
  | succ d ih =>
    intro k a5 σ h5 hk g2 g1 g0
    have h5' : (a5 + 1).toInt = ((k + 1 : Nat) : Int) := by
      rw [t_add h5 (y := 1) rfl (by omega) (by omega)]
      omega
    refine w_N_easiestNow_72 a1 a2 a3 a4 a5 σ Q ⟨fun h => ?_, fun _ => ⟨t_vp h5 (by omega), t_vp h5 (by omega), fun σ1 e1 => ?_⟩⟩
    · rw [t_le, h5] at h
      have h : (2662 : Int) ≤ k := h
      omega
    · rw [t_nat h5] at e1
      subst e1
      refine ih (k + 1) (a5 + 1) _ h5' (by omega) (fun k hk => by rw [s_ne (by omega)]; exact g2 k hk) (fun i hi => ?_) (by rw [s_ne (by decide)]; exact g0)
      rw [s_at]
      rcases Nat.lt_or_ge i k with hl | hl
      · rw [u_ne (by omega)]; exact g1 i hl
      · have hik : i = k := by omega
        subst hik
        rw [u_at, g2 3 (by omega)]
        exact h3 i (by omega)
def fnd (v : Nat → Int32) (x : Int32) : Prop := x = -1 ∨ ∃ s : Nat, s < 8 ∧ x.toInt = ((s : Nat) : Int) ∧ rdI j_M_canGo [.ref 0, .int x] v 1 v ∧ ∃ y w, rdI j_M_goesAway [.ref 0, .int x] v y w ∧ w (2358 + 8 * s) = 0
theorem l_fe_n {N : Nat} {v : Nat → Int32} (hj : jj N v) (hx : jx v) (hN : N < 1900000000) : ∀ (d k : Nat) (a2 a3 : Int32) (σ : sm_S), a3.toInt = ((k : Nat) : Int) → k + d = 8 → tie False N σ v → kl (bs 43 σ) → ∃ (r : Int32) (σ' : sm_S), xE xF m_H_findEasiest 4 [.ref 85, .ref 0, .int a2, .int a3] [] σ (sm_I (fun x ω => x = r ∧ ω = σ')) ∧ th σ σ' ∧ kl (bs 43 σ') ∧ ∀ (τ : sm_S) (u3 u4 u5 : Value), (∀ i, i < 2662 → τ 1 i = v i) → (∀ i, i < 2662 → τ 3 i = v i) → (a2 ≠ -1 → σ 85 4 = τ 0 5) → fnd v a2 → xE xN m_M_easiestNow 31 [.ref 0, .int a2, .int a3, u3, u4, u5] [] τ (sm_I (fun x ω => x = r ∧ (∀ i, i < 2662 → ω 1 i = v i) ∧ ω 2 = τ 2 ∧ (r ≠ -1 → σ' 85 4 = ω 0 5) ∧ fnd v r)) := by
  intro d
  induction d with
  | zero =>
    intro k a2 a3 σ h3 hk hT hl
    have le : (8 : Int32) ≤ a3 := by
      rw [t_le, h3]
      show (8 : Int) ≤ _
      omega
    exact ⟨a2, σ, f_H_findEasiest_n_4 a2 a3 σ _ ⟨fun _ => ⟨_, rfl, rfl, rfl⟩, fun z => absurd le z⟩, fun _ _ => rfl, hl, fun τ u3 u4 u5 e1 e3 e5 hf => w_N_easiestNow_31 a2 a3 u3 u4 u5 τ _ ⟨fun _ => ⟨_, rfl, rfl, e1, rfl, e5, hf⟩, fun z => absurd le z⟩⟩
  | succ d ih =>
    intro k a2 a3 σ h3 hk hT hl
    have hs : k < 8 := by omega
    have nle : ¬ (8 : Int32) ≤ a3 := by
      rw [t_le, h3]
      show ¬ (8 : Int) ≤ _
      omega
    have h3' : (a3 + 1).toInt = ((k + 1 : Nat) : Int) := by
      rw [t_add h3 (y := 1) rfl (by omega) (by omega)]
      omega
    have tv : ∀ v1 : Nat → Int32, (∀ i, i < 2662 → v1 i = v i) → tie False N σ v1 := fun v1 q => hT.eq (eqT.of (fun _ _ => rfl)) q
    obtain ⟨x, rx, cx, hxx⟩ := p_canGo hT.s h3 hs
    have cgR : ∀ (τ : sm_S), (∀ i, i < 2662 → τ 1 i = v i) → xC xN j_M_canGo [.ref 0, .int a3] τ (sm_I (fun z σ' => z = x ∧ σ' = τ)) := fun τ e1 => by
      obtain ⟨x1, rx1, -, -⟩ := p_canGo (tv (τ 1) e1).s h3 hs
      have q := (rx.cg rx1 e1).1
      rw [q] at rx1
      exact rx1.NS rfl
    rcases hxx with ⟨x1, on⟩ | x0
    · rw [x1] at rx
      obtain ⟨y, v', N', RG, j', x', n', C⟩ := p_try_n h3 hs hT.z0 hl hj hx hN rx
      obtain ⟨x4, σ3, ⟨h4, e3, t3, o3, e4⟩, C3⟩ := pickI C
      have hT3 : tie False N σ3 v := hT.eq (eqT.of (fun k hk => o3 k (by omega))) (fun _ _ => rfl)
      have gaR : ∀ (τ : sm_S), (∀ i, i < 2662 → τ 1 i = v i) → ∃ w1, (∀ i, i < 2662 → w1 i = v' i) ∧ xC xN j_M_goesAway [.ref 0, .int a3] τ (sm_I (fun z σ' => z = y ∧ σ' = sm_set τ 1 w1)) := fun τ e1 => by
        obtain ⟨xx, rx1, -, -⟩ := p_canGo (tv (τ 1) e1).s h3 hs
        have q := (rx.cg rx1 e1).1
        rw [q] at rx1
        obtain ⟨y1, w1, N1, RG1, -, -, -, -⟩ := p_try_n h3 hs (tv (τ 1) e1).z0 hl (jj_eq e1 hj) (hx.eq e1) hN rx1
        obtain ⟨q1, q2⟩ := RG.cg RG1 e1
        rw [q1] at RG1
        exact ⟨w1, q2, RG1.N rfl⟩
      have up : ∀ {Q : Option Value → sm_S → Prop} (τ : sm_S) (u3 u4 u5 : Value), (∀ i, i < 2662 → τ 1 i = v i) → (∀ i, i < 2662 → τ 3 i = v i) → (∀ (a4 a5 : Int32) (ω : sm_S), (a4 = 0 ↔ v' (2358 + 8 * k) ≠ 0) → (∀ i, i < 2662 → ω 1 i = v i) → (∀ k, 2 ≤ k → ω k = τ k) → ω 0 = τ 0 → ((a4 = 0 → xE xN m_M_easiestNow 31 [.ref 0, .int a2, .int (a3 + 1), .int y, .int a4, .int a5] [] ω Q) ∧ (¬ (a4 = 0) → ((a2 = (-1) → (∀ σ1, σ1 = sm_set ω 0 (upd (ω 0) 5 y) → xE xN m_M_easiestNow 31 [.ref 0, .int a3, .int (a3 + 1), .int y, .int a4, .int a5] [] σ1 Q)) ∧ (¬ (a2 = (-1)) → ((y < (ω 0 5) → (∀ σ2, σ2 = sm_set ω 0 (upd (ω 0) 5 y) → xE xN m_M_easiestNow 31 [.ref 0, .int a3, .int (a3 + 1), .int y, .int a4, .int a5] [] σ2 Q)) ∧ (¬ (y < (ω 0 5)) → xE xN m_M_easiestNow 31 [.ref 0, .int a2, .int (a3 + 1), .int y, .int a4, .int a5] [] ω Q))))))) → xE xN m_M_easiestNow 31 [.ref 0, .int a2, .int a3, u3, u4, u5] [] τ Q := fun {Q} τ u3 u4 u5 e1 e3' K => by
        refine w_N_easiestNow_31 a2 a3 u3 u4 u5 τ Q ⟨fun z => absurd z nle, fun _ => (cgR τ e1).int ?_⟩
        rintro y2 τ2 ⟨ey2, es2⟩
        rw [ey2, es2, x1]
        obtain ⟨w1, hw1, run⟩ := gaR τ e1
        refine ⟨fun _ => run.int ?_, fun z => absurd (by decide) z⟩
        rintro y4 τ4 ⟨ey4, es4⟩
        rw [ey4, es4]
        refine (n_spanState h3 hs _).int ?_
        rintro y6 τ6 ⟨ey6, es6⟩
        rw [s_at, hw1 _ (by omega)] at ey6
        rw [es6]
        have m2 : ∀ k, 2 ≤ k → (sm_set τ 1 w1) k = τ k := fun k hk => s_ne (by omega)
        have m0 : (sm_set τ 1 w1) 0 = τ 0 := s_ne (by decide)
        refine ⟨fun z => ?_, fun z => ?_⟩
        · exact l_rs72 (τ0 := τ) e3' (fun a5 ω q1 q2 q3 => K 0 a5 ω ⟨fun _ => by rw [← ey6]; exact z, fun _ => rfl⟩ q1 q2 q3) 2662 0 0 _ rfl (Nat.zero_add _) m2 (fun i hi => by omega) m0
        · exact l_rs72 (τ0 := τ) e3' (fun a5 ω q1 q2 q3 => K 1 a5 ω ⟨fun q => absurd q (by decide), fun q => absurd (by rw [← ey6]; exact Classical.not_not.mp z) q⟩ q1 q2 q3) 2662 0 0 _ rfl (Nat.zero_add _) m2 (fun i hi => by omega) m0
      have cl : ∀ {Q : Option Value → sm_S → Prop}, ((x4 = 0 → xE xF m_H_findEasiest 4 [.ref 85, .ref 0, .int a2, .int (a3 + 1)] [] σ3 Q) ∧ (¬ (x4 = 0) → ((a2 = (-1) → (∀ σ5, σ5 = sm_set σ3 85 (upd (σ3 85) 4 (σ3 85 3)) → xE xF m_H_findEasiest 4 [.ref 85, .ref 0, .int a3, .int (a3 + 1)] [] σ5 Q)) ∧ (¬ (a2 = (-1)) → (((σ3 85 4) ≤ (σ3 85 3) → xE xF m_H_findEasiest 4 [.ref 85, .ref 0, .int a2, .int (a3 + 1)] [] σ3 Q) ∧ (¬ ((σ3 85 4) ≤ (σ3 85 3)) → (∀ σ6, σ6 = sm_set σ3 85 (upd (σ3 85) 4 (σ3 85 3)) → xE xF m_H_findEasiest 4 [.ref 85, .ref 0, .int a3, .int (a3 + 1)] [] σ6 Q))))))) → xE xF m_H_findEasiest 4 [.ref 85, .ref 0, .int a2, .int a3] [] σ Q := fun {Q} hQ => by
        refine f_H_findEasiest_n_4 a2 a3 σ Q ⟨fun z => absurd z nle, fun _ => (nw0 cx).int ?_⟩
        rintro y2 τ2 ⟨ey2, es2⟩
        rw [ey2, es2, x1]
        refine ⟨fun z => absurd z (by decide), fun _ => C3.int ?_⟩
        rintro y4 τ4 ⟨ey4, es4⟩
        rw [ey4, es4]
        exact hQ
      have stay : (v' (2358 + 8 * k) ≠ 0 ∨ (a2 ≠ -1 ∧ σ3 85 4 ≤ σ3 85 3)) → ∃ (r : Int32) (σ' : sm_S), xE xF m_H_findEasiest 4 [.ref 85, .ref 0, .int a2, .int a3] [] σ (sm_I (fun x ω => x = r ∧ ω = σ')) ∧ th σ σ' ∧ kl (bs 43 σ') ∧ ∀ (τ : sm_S) (u3 u4 u5 : Value), (∀ i, i < 2662 → τ 1 i = v i) → (∀ i, i < 2662 → τ 3 i = v i) → (a2 ≠ -1 → σ 85 4 = τ 0 5) → fnd v a2 → xE xN m_M_easiestNow 31 [.ref 0, .int a2, .int a3, u3, u4, u5] [] τ (sm_I (fun x ω => x = r ∧ (∀ i, i < 2662 → ω 1 i = v i) ∧ ω 2 = τ 2 ∧ (r ≠ -1 → σ' 85 4 = ω 0 5) ∧ fnd v r)) := fun why => by
        obtain ⟨r, σ', C5, o5, k5, R5⟩ := ih (k + 1) a2 (a3 + 1) σ3 h3' (by omega) hT3 t3.k
        refine ⟨r, σ', cl ⟨fun _ => C5, fun z => ?_⟩, o3.tr o5, k5, fun τ u3 u4 u5 e1 e3' e5 hf => up τ u3 u4 u5 e1 e3' (fun a4 a5 ω z4 w1 w2 w0 => ?_)⟩
        · have nz := h4.b.2.mp z
          obtain ⟨n2, le⟩ := why.resolve_left (fun q => q nz)
          exact ⟨fun q => absurd q n2, fun _ => ⟨fun _ => C5, fun q => absurd le q⟩⟩
        · have w05 : a2 ≠ -1 → σ3 85 4 = ω 0 5 := fun q => by rw [e4, w0]; exact e5 q
          have go := R5 ω (.int y) (.int a4) (.int a5) w1 (fun i hi => by rw [w2 3 (by omega)]; exact e3' i hi) w05 hf
          have go2 : xE xN m_M_easiestNow 31 [.ref 0, .int a2, .int (a3 + 1), .int y, .int a4, .int a5] [] ω (sm_I (fun x ω => x = r ∧ (∀ i, i < 2662 → ω 1 i = v i) ∧ ω 2 = τ 2 ∧ (r ≠ -1 → σ' 85 4 = ω 0 5) ∧ fnd v r)) := go.mono (by
            rintro r0 ω' ⟨z, q0, q1, q2, q3, q4⟩
            exact ⟨z, q0, q1, q2, by rw [q3, w2 2 (by omega)], q4⟩)
          refine ⟨fun _ => go2, fun z => ?_⟩
          have nz : v' (2358 + 8 * k) = 0 := Classical.byContradiction (fun q => z (z4.mpr q))
          obtain ⟨n2, le⟩ := why.resolve_left (fun q => q nz)
          refine ⟨fun q => absurd q n2, fun _ => ⟨fun q => ?_, fun _ => go2⟩⟩
          exfalso
          rw [← w05 n2, t_lt] at q
          rw [t_le, e3] at le
          omega
      have take : v' (2358 + 8 * k) = 0 → (a2 = -1 ∨ ¬ σ3 85 4 ≤ σ3 85 3) → ∃ (r : Int32) (σ' : sm_S), xE xF m_H_findEasiest 4 [.ref 85, .ref 0, .int a2, .int a3] [] σ (sm_I (fun x ω => x = r ∧ ω = σ')) ∧ th σ σ' ∧ kl (bs 43 σ') ∧ ∀ (τ : sm_S) (u3 u4 u5 : Value), (∀ i, i < 2662 → τ 1 i = v i) → (∀ i, i < 2662 → τ 3 i = v i) → (a2 ≠ -1 → σ 85 4 = τ 0 5) → fnd v a2 → xE xN m_M_easiestNow 31 [.ref 0, .int a2, .int a3, u3, u4, u5] [] τ (sm_I (fun x ω => x = r ∧ (∀ i, i < 2662 → ω 1 i = v i) ∧ ω 2 = τ 2 ∧ (r ≠ -1 → σ' 85 4 = ω 0 5) ∧ fnd v r)) := fun of why => by
        have o5' : th σ3 (sm_set σ3 85 (upd (σ3 85) 4 (σ3 85 3))) := fun a ha => s_ne (by omega)
        have hT5 : tie False N (sm_set σ3 85 (upd (σ3 85) 4 (σ3 85 3))) v := hT3.eq (eqT.of (fun k hk => o5' k (by omega))) (fun _ _ => rfl)
        have k5' : kl (bs 43 (sm_set σ3 85 (upd (σ3 85) 4 (σ3 85 3)))) := kl_of (σ := bs 43 σ3) (by show (sm_set σ3 85 (upd (σ3 85) 4 (σ3 85 3))) 77 5 = σ3 77 5; rw [s_ne (by decide)]) t3.k
        obtain ⟨r, σ', C5, o5, k5, R5⟩ := ih (k + 1) a3 (a3 + 1) (sm_set σ3 85 (upd (σ3 85) 4 (σ3 85 3))) h3' (by omega) hT5 k5'
        have e54 : (sm_set σ3 85 (upd (σ3 85) 4 (σ3 85 3))) 85 4 = y := by rw [s_at, u_at, e3]
        have ff : fnd v a3 := Or.inr ⟨k, hs, h3, rx, y, v', RG, of⟩
        refine ⟨r, σ', cl ⟨fun z => absurd of (h4.b.1.mp z), fun _ => ⟨fun _ σ5 q5 => by rw [q5]; exact C5, fun n2 => ⟨fun q => ?_, fun _ σ5 q5 => by rw [q5]; exact C5⟩⟩⟩, (o3.tr o5').tr o5, k5, fun τ u3 u4 u5 e1 e3' e5 hf => up τ u3 u4 u5 e1 e3' (fun a4 a5 ω z4 w1 w2 w0 => ?_)⟩
        · rcases why with z | z
          · exact absurd z n2
          · exact absurd q z
        · have go2 : ∀ σ1, σ1 = sm_set ω 0 (upd (ω 0) 5 y) → xE xN m_M_easiestNow 31 [.ref 0, .int a3, .int (a3 + 1), .int y, .int a4, .int a5] [] σ1 (sm_I (fun x ω => x = r ∧ (∀ i, i < 2662 → ω 1 i = v i) ∧ ω 2 = τ 2 ∧ (r ≠ -1 → σ' 85 4 = ω 0 5) ∧ fnd v r)) := fun σ1 q1 => by
            have go := R5 σ1 (.int y) (.int a4) (.int a5) (fun i hi => by rw [q1, s_ne (by decide)]; exact w1 i hi) (fun i hi => by rw [q1, s_ne (by decide), w2 3 (by omega)]; exact e3' i hi) (fun _ => by rw [e54, q1, s_at, u_at]) ff
            refine go.mono ?_
            rintro r0 ω' ⟨z, q0, q2, q3, q4, q5⟩
            exact ⟨z, q0, q2, q3, by rw [q4, q1, s_ne (by decide), w2 2 (by omega)], q5⟩
          refine ⟨fun z => absurd of (z4.mp z), fun _ => ⟨fun _ => go2, fun n2 => ⟨fun _ => go2, fun q => ?_⟩⟩⟩
          exfalso
          have le := why.resolve_left n2
          have w05 : σ3 85 4 = ω 0 5 := by rw [e4, w0]; exact e5 n2
          rw [← w05, t_lt] at q
          rw [t_le, e3] at le
          omega
      by_cases of : v' (2358 + 8 * k) = 0
      · by_cases am : a2 = -1
        · exact take of (Or.inl am)
        · by_cases le : σ3 85 4 ≤ σ3 85 3
          · exact stay (Or.inr ⟨am, le⟩)
          · exact take of (Or.inr le)
      · exact stay (Or.inl of)
    · obtain ⟨r, σ', C5, o5, k5, R5⟩ := ih (k + 1) a2 (a3 + 1) σ h3' (by omega) hT hl
      refine ⟨r, σ', f_H_findEasiest_n_4 a2 a3 σ _ ⟨fun z => absurd z nle, fun _ => (nw0 cx).int ?_⟩, o5, k5, fun τ u3 u4 u5 e1 e3' e5 hf => w_N_easiestNow_31 a2 a3 u3 u4 u5 τ _ ⟨fun z => absurd z nle, fun _ => (cgR τ e1).int ?_⟩⟩
      · rintro y2 τ2 ⟨ey2, es2⟩
        rw [ey2, es2]
        exact ⟨fun _ => C5, fun z => absurd x0 z⟩
      · rintro y2 τ2 ⟨ey2, es2⟩
        rw [ey2, es2]
        exact ⟨fun z => absurd x0 z, fun _ => R5 τ u3 u4 u5 e1 e3' e5 hf⟩
theorem p_fe_n {N : Nat} {v : Nat → Int32} {σ : sm_S} (hj : jj N v) (hx : jx v) (hN : N < 1900000000) (hT : tie False N σ v) (hl : kl (bs 43 σ)) : ∃ (r : Int32) (σ' : sm_S), xC xF j_H_findEasiest [.ref 85, .ref 0] σ (sm_I (fun x ω => x = r ∧ ω = σ')) ∧ th σ σ' ∧ kl (bs 43 σ') ∧ ∀ τ : sm_S, (∀ i, i < 2662 → τ 1 i = v i) → xC xN j_M_easiestNow [.ref 0] τ (sm_I (fun x ω => x = r ∧ (∀ i, i < 2662 → ω 1 i = v i) ∧ ω 2 = τ 2 ∧ (r ≠ -1 → σ' 85 4 = ω 0 5) ∧ fnd v r)) := by
  obtain ⟨r, σ', C5, o5, k5, R5⟩ := l_fe_n hj hx hN 8 0 (-1) 0 σ rfl rfl hT hl
  refine ⟨r, σ', f_H_findEasiest_n σ _ C5, o5, k5, fun τ e1 => w_N_easiestNow τ _ (l_en4 2662 0 _ 0 _ _ _ τ _ rfl (Nat.zero_add _) (fun f f1 _ => ?_))⟩
  refine (R5 (sm_set τ 3 f) _ _ _ (fun i hi => by rw [s_ne (by decide)]; exact e1 i hi) (fun i hi => by rw [s_at, f1 i (Nat.zero_le i) hi]; exact e1 i hi) (fun z => absurd rfl z) (Or.inl rfl)).mono ?_
  rintro r0 ω' ⟨z, q0, q2, q3, q4, q5⟩
  exact ⟨z, q0, q2, q3, by rw [q4, s_ne (by decide)], q5⟩
def kyN (jA jM : Nat) (asA asM : List Value) (σ : sm_S) : Prop := ∃ r : Int32, xC xF jA asA σ (sm_I (fun x _ => x = r)) ∧ ∀ σ2 : sm_S, σ2 1 = σ 169 → xC xN jM asM σ2 (sm_I (fun y _ => y = r))
theorem rmUN {j : Nat} {as as' : List Value} {r : Int32} {v : Nat → Int32} (ha : as.map (sm_cv rM) = as') (h : ∀ σ : sm_S, σ 1 = v → xC xN j as σ (sm_I (fun y _ => y = r))) : ∀ σ1 : sm_S, σ1 169 = v → xC xF j as' σ1 (sm_I (fun y _ => y = r)) := fun σ1 e => by
  subst ha
  refine (x_up shNF (h (sh rM σ1) e)).mono ?_
  rintro r1 σ' ⟨r2, τ, rfl, ⟨x, rfl, hx⟩, -, -⟩
  exact ⟨x, rfl, hx⟩
theorem CLkN {jA jM B : Nat} {asA asM asM' : List Value} {σ : sm_S} (h : LR B σ) (a : xC xF jA asA σ (sm_I (fun _ σ' => BQ σ σ'))) (m : ∀ σ1, LQ B σ1 → xC xF jM asM' σ1 (sm_I (fun _ σ' => mQ (B + 1488000) σ1 σ'))) (k : ∀ σ1, LQ B σ1 → xC xF jM asM' σ1 (sm_I (fun _ σ' => kQ σ1 σ'))) (ha : asM.map (sm_cv rM) = asM') (q : kyN jA jM asA asM σ) : two (fun x y => x = y) jA jM asA asM' B σ := by
  obtain ⟨r, ra, rm⟩ := q
  exact CLe h a m k r ra (rmUN ha rm)
theorem n_isInX {lo hi : Int32} {L H : Int} (hl : lo.toInt = L) (hh : hi.toInt = H) (a : Int32) (σ : sm_S) : xC xN j_M_isIn [.ref 0, .int a, .int lo, .int hi] σ (sm_I (fun x σ' => isYes (L ≤ a.toInt ∧ a.toInt ≤ H) x ∧ σ' = σ)) := x_liftI (c_isInX hl hh a σ)
theorem ky_easiest {N : Nat} (a1 : Int32) (σ : sm_S) (hN : N < 1600000000) (hw : WW σ) (h : tw N σ (σ 169)) : kyN j_A_easiest j_M_easiest [.ref 42, .int a1] [.ref 0, .int a1] σ := by
  obtain ⟨ht, hj, hx⟩ := h
  have l0 : a1 < 0 ↔ a1.toInt < 0 := by rw [t_lt]; exact Iff.rfl
  have l1 : a1 ≤ 1 ↔ a1.toInt ≤ 1 := by rw [t_le]; exact Iff.rfl
  by_cases k1 : 0 ≤ a1.toInt ∧ a1.toInt ≤ 1
  · obtain ⟨r, σ', C, o, k', R⟩ := p_fe_n hj hx (by omega) ht.no hw.2.1
    have cla : ∀ (Q : Option Value → sm_S → Prop), ((a1 = 0 → Q (some (.int r)) σ') ∧ (¬ (a1 = 0) → ((r ≠ (-1) → Q (some (.int (σ' 85 4))) σ') ∧ (¬ (r ≠ (-1)) → Q (some (.int r)) σ')))) → xC xF j_A_easiest [.ref 42, .int a1] σ Q := fun Q hQ => by
      refine f_A_easiest a1 σ Q ⟨fun z => absurd (l0.mp z) (by omega), fun _ => ⟨fun _ => C.int ?_, fun z => absurd (l1.mpr k1.2) z⟩⟩
      rintro y2 τ2 ⟨ey2, es2⟩
      rw [ey2, es2]
      exact hQ
    have ref : ∀ (Q : Option Value → sm_S → Prop) (σ2 : sm_S), σ2 1 = σ 169 → (∀ ω : sm_S, (r ≠ -1 → σ' 85 4 = ω 0 5) → ((r ≠ (-1) → ((a1 ≠ 0 → Q (some (.int (ω 0 5))) ω) ∧ (¬ (a1 ≠ 0) → Q (some (.int r)) ω))) ∧ (¬ (r ≠ (-1)) → Q (some (.int (-1))) ω))) → xC xN j_M_easiest [.ref 0, .int a1] σ2 Q := fun Q σ2 e2 hQ => by
      refine w_N_easiest a1 σ2 Q (fun σ1 e1 => (n_isInX (L := 0) (H := 1) rfl rfl a1 σ1).int ?_)
      obtain ⟨f1, -⟩ := told1 e2 e1
      rintro x3 σ3 ⟨hx3, es3⟩
      rw [es3]
      refine ⟨fun _ => (R σ1 (fun i _ => by rw [f1])).int ?_, fun z => absurd (hx3.b.2.mpr k1) z⟩
      rintro y2 ω ⟨ey2, -, -, q, -⟩
      rw [ey2]
      exact hQ ω q
    by_cases a0 : a1 = 0
    · refine ⟨r, cla _ ⟨fun _ => an_ rfl, fun z => absurd a0 z⟩, fun σ2 e2 => ref _ σ2 e2 (fun ω q => ⟨fun _ => ⟨fun z => absurd a0 z, fun _ => an_ rfl⟩, fun z => an_ (Classical.not_not.mp z).symm⟩)⟩
    · by_cases rm : r = -1
      · exact ⟨r, cla _ ⟨fun z => absurd z a0, fun _ => ⟨fun z => absurd rm z, fun _ => an_ rfl⟩⟩, fun σ2 e2 => ref _ σ2 e2 (fun ω q => ⟨fun z => absurd rm z, fun _ => an_ rm.symm⟩)⟩
      · exact ⟨σ' 85 4, cla _ ⟨fun z => absurd z a0, fun _ => ⟨fun _ => an_ rfl, fun z => absurd rm z⟩⟩, fun σ2 e2 => ref _ σ2 e2 (fun ω q => ⟨fun _ => ⟨fun _ => an_ (q rm).symm, fun z => absurd a0 z⟩, fun z => absurd rm z⟩)⟩
  · refine ⟨-1, f_A_easiest a1 σ _ ⟨fun _ => an_ rfl, fun z => ⟨fun z2 => absurd ?_ k1, fun _ => an_ rfl⟩⟩, fun σ2 e2 => w_N_easiest a1 σ2 _ (fun σ1 e1 => (n_isInX (L := 0) (H := 1) rfl rfl a1 σ1).int ?_)⟩
    · rw [l0] at z
      rw [l1] at z2
      omega
    · rintro x3 σ3 ⟨hx3, es3⟩
      rw [es3]
      exact ⟨fun z => absurd (hx3.b.2.mp z) k1, fun _ => an_ rfl⟩
theorem ce_easiest {B : Nat} (a1 : Int32) (σ : sm_S) (hB : B < 1500000000) (h : LR B σ) : two (fun x y => x = y) j_A_easiest j_M_easiest [.ref 42, .int a1] [.ref 168, .int a1] B σ := by
  have h2 := h
  obtain ⟨hL, ⟨N, hN, ht⟩, -⟩ := h2
  exact CLkN h (a_easiestQ a1 σ h.1.1) (fun σ1 q => m_easiest a1 σ1 hB q.2.1) (fun σ1 q => by
    obtain ⟨N, hN, hj⟩ := (lw_bs q.2.1).1
    exact qUN (as := [.ref 0, .int a1]) rfl (k_easiest (N := N) a1 (by omega) (sh rM σ1) hj)) (asM := [.ref 0, .int a1]) rfl (ky_easiest a1 σ (by omega) h.1.1 ht)
end
section
/-! ===== the simulation: how many would go ===== -/
theorem l_fe_t {N : Nat} {v : Nat → Int32} (hj : jj N v) (hx : jx v) (hN : N < 1900000000) : ∀ (d k : Nat) (a2 a3 : Int32) (σ : sm_S), a3.toInt = ((k : Nat) : Int) → k + d = 8 → tie False N (bs 86 σ) v → kl (bs 43 σ) → ∃ (r : Int32) (σ' : sm_S), xE xF m_H_findEasiest 4 [.ref 85, .ref 86, .int a2, .int a3] [] σ (sm_I (fun x ω => x = r ∧ ω = σ')) ∧ th σ σ' ∧ kl (bs 43 σ') ∧ ∀ (τ : sm_S) (u3 u4 u5 : Value), (∀ i, i < 2662 → τ 1 i = v i) → (∀ i, i < 2662 → τ 3 i = v i) → (a2 ≠ -1 → σ 85 4 = τ 0 5) → fnd v a2 → xE xN m_M_easiestNow 31 [.ref 0, .int a2, .int a3, u3, u4, u5] [] τ (sm_I (fun x ω => x = r ∧ (∀ i, i < 2662 → ω 1 i = v i) ∧ ω 2 = τ 2 ∧ (r ≠ -1 → σ' 85 4 = ω 0 5) ∧ fnd v r)) := by
  intro d
  induction d with
  | zero =>
    intro k a2 a3 σ h3 hk hT hl
    have le : (8 : Int32) ≤ a3 := by
      rw [t_le, h3]
      show (8 : Int) ≤ _
      omega
    exact ⟨a2, σ, f_H_findEasiest_t_4 a2 a3 σ _ ⟨fun _ => ⟨_, rfl, rfl, rfl⟩, fun z => absurd le z⟩, fun _ _ => rfl, hl, fun τ u3 u4 u5 e1 e3 e5 hf => w_N_easiestNow_31 a2 a3 u3 u4 u5 τ _ ⟨fun _ => ⟨_, rfl, rfl, e1, rfl, e5, hf⟩, fun z => absurd le z⟩⟩
  | succ d ih =>
    intro k a2 a3 σ h3 hk hT hl
    have hs : k < 8 := by omega
    have nle : ¬ (8 : Int32) ≤ a3 := by
      rw [t_le, h3]
      show ¬ (8 : Int) ≤ _
      omega
    have h3' : (a3 + 1).toInt = ((k + 1 : Nat) : Int) := by
      rw [t_add h3 (y := 1) rfl (by omega) (by omega)]
      omega
    have tv : ∀ v1 : Nat → Int32, (∀ i, i < 2662 → v1 i = v i) → tie False N (bs 86 σ) v1 := fun v1 q => hT.eq (eqT.of (fun _ _ => rfl)) q
    obtain ⟨x, rx, cx, hxx⟩ := p_canGoT hT.s h3 hs
    have cgR : ∀ (τ : sm_S), (∀ i, i < 2662 → τ 1 i = v i) → xC xN j_M_canGo [.ref 0, .int a3] τ (sm_I (fun z σ' => z = x ∧ σ' = τ)) := fun τ e1 => by
      obtain ⟨x1, rx1, -, -⟩ := p_canGoT (tv (τ 1) e1).s h3 hs
      have q := (rx.cg rx1 e1).1
      rw [q] at rx1
      exact rx1.NS rfl
    rcases hxx with ⟨x1, on⟩ | x0
    · rw [x1] at rx
      obtain ⟨y, v', N', RG, j', x', n', C⟩ := p_try_t h3 hs hT hl hj hx hN rx
      obtain ⟨x4, σ3, ⟨h4, e3, t3, o3, e4⟩, C3⟩ := pickI C
      have hT3 : tie False N (bs 86 σ3) v := hT.eq (eqT.of (fun k hk => o3 (86 + k) (by omega))) (fun _ _ => rfl)
      have gaR : ∀ (τ : sm_S), (∀ i, i < 2662 → τ 1 i = v i) → ∃ w1, (∀ i, i < 2662 → w1 i = v' i) ∧ xC xN j_M_goesAway [.ref 0, .int a3] τ (sm_I (fun z σ' => z = y ∧ σ' = sm_set τ 1 w1)) := fun τ e1 => by
        obtain ⟨xx, rx1, -, -⟩ := p_canGoT (tv (τ 1) e1).s h3 hs
        have q := (rx.cg rx1 e1).1
        rw [q] at rx1
        obtain ⟨y1, w1, N1, RG1, -, -, -, -⟩ := p_try_t h3 hs (tv (τ 1) e1) hl (jj_eq e1 hj) (hx.eq e1) hN rx1
        obtain ⟨q1, q2⟩ := RG.cg RG1 e1
        rw [q1] at RG1
        exact ⟨w1, q2, RG1.N rfl⟩
      have up : ∀ {Q : Option Value → sm_S → Prop} (τ : sm_S) (u3 u4 u5 : Value), (∀ i, i < 2662 → τ 1 i = v i) → (∀ i, i < 2662 → τ 3 i = v i) → (∀ (a4 a5 : Int32) (ω : sm_S), (a4 = 0 ↔ v' (2358 + 8 * k) ≠ 0) → (∀ i, i < 2662 → ω 1 i = v i) → (∀ k, 2 ≤ k → ω k = τ k) → ω 0 = τ 0 → ((a4 = 0 → xE xN m_M_easiestNow 31 [.ref 0, .int a2, .int (a3 + 1), .int y, .int a4, .int a5] [] ω Q) ∧ (¬ (a4 = 0) → ((a2 = (-1) → (∀ σ1, σ1 = sm_set ω 0 (upd (ω 0) 5 y) → xE xN m_M_easiestNow 31 [.ref 0, .int a3, .int (a3 + 1), .int y, .int a4, .int a5] [] σ1 Q)) ∧ (¬ (a2 = (-1)) → ((y < (ω 0 5) → (∀ σ2, σ2 = sm_set ω 0 (upd (ω 0) 5 y) → xE xN m_M_easiestNow 31 [.ref 0, .int a3, .int (a3 + 1), .int y, .int a4, .int a5] [] σ2 Q)) ∧ (¬ (y < (ω 0 5)) → xE xN m_M_easiestNow 31 [.ref 0, .int a2, .int (a3 + 1), .int y, .int a4, .int a5] [] ω Q))))))) → xE xN m_M_easiestNow 31 [.ref 0, .int a2, .int a3, u3, u4, u5] [] τ Q := fun {Q} τ u3 u4 u5 e1 e3' K => by
        refine w_N_easiestNow_31 a2 a3 u3 u4 u5 τ Q ⟨fun z => absurd z nle, fun _ => (cgR τ e1).int ?_⟩
        rintro y2 τ2 ⟨ey2, es2⟩
        rw [ey2, es2, x1]
        obtain ⟨w1, hw1, run⟩ := gaR τ e1
        refine ⟨fun _ => run.int ?_, fun z => absurd (by decide) z⟩
        rintro y4 τ4 ⟨ey4, es4⟩
        rw [ey4, es4]
        refine (n_spanState h3 hs _).int ?_
        rintro y6 τ6 ⟨ey6, es6⟩
        rw [s_at, hw1 _ (by omega)] at ey6
        rw [es6]
        have m2 : ∀ k, 2 ≤ k → (sm_set τ 1 w1) k = τ k := fun k hk => s_ne (by omega)
        have m0 : (sm_set τ 1 w1) 0 = τ 0 := s_ne (by decide)
        refine ⟨fun z => ?_, fun z => ?_⟩
        · exact l_rs72 (τ0 := τ) e3' (fun a5 ω q1 q2 q3 => K 0 a5 ω ⟨fun _ => by rw [← ey6]; exact z, fun _ => rfl⟩ q1 q2 q3) 2662 0 0 _ rfl (Nat.zero_add _) m2 (fun i hi => by omega) m0
        · exact l_rs72 (τ0 := τ) e3' (fun a5 ω q1 q2 q3 => K 1 a5 ω ⟨fun q => absurd q (by decide), fun q => absurd (by rw [← ey6]; exact Classical.not_not.mp z) q⟩ q1 q2 q3) 2662 0 0 _ rfl (Nat.zero_add _) m2 (fun i hi => by omega) m0
      have cl : ∀ {Q : Option Value → sm_S → Prop}, ((x4 = 0 → xE xF m_H_findEasiest 4 [.ref 85, .ref 86, .int a2, .int (a3 + 1)] [] σ3 Q) ∧ (¬ (x4 = 0) → ((a2 = (-1) → (∀ σ5, σ5 = sm_set σ3 85 (upd (σ3 85) 4 (σ3 85 3)) → xE xF m_H_findEasiest 4 [.ref 85, .ref 86, .int a3, .int (a3 + 1)] [] σ5 Q)) ∧ (¬ (a2 = (-1)) → (((σ3 85 4) ≤ (σ3 85 3) → xE xF m_H_findEasiest 4 [.ref 85, .ref 86, .int a2, .int (a3 + 1)] [] σ3 Q) ∧ (¬ ((σ3 85 4) ≤ (σ3 85 3)) → (∀ σ6, σ6 = sm_set σ3 85 (upd (σ3 85) 4 (σ3 85 3)) → xE xF m_H_findEasiest 4 [.ref 85, .ref 86, .int a3, .int (a3 + 1)] [] σ6 Q))))))) → xE xF m_H_findEasiest 4 [.ref 85, .ref 86, .int a2, .int a3] [] σ Q := fun {Q} hQ => by
        refine f_H_findEasiest_t_4 a2 a3 σ Q ⟨fun z => absurd z nle, fun _ => cx.int ?_⟩
        rintro y2 τ2 ⟨ey2, es2⟩
        rw [ey2, es2, x1]
        refine ⟨fun z => absurd z (by decide), fun _ => C3.int ?_⟩
        rintro y4 τ4 ⟨ey4, es4⟩
        rw [ey4, es4]
        exact hQ
      have stay : (v' (2358 + 8 * k) ≠ 0 ∨ (a2 ≠ -1 ∧ σ3 85 4 ≤ σ3 85 3)) → ∃ (r : Int32) (σ' : sm_S), xE xF m_H_findEasiest 4 [.ref 85, .ref 86, .int a2, .int a3] [] σ (sm_I (fun x ω => x = r ∧ ω = σ')) ∧ th σ σ' ∧ kl (bs 43 σ') ∧ ∀ (τ : sm_S) (u3 u4 u5 : Value), (∀ i, i < 2662 → τ 1 i = v i) → (∀ i, i < 2662 → τ 3 i = v i) → (a2 ≠ -1 → σ 85 4 = τ 0 5) → fnd v a2 → xE xN m_M_easiestNow 31 [.ref 0, .int a2, .int a3, u3, u4, u5] [] τ (sm_I (fun x ω => x = r ∧ (∀ i, i < 2662 → ω 1 i = v i) ∧ ω 2 = τ 2 ∧ (r ≠ -1 → σ' 85 4 = ω 0 5) ∧ fnd v r)) := fun why => by
        obtain ⟨r, σ', C5, o5, k5, R5⟩ := ih (k + 1) a2 (a3 + 1) σ3 h3' (by omega) hT3 t3.k
        refine ⟨r, σ', cl ⟨fun _ => C5, fun z => ?_⟩, o3.tr o5, k5, fun τ u3 u4 u5 e1 e3' e5 hf => up τ u3 u4 u5 e1 e3' (fun a4 a5 ω z4 w1 w2 w0 => ?_)⟩
        · have nz := h4.b.2.mp z
          obtain ⟨n2, le⟩ := why.resolve_left (fun q => q nz)
          exact ⟨fun q => absurd q n2, fun _ => ⟨fun _ => C5, fun q => absurd le q⟩⟩
        · have w05 : a2 ≠ -1 → σ3 85 4 = ω 0 5 := fun q => by rw [e4, w0]; exact e5 q
          have go := R5 ω (.int y) (.int a4) (.int a5) w1 (fun i hi => by rw [w2 3 (by omega)]; exact e3' i hi) w05 hf
          have go2 : xE xN m_M_easiestNow 31 [.ref 0, .int a2, .int (a3 + 1), .int y, .int a4, .int a5] [] ω (sm_I (fun x ω => x = r ∧ (∀ i, i < 2662 → ω 1 i = v i) ∧ ω 2 = τ 2 ∧ (r ≠ -1 → σ' 85 4 = ω 0 5) ∧ fnd v r)) := go.mono (by
            rintro r0 ω' ⟨z, q0, q1, q2, q3, q4⟩
            exact ⟨z, q0, q1, q2, by rw [q3, w2 2 (by omega)], q4⟩)
          refine ⟨fun _ => go2, fun z => ?_⟩
          have nz : v' (2358 + 8 * k) = 0 := Classical.byContradiction (fun q => z (z4.mpr q))
          obtain ⟨n2, le⟩ := why.resolve_left (fun q => q nz)
          refine ⟨fun q => absurd q n2, fun _ => ⟨fun q => ?_, fun _ => go2⟩⟩
          exfalso
          rw [← w05 n2, t_lt] at q
          rw [t_le, e3] at le
          omega
      have take : v' (2358 + 8 * k) = 0 → (a2 = -1 ∨ ¬ σ3 85 4 ≤ σ3 85 3) → ∃ (r : Int32) (σ' : sm_S), xE xF m_H_findEasiest 4 [.ref 85, .ref 86, .int a2, .int a3] [] σ (sm_I (fun x ω => x = r ∧ ω = σ')) ∧ th σ σ' ∧ kl (bs 43 σ') ∧ ∀ (τ : sm_S) (u3 u4 u5 : Value), (∀ i, i < 2662 → τ 1 i = v i) → (∀ i, i < 2662 → τ 3 i = v i) → (a2 ≠ -1 → σ 85 4 = τ 0 5) → fnd v a2 → xE xN m_M_easiestNow 31 [.ref 0, .int a2, .int a3, u3, u4, u5] [] τ (sm_I (fun x ω => x = r ∧ (∀ i, i < 2662 → ω 1 i = v i) ∧ ω 2 = τ 2 ∧ (r ≠ -1 → σ' 85 4 = ω 0 5) ∧ fnd v r)) := fun of why => by
        have o5' : th σ3 (sm_set σ3 85 (upd (σ3 85) 4 (σ3 85 3))) := fun a ha => s_ne (by omega)
        have hT5 : tie False N (bs 86 (sm_set σ3 85 (upd (σ3 85) 4 (σ3 85 3)))) v := hT3.eq (eqT.of (fun k hk => o5' (86 + k) (by omega))) (fun _ _ => rfl)
        have k5' : kl (bs 43 (sm_set σ3 85 (upd (σ3 85) 4 (σ3 85 3)))) := kl_of (σ := bs 43 σ3) (by show (sm_set σ3 85 (upd (σ3 85) 4 (σ3 85 3))) 77 5 = σ3 77 5; rw [s_ne (by decide)]) t3.k
        obtain ⟨r, σ', C5, o5, k5, R5⟩ := ih (k + 1) a3 (a3 + 1) (sm_set σ3 85 (upd (σ3 85) 4 (σ3 85 3))) h3' (by omega) hT5 k5'
        have e54 : (sm_set σ3 85 (upd (σ3 85) 4 (σ3 85 3))) 85 4 = y := by rw [s_at, u_at, e3]
        have ff : fnd v a3 := Or.inr ⟨k, hs, h3, rx, y, v', RG, of⟩
        refine ⟨r, σ', cl ⟨fun z => absurd of (h4.b.1.mp z), fun _ => ⟨fun _ σ5 q5 => by rw [q5]; exact C5, fun n2 => ⟨fun q => ?_, fun _ σ5 q5 => by rw [q5]; exact C5⟩⟩⟩, (o3.tr o5').tr o5, k5, fun τ u3 u4 u5 e1 e3' e5 hf => up τ u3 u4 u5 e1 e3' (fun a4 a5 ω z4 w1 w2 w0 => ?_)⟩
        · rcases why with z | z
          · exact absurd z n2
          · exact absurd q z
        · have go2 : ∀ σ1, σ1 = sm_set ω 0 (upd (ω 0) 5 y) → xE xN m_M_easiestNow 31 [.ref 0, .int a3, .int (a3 + 1), .int y, .int a4, .int a5] [] σ1 (sm_I (fun x ω => x = r ∧ (∀ i, i < 2662 → ω 1 i = v i) ∧ ω 2 = τ 2 ∧ (r ≠ -1 → σ' 85 4 = ω 0 5) ∧ fnd v r)) := fun σ1 q1 => by
            have go := R5 σ1 (.int y) (.int a4) (.int a5) (fun i hi => by rw [q1, s_ne (by decide)]; exact w1 i hi) (fun i hi => by rw [q1, s_ne (by decide), w2 3 (by omega)]; exact e3' i hi) (fun _ => by rw [e54, q1, s_at, u_at]) ff
            refine go.mono ?_
            rintro r0 ω' ⟨z, q0, q2, q3, q4, q5⟩
            exact ⟨z, q0, q2, q3, by rw [q4, q1, s_ne (by decide), w2 2 (by omega)], q5⟩
          refine ⟨fun z => absurd of (z4.mp z), fun _ => ⟨fun _ => go2, fun n2 => ⟨fun _ => go2, fun q => ?_⟩⟩⟩
          exfalso
          have le := why.resolve_left n2
          have w05 : σ3 85 4 = ω 0 5 := by rw [e4, w0]; exact e5 n2
          rw [← w05, t_lt] at q
          rw [t_le, e3] at le
          omega
      by_cases of : v' (2358 + 8 * k) = 0
      · by_cases am : a2 = -1
        · exact take of (Or.inl am)
        · by_cases le : σ3 85 4 ≤ σ3 85 3
          · exact stay (Or.inr ⟨am, le⟩)
          · exact take of (Or.inr le)
      · exact stay (Or.inl of)
    · obtain ⟨r, σ', C5, o5, k5, R5⟩ := ih (k + 1) a2 (a3 + 1) σ h3' (by omega) hT hl
      refine ⟨r, σ', f_H_findEasiest_t_4 a2 a3 σ _ ⟨fun z => absurd z nle, fun _ => cx.int ?_⟩, o5, k5, fun τ u3 u4 u5 e1 e3' e5 hf => w_N_easiestNow_31 a2 a3 u3 u4 u5 τ _ ⟨fun z => absurd z nle, fun _ => (cgR τ e1).int ?_⟩⟩
      · rintro y2 τ2 ⟨ey2, es2⟩
        rw [ey2, es2]
        exact ⟨fun _ => C5, fun z => absurd x0 z⟩
      · rintro y2 τ2 ⟨ey2, es2⟩
        rw [ey2, es2]
        exact ⟨fun z => absurd x0 z, fun _ => R5 τ u3 u4 u5 e1 e3' e5 hf⟩
theorem p_fe_t {N : Nat} {v : Nat → Int32} {σ : sm_S} (hj : jj N v) (hx : jx v) (hN : N < 1900000000) (hT : tie False N (bs 86 σ) v) (hl : kl (bs 43 σ)) : ∃ (r : Int32) (σ' : sm_S), xC xF j_H_findEasiest [.ref 85, .ref 86] σ (sm_I (fun x ω => x = r ∧ ω = σ')) ∧ th σ σ' ∧ kl (bs 43 σ') ∧ ∀ τ : sm_S, (∀ i, i < 2662 → τ 1 i = v i) → xC xN j_M_easiestNow [.ref 0] τ (sm_I (fun x ω => x = r ∧ (∀ i, i < 2662 → ω 1 i = v i) ∧ ω 2 = τ 2 ∧ (r ≠ -1 → σ' 85 4 = ω 0 5) ∧ fnd v r)) := by
  obtain ⟨r, σ', C5, o5, k5, R5⟩ := l_fe_t hj hx hN 8 0 (-1) 0 σ rfl rfl hT hl
  refine ⟨r, σ', f_H_findEasiest_t σ _ C5, o5, k5, fun τ e1 => w_N_easiestNow τ _ (l_en4 2662 0 _ 0 _ _ _ τ _ rfl (Nat.zero_add _) (fun f f1 _ => ?_))⟩
  refine (R5 (sm_set τ 3 f) _ _ _ (fun i hi => by rw [s_ne (by decide)]; exact e1 i hi) (fun i hi => by rw [s_at, f1 i (Nat.zero_le i) hi]; exact e1 i hi) (fun z => absurd rfl z) (Or.inl rfl)).mono ?_
  rintro r0 ω' ⟨z, q0, q2, q3, q4, q5⟩
  exact ⟨z, q0, q2, q3, by rw [q4, s_ne (by decide)], q5⟩
def onCt (v : Nat → Int32) : Nat := sumN (fun s => if v (2358 + 8 * s) = 0 then 0 else 1) 8
theorem fnd_on {v : Nat → Int32} {x : Int32} {s : Nat} (h1 : x.toInt = ((s : Nat) : Int)) (rx : rdI j_M_canGo [.ref 0, .int x] v 1 v) : v (2358 + 8 * s) = 1 ∧ onElse v 0 x := by
  obtain ⟨hq, -⟩ := rx.det (c_canGo x (rz v))
  rw [rz_at] at hq
  rcases hq with q | ⟨-, s', hs', h1', hon, hel⟩
  · exact absurd q (by decide)
  · have es : s' = s := by omega
    rw [es] at hon
    exact ⟨hon, hel⟩
theorem fnd_no {v : Nat → Int32} {x : Int32} (h : fnd v x) (h0 : onCt v ≤ 0) : x = -1 := by
  rcases h with z | ⟨s, hs, h1, rx, -⟩
  · exact z
  · exfalso
    have on := (fnd_on h1 rx).1
    have q : (if v (2358 + 8 * s) = 0 then 0 else 1) ≤ onCt v := sumN_ge (F := fun s => if v (2358 + 8 * s) = 0 then 0 else 1) hs
    rw [on, if_neg (by decide)] at q
    omega
theorem onCt_lt {v w : Nat → Int32} {s : Nat} (hs : s < 8) (h : ∀ t, t < 8 → v (2358 + 8 * t) = 0 → w (2358 + 8 * t) = 0) (h1 : v (2358 + 8 * s) ≠ 0) (h0 : w (2358 + 8 * s) = 0) : onCt w + 1 ≤ onCt v := by
  have q := (sumN_ch (F := fun t => if v (2358 + 8 * t) = 0 then 0 else 1) (G := fun t => if t = s then 0 else (if v (2358 + 8 * t) = 0 then 0 else 1)) (s := s) (n := 8) (fun i hi q => if_neg q)).1 hs
  have q : sumN (fun t => if t = s then 0 else (if v (2358 + 8 * t) = 0 then 0 else 1)) 8 + (if v (2358 + 8 * s) = 0 then 0 else 1) = onCt v + (if s = s then 0 else (if v (2358 + 8 * s) = 0 then 0 else 1)) := q
  rw [if_neg h1, if_pos rfl] at q
  have le : onCt w ≤ sumN (fun t => if t = s then 0 else (if v (2358 + 8 * t) = 0 then 0 else 1)) 8 := sumN_le (fun t ht => by
    by_cases e : t = s
    · rw [e, h0, if_pos rfl]
      exact Nat.zero_le _
    · rw [if_neg e]
      by_cases z : v (2358 + 8 * t) = 0
      · rw [if_pos z, if_pos (h t ht z)]
        exact Nat.le_refl _
      · rw [if_neg z]
        split <;> omega)
  omega
theorem l_gb2 : ∀ (m k N : Nat) (aK : Int32) (v3 : Value) (σ : sm_S) (v : Nat → Int32), aK.toInt = ((k : Nat) : Int) → k + m = 8 → tie False N (bs 86 σ) v → jj N v → jx v → kl (bs 43 σ) → onCt v ≤ m → N + 4800001 * m < 1700000000 → ∃ r : Int32, xE xF m_A_givenBack 18 [.ref 42, .ref 86, .int aK, v3] [] σ (sm_I (fun x _ => x = r)) ∧ ∀ τ : sm_S, (∀ i, i < 2662 → τ 1 i = v i) → xC xN j_M_easiestNow [.ref 0] τ (sm_ri False (fun x4 σ3 => xE xN m_M_givenBack 16 [.ref 0, .int aK, .int x4] [] σ3 (sm_I (fun x _ => x = r)))) := by
  intro m
  induction m with
  | zero =>
    intro k N aK v3 σ v hK hk hT hj hx hl hc hN
    obtain ⟨r0, σ1, C0, o0, k0, R0⟩ := p_fe_t hj hx (by omega) hT hl
    have le : (8 : Int32) ≤ aK := by
      rw [t_le, hK]
      show (8 : Int) ≤ _
      omega
    have e8 : aK = 8 := t_inj (by rw [hK, show k = 8 by omega]; rfl)
    refine ⟨8, f_A_givenBack_18 aK v3 σ _ ⟨fun _ => an_ rfl, fun z => absurd le z⟩, fun τ e1 => (R0 τ e1).int ?_⟩
    rintro x4 ω ⟨ex4, -, -, -, ff⟩
    have xm := fnd_no ff hc
    rw [ex4]
    exact w_N_givenBack_16 aK r0 ω _ ⟨fun _ => (n_forgets ω).void (fun _ _ => an_ e8), fun z => absurd xm z⟩
  | succ m ih =>
    intro k N aK v3 σ v hK hk hT hj hx hl hc hN
    have nle : ¬ (8 : Int32) ≤ aK := by
      rw [t_le, hK]
      show ¬ (8 : Int) ≤ _
      omega
    have hK' : (aK + 1).toInt = ((k + 1 : Nat) : Int) := by
      rw [t_add hK (y := 1) rfl (by omega) (by omega)]
      omega
    obtain ⟨r0, σ1, C0, o0, k0, R0⟩ := p_fe_t hj hx (by omega) hT hl
    have ff : fnd v r0 := by
      obtain ⟨M, -, n, r, ω, -, x, -, -, -, -, -, ff⟩ := R0 (rz v) (fun i _ => by rw [rz_at])
      exact ff
    rcases ff with rm | ⟨s, hs, h1, rx, y0, w0, RG0, off0⟩
    · refine ⟨aK, f_A_givenBack_18 aK v3 σ _ ⟨fun z => absurd z nle, fun _ => C0.int ?_⟩, fun τ e1 => (R0 τ e1).int ?_⟩
      · rintro x2 σ2 ⟨ex2, es2⟩
        rw [ex2, es2]
        exact ⟨fun z => absurd rm z, fun _ => an_ rfl⟩
      · rintro x4 ω ⟨ex4, -⟩
        rw [ex4]
        exact w_N_givenBack_16 aK r0 ω _ ⟨fun _ => (n_forgets ω).void (fun _ _ => an_ rfl), fun z => absurd rm z⟩
    · have rn : r0 ≠ -1 := ne_m1 h1
      have hT1 : tie False N (bs 86 σ1) v := hT.eq (eqT.of (fun k hk => o0 (86 + k) (by omega))) (fun _ _ => rfl)
      obtain ⟨y, v', N', RG, j', x', n', C⟩ := p_try_t h1 hs hT1 k0 hj hx (by omega) rx
      obtain ⟨-, ew⟩ := RG.cg RG0 (fun _ _ => rfl)
      have off : v' (2358 + 8 * s) = 0 := by rw [← ew _ (by omega)]; exact off0
      obtain ⟨x4, σ3, ⟨-, -, t3, o3, -⟩, C3⟩ := pickI C
      have k86 : kl (bs 86 σ3) := kl_of (σ := bs 86 σ1) (by show σ3 (86 + 34) 5 = σ1 (86 + 34) 5; rw [o3 _ (by omega)]) hT1.k
      obtain ⟨σ5, ⟨t5, o5⟩, C5⟩ := pickV (x_cpyT shP4 t3 k86)
      have k43 : kl (bs 43 σ5) := kl_of (σ := bs 43 σ3) (by show σ5 (43 + 34) 5 = σ3 (43 + 34) 5; rw [o5 _ (by omega)]) t3.k
      obtain ⟨on, hel⟩ := fnd_on h1 rx
      have offs' : ∀ t, t < 8 → v (2358 + 8 * t) = 0 → v' (2358 + 8 * t) = 0 := by
        obtain ⟨wq, Nq, eq, -, -, -, os⟩ := RG.det (c_goesAway (N := N) h1 hs (by omega) (rz v) (by rw [rz_at]; exact hj) (by rw [rz_at]; exact on) (by rw [rz_at]; exact hel))
        rw [rz_eq eq, rz_at] at os
        exact os
      have lt := onCt_lt hs offs' (by rw [on]; decide) off
      obtain ⟨r, CC, RR⟩ := ih (k + 1) N' (aK + 1) (.int r0) σ5 v' hK' (by omega) t5 j' x' k43 (by omega) (by omega)
      refine ⟨r, f_A_givenBack_18 aK v3 σ _ ⟨fun z => absurd z nle, fun _ => C0.int ?_⟩, fun τ e1 => (R0 τ e1).int ?_⟩
      · rintro x2 σ2 ⟨ex2, es2⟩
        rw [ex2, es2]
        refine ⟨fun _ => C3.int ?_, fun z => absurd rn z⟩
        rintro x6 σ6 ⟨-, es6⟩
        rw [es6]
        refine C5.void ?_
        rintro σ7 es7
        rw [es7]
        exact CC
      · rintro x4 ω ⟨ex4, e2, -, -, -⟩
        rw [ex4]
        obtain ⟨xx, rx1, -, -⟩ := p_canGoT (hT1.eq (eqT.of (fun _ _ => rfl)) e2).s h1 hs
        have q := (rx.cg rx1 e2).1
        rw [q] at rx1
        obtain ⟨y1, w1, N1, RG1, -, -, -, -⟩ := p_try_t h1 hs (hT1.eq (eqT.of (fun _ _ => rfl)) e2) k0 (jj_eq e2 hj) (hx.eq e2) (by omega) rx1
        obtain ⟨-, q2⟩ := RG.cg RG1 e2
        refine w_N_givenBack_16 aK r0 ω _ ⟨fun z => absurd z rn, fun _ => (RG1.N rfl).int ?_⟩
        rintro x7 τ7 ⟨-, es7⟩
        rw [es7]
        exact RR (sm_set ω 1 w1) (fun i hi => by rw [s_at]; exact q2 i hi)
theorem ky_givenBack {N : Nat} (σ : sm_S) (hN : N < 1600000000) (hw : WW σ) (h : tw N σ (σ 169)) : kyN j_A_givenBack j_M_givenBack [.ref 42] [.ref 0] σ := by
  obtain ⟨ht, hj, hx⟩ := h
  obtain ⟨σ1, ⟨t1, o1⟩, C1⟩ := pickV (x_cpyT shP3 ht.z0 hw.2.2.1)
  have k43 : kl (bs 43 σ1) := kl_of (σ := bs 43 σ) (by show σ1 (43 + 34) 5 = σ (43 + 34) 5; rw [o1 _ (by omega)]) hw.2.1
  have le8 : onCt (σ 169) ≤ 8 := by
    have q : onCt (σ 169) ≤ 1 * 8 := sumN_bd (fun s => by split <;> omega)
    omega
  obtain ⟨r, CC, RR⟩ := l_gb2 8 0 N 0 .null σ1 (σ 169) rfl rfl t1 hj hx k43 le8 (by omega)
  refine ⟨r, f_A_givenBack σ _ (C1.void ?_), fun σ2 e2 => w_N_givenBack σ2 _ (fun σ3 e3 => (n_thinks σ3).void ?_)⟩
  · rintro σ4 es4
    rw [es4]
    exact CC
  · obtain ⟨f1, -⟩ := told1 e2 e3
    rintro σ4 ⟨f, es4, -⟩
    exact RR σ4 (fun i _ => by rw [es4, s_ne (by decide), f1])
theorem ce_givenBack {B : Nat} (σ : sm_S) (hB : B < 1500000000) (h : LR B σ) : two (fun x y => x = y) j_A_givenBack j_M_givenBack [.ref 42] [.ref 168] B σ := by
  have h2 := h
  obtain ⟨hL, ⟨N, hN, ht⟩, -⟩ := h2
  exact CLkN h (a_givenBackQ σ h.1.1) (fun σ1 q => m_givenBack σ1 hB q.2.1) (fun σ1 q => by
    obtain ⟨N, hN, hj⟩ := (lw_bs q.2.1).1
    exact qUN (as := [.ref 0]) rfl (k_givenBack (N := N) (by omega) (sh rM σ1) hj)) (asM := [.ref 0]) rfl (ky_givenBack σ (by omega) h.1.1 ht)
end
