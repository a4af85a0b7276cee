/-! ===== the simulation: bring | take ===== -/
theorem bnC_s {c : sm_S} {b k : Nat} {x2 x3 x4 x5 : Int32} {w : Nat → Int32} (h : k < 9 ∨ 15 < k) : bnC (sm_set c k w) b x2 x3 x4 x5 = sm_set (bnC c b x2 x3 x4 x5) k w := by
  unfold bnC
  rw [s_ne (show 9 ≠ k by omega), s_ne (show 10 ≠ k by omega), s_ne (show 11 ≠ k by omega), s_ne (show 12 ≠ k by omega), s_ne (show 13 ≠ k by omega), s_ne (show 14 ≠ k by omega), s_ne (show 15 ≠ k by omega), s_com (show k ≠ 9 by omega), s_com (show k ≠ 10 by omega), s_com (show k ≠ 11 by omega), s_com (show k ≠ 12 by omega), s_com (show k ≠ 13 by omega), s_com (show k ≠ 14 by omega), s_com (show k ≠ 15 by omega)]
theorem sim_us {c : sm_S} {v : Nat → Int32} (h : sim0 c v) (hk : ∀ b, b < 96 → bk_ok v b) : sim0 (sm_set c 8 (upd (c 8) 8 (c 8 8 + 1))) (upd v 6 (v 6 + 1)) := by
  have g := h.N
  refine h.n0 hk (fun k h1 h2 h3 => s_ne h3) (fun i h1 h2 => u_ne (by omega)) ⟨?_, ?_, ?_, ?_, fun k hk => ?_, ?_, ?_⟩
  · rw [s_ne (by decide), u_ne (by decide)]; exact g.rat
  · rw [s_ne (by decide), u_ne (by decide)]; exact g.tri
  · rw [s_ne (by decide), u_ne (by decide)]; exact g.rto
  · rw [s_ne (by decide), u_ne (by decide)]; exact g.pau
  · rw [s_ne (by decide), u_ne (by omega)]; exact g.cnt k hk
  · rw [s_ne (by decide), u_ne (by decide)]; exact g.tic
  · rw [s_at, u_at, u_at, g.use]
/-- where a place is found, or none: the block begins, or none does -/
theorem p_end {g : Prop} {N m o : Nat} {c : sm_S} {v : Nat → Int32} {a1 a2 a3 a4 a5 : Int32} (h : tie g N c v) (hj : jj N v) (hx : jx v) (h1 : a1.toInt = m) (hm : m < 6) (h2 : a2 = 0 ∨ a2 = 1 ∨ a2 = 2) (h3 : a3.toInt = o) (ho : o ≤ 4) (hp : a5 = -1 ∨ ∃ p : Nat, a5.toInt = p ∧ p < 256 ∧ p % 2 ^ o = 0 ∧ ∀ f, p ≤ f → f < p + 2 ^ o → v (18 + 3 * f) = 1) : ∃ v' c' y,
    (∀ (σ : sm_S) (Q : Option Value → sm_S → Prop), σ 1 = v → Q (some (.int y)) (sm_set σ 1 v') → xC xM j_M_freeNumber [.ref 0] σ (sm_ri False (fun x2 σ1 => ((a5 = (-1) → xC xM j_M_counts [.ref 0, .int 1, .int 1] σ1 (sm_rv False (fun σ3 => Q (some (.int (-1))) σ3))) ∧ (¬ (a5 = (-1)) → ((x2 ≠ (-1) → xC xM j_M_more [.ref 0, .int 6, .int 1] σ1 (sm_rv False (fun σ4 => (vp_in (6 : Int32) 2662 ∧ xC xM j_M_comes [.ref 0, .int x2, .int a5, .int a3, .int a2, .int a1, .int (σ4 1 ((6 : Int32)).toNatClampNeg)] σ4 (sm_rv False (fun σ5 => xE xM m_M_take 135 [.ref 0, .int a1, .int a2, .int a3, .int a4, .int a5, .int x2, .int 0] [] σ5 Q)))))) ∧ (¬ (x2 ≠ (-1)) → xC xM j_M_counts [.ref 0, .int 1, .int 1] σ1 (sm_rv False (fun σ6 => Q (some (.int (-1))) σ6))))))))) ∧
    (∀ Q : Option Value → sm_S → Prop, Q (some (.int y)) c' → xC xD j_B_leastNumber [.ref 8] c (sm_ri False (fun x2 σ1 => ((a5 = (-1) → (vp_in (1 : Int32) 11 ∧ (vp_in (1 : Int32) 11 ∧ ∀ σ3, σ3 = sm_set σ1 40 (upd (σ1 40) ((1 : Int32)).toNatClampNeg ((σ1 40 ((1 : Int32)).toNatClampNeg) + 1)) → Q (some (.int (-1))) σ3))) ∧ (¬ (a5 = (-1)) → ((x2 ≠ (-1) → xC xD j_B_begin [.ref 8, .int x2, .int a5, .int a3, .int a2, .int a1] σ1 (sm_rv False (fun σ4 => (∀ σ5, σ5 = sm_set σ4 8 (upd (σ4 8) 8 ((σ4 8 8) + 1)) → (vp_in x2 96 ∧ ∀ σ6, σ6 = sm_set σ5 16 (upd (σ5 16) (x2).toNatClampNeg (σ5 8 8)) → xC xD j_F_give [.ref 1, .int x2, .int a5, .int ((1 : Int32) <<< (a3 &&& 31))] σ6 (sm_rv False (fun σ7 => xE xD m_Y_bring 166 [.ref 0, .int a1, .int a2, .int a3, .int a4, .int a5, .int x2, .int 0] [] σ7 Q))))))) ∧ (¬ (x2 ≠ (-1)) → (vp_in (1 : Int32) 11 ∧ (vp_in (1 : Int32) 11 ∧ ∀ σ8, σ8 = sm_set σ1 40 (upd (σ1 40) ((1 : Int32)).toNatClampNeg ((σ1 40 ((1 : Int32)).toNatClampNeg) + 1)) → Q (some (.int (-1))) σ8))))))))) ∧
    tie g N c' v' ∧ jj N v' ∧ jx v' := by
  obtain ⟨x, rx, rcx, hxx⟩ := p_num h.s
  have v1 : vp_in (1 : Int32) 11 := t_vp (n := 1) rfl (by omega)
  by_cases none : a5 = -1 ∨ x = -1
  · have t1 := h.cnt (k := 1) (by decide) 1
    refine ⟨cnF v 1 1, _, -1, fun σ Q e hQ => (rx σ e).int ?_, fun Q hQ => rcx.int ?_, t1, jj_cn hj (by decide), hx.cg (fun b k _ _ => u_ne (by omega)) (fun s' hs' z => ⟨fun y => z ((u_ne (by omega)).trans y), u_ne (by omega)⟩) (u_ne (by omega)) (fun i i1 i2 => u_ne (by omega))⟩
    · rintro y σ1 ⟨ey, es⟩
      have es' : σ1 = σ := by rw [es, ← e, s_id]
      rw [ey, es']
      have fin : xC xM j_M_counts [.ref 0, .int 1, .int 1] σ (sm_rv False (fun σ3 => Q (some (.int (-1))) σ3)) := by
        refine (c_counts (j := 1) rfl (by decide) 1 σ).void ?_
        rintro _ rfl
        rw [e]
        exact hQ
      exact ⟨fun _ => fin, fun q => ⟨fun q2 => absurd none (fun z => z.elim q q2), fun _ => fin⟩⟩
    · rintro y σ1 ⟨ey, es⟩
      rw [ey, es]
      have fin : vp_in (1 : Int32) 11 ∧ (vp_in (1 : Int32) 11 ∧ ∀ σ3, σ3 = sm_set c 40 (upd (c 40) ((1 : Int32)).toNatClampNeg ((c 40 ((1 : Int32)).toNatClampNeg) + 1)) → Q (some (.int (-1))) σ3) := ⟨v1, v1, fun σ3 e3 => by rw [e3]; exact hQ⟩
      exact ⟨fun _ => fin, fun q => ⟨fun q2 => absurd none (fun z => z.elim q q2), fun _ => fin⟩⟩
  · have am : a5 ≠ -1 := fun z => none (Or.inl z)
    have xm : x ≠ -1 := fun z => none (Or.inr z)
    rcases hp with z | ⟨p, p1, p2, p3, p4⟩
    · exact absurd z am
    rcases hxx with ⟨z, -⟩ | ⟨n, n1, n2, n0⟩
    · exact absurd z xm
    have hle := al_le ho p2 p3
    have hpw := t_pw (k := o) (by omega)
    have n9 := hj.dead n1 n0
    have s1 := sim_us h.s h.b
    have u6 : ∀ i, i ≠ 6 → upd v 6 (v 6 + 1) i = v i := fun i hi => u_ne hi
    have j1 : jj N (upd v 6 (v 6 + 1)) := jj_low (by decide) (by decide) hj
    have s2 := sim_comes (x4 := a2) (x5 := a1) (x6 := v 6 + 1) s1 j1.2.1.1 n1 n2 (by rw [u6 _ (by omega)]; exact n0) (by rw [u6 _ (by omega)]; exact n9) p1 h3 ho p2 p3 (fun j hj => by rw [u6 _ (by omega)]; exact p4 _ (by omega) (by omega))
    have runC : rd j_M_comes [.ref 0, .int x, .int a5, .int a3, .int a2, .int a1, .int (v 6 + 1)] (upd v 6 (v 6 + 1)) (hsF (blF (upd v 6 (v 6 + 1)) n a5 a3 a2 a1 (v 6 + 1)) p (2 ^ o) 3 (x + 1)) := fun σ e => by
      rw [← e]
      exact c_comes2 n2 n1 p1 h3 ho hle _ _ _ σ
    obtain ⟨w, ew, jw, -⟩ := runC.det (c_comes (N := N) n2 n1 p1 p2 h3 ho p3 h1 hm (rz (upd v 6 (v 6 + 1))) (by rw [rz_at]; exact j1) (by rw [rz_at, u6 _ (by omega)]; exact n0))
    rw [rz_eq ew] at jw
    have o2 : ∀ i, i < 18 ∨ 2322 ≤ i → hsF (blF (upd v 6 (v 6 + 1)) n a5 a3 a2 a1 (v 6 + 1)) p (2 ^ o) 3 (x + 1) i = upd v 6 (v 6 + 1) i := fun i hi => by rw [hsF_out (by omega), blF_out (by omega)]
    have t2 : tie g N (gvC (cmC (sm_set c 8 (upd (c 8) 8 (c 8 8 + 1))) n a5 a3 a2 a1 (v 6 + 1)) 4 x p o) (hsF (blF (upd v 6 (v 6 + 1)) n a5 a3 a2 a1 (v 6 + 1)) p (2 ^ o) 3 (x + 1)) := by
      refine h.to s2 (fun k k1 k2 => ?_) ((o2 5 (by omega)).trans (u6 5 (by decide))) (fun i hi => (o2 i (by omega)).trans (u6 i (by omega))) jw.2.1.1
      rw [gvC_o (by omega), cmC_o (by omega), s_ne (by omega)]
    have t3 := tie_tv (x := a4) t2 (2 ^ o) hle
    have t4 := t3.cnt (k := 0) (by decide) 1
    have lo : ∀ i, (i < 18 ∨ 786 ≤ i ∨ i % 3 ≠ 2) → i ≠ 7 → cnF (tvF (hsF (blF (upd v 6 (v 6 + 1)) n a5 a3 a2 a1 (v 6 + 1)) p (2 ^ o) 3 (x + 1)) p a4 (2 ^ o)) 0 1 i = hsF (blF (upd v 6 (v 6 + 1)) n a5 a3 a2 a1 (v 6 + 1)) p (2 ^ o) 3 (x + 1) i := fun i hi h7 => (u_ne (by omega)).trans (tvF_o hi hle)
    have row : ∀ k, hsF (blF (upd v 6 (v 6 + 1)) n a5 a3 a2 a1 (v 6 + 1)) p (2 ^ o) 3 (x + 1) (786 + 16 * n + k) = blF (upd v 6 (v 6 + 1)) n a5 a3 a2 a1 (v 6 + 1) (786 + 16 * n + k) := fun k => hsF_out (by omega)
    obtain ⟨r0, r1, r2, r3, -, -⟩ := blF_0 (v := upd v 6 (v 6 + 1)) (n := n) (a2 := a5) (a3 := a3) (a4 := a2) (a5 := a1) (a6 := v 6 + 1)
    refine ⟨_, _, x, fun σ Q e hQ => (rx σ e).int ?_, fun Q hQ => rcx.int ?_, t4, ?_, ?_⟩
    · rintro y σ1 ⟨ey, es⟩
      have es' : σ1 = σ := by rw [es, ← e, s_id]
      rw [ey, es']
      refine ⟨fun z => absurd z am, fun _ => ⟨fun _ => (c_more (j := 6) rfl (by decide) 1 σ).void ?_, fun z => absurd xm z⟩⟩
      rintro σ4 e4
      rw [e] at e4
      have k6 : σ4 1 ((6 : Int32)).toNatClampNeg = v 6 + 1 := by
        rw [e4, s_at]
        exact u_at
      rw [k6]
      refine ⟨t_vp (n := 6) rfl (by omega), (runC σ4 (by rw [e4, s_at])).void ?_⟩
      rintro σ5 e5
      refine (l_tv2 (a1 := a1) (a2 := a2) (a4 := a4) (a6 := x) h3 ho p1 hle (hsF (blF (upd v 6 (v 6 + 1)) n a5 a3 a2 a1 (v 6 + 1)) p (2 ^ o) 3 (x + 1)) (2 ^ o) 0 0 σ5 (by rw [e5, s_at]; rfl) rfl (by omega)).mono ?_
      rintro r σ' ⟨y2, rfl, hy2, hs'⟩
      rw [hy2, hs', e5, s_ss, e4, s_ss]
      exact hQ
    · rintro y σ1 ⟨ey, es⟩
      rw [ey, es]
      refine ⟨fun z => absurd z am, fun _ => ⟨fun _ => (e_begin2 n2 n1 _ _ _ _ c).void ?_, fun z => absurd xm z⟩⟩
      rintro σ4 e4
      intro σ5 e5
      rw [t_nat n2]
      refine ⟨t_vp n2 n1, fun σ6 e6 => ?_⟩
      have e6' : σ6 = cmC (sm_set c 8 (upd (c 8) 8 (c 8 8 + 1))) n a5 a3 a2 a1 (v 6 + 1) := by
        have k8 : σ4 8 = c 8 := by rw [e4, bnC_o (by omega)]
        have k16 : σ5 16 = c 16 := by rw [e5, s_ne (by decide), e4, bnC_o (by omega)]
        have k88 : σ5 8 8 = c 8 8 + 1 := by
          rw [e5, s_at, k8]
          exact u_at
        rw [e6, k16, k88, e5, k8, e4]
        unfold cmC
        rw [bnC_s (by omega), ← h.s.N.use]
        rfl
      rw [e6']
      refine (e_give2 x p1 (t_pow h3 (by omega)) ho hle _).void ?_
      rintro σ7 e7
      have := l_tvC2 (a1 := a1) (a2 := a2) (a4 := a4) (a6 := x) h3 ho p1 hle σ7 (2 ^ o) 0 0 rfl (by omega)
      have z0 : sm_set σ7 7 (tvC (σ7 7) p a4 0) = σ7 := s_id
      rw [z0] at this
      refine this.mono ?_
      rintro r σ' ⟨y2, rfl, hy2, hs'⟩
      rw [hy2, hs', e7]
      exact hQ
    · have jt : jj N (tvF (hsF (blF (upd v 6 (v 6 + 1)) n a5 a3 a2 a1 (v 6 + 1)) p (2 ^ o) 3 (x + 1)) p a4 (2 ^ o)) := by
        have to : ∀ i, (i < 18 ∨ 786 ≤ i ∨ i % 3 ≠ 2) → tvF (hsF (blF (upd v 6 (v 6 + 1)) n a5 a3 a2 a1 (v 6 + 1)) p (2 ^ o) 3 (x + 1)) p a4 (2 ^ o) i = hsF (blF (upd v 6 (v 6 + 1)) n a5 a3 a2 a1 (v 6 + 1)) p (2 ^ o) 3 (x + 1) i := fun i hi => tvF_o hi hle
        refine ⟨fr_mono (fun f hf => by rw [to _ (by omega)]; exact jw.1.1 f hf) (fun b k _ _ => to _ (by omega)) (fun f hf z => ?_) jw.1, jr_cong (ceq.of (fun i i1 i2 => to i (by omega))) jw.2.1, by rw [to 5 (by omega)]; exact jw.2.2⟩
        rw [to _ (by omega)] at z
        exact ⟨z, to _ (by omega)⟩
      exact jj_cn jt (by decide)
    · refine hx.re (n := n) (fun b k q1 q2 q3 => ?_) (fun _ => ⟨fun _ => ?_, fun to2 fr2 o2 y1 y2 y3 => ?_⟩) (fun _ => ?_) (fun s' hs' z => ?_) ?_ (fun i i1 i2 => by rw [lo _ (by omega) (by omega), o2 _ (by omega), u6 _ (by omega)])
      · rw [lo _ (by omega) (by omega), hsF_out (by omega), blF_out (by omega), u6 _ (by omega)]
      · rw [lo _ (by omega) (by omega), row 7]
        exact blF_z (by decide) (by decide) (by decide)
      · rw [lo _ (by omega) (by omega), row 6, blF_z (by decide) (by decide) (by decide)] at y1
        have y1 : (0 : Int) = _ := y1
        omega
      · rw [lo _ (by omega) (by omega), row 3, r3]
        exact h2
      · rw [lo _ (by omega) (by omega), o2 _ (by omega), u6 _ (by omega)] at z
        exact ⟨z, by rw [lo _ (by omega) (by omega), o2 _ (by omega), u6 _ (by omega)]⟩
      · rw [lo _ (by omega) (by omega), o2 _ (by omega), u6 _ (by omega)]
theorem bp_fr {v : Nat → Int32} {rk : Nat → Int32} {on : Nat → Prop} {o : Nat} {x : Int32} (h : BP (frV v) rk on o x) : x = -1 ∨ ∃ p : Nat, x.toInt = p ∧ p < 256 ∧ p % 2 ^ o = 0 ∧ ∀ f, p ≤ f → f < p + 2 ^ o → v (18 + 3 * f) = 1 := by
  rcases h with ⟨z, -⟩ | ⟨p, hp, ⟨hp2, hpa, -, -, hfree⟩, -⟩
  · exact Or.inl z
  · refine Or.inr ⟨p, hp, hp2, hpa, fun f f1 f2 => ?_⟩
    have := hfree (f - p) (by omega)
    rw [al_pow hpa, show p + (f - p) = f by omega] at this
    exact this
theorem l_take2 {g : Prop} {m o : Nat} {a1 a2 a3 a4 : Int32} (h1 : a1.toInt = m) (hm : m < 6) (h2 : a2 = 0 ∨ a2 = 1 ∨ a2 = 2) (h3 : a3.toInt = o) (ho : o ≤ 4) : ∀ (K N j : Nat) (a5 a6 : Int32) (c : sm_S) (v : Nat → Int32), tie g N c v → jj N v → jx v → cn (isB v) 96 ≤ K → j + K ≤ 96 → a6.toInt = j → N + K < 2000000000 → BP (frV v) (rkV v a2 m) (onV v 0) o a5 → ∃ v' c' N' y, (∀ (σ : sm_S) (v6 v7 : Value), σ 1 = v → xE xM m_M_take 46 [.ref 0, .int a1, .int a2, .int a3, .int a4, .int a5, v6, v7] [] σ (sm_I (fun x σ' => x = y ∧ σ' = sm_set σ 1 v'))) ∧ (∀ v7 : Value, xE xD m_Y_bring 13 [.ref 0, .int a1, .int a2, .int a3, .int a4, .int a5, .int a6, v7] [] c (sm_I (fun x σ' => x = y ∧ σ' = c'))) ∧ tie g N' c' v' ∧ jj N' v' ∧ jx v' ∧ N' ≤ N + K := by
  intro K
  induction K with
  | zero =>
    intro N j a5 a6 c v h hj hx hK hj2 h6 hN hB
    obtain ⟨v', c', y, qr, qc, t', j', x'⟩ := p_end (a4 := a4) h hj hx h1 hm h2 h3 ho (bp_fr hB)
    obtain ⟨u, ru, rcu, lu⟩ := p_luc h.s hj
    have um : u = -1 := by
      rcases lu with z | ⟨n, n1, n2, n3, -⟩
      · exact z
      · have := cn_lt (P := isB v) (P' := fun _ => false) (j := n) (decide_eq_true n3) rfl (N := 96) n1 (fun i _ q => by cases q)
        omega
    refine ⟨v', c', N, y, fun σ v6 v7 e => w_M_take_46 a1 a2 a3 a4 a5 v6 v7 σ _ ⟨fun _ => qr σ _ e ⟨_, rfl, rfl, rfl⟩, fun z => (ru σ e).int ?_⟩, fun v7 => d_Y_bring_13 a1 a2 a3 a4 a5 a6 v7 c _ ⟨fun _ => qc _ ⟨_, rfl, rfl, rfl⟩, fun _ => ⟨fun _ => qc _ ⟨_, rfl, rfl, rfl⟩, fun z => rcu.int ?_⟩⟩, t', j', x', by omega⟩
    · rintro z1 σ1 ⟨ez1, es1⟩
      have es1' : σ1 = σ := by rw [es1, ← e, s_id]
      rw [ez1, es1']
      exact ⟨fun _ => qr σ _ e ⟨_, rfl, rfl, rfl⟩, fun w => absurd um w⟩
    · rintro z1 σ1 ⟨ez1, es1⟩
      rw [ez1, es1]
      exact ⟨fun w => absurd um w, fun _ => qc _ ⟨_, rfl, rfl, rfl⟩⟩
  | succ K ih =>
    intro N j a5 a6 c v h hj hx hK hj2 h6 hN hB
    have n96 : ¬ (96 : Int32) ≤ a6 := by
      rw [t_le, h6]
      show ¬ (96 : Int) ≤ _
      omega
    obtain ⟨u, ru, rcu, lu⟩ := p_luc h.s hj
    by_cases endd : a5 ≠ -1 ∨ u = -1
    · obtain ⟨v', c', y, qr, qc, t', j', x'⟩ := p_end (a4 := a4) h hj hx h1 hm h2 h3 ho (bp_fr hB)
      refine ⟨v', c', N, y, fun σ v6 v7 e => w_M_take_46 a1 a2 a3 a4 a5 v6 v7 σ _ ⟨fun _ => qr σ _ e ⟨_, rfl, rfl, rfl⟩, fun z => (ru σ e).int ?_⟩, fun v7 => d_Y_bring_13 a1 a2 a3 a4 a5 a6 v7 c _ ⟨fun z => absurd z n96, fun _ => ⟨fun _ => qc _ ⟨_, rfl, rfl, rfl⟩, fun z => rcu.int ?_⟩⟩, t', j', x', by omega⟩
      · rintro z1 σ1 ⟨ez1, es1⟩
        have es1' : σ1 = σ := by rw [es1, ← e, s_id]
        rw [ez1, es1']
        exact ⟨fun _ => qr σ _ e ⟨_, rfl, rfl, rfl⟩, fun w => absurd endd (fun q => q.elim z w)⟩
      · rintro z1 σ1 ⟨ez1, es1⟩
        rw [ez1, es1]
        exact ⟨fun w => absurd endd (fun q => q.elim z w), fun _ => qc _ ⟨_, rfl, rfl, rfl⟩⟩
    · have am : ¬ a5 ≠ -1 := fun z => endd (Or.inl z)
      have um : u ≠ -1 := fun z => endd (Or.inr z)
      rcases lu with z | ⟨n, n1, n2, n3, n4, n5⟩
      · exact absurd z um
      obtain ⟨v1, c1, c2, rr, rc1, rc2, t1, j1, x1, sp, q0, qB, -⟩ := p_drop h hj hx (by omega) n2 n1 n3 n5
      have lt : cn (isB v1) 96 < cn (isB v) 96 := cn_lt (j := n) (decide_eq_true n3) (decide_eq_false (by rw [q0]; decide)) n1 (fun i hi w => by
        have w := of_decide_eq_true w
        by_cases e : i = n
        · subst e
          rw [q0] at w
          exact absurd w (by decide)
        · rw [qB _ (by omega) (by omega) (by omega)] at w
          exact decide_eq_true w)
      obtain ⟨y, ry, rcy, hB1⟩ := p_best (a1 := a1) (a2 := a2) (a3 := a3) (a4 := 0) t1.s x1 h1 hm h3 ho
      have h6' : (a6 + 1).toInt = ((j + 1 : Nat) : Int) := by
        rw [t_add h6 (y := 1) rfl (by omega) (by omega)]
        omega
      obtain ⟨v', c', N', y', qr, qc, t', j', x', n'⟩ := ih (N + 1) (j + 1) y (a6 + 1) c2 v1 t1 j1 x1 (by omega) (by omega) h6' (by omega) hB1
      refine ⟨v', c', N', y', fun σ v6 v7 e => w_M_take_46 a1 a2 a3 a4 a5 v6 v7 σ _ ⟨fun z => absurd z am, fun _ => (ru σ e).int ?_⟩, fun v7 => d_Y_bring_13 a1 a2 a3 a4 a5 a6 v7 c _ ⟨fun z => absurd z n96, fun _ => ⟨fun z => absurd z am, fun _ => rcu.int ?_⟩⟩, t', j', x', by omega⟩
      · rintro z1 σ1 ⟨ez1, es1⟩
        have es1' : σ1 = σ := by rw [es1, ← e, s_id]
        rw [ez1, es1']
        refine ⟨fun w => absurd w um, fun _ => (ru σ e).int ?_⟩
        rintro z2 σ2 ⟨ez2, es2⟩
        have es2' : σ2 = σ := by rw [es2, ← e, s_id]
        rw [ez2, es2']
        refine (rr σ e).void ?_
        rintro σ3 e3
        refine (ry σ3 (by rw [e3, s_at])).int ?_
        rintro z4 σ4 ⟨ez4, es4⟩
        rw [ez4, es4, e3, s_ss]
        have := qr _ v6 v7 (s_at (σ := σ) (k := 1) (f := v1))
        rw [s_ss] at this
        exact this
      · rintro z1 σ1 ⟨ez1, es1⟩
        rw [ez1, es1]
        refine ⟨fun _ => rc1.void ?_, fun w => absurd um w⟩
        rintro _ rfl
        refine rc2.void ?_
        rintro _ rfl
        refine rcy.int ?_
        rintro z4 σ4 ⟨ez4, es4⟩
        rw [ez4, es4]
        exact qc _
