/-! ===== the simulation: doOrWait | wants, unpin ===== -/
theorem bit_1 {i : Nat} (h : i < 32) : bit 1 i ↔ i = 0 := by
  have : ∀ i, i < 32 → ((1 : Int32).toBitVec.getLsbD i = true ↔ i = 0) := by decide
  exact this i h
theorem and01 (x : Int32) : x &&& 1 = 0 ∨ x &&& 1 = 1 := by
  by_cases q : bit x 0
  · refine Or.inr (bit_ext (fun i hi => ?_))
    rw [bit_and, bit_1 hi]
    exact ⟨fun z => z.2, fun z => ⟨by rw [z]; exact q, z⟩⟩
  · refine Or.inl (bit_ext (fun i hi => ?_))
    rw [bit_and, bit_1 hi]
    exact ⟨fun z => absurd (by rw [← z.2]; exact z.1) q, fun z => absurd z bit_0⟩
theorem ws_id {c : sm_S} {t : Nat} {x y z : Int32} (h1 : c 30 t = x) (h2 : c 31 t = y) (h3 : c 32 t = z) : wsC c t x y z = c := by
  unfold wsC
  rw [← h1, ← h2, ← h3, u_id, s_id, u_id, s_id, u_id, s_id]
theorem p_dow {g : Prop} {N m n a o : Nat} {c : sm_S} {v : Nat → Int32} {tI bI what i x : Int32} (h : tie g N c v) (hj : jj N v) (hx : jx v) (hN : N < 1999000000) (ht : tI.toInt = m) (hm : m < 6) (hb : bI.toInt = n) (hn : n < 96) (h0 : v (786 + 16 * n + 0) = 1) (hw : c 28 m = -1) (hi : i.toInt = a) (ho : (v (786 + 16 * n + 2)).toInt = o) (ha : a < 2 ^ o) (e30 : c 30 m = what) (e31 : c 31 m = i) (e32 : c 32 m = x) : ∃ r v' c' N', rdI j_M_wants [.ref 0, .int tI, .int bI, .int what, .int i, .int x] v r v' ∧ xC xD j_Y_doOrWait [.ref 0, .int tI, .int bI] c (sm_I (fun y σ' => y = r ∧ σ' = c')) ∧ tie g N' c' v' ∧ jj N' v' ∧ jx v' ∧ N' ≤ N + 1 := by
  obtain ⟨o2, fr, b1, b2, b3, b4, b5, -, ⟨q, b7, -⟩, -⟩ := hj.2.1.1 n hn
  have hoo : o2 = o := by rw [ho] at b1; omega
  rw [hoo] at b2 b5
  have hle := al_le b2 b4 b5
  obtain ⟨gb, gb9⟩ := (h.s.B n hn).al h0
  have c9 : (c 9 n).toInt = fr := by rw [← gb.fir]; exact b3
  have w28 : v (2322 + 6 * m + 1) = 0 := by rw [(h.s.T m hm).wai, hw]; decide
  have w14 : c 14 n = -1 ↔ v (786 + 16 * n + 6) = 0 := by
    rw [gb.tgt]
    refine ⟨fun z => by rw [z]; decide, fun z => ?_⟩
    have e2 : c 14 n = (c 14 n + 1) - 1 := by rw [Int32.add_sub_cancel]
    rw [e2, z]
    rfl
  have way : v (786 + 16 * n + 6) ≤ 0 ↔ v (786 + 16 * n + 6) = 0 := by
    rw [le0, b7]
    refine ⟨fun z => t_inj (by rw [b7]; show _ = (0 : Int); omega), fun z => ?_⟩
    rw [z] at b7
    have b7 : (0 : Int) = _ := b7
    omega
  have jd : ∀ {r : Int32} {v' : Nat → Int32}, rdI j_M_wants [.ref 0, .int tI, .int bI, .int what, .int i, .int x] v r v' → ∃ N', jj N' v' ∧ N' ≤ N + 1 := fun {r v'} R => by
    obtain ⟨w, N', ew, jw, -, k2⟩ := R.det (c_wants ht hm hb hn hi what x (rz v) (by rw [rz_at]; exact ho) ha (by rw [rz_at]; exact w28) (by rw [rz_at]; exact hj) (by omega))
    rw [rz_eq ew] at jw
    exact ⟨N', jw, k2⟩
  by_cases on : v (786 + 16 * n + 6) = 0
  · have R : rdI j_M_wants [.ref 0, .int tI, .int bI, .int what, .int i, .int x] v 0 (doF v m n fr a tI what x) := fun σ e => by
      refine w_M_wants tI bI what i x σ _ ((c_isOnWay hb hn σ).int ?_)
      rintro y1 σ1 ⟨hy1, es1⟩
      rw [es1]
      rw [e] at hy1
      refine ⟨fun z => ?_, fun _ => (c_does2 ht hm hb hn hi what x σ (by rw [e]; exact b3) (by omega)).void ?_⟩
      · rcases hy1 with ⟨w, -⟩ | ⟨-, w⟩
        · exact absurd w z
        · exact absurd (way.mpr on) w
      · rintro σ7 es7
        rw [e] at es7
        exact ⟨_, rfl, rfl, es7⟩
    obtain ⟨N', j', n'⟩ := jd R
    have t' : tie g N (doC c m n (fr + a) tI what x) (doF v m n fr a tI what x) := h.to (sim_does h.s h.b hm hn (by omega) gb.pin) (fun k k1 k2 => doC_o (by omega)) (doF_o hn hm (by omega) (Or.inr (Or.inl rfl))) (fun k hk => doF_o hn hm (by omega) (Or.inr (Or.inr hk))) j'.2.1.1
    have eN : N' = N := by
      have w1 := j'.2.2
      have w2 := t'.n
      omega
    rw [eN] at j'
    have old : ∀ k, vfx k → doF v m n fr a tI what x k = v k := fun k hk => doF_o hn hm (by omega) (Or.inl hk)
    refine ⟨0, _, _, N, R, ?_, t', j', ?_, by omega⟩
    · refine d_Y_doOrWait tI bI c _ ?_
      rw [t_nat hb]
      refine ⟨t_vp hb hn, fun z => absurd (w14.mpr on) z, fun _ => (e_fulfil2 (a := a) (fr := fr) ht hm hb hn c (fun _ => ⟨by rw [e31]; exact hi, c9, by omega⟩)).void ?_⟩
      rintro σ7 es7
      rw [e30, e32] at es7
      exact ⟨_, rfl, rfl, es7⟩
    · refine hx.cg (fun b k hb hk => old _ (Or.inr (Or.inr (Or.inl ⟨b, k, hb, by omega, by omega, by omega, rfl⟩)))) (fun s' hs' z => ⟨?_, old _ (Or.inr (Or.inr (Or.inr (Or.inr ⟨by omega, by omega⟩))))⟩) (old 0 (Or.inl (Or.inl (by omega)))) (fun k k1 k2 => old k (Or.inl (Or.inl (by omega))))
      rw [old _ (Or.inr (Or.inr (Or.inr (Or.inr ⟨by omega, by omega⟩))))] at z
      exact z
  · obtain ⟨l, h9⟩ := hj.L hn
    obtain ⟨L, hq⟩ := h.s.Q
    obtain ⟨hL6, hl6, s1⟩ := sim_wait (what := what) (i := i) (x := x) h.s h.b ht hm hw hb hn h9 hq.len
    rw [ws_id e30 e31 e32] at s1
    have wo : ∀ k, (k < 2322 + 6 * m + 1 ∨ 2322 + 6 * m + 4 < k) → k ≠ 786 + 16 * n + (10 + l) → k ≠ 786 + 16 * n + 9 → wtF v m n l tI bI what i x k = v k := fun k k1 k2 k3 => wtF_o k1 k2 k3
    have R : rdI j_M_wants [.ref 0, .int tI, .int bI, .int what, .int i, .int x] v 1 (cnF (wrF (wtF v m n l tI bI what i x) N 7 tI bI) 8 1) := fun σ e => by
      refine w_M_wants tI bI what i x σ _ ((c_isOnWay hb hn σ).int ?_)
      rintro y1 σ1 ⟨hy1, es1⟩
      rw [es1]
      rw [e] at hy1
      have y11 : y1 = 1 := by
        rcases hy1 with ⟨-, w⟩ | ⟨w, -⟩
        · exact absurd (way.mp w) on
        · exact w
      refine ⟨fun _ => (c_taskAt tI σ).int ?_, fun z => absurd (by rw [y11]; decide) z⟩
      rintro y2 σ2 ⟨ey2, es2⟩
      obtain ⟨p1, q1⟩ := ixT (k := 1) (j := 1) ht rfl (by omega)
      obtain ⟨p2, q2⟩ := ixT (k := 2) (j := 2) ht rfl (by omega)
      obtain ⟨p3, q3⟩ := ixT (k := 3) (j := 3) ht rfl (by omega)
      obtain ⟨p4, q4⟩ := ixT (k := 4) (j := 4) ht rfl (by omega)
      rw [ey2, es2, q1, q2, q3, q4]
      refine ⟨p1, fun σ5 e5 => ⟨p2, fun σ6 e6 => ⟨p3, fun σ7 e7 => ⟨p4, fun σ8 e8 => ?_⟩⟩⟩⟩
      have e8' : σ8 = sm_set σ 1 (upd (upd (upd (upd v (2322 + 6 * m + 1) (bI + 1)) (2322 + 6 * m + 2) what) (2322 + 6 * m + 3) i) (2322 + 6 * m + 4) x) := by
        rw [e8, e7, e6, e5, e]
        simp only [s_at, s_ss]
      rw [e8']
      refine (c_of (k := 9) (j := 9) hb rfl (by omega) _).int ?_
      rintro y3 σ9 ⟨ey3, es9⟩
      rw [s_at, u_ne (by omega), u_ne (by omega), u_ne (by omega), u_ne (by omega)] at ey3
      rw [ey3, es9]
      refine (c_lay (k := 10 + v (786 + 16 * n + 9)) (j := 10 + l) hb (by rw [t_add (x := 10) rfl h9 (by omega) (by omega)]; omega) (by omega) tI _).void ?_
      rintro σ10 es10
      rw [s_at, s_ss] at es10
      rw [es10]
      refine (c_of (k := 9) (j := 9) hb rfl (by omega) _).int ?_
      rintro y4 σ11 ⟨ey4, es11⟩
      rw [s_at, u_ne (by omega), u_ne (by omega), u_ne (by omega), u_ne (by omega), u_ne (by omega)] at ey4
      rw [ey4, es11]
      refine (c_lay (k := 9) (j := 9) hb rfl (by omega) _ _).void ?_
      rintro σ12 es12
      rw [s_at, s_ss] at es12
      have es12 : σ12 = sm_set σ 1 (wtF v m n l tI bI what i x) := es12
      rw [es12]
      refine (c_writes2 (n := N) 7 tI bI _ (by rw [s_at, wo 5 (by omega) (by omega) (by omega)]; exact h.n)).void ?_
      rintro σ13 es13
      rw [s_at, s_ss] at es13
      rw [es13]
      refine (c_counts (k := 8) (j := 8) rfl (by decide) 1 _).void ?_
      rintro σ14 es14
      rw [s_at, s_ss] at es14
      exact ⟨_, rfl, rfl, es14⟩
    obtain ⟨N', j', n'⟩ := jd R
    have bk1 : ∀ b, b < 96 → bk_ok (wtF v m n l tI bI what i x) b := fun b hb2 => by
      obtain ⟨o1, f1, z1, z2, z3, z4, z5, z6, z7, z8⟩ := h.b b hb2
      have rk : ∀ k, k < 9 → wtF v m n l tI bI what i x (786 + 16 * b + k) = v (786 + 16 * b + k) := fun k k1 => wo _ (by omega) (by omega) (by omega)
      unfold bk_ok
      rw [rk 1 (by omega), rk 2 (by omega), rk 4 (by omega), rk 6 (by omega), rk 7 (by omega)]
      exact ⟨o1, f1, z1, z2, z3, z4, z5, z6, z7, z8⟩
    have t1 : tie g N (quC c m L tI bI) (wtF v m n l tI bI what i x) := h.to s1 (fun k k1 k2 => by unfold quC; rw [s_ne (by omega), s_ne (by omega), s_ne (by omega)]) (wo 5 (by omega) (by omega) (by omega)) (fun k hk => wo k (by omega) (by omega) (by omega)) bk1
    obtain ⟨nl, hnl, h5l, t2⟩ := t1.log (by omega) 7 tI bI
    have t3 := t2.cnt (k := 8) (by decide) 1
    have eN : N' = N + 1 := by
      have w1 := j'.2.2
      have w2 := t3.n
      omega
    rw [eN] at j'
    have old : ∀ k, k < 2422 → (k < 5 ∨ 17 < k) → (k < 2322 + 6 * m + 1 ∨ 2322 + 6 * m + 4 < k) → k ≠ 786 + 16 * n + (10 + l) → k ≠ 786 + 16 * n + 9 → cnF (wrF (wtF v m n l tI bI what i x) N 7 tI bI) 8 1 k = v k := fun k k1 k2 k3 k4 k5 => by
      unfold cnF
      rw [u_ne (by omega), wrF_lo k1 (by omega), wo k k3 k4 k5]
    refine ⟨1, _, _, N + 1, R, ?_, t3, j', ?_, by omega⟩
    · refine d_Y_doOrWait tI bI c _ ?_
      rw [t_nat hb]
      refine ⟨t_vp hb hn, fun _ => (e_queue2 ht hm bI c hq.len hL6).void ?_, fun z => absurd (w14.mp (Classical.not_not.mp z)) on⟩
      rintro σ7 es7
      rw [es7]
      refine ⟨t_vp (n := 8) rfl (by decide), t_vp (n := 8) rfl (by decide), fun σ8 es8 => ?_⟩
      rw [es8]
      refine (e_add2 (n := nl) _ 7 tI bI (sm_set (quC c m L tI bI) 40 (upd (quC c m L tI bI 40) (Int32.toNatClampNeg 8) (quC c m L tI bI 40 (Int32.toNatClampNeg 8) + 1))) h5l hnl).void ?_
      rintro σ9 es9
      refine ⟨_, rfl, rfl, ?_⟩
      rw [es9, laC_s (by omega), laC_o (k := 40) (by omega)]
      rfl
    · refine hx.cg (fun b k hb hk => old _ (by omega) (by omega) (by omega) (by omega) (by omega)) (fun s' hs' z => ⟨?_, old _ (by omega) (by omega) (by omega) (by omega) (by omega)⟩) (old 0 (by omega) (by omega) (by omega) (by omega) (by omega)) (fun k k1 k2 => old k (by omega) (by omega) (by omega) (by omega) (by omega))
      rw [old _ (by omega) (by omega) (by omega) (by omega) (by omega)] at z
      exact z
