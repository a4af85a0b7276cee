/-! ===== the simulation: the least number; split | splits; a cache is dropped ===== -/
theorem l_least2 (σ : sm_S) : ∀ (d k : Nat) (a1 : Int32), a1.toInt = k → k + d = 96 → (∀ j, j < k → σ 9 j ≠ -1) → xE xD m_B_leastNumber 2 [.ref 8, .int a1] [] σ (sm_I (fun x σ' => ((x = -1 ∧ ∀ j, j < 96 → σ 9 j ≠ -1) ∨ ∃ n : Nat, n < 96 ∧ x.toInt = n ∧ σ 9 n = -1 ∧ ∀ j, j < n → σ 9 j ≠ -1) ∧ σ' = σ)) := by
  intro d
  induction d with
  | zero =>
    intro k a1 h1 hk hb
    refine d_B_leastNumber_2 a1 σ _ ⟨fun _ => ⟨_, rfl, Or.inl ⟨rfl, fun j hj => hb j (by omega)⟩, rfl⟩, fun h => absurd ?_ h⟩
    rw [t_le, h1]
    show (96 : Int) ≤ _
    omega
  | succ d ih =>
    intro k a1 h1 hk hb
    have h1' : (a1 + 1).toInt = ((k + 1 : Nat) : Int) := by
      rw [t_add h1 (y := 1) rfl (by omega) (by omega)]
      omega
    refine d_B_leastNumber_2 a1 σ _ ⟨fun h => ?_, fun _ => ⟨t_vp h1 (by omega), fun h => ih (k + 1) _ h1' (by omega) (fun j hj => ?_), fun h => ⟨_, rfl, Or.inr ⟨k, by omega, h1, ?_, hb⟩, rfl⟩⟩⟩
    · rw [t_le, h1] at h
      have h : (96 : Int) ≤ k := h
      omega
    · rw [t_nat h1] at h
      by_cases e : j = k
      · rw [e]; exact h
      · exact hb j (by omega)
    · rw [t_nat h1] at h
      exact Classical.not_not.mp h
theorem e_least2 (σ : sm_S) : xC xD j_B_leastNumber [.ref 8] σ (sm_I (fun x σ' => ((x = -1 ∧ ∀ j, j < 96 → σ 9 j ≠ -1) ∨ ∃ n : Nat, n < 96 ∧ x.toInt = n ∧ σ 9 n = -1 ∧ ∀ j, j < n → σ 9 j ≠ -1) ∧ σ' = σ)) := d_B_leastNumber σ _ (l_least2 σ 96 0 0 rfl rfl (fun j hj => by omega))
theorem sB.iff {c : sm_S} {v : Nat → Int32} {b : Nat} (h : sB c v b) : c 9 b = -1 ↔ v (786 + 16 * b + 0) = 0 := by
  rcases h with ⟨g1, g2⟩ | ⟨g1, g2, -⟩
  · exact ⟨fun _ => g2, fun _ => g1⟩
  · exact ⟨fun z => absurd z g1, fun z => by rw [g2] at z; exact absurd z (by decide)⟩
theorem sB.one {c : sm_S} {v : Nat → Int32} {b : Nat} (h : sB c v b) (h0 : v (786 + 16 * b + 0) ≠ 0) : v (786 + 16 * b + 0) = 1 := by
  rcases h with ⟨-, g2⟩ | ⟨-, g2, -⟩
  · exact absurd g2 h0
  · exact g2
/-- leastNumber | freeNumber -/
theorem p_num {c : sm_S} {v : Nat → Int32} (h : sim0 c v) : ∃ x : Int32, rdI j_M_freeNumber [.ref 0] v x v ∧ xC xD j_B_leastNumber [.ref 8] c (sm_I (fun y σ' => y = x ∧ σ' = c)) ∧ ((x = -1 ∧ ∀ j, j < 96 → v (786 + 16 * j + 0) = 1) ∨ ∃ m : Nat, m < 96 ∧ x.toInt = m ∧ v (786 + 16 * m + 0) = 0) := by
  obtain ⟨x, hx, rx⟩ := pick (e_least2 c)
  refine ⟨x, fun σ e => (c_freeNumber σ).mono ?_, rx, ?_⟩
  · rintro r σ' ⟨y, rfl, hy, rfl⟩
    refine ⟨y, rfl, ?_, by rw [← e, s_id]⟩
    rw [e] at hy
    rcases hx with ⟨hx1, hx2⟩ | ⟨m, m1, m2, m3, m4⟩
    · rcases hy with ⟨hy1, -⟩ | ⟨j, j1, j2, j3, -⟩
      · rw [hx1, hy1]
      · exact absurd ((h.B j j2).iff.mpr j3) (hx2 j j2)
    · have m5 := (h.B m m1).iff.mp m3
      rcases hy with ⟨-, hy2⟩ | ⟨j, j1, j2, j3, j4⟩
      · exact absurd m5 (hy2 m m1)
      · have : j = m := by
          have a1 : ¬ j < m := fun z => m4 j z ((h.B j j2).iff.mpr j3)
          have a2 : ¬ m < j := fun z => j4 m z m5
          omega
        subst this
        exact t_inj (by rw [j1, m2])
  · rcases hx with ⟨hx1, hx2⟩ | ⟨m, m1, m2, m3, -⟩
    · exact Or.inl ⟨hx1, fun j hj => (h.B j hj).one (fun z => hx2 j hj ((h.B j hj).iff.mpr z))⟩
    · exact Or.inr ⟨m, m1, m2, (h.B m m1).iff.mp m3⟩
theorem jj.dead {N n : Nat} {v : Nat → Int32} (hj : jj N v) (hn : n < 96) (h0 : v (786 + 16 * n + 0) = 0) : v (786 + 16 * n + 9) = 0 := by
  obtain ⟨L, o, l1, -, -, l4, -⟩ := hj.2.1.2.1 n hn
  by_cases q : 0 < L
  · have := (hj.2.1.2.2.2.1 n hn (l4 q)).1
    rw [h0] at this
    exact absurd this (by decide)
  · have : L = 0 := by omega
    subst this
    exact t_inj l1
theorem l_split2 {a1 a2 a3 a4 : Int32} {m mid o nl : Nat} (h3 : a3.toInt = o) (ho : o ≤ 4) (h4 : a4.toInt = mid) (hle : mid + 2 ^ o ≤ 256) (σ : sm_S) (h5 : (σ 34 5).toInt = nl) (hnl : nl < 60) : ∀ (d k : Nat) (a5 : Int32), a5.toInt = k → k + d = 2 ^ o → xE xD m_G_split 87 [.ref 41, .int a1, .int a2, .int a3, .int a4, .int a5] [] (sm_set σ 6 (rg (σ 6) mid k a2)) (sm_V (fun σ' => σ' = laC (sm_set (sm_set σ 6 (rg (σ 6) mid (2 ^ o) a2)) 40 (upd (σ 40) 4 (σ 40 4 + 1))) nl (σ 0 7) 5 a1 a2)) := by
  have hp := t_pw (k := o) (by omega)
  intro d
  induction d with
  | zero =>
    intro k a5 h5' hk
    have hk : k = 2 ^ o := by omega
    subst hk
    refine d_G_split_87 a1 a2 a3 a4 a5 _ _ ⟨fun _ => ⟨t_vp (n := 4) rfl (by omega), t_vp (n := 4) rfl (by omega), fun σ1 e1 => ?_⟩, fun h => absurd ?_ h⟩
    · have e1' : σ1 = sm_set (sm_set σ 6 (rg (σ 6) mid (2 ^ o) a2)) 40 (upd (σ 40) 4 (σ 40 4 + 1)) := e1
      rw [e1']
      refine (e_add2 _ _ _ _ (sm_set (sm_set σ 6 (rg (σ 6) mid (2 ^ o) a2)) 40 (upd (σ 40) 4 (σ 40 4 + 1))) h5 hnl).void ?_
      rintro _ rfl
      exact ⟨rfl, rfl⟩
    · rw [t_le, t_pow h3 (by omega), h5']
      omega
  | succ d ih =>
    intro k a5 h5' hk
    have h5'' : (a5 + 1).toInt = ((k + 1 : Nat) : Int) := by
      rw [t_add h5' (y := 1) rfl (by omega) (by omega)]
      omega
    have hq : (a4 + a5).toInt = ((mid + k : Nat) : Int) := by
      rw [t_add h4 h5' (by omega) (by omega)]
      omega
    refine d_G_split_87 a1 a2 a3 a4 a5 _ _ ⟨fun h => ?_, fun _ => ⟨t_vp hq (by omega), fun σ3 e3 => ?_⟩⟩
    · rw [t_le, t_pow h3 (by omega), h5'] at h
      omega
    · rw [t_nat hq, s_at, s_ss, ← rg_s] at e3
      rw [e3]
      exact ih (k + 1) (a5 + 1) h5'' (by omega)
theorem p_split {g : Prop} {N n m fr o : Nat} {c : sm_S} {v : Nat → Int32} {a1 x : Int32} (h : tie g N c v) (hj : jj N v) (hx : jx v) (hN : N < 2000000000) (h1 : a1.toInt = n) (hn : n < 96) (h0 : v (786 + 16 * n + 0) = 1) (h6 : v (786 + 16 * n + 6) = 0) (hk2 : v (786 + 16 * n + 3) ≠ 2) (ho : (v (786 + 16 * n + 2)).toInt = ((o + 1 : Nat) : Int)) (hfr : (v (786 + 16 * n + 1)).toInt = fr) (hxm : x.toInt = m) (hm : m < 96) (m0 : v (786 + 16 * m + 0) = 0) (rx : rdI j_M_freeNumber [.ref 0] v x v) : ∃ v' c', rd j_M_splits [.ref 0, .int a1] v v' ∧ xC xD j_G_split [.ref 41, .int a1, .int x] c (sm_V (fun σ' => σ' = c')) ∧ tie g (N + 1) c' v' ∧ jj (N + 1) v' ∧ jx v' ∧ (∀ i, 2358 ≤ i → i < 2422 → v' i = v i) ∧ (∀ f, f < 256 → wt v' f ≤ wt v f) ∧ wt v' (fr + 2 ^ o) < wt v (fr + 2 ^ o) ∧ fr + 2 ^ o < 256 := by
  obtain ⟨ob, frb, b1, b2, b3, b4, b5, -⟩ := hj.2.1.1 n hn
  have eo : ob = o + 1 := by omega
  have ef : frb = fr := by omega
  subst eo ef
  have hle := al_le b2 b4 b5
  have pw : 2 ^ (o + 1) = 2 ^ o + 2 ^ o := by rw [Nat.pow_succ]; omega
  rw [pw] at hle
  have hp := t_pw (k := o) (by omega)
  have nm : m ≠ n := fun e => by
    subst e
    rw [m0] at h0
    exact absurd h0 (by decide)
  have m9 := hj.dead hm m0
  obtain ⟨gb, gb9⟩ := (h.s.B n hn).al h0
  have c9 : (c 9 n).toInt = frb := by rw [← gb.fir]; exact hfr
  have c10 : (c 10 n).toInt = ((o + 1 : Nat) : Int) := by rw [← gb.ord]; exact ho
  have x3 : (c 10 n - 1).toInt = o := t_m1 c10 (by omega)
  have x2 : (c 9 n + (1 : Int32) <<< ((c 10 n - 1) &&& 31)).toInt = ((frb + 2 ^ o : Nat) : Int) := by
    rw [t_add c9 (t_pow x3 (by omega)) (by omega) (by omega)]
    omega
  have s1 := sim_split h.s h.b hn hm h0 hfr ho h6 m0 m9 (by omega) hxm x2 x3
  have sp_o : ∀ i, i < 18 ∨ 2322 ≤ i → spF v n m (frb + 2 ^ o) o x (c 9 n + (1 : Int32) <<< ((c 10 n - 1) &&& 31)) (c 10 n - 1) i = v i := fun i hi => spF_o (by omega) (by omega) (by omega)
  have run : rd j_M_splits [.ref 0, .int a1] v (wrF (cnF (spF v n m (frb + 2 ^ o) o x (c 9 n + (1 : Int32) <<< ((c 10 n - 1) &&& 31)) (c 10 n - 1)) 4 1) N 5 a1 x) := fun σ e => by
    refine w_M_splits a1 σ _ ((rx σ e).int ?_)
    rintro y1 σ1 ⟨ey1, es1⟩
    have es1' : σ1 = σ := by rw [es1, ← e, s_id]
    rw [ey1, es1']
    refine (c_of (k := 2) (j := 2) h1 rfl (by omega) σ).int ?_
    rintro y2 σ2 ⟨ey2, es2⟩
    rw [ey2, es2, e, gb.ord]
    refine (c_lay (k := 2) (j := 2) h1 rfl (by omega) _ σ).void ?_
    rintro _ rfl
    refine (c_frameOf h1 hn _).int ?_
    rintro y3 σ3 ⟨ey3, es3⟩
    rw [s_at, u_ne (by omega), e, gb.fir] at ey3
    rw [ey3, es3]
    refine (c_of (k := 3) (j := 3) h1 rfl (by omega) _).int ?_
    rintro y4 σ4 ⟨ey4, es4⟩
    rw [s_at, u_ne (by omega), e] at ey4
    rw [ey4, es4]
    refine (c_of (k := 4) (j := 4) h1 rfl (by omega) _).int ?_
    rintro y5 σ5 ⟨ey5, es5⟩
    rw [s_at, u_ne (by omega), e] at ey5
    rw [ey5, es5]
    refine (c_of (k := 8) (j := 8) h1 rfl (by omega) _).int ?_
    rintro y6 σ6 ⟨ey6, es6⟩
    rw [s_at, u_ne (by omega), e] at ey6
    rw [ey6, es6]
    refine (c_comes2 hxm hm x2 x3 (by omega) (by omega) _ _ _ _).void ?_
    rintro _ rfl
    refine (c_counts (j := 4) rfl (by decide) 1 _).void ?_
    rintro _ rfl
    refine (c_writes2 (n := N) 5 a1 x _ ?_).void ?_
    · rw [s_at, s_at, s_at, e, u_ne (by omega)]
      have := sp_o 5 (by omega)
      unfold spF at this
      rw [this]
      exact h.n
    · rintro _ rfl
      refine ⟨rfl, ?_⟩
      rw [s_at, s_ss, s_at, s_ss, s_at, s_ss, e]
      rfl
  obtain ⟨w, ew, jw, -, k4⟩ := run.det (c_splits (N := N) h1 hn (by omega) (rz v) (by rw [rz_at]; exact hj) (by rw [rz_at]; exact h0) (by rw [rz_at]; exact h6) (by rw [rz_at]; exact ho) (by rw [rz_at]; exact hfr) (by rw [rz_at]; exact hk2) ⟨m, hm, by rw [rz_at]; exact m0⟩)
  rw [rz_eq ew] at jw k4
  have eV : ∀ i, i < 2422 → i ≠ 5 → i ≠ 11 → wrF (cnF (spF v n m (frb + 2 ^ o) o x (c 9 n + (1 : Int32) <<< ((c 10 n - 1) &&& 31)) (c 10 n - 1)) 4 1) N 5 a1 x i = spF v n m (frb + 2 ^ o) o x (c 9 n + (1 : Int32) <<< ((c 10 n - 1) &&& 31)) (c 10 n - 1) i := fun i i1 i2 i3 => by
    rw [wrF_lo i1 i2]
    exact u_ne (by omega)
  have t1 : tie g N (spC c n m (frb + 2 ^ o) o x (c 9 n + (1 : Int32) <<< ((c 10 n - 1) &&& 31)) (c 10 n - 1)) (spF v n m (frb + 2 ^ o) o x (c 9 n + (1 : Int32) <<< ((c 10 n - 1) &&& 31)) (c 10 n - 1)) := by
    refine h.to s1 (fun k k1 k2 => ?_) (sp_o 5 (by omega)) (fun i hi => sp_o i (by omega)) (fun b hb => bk_cong (fun k k1 _ _ _ => (eV _ (by omega) (by omega) (by omega)).symm) (jw.2.1.1 b hb))
    unfold spC
    rw [s_ne (by omega), cmC_o (by omega), s_ne (by omega)]
  have t2 := t1.cnt (k := 4) (by decide) 1
  obtain ⟨nl, hnl, h5l, t3⟩ := t2.log (by omega) 5 a1 x
  obtain ⟨r0, r1, r2, r3, -, -⟩ := blF_0 (v := upd v (786 + 16 * n + 2) (c 10 n - 1)) (n := m) (a2 := c 9 n + (1 : Int32) <<< ((c 10 n - 1) &&& 31)) (a3 := c 10 n - 1) (a4 := v (786 + 16 * n + 3)) (a5 := v (786 + 16 * n + 4)) (a6 := v (786 + 16 * n + 8))
  have mrow : ∀ k, spF v n m (frb + 2 ^ o) o x (c 9 n + (1 : Int32) <<< ((c 10 n - 1) &&& 31)) (c 10 n - 1) (786 + 16 * m + k) = blF (upd v (786 + 16 * n + 2) (c 10 n - 1)) m (c 9 n + (1 : Int32) <<< ((c 10 n - 1) &&& 31)) (c 10 n - 1) (v (786 + 16 * n + 3)) (v (786 + 16 * n + 4)) (v (786 + 16 * n + 8)) (786 + 16 * m + k) := fun k => hsF_out (by omega)
  have own3 := h.s.O.hs n frb (o + 1) hn h0 hfr ho
  have in3 : ∀ f, frb ≤ f → f < frb + 2 ^ o + 2 ^ o → v (18 + 3 * f) = 3 ∧ (v (18 + 3 * f + 1)).toInt = ((n + 1 : Nat) : Int) := fun f a1 a2 => by
    have := own3 (f - frb) (by omega)
    rw [show frb + (f - frb) = f by omega] at this
    exact this
  have hm1 : (x + 1).toInt = ((m + 1 : Nat) : Int) := by
    rw [t_add hxm (y := 1) rfl (by omega) (by omega)]
    omega
  have wtU : ∀ f, frb + 2 ^ o ≤ f → f < frb + 2 ^ o + 2 ^ o → wt (wrF (cnF (spF v n m (frb + 2 ^ o) o x (c 9 n + (1 : Int32) <<< ((c 10 n - 1) &&& 31)) (c 10 n - 1)) 4 1) N 5 a1 x) f = (if frb + 2 ^ o = f then 1 else 2) ∧ wt v f = 2 := fun f a b => by
    obtain ⟨q0, q1, -⟩ := hsF_in (v := blF (upd v (786 + 16 * n + 2) (c 10 n - 1)) m (c 9 n + (1 : Int32) <<< ((c 10 n - 1) &&& 31)) (c 10 n - 1) (v (786 + 16 * n + 3)) (v (786 + 16 * n + 4)) (v (786 + 16 * n + 8))) (s := 3) (x := x + 1) a b
    refine ⟨?_, ?_⟩
    · unfold wt
      rw [eV _ (by omega) (by omega) (by omega), eV (18 + 3 * f + 1) (by omega) (by omega) (by omega), if_pos (show spF v n m (frb + 2 ^ o) o x (c 9 n + (1 : Int32) <<< ((c 10 n - 1) &&& 31)) (c 10 n - 1) (18 + 3 * f) = 3 from q0), show spF v n m (frb + 2 ^ o) o x (c 9 n + (1 : Int32) <<< ((c 10 n - 1) &&& 31)) (c 10 n - 1) (18 + 3 * f + 1) = x + 1 from q1, t_nat (t_m1 hm1 (by omega)), eV _ (by omega) (by omega) (by omega), mrow 1, r1, x2]
      by_cases z : frb + 2 ^ o = f
      · rw [if_pos z, if_pos (by omega)]
      · rw [if_neg z, if_neg (by omega)]
    · unfold wt
      obtain ⟨z0, z1⟩ := in3 f (by omega) (by omega)
      rw [if_pos z0, t_nat (t_m1 z1 (by omega)), hfr, if_neg (by omega)]
  have wtO : ∀ f, f < 256 → ¬ (frb + 2 ^ o ≤ f ∧ f < frb + 2 ^ o + 2 ^ o) → wt (wrF (cnF (spF v n m (frb + 2 ^ o) o x (c 9 n + (1 : Int32) <<< ((c 10 n - 1) &&& 31)) (c 10 n - 1)) 4 1) N 5 a1 x) f = wt v f := fun f hf z => by
    refine wt_cg ?_ ?_ (fun b y1 y2 y3 => ?_) h.s.O hf
    · rw [eV _ (by omega) (by omega) (by omega), spF_o (by omega) (by omega) (by omega)]
    · rw [eV _ (by omega) (by omega) (by omega), spF_o (by omega) (by omega) (by omega)]
    · have bm : b ≠ m := fun e => by
        subst e
        obtain ⟨b', _, _, p1, p2, p3, -⟩ := h.s.O.tk f hf y1
        have e : b' = b := by omega
        subst e
        rw [m0] at p3
        exact absurd p3 (by decide)
      rw [eV _ (by omega) (by omega) (by omega), spF_o (by omega) (by omega) (by omega)]
  refine ⟨_, _, run, ?_, t3, jw, ?_, k4, fun f hf => ?_, ?_, by omega⟩
  · refine d_G_split a1 x c _ ?_
    rw [t_nat h1, t_nat hxm]
    refine ⟨t_vp h1 hn, t_vp h1 hn, t_vp h1 hn, fun σ1 e1 => ⟨t_vp h1 hn, t_vp h1 hn, ?_⟩⟩
    refine (e_begin2 hxm hm _ _ _ _ σ1).void ?_
    rintro σ2 e2
    refine ⟨t_vp h1 hn, t_vp hxm hm, fun σ3 e3 => ?_⟩
    have c16n : σ2 16 = c 16 := by
      rw [e2, e1]
      rfl
    have e3' : σ3 = cmC (sm_set c 10 (upd (c 10) n (c 10 n - 1))) m (c 9 n + (1 : Int32) <<< ((c 10 n - 1) &&& 31)) (c 10 n - 1) (c 11 n) (c 12 n) (c 16 n) := by
      rw [e3, c16n, e2, e1]
      rfl
    have := l_split2 (a1 := a1) (a2 := x) (m := m) x3 (by omega) x2 (by omega) σ3 (nl := nl) (by rw [e3']; exact h5l) hnl (2 ^ o) 0 0 rfl (by omega)
    rw [rg_0, s_id] at this
    refine this.mono ?_
    rintro r σ' ⟨hr, hs'⟩
    refine ⟨hr, ?_⟩
    rw [hs', e3']
    rfl
  · refine jx.re (v := upd (upd v (786 + 16 * n + 2) (c 10 n - 1)) 5 0) (n := m) ?_ (fun b k q1 q2 q3 => ?_) (fun _ => ⟨fun _ => ?_, fun to2 fr2 o2 y1 y2 y3 => ?_⟩) (fun _ => ?_) (fun s' hs' z => by rw [u_ne (by omega), u_ne (by omega), u_ne (by omega), u_ne (by omega)]; exact ⟨fun y => z ((k4 (2358 + 8 * s' + 0) (by omega) (by omega)).trans y), k4 (2358 + 8 * s' + 1) (by omega) (by omega)⟩) ?_ (fun i i1 i2 => by rw [eV _ (by omega) (by omega) (by omega), sp_o i (by omega), u_ne (by omega), u_ne (by omega)])
    · refine hx.re (n := n) (fun b k q1 q2 q3 => by rw [u_ne (by omega), u_ne (by omega)]) (fun y0 => ⟨fun _ => ?_, fun to2 fr2 o2 y1 y2 y3 => ?_⟩) (fun _ => ?_) (fun s' hs' z => ⟨fun y => z (by rw [u_ne (by omega), u_ne (by omega)]; exact y), by rw [u_ne (by omega), u_ne (by omega)]⟩) (by rw [u_ne (by omega), u_ne (by omega)]) (fun i i1 i2 => by rw [u_ne (by omega), u_ne (by omega)])
      · rw [u_ne (by omega), u_ne (by omega)]
        exact (hx.1 n hn h0).1 h6
      · rw [u_ne (by omega), u_ne (by omega), h6] at y1
        have y1 : (0 : Int) = _ := y1
        omega
      · rw [u_ne (by omega), u_ne (by omega)]
        exact hx.2.1 n hn h0
    · rw [eV _ (by omega) (by omega) (by omega)]
      unfold spF
      rw [hsF_out (by omega), blF_out (by omega), u_ne (show 786 + 16 * b + k ≠ 5 by omega)]
    · rw [eV _ (by omega) (by omega) (by omega), mrow 7]
      exact blF_z (by decide) (by decide) (by decide)
    · rw [eV _ (by omega) (by omega) (by omega), mrow 6, blF_z (by decide) (by decide) (by decide)] at y1
      have y1 : (0 : Int) = _ := y1
      omega
    · rw [eV _ (by omega) (by omega) (by omega), mrow 3, r3]
      exact hx.2.1 n hn h0
    · rw [eV _ (by omega) (by omega) (by omega), sp_o 0 (by omega), u_ne (by omega), u_ne (by omega)]
  · by_cases z : frb + 2 ^ o ≤ f ∧ f < frb + 2 ^ o + 2 ^ o
    · rw [(wtU f z.1 z.2).1, (wtU f z.1 z.2).2]
      split <;> omega
    · rw [wtO f hf z]
      exact Nat.le_refl _
  · rw [(wtU (frb + 2 ^ o) (by omega) (by omega)).1, (wtU (frb + 2 ^ o) (by omega) (by omega)).2, if_pos rfl]
    decide
