/-! ===== the simulation: what is found on both sides ===== -/
theorem rk_eq {h k z : Int32} {s : Nat} (hz : z = 0 ∨ z = 1) : rkc h k z s = rkf h k z s := by
  unfold rkc rkf
  rcases hz with e | e <;> subst e
  · rw [if_neg (show ¬ (0 : Int32) = -1 by decide), if_neg (show ¬ (k ≠ 0 ∧ (0 : Int32) = 1) from fun q => absurd q.2 (by decide)), if_neg (show ¬ (0 : Int32) = 1 by decide), if_pos (show (0 : Int32) = 0 from rfl)]
    by_cases q : k = 0
    · rw [if_pos q, if_neg (show ¬ (k ≠ 0 ∨ (0 : Int32) = 1) from fun z => z.elim (fun z => z q) (fun z => absurd z (by decide)))]
    · rw [if_neg q, if_pos (Or.inl q), Int32.zero_add]
  · rw [if_neg (show ¬ (1 : Int32) = -1 by decide), if_pos (show (1 : Int32) = 1 from rfl), if_neg (show ¬ (1 : Int32) = 0 by decide)]
    by_cases q : k = 0
    · rw [if_pos q, if_neg (show ¬ (k ≠ 0 ∧ (1 : Int32) = 1) from fun z => z.1 q), if_pos (Or.inr rfl)]
    · rw [if_neg q, if_pos ⟨q, rfl⟩]
theorem sim_zone {c : sm_S} {v : Nat → Int32} {s : Nat} (h : sim0 c v) (hs : s < 8) : c 19 s = zV v s := by
  have g := h.S s hs
  unfold zV
  have e : v (2358 + 8 * s) = c 18 s := g.sta
  rw [e]
  by_cases q : c 18 s = 0
  · rw [if_pos q]; exact g.zof q
  · rw [if_neg q]; exact (g.zon q).symm
theorem sim_rk {c : sm_S} {v : Nat → Int32} {s m : Nat} (k : Int32) (h : sim0 c v) (hx : jx v) (hs : s < 8) (hm : m < 6) (h0 : v (2358 + 8 * s + 0) ≠ 0) : rkC c k m s = rkV v k m s := by
  unfold rkC rkV
  have ez : zV v s = v (2358 + 8 * s + 1) := if_neg h0
  have hh : v (2322 + 6 * m) = c 27 m := (h.T m hm).hom
  rw [sim_zone h hs, hh]
  refine rk_eq ?_
  rw [ez]
  exact hx.2.2.1 s hs h0
/-- bestPlace | bestPlace -/
theorem p_best {c : sm_S} {v : Nat → Int32} {a1 a2 a3 a4 : Int32} {m o : Nat} (h : sim0 c v) (hx : jx v) (h1 : a1.toInt = m) (hm : m < 6) (h3 : a3.toInt = o) (ho : o ≤ 4) : ∃ x : Int32, rdI j_M_bestPlace [.ref 0, .int a1, .int a2, .int a3, .int a4] v x v ∧ xC xD j_Y_bestPlace [.ref 0, .int a1, .int a2, .int a3, .int a4] c (sm_I (fun y σ' => y = x ∧ σ' = c)) ∧ BP (frV v) (rkV v a2 m) (onV v a4) o x := by
  obtain ⟨x, hxB, rx⟩ := pick (e_bestPlace2 h1 hm h3 ho c (a2 := a2) (a4 := a4))
  have hB : BP (frV v) (rkV v a2 m) (onV v a4) o x := BP_cg (by omega) (fun f hf => (h.F f hf).fre) (fun f hf q => sim_rk a2 h hx (by omega) hm (fun z => by
    have := (h.O.of f hf).mpr z
    have q2 : v (18 + 3 * f) = 1 := (h.F f hf).fre.mp q
    rw [this] at q2
    exact absurd q2 (by decide))) (fun s hs => by
    unfold onC onV
    have e : v (2358 + 8 * s) = c 18 s := (h.S s hs).sta
    rw [e]) hxB
  refine ⟨x, fun σ e => (c_bestPlace2 h1 hm h3 ho σ).mono ?_, rx, hB⟩
  rintro r σ' ⟨y, rfl, hy, rfl⟩
  rw [e] at hy
  exact ⟨y, rfl, BP_un hy hB, by rw [← e, s_id]⟩
/-- the first block of span s at offset r or behind it -/
def fst (v : Nat → Int32) (s r : Nat) (x : Int32) : Prop := (x = -1 ∧ ∀ f, f < 256 → f / 32 = s → r ≤ f % 32 → wt v f ≠ 1) ∨ ∃ n fr : Nat, n < 96 ∧ x.toInt = n ∧ fr < 256 ∧ fr / 32 = s ∧ r ≤ fr % 32 ∧ v (786 + 16 * n + 0) = 1 ∧ (v (786 + 16 * n + 1)).toInt = fr ∧ v (18 + 3 * fr) = 3 ∧ (v (18 + 3 * fr + 1)).toInt = ((n + 1 : Nat) : Int) ∧ ∀ f, f < fr → f / 32 = s → r ≤ f % 32 → wt v f ≠ 1
theorem wt_1 {v : Nat → Int32} {f n : Nat} (h3 : v (18 + 3 * f) = 3) (h1 : (v (18 + 3 * f + 1)).toInt = ((n + 1 : Nat) : Int)) (hn : n < 96) : wt v f = if (v (786 + 16 * n + 1)).toInt = f then 1 else 2 := by
  unfold wt
  rw [if_pos h3, t_nat (t_m1 h1 (by omega))]
theorem fst_un {v : Nat → Int32} {s r : Nat} {x y : Int32} (a : fst v s r x) (b : fst v s r y) : x = y := by
  have w1 : ∀ {n fr : Nat}, n < 96 → (v (786 + 16 * n + 1)).toInt = fr → v (18 + 3 * fr) = 3 → (v (18 + 3 * fr + 1)).toInt = ((n + 1 : Nat) : Int) → wt v fr = 1 := fun a1 a2 a3 a4 => by rw [wt_1 a3 a4 a1, if_pos a2]
  rcases a with ⟨a1, a2⟩ | ⟨n, fr, n1, n2, n3, n4, n5, n6, n7, n8, n9, n10⟩
  · rcases b with ⟨b1, -⟩ | ⟨m, gr, m1, m2, m3, m4, m5, m6, m7, m8, m9, -⟩
    · rw [a1, b1]
    · exact absurd (w1 m1 m7 m8 m9) (a2 gr m3 m4 m5)
  · rcases b with ⟨-, b2⟩ | ⟨m, gr, m1, m2, m3, m4, m5, m6, m7, m8, m9, m10⟩
    · exact absurd (w1 n1 n7 n8 n9) (b2 fr n3 n4 n5)
    · have e : fr = gr := by
        have c1 : ¬ fr < gr := fun z => m10 fr z n4 n5 (w1 n1 n7 n8 n9)
        have c2 : ¬ gr < fr := fun z => n10 gr z m4 m5 (w1 m1 m7 m8 m9)
        omega
      subst e
      have : n = m := by omega
      subst this
      exact t_inj (by rw [n2, m2])
theorem l_first2 {a1 a2 : Int32} {s r : Nat} (h1 : a1.toInt = s) (hs : s < 8) (σ : sm_S) (ow : own (σ 1)) : ∀ (d k : Nat) (a3 : Int32) (v4 v5 : Value), a3.toInt = k → k + d = 32 → r ≤ k → (∀ f, f < 32 * s + k → f / 32 = s → r ≤ f % 32 → wt (σ 1) f ≠ 1) → xE xM m_M_firstBlock 2 [.ref 0, .int a1, .int a2, .int a3, v4, v5] [] σ (sm_I (fun x σ' => fst (σ 1) s r x ∧ σ' = σ)) := by
  intro d
  induction d with
  | zero =>
    intro k a3 v4 v5 h3 hk hr hb
    refine w_M_firstBlock_2 a1 a2 a3 v4 v5 σ _ ⟨fun _ => ⟨_, rfl, Or.inl ⟨rfl, fun f f1 f2 f3 => hb f (by omega) f2 f3⟩, rfl⟩, fun q => absurd ?_ q⟩
    rw [t_le, h3]
    show (32 : Int) ≤ _
    omega
  | succ d ih =>
    intro k a3 v4 v5 h3 hk hr hb
    have h3' : (a3 + 1).toInt = ((k + 1 : Nat) : Int) := by
      rw [t_add h3 (y := 1) rfl (by omega) (by omega)]
      omega
    have hf : (32 * a1 + a3).toInt = ((32 * s + k : Nat) : Int) := by
      have e := t_ix (c := 0) (m := 32) (C := 0) (M := 32) (k := a3) (j := k) rfl rfl h1 h3 (by omega)
      rw [Int32.zero_add] at e
      rw [e]
      omega
    have nxt : wt (σ 1) (32 * s + k) ≠ 1 → ∀ f, f < 32 * s + (k + 1) → f / 32 = s → r ≤ f % 32 → wt (σ 1) f ≠ 1 := fun z f f1 f2 f3 => by
      by_cases e : f = 32 * s + k
      · rw [e]; exact z
      · exact hb f (by omega) f2 f3
    obtain ⟨p1, q1⟩ := ixF (k := 1) (j := 1) hf rfl (by omega)
    refine w_M_firstBlock_2 a1 a2 a3 v4 v5 σ _ ⟨fun q => ?_, fun _ => (c_frameAt _ σ).int ?_⟩
    · rw [t_le, h3] at q
      have q : (32 : Int) ≤ k := q
      omega
    · rintro _ σ ⟨rfl, rfl⟩
      refine ⟨p1, (c_stateOf hf (by omega) σ).int ?_⟩
      rintro y σ2 ⟨ey, es⟩
      rw [ey, es, q1]
      refine ⟨fun z => ih (k + 1) _ _ _ h3' (by omega) (by omega) (nxt (by rw [wt_0 z]; decide)), fun z => ?_⟩
      have z := Classical.not_not.mp z
      obtain ⟨b, fr, o, p1, p2, p3, p4, p5, p6⟩ := ow.tk (32 * s + k) (by omega) z
      have hb1 := t_m1 p2 (by omega)
      refine (c_frameOf hb1 p1 σ).int ?_
      rintro y2 σ3 ⟨ey2, es2⟩
      rw [ey2, es2]
      refine ⟨fun w => ih (k + 1) _ _ _ h3' (by omega) (by omega) (nxt ?_), fun w => ?_⟩
      · rw [wt_1 z p2 p1, if_neg (fun y => w (t_inj (by rw [y, hf])))]
        decide
      · have w := congrArg Int32.toInt (Classical.not_not.mp w)
        rw [hf] at w
        exact ⟨_, rfl, Or.inr ⟨b, 32 * s + k, p1, hb1, by omega, by omega, by omega, p3, w, z, p2, hb⟩, rfl⟩
theorem l_from2 {a1 a2 : Int32} {s r : Nat} {v : Nat → Int32} (h1 : a1.toInt = s) (hs : s < 8) (σ : sm_S) (h : sim0 σ v) : ∀ (d k : Nat) (a3 : Int32) (v4 : Value), a3.toInt = ((32 * s + k : Nat) : Int) → k + d = 32 → r ≤ k → (∀ f, f < 32 * s + k → f / 32 = s → r ≤ f % 32 → wt v f ≠ 1) → xE xD m_G_blockFrom 7 [.ref 41, .int a1, .int a2, .int a3, v4] [] σ (sm_I (fun x σ' => fst v s r x ∧ σ' = σ)) := by
  have h32 : ((a1 + 1) * 32).toInt = ((32 * s + 32 : Nat) : Int) := by
    rw [t_mul (t_add h1 (y := 1) rfl (by omega) (by omega)) (y := 32) rfl (by omega) (by omega)]
    omega
  intro d
  induction d with
  | zero =>
    intro k a3 v4 h3 hk hr hb
    refine d_G_blockFrom_7 a1 a2 a3 v4 σ _ ⟨fun _ => ⟨_, rfl, Or.inl ⟨rfl, fun f f1 f2 f3 => hb f (by omega) f2 f3⟩, rfl⟩, fun q => absurd ?_ q⟩
    rw [t_le, h3, h32]
    omega
  | succ d ih =>
    intro k a3 v4 h3 hk hr hb
    have h3' : (a3 + 1).toInt = ((32 * s + (k + 1) : Nat) : Int) := by
      rw [t_add h3 (y := 1) rfl (by omega) (by omega)]
      omega
    have nxt : wt v (32 * s + k) ≠ 1 → ∀ f, f < 32 * s + (k + 1) → f / 32 = s → r ≤ f % 32 → wt v f ≠ 1 := fun z f f1 f2 f3 => by
      by_cases e : f = 32 * s + k
      · rw [e]; exact z
      · exact hb f (by omega) f2 f3
    have gF := h.F (32 * s + k) (by omega)
    refine d_G_blockFrom_7 a1 a2 a3 v4 σ _ ⟨fun q => ?_, fun _ => ?_⟩
    · rw [t_le, h3, h32] at q
      omega
    · rw [t_nat h3]
      refine ⟨t_vp h3 (by omega), fun z => ih (k + 1) _ _ h3' (by omega) (by omega) (nxt ?_), fun z => ?_⟩
      · have e := gF.blk
        rw [z] at e
        have e : v (18 + 3 * (32 * s + k) + 1) = 0 := e
        by_cases q : v (18 + 3 * (32 * s + k)) = 3
        · obtain ⟨b, _, _, p1, p2, -⟩ := h.O.tk _ (by omega) q
          rw [e] at p2
          have p2 : (0 : Int) = _ := p2
          omega
        · rw [wt_0 q]; decide
      · have s34 : v (18 + 3 * (32 * s + k)) = 3 ∨ v (18 + 3 * (32 * s + k)) = 4 := by
          refine Classical.byContradiction (fun q => z ?_)
          have e := h.O.no (32 * s + k) (by omega) (fun y => q (Or.inl y)) (fun y => q (Or.inr y))
          rw [gF.blk] at e
          have e2 : σ 6 (32 * s + k) = (σ 6 (32 * s + k) + 1) - 1 := by rw [Int32.add_sub_cancel]
          rw [e2, e]
          rfl
        have bb : ∃ b : Nat, b < 96 ∧ (v (18 + 3 * (32 * s + k) + 1)).toInt = ((b + 1 : Nat) : Int) ∧ v (786 + 16 * b + 0) = 1 ∧ (v (18 + 3 * (32 * s + k)) ≠ 3 → (v (786 + 16 * b + 1)).toInt ≠ ((32 * s + k : Nat) : Int)) := by
          rcases s34 with q | q
          · obtain ⟨b, _, _, p1, p2, p3, -⟩ := h.O.tk _ (by omega) q
            exact ⟨b, p1, p2, p3, fun y => absurd q y⟩
          · obtain ⟨b, t, o, p1, p2, p3, p4, p5, p6⟩ := h.O.hl _ (by omega) q
            refine ⟨b, p1, p2, p3, fun _ y => ?_⟩
            have := (h.O.hs b (32 * s + k) o p1 p3 y p5 0 (Nat.two_pow_pos o)).1
            rw [Nat.add_zero, q] at this
            exact absurd this (by decide)
        obtain ⟨b, p1, p2, p3, p4⟩ := bb
        have c6 : (σ 6 (32 * s + k)).toInt = b := m1_add (by rw [← gF.blk]; exact p2) (by omega)
        obtain ⟨gb, -⟩ := (h.B b p1).al p3
        rw [t_nat c6, ← gb.fir]
        refine ⟨t_vp c6 p1, fun w => ih (k + 1) _ _ h3' (by omega) (by omega) (nxt ?_), fun w => ?_⟩
        · by_cases q : v (18 + 3 * (32 * s + k)) = 3
          · rw [wt_1 q p2 p1, if_neg (fun y => w (t_inj (by rw [y, h3])))]
            decide
          · rw [wt_0 q]; decide
        · have w := congrArg Int32.toInt (Classical.not_not.mp w)
          rw [h3] at w
          have q : v (18 + 3 * (32 * s + k)) = 3 := Classical.byContradiction (fun q => p4 q w)
          exact ⟨_, rfl, Or.inr ⟨b, 32 * s + k, p1, c6, by omega, by omega, by omega, p3, w, q, p2, hb⟩, rfl⟩
/-- blockFrom | firstBlock -/
theorem p_first {c : sm_S} {v : Nat → Int32} {a1 a2 : Int32} {s r : Nat} (h : sim0 c v) (h1 : a1.toInt = s) (hs : s < 8) (h2 : a2.toInt = r) (hr : r ≤ 32) : ∃ x : Int32, rdI j_M_firstBlock [.ref 0, .int a1, .int a2] v x v ∧ xC xD j_G_blockFrom [.ref 41, .int a1, .int a2] c (sm_I (fun y σ' => y = x ∧ σ' = c)) ∧ fst v s r x := by
  have h3 : (a1 * 32 + a2).toInt = ((32 * s + r : Nat) : Int) := by
    rw [t_add (t_mul h1 (y := 32) rfl (by omega) (by omega)) h2 (by omega) (by omega)]
    omega
  obtain ⟨x, hx, rx⟩ := pick (d_G_blockFrom a1 a2 c _ (l_from2 (a2 := a2) (r := r) h1 hs c h (32 - r) r (a1 * 32 + a2) .null h3 (by omega) (Nat.le_refl r) (fun f f1 f2 f3 => by omega)))
  refine ⟨x, fun σ e => ?_, rx, hx⟩
  refine (w_M_firstBlock a1 a2 σ _ (l_first2 (a2 := a2) (r := r) h1 hs σ (by rw [e]; exact h.O) (32 - r) r a2 .null .null h2 (by omega) (Nat.le_refl r) (fun f f1 f2 f3 => by omega))).mono ?_
  rintro r σ' ⟨y, rfl, hy, rfl⟩
  rw [e] at hy
  exact ⟨y, rfl, fst_un hy hx, by rw [← e, s_id]⟩
/-- a cache is dropped -/
theorem p_drop {g : Prop} {N n : Nat} {c : sm_S} {v : Nat → Int32} {a1 : Int32} (h : tie g N c v) (hj : jj N v) (hx : jx v) (hN : N < 2000000000) (h1 : a1.toInt = n) (hn : n < 96) (h0 : v (786 + 16 * n + 0) = 1) (h6 : v (786 + 16 * n + 6) = 0) : ∃ v' c1 c', rd j_M_drops [.ref 0, .int a1] v v' ∧ xC xD j_Y_noteDrop [.ref 0, .int a1] c (sm_V (fun σ' => σ' = c1)) ∧ xC xD j_Y_remove [.ref 0, .int a1] c1 (sm_V (fun σ' => σ' = c')) ∧ tie g (N + 1) c' v' ∧ jj (N + 1) v' ∧ jx v' ∧ (∀ i, 2322 ≤ i → i < 2422 → v' i = v i) ∧ v' (786 + 16 * n + 0) = 0 ∧ (∀ i, 786 ≤ i → i < 2322 → i ≠ 786 + 16 * n + 0 → v' i = v i) ∧ (∀ f, f < 256 → wt v' f ≤ wt v f) ∧ ∃ fr : Nat, (v (786 + 16 * n + 1)).toInt = fr ∧ fr < 256 ∧ wt v' fr < wt v fr := by
  obtain ⟨o, fr, b1, b2, b3, b4, b5, -⟩ := hj.2.1.1 n hn
  have hle := al_le b2 b4 b5
  have hp := t_pw (k := o) (by omega)
  obtain ⟨gb, gb9⟩ := (h.s.B n hn).al h0
  have c9 : (c 9 n).toInt = fr := by rw [← gb.fir]; exact b3
  have c10 : (c 10 n).toInt = o := by rw [← gb.ord]; exact b1
  obtain ⟨p, hpp, hp4⟩ := hj.pt (s := fr / 32) (by omega)
  have hpc : (c 20 (fr / 32)).toInt = p := by rw [← (h.s.S (fr / 32) (by omega)).par]; exact hpp
  obtain ⟨nl, hnl, h5l, t1⟩ := h.log hN 6 a1 (v (786 + 16 * n + 1))
  have t2 := t1.cnt (k := 5) (by decide) 1
  have eC : sm_set (laC c nl (c 0 7) 6 a1 (v (786 + 16 * n + 1))) 40 (upd (laC c nl (c 0 7) 6 a1 (v (786 + 16 * n + 1)) 40) 5 (laC c nl (c 0 7) 6 a1 (v (786 + 16 * n + 1)) 40 5 + 1)) = laC (sm_set c 40 (upd (c 40) 5 (c 40 5 + 1))) nl (c 0 7) 6 a1 (c 9 n) := by
    rw [laC_s (by omega), gb.fir]
    rfl
  rw [eC] at t2
  have e2 : ∀ i, 786 ≤ i → i < 2422 → cnF (wrF v N 6 a1 (v (786 + 16 * n + 1))) 5 1 i = v i := fun i i1 i2 => by
    unfold cnF
    rw [u_ne (by omega), wrF_lo i2 (by omega)]
  have e2l : ∀ i, i < 786 → i ≠ 5 → i ≠ 12 → cnF (wrF v N 6 a1 (v (786 + 16 * n + 1))) 5 1 i = v i := fun i i1 i2 i3 => by
    unfold cnF
    rw [u_ne (by omega), wrF_lo (by omega) i2]
  have c9' : (laC (sm_set c 40 (upd (c 40) 5 (c 40 5 + 1))) nl (c 0 7) 6 a1 (c 9 n) 9 n).toInt = fr := c9
  have c10' : (laC (sm_set c 40 (upd (c 40) 5 (c 40 5 + 1))) nl (c 0 7) 6 a1 (c 9 n) 10 n).toInt = o := c10
  have c20' : (laC (sm_set c 40 (upd (c 40) 5 (c 40 5 + 1))) nl (c 0 7) 6 a1 (c 9 n) 20 (fr / 32)).toInt = p := hpc
  obtain ⟨M0, hM0, nf, r, σ', rrun, hr, sb, hsb, eσ⟩ := e_remove2 h1 hn b2 hle _ c9' c10' c20' hp4
  have s3 := sim_goes (sb := sb) (p := p) t2.s t2.b hn (by rw [e2 _ (by omega) (by omega)]; exact h0) (by rw [e2 _ (by omega) (by omega)]; exact h6) (by rw [e2 _ (by omega) (by omega)]; exact b3) (by rw [e2 _ (by omega) (by omega)]; exact b1) b2 b4 b5 (by rw [e2 _ (by omega) (by omega)]; exact hpp) hsb
  have run : rd j_M_drops [.ref 0, .int a1] v (upd (lvF (cnF (wrF v N 6 a1 (v (786 + 16 * n + 1))) 5 1) fr (2 ^ o)) (786 + 16 * n + 0) 0) := fun σ e => by
    rw [← e]
    exact c_drops2 h1 hn b2 hle σ (by rw [e]; exact h.n) (by rw [e]; exact b1) (by rw [e]; exact b3)
  obtain ⟨w, fr', ew, jw, -, k3, k4, -⟩ := run.det (c_drops (N := N) h1 hn (by omega) (rz v) (by rw [rz_at]; exact hj) (by rw [rz_at]; exact h6))
  rw [rz_eq ew] at jw k3 k4
  rw [rz_at] at k4
  have vo : ∀ i, i < 18 → i ≠ 5 → i ≠ 12 → upd (lvF (cnF (wrF v N 6 a1 (v (786 + 16 * n + 1))) 5 1) fr (2 ^ o)) (786 + 16 * n + 0) 0 i = v i := fun i i1 i2 i3 => by
    rw [u_ne (by omega), lvF_out (by omega), e2l i (by omega) i2 i3]
  have own3 := h.s.O.hs n fr o hn h0 b3 b1
  have wz : ∀ f, fr ≤ f → f < fr + 2 ^ o → wt (upd (lvF (cnF (wrF v N 6 a1 (v (786 + 16 * n + 1))) 5 1) fr (2 ^ o)) (786 + 16 * n + 0) 0) f = 0 := fun f f1 f2 => by
    refine wt_0 ?_
    rw [u_ne (by omega), (lvF_in f1 f2).1]
    rcases shV_12 (cnF (wrF v N 6 a1 (v (786 + 16 * n + 1))) 5 1) f with q | q <;> rw [q] <;> decide
  refine ⟨_, _, _, run, e_noteDrop2 h1 hn c h5l hnl, ⟨M0, hM0, nf, r, σ', rrun, hr, eσ⟩, ?_, jw, ?_, fun i i1 i2 => k4 i (by omega) i2 (by omega), k3, fun i i1 i2 i3 => k4 i i1 (by omega) i3, fun f hf => ?_, fr, b3, b4, ?_⟩
  · refine t2.to s3 (fun k k1 k2 => ?_) ?_ (fun i hi => ?_) jw.2.1.1
    · rw [s_ne (by omega), lgC_o (by omega)]
    · rw [u_ne (by omega), lvF_out (by omega)]
    · rw [u_ne (by omega), lvF_out (by omega)]
  · refine hx.re (n := n) (fun b k q1 q2 q3 => k4 _ (by omega) (by omega) (by omega)) (fun z => ?_) (fun z => ?_) (fun s' hs' z => ?_) (vo 0 (by omega) (by omega) (by omega)) (fun i i1 i2 => vo i (by omega) (by omega) (by omega))
    · rw [k3] at z
      exact absurd z (by decide)
    · rw [k3] at z
      exact absurd z (by decide)
    · exact ⟨fun y => z ((k4 (2358 + 8 * s' + 0) (by omega) (by omega) (by omega)).trans y), k4 (2358 + 8 * s' + 1) (by omega) (by omega) (by omega)⟩
  · by_cases z : fr ≤ f ∧ f < fr + 2 ^ o
    · rw [wz f z.1 z.2]
      exact Nat.zero_le _
    · refine Nat.le_of_eq (wt_cg ?_ ?_ (fun b y1 y2 y3 => k4 _ (by omega) (by omega) (by omega)) h.s.O hf)
      · rw [u_ne (by omega), lvF_out (by omega), e2l _ (by omega) (by omega) (by omega)]
      · rw [u_ne (by omega), lvF_out (by omega), e2l _ (by omega) (by omega) (by omega)]
  · have o0 := own3 0 (by omega)
    rw [Nat.add_zero] at o0
    rw [wz fr (by omega) (by omega), wt_1 o0.1 o0.2 hn, if_pos b3]
    decide
