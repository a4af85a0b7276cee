/-! ===== the simulation: at answers the same ===== -/
theorem sumN_swap {F : Nat → Nat → Nat} (m : Nat) : ∀ n, sumN (fun i => sumN (fun j => F i j) m) n = sumN (fun j => sumN (fun i => F i j) n) m
  | 0 => (sumN_0 m).symm
  | n + 1 => by
    show sumN (fun i => sumN (fun j => F i j) m) n + sumN (fun j => F n j) m = _
    rw [sumN_swap m n, ← sumN_add]
    rfl
theorem sumN_rng {a n K : Nat} (h : a + n ≤ K) : sumN (fun f => ind (a ≤ f ∧ f < a + n)) K = n := by
  obtain ⟨m, rfl⟩ : ∃ m, K = a + (n + m) := ⟨K - a - n, by omega⟩
  rw [sumN_split a, sumN_split n]
  have e1 : sumN (fun f => ind (a ≤ f ∧ f < a + n)) a = 0 := sumN_z.mpr (fun i hi => ind_f (by omega))
  have e2 : sumN (fun i => ind (a ≤ a + i ∧ a + i < a + n)) n = sumN (fun _ => 1) n := sumN_cg (fun i hi => ind_t (by omega))
  have e3 : sumN (fun i => ind (a ≤ a + (n + i) ∧ a + (n + i) < a + n)) m = 0 := sumN_z.mpr (fun i hi => ind_f (by omega))
  rw [e1, e2, e3, sumN_c]
  omega
theorem sumN_pk {b0 K : Nat} {P : Nat → Prop} (h : b0 < K) : sumN (fun b => ind (b = b0 ∧ P b)) K = ind (P b0) := by
  by_cases q : P b0
  · rw [ind_t q, sumN_cg (G := fun b => ind (b0 ≤ b ∧ b < b0 + 1)) (fun b _ => ind_cg ⟨fun z => ⟨by omega, by omega⟩, fun z => ?_⟩), sumN_rng (by omega)]
    have e : b = b0 := by omega
    exact ⟨e, by rw [e]; exact q⟩
  · rw [ind_f q]
    exact sumN_z.mpr (fun b _ => ind_f (fun z => q (by rw [← z.1]; exact z.2)))
/-- the frame f is the block b's, whose owner is a, on the node nd -/
noncomputable def wAt (v : Nat → Int32) (a : Int32) (nd b f : Nat) : Nat := ind (v (18 + 3 * f) = 3 ∧ (v (18 + 3 * f + 1)).toInt = ((b + 1 : Nat) : Int) ∧ v (786 + 16 * b + 4) = a ∧ f / 32 % 2 = nd)
noncomputable def rAt (v : Nat → Int32) (a : Int32) (nd f : Nat) : Nat := ind (f / 32 % 2 = nd ∧ v (18 + 3 * f) = 3 ∧ ∃ b : Nat, b < 96 ∧ (v (18 + 3 * f + 1)).toInt = ((b + 1 : Nat) : Int) ∧ v (786 + 16 * b + 4) = a)
theorem rAt_eq {v : Nat → Int32} (g : own v) (a : Int32) (nd : Nat) {f : Nat} (hf : f < 256) : rAt v a nd f = sumN (fun b => wAt v a nd b f) 96 := by
  unfold rAt wAt
  by_cases q : v (18 + 3 * f) = 3
  · obtain ⟨b0, fr, o, b1, b2, -⟩ := g.tk f hf q
    rw [sumN_cg (G := fun b => ind (b = b0 ∧ (v (786 + 16 * b + 4) = a ∧ f / 32 % 2 = nd))) (fun b _ => ind_cg ⟨fun z => ⟨by omega, z.2.2⟩, fun z => ⟨q, by rw [z.1]; exact b2, z.2⟩⟩), sumN_pk (P := fun b => v (786 + 16 * b + 4) = a ∧ f / 32 % 2 = nd) b1]
    refine ind_cg ⟨fun z => ?_, fun z => ⟨z.2, q, b0, b1, b2, z.1⟩⟩
    obtain ⟨z1, -, b, c1, c2, c3⟩ := z
    have e : b = b0 := by omega
    rw [e] at c3
    exact ⟨c3, z1⟩
  · rw [ind_f (fun z => q z.2.1)]
    exact (sumN_z.mpr (fun b _ => ind_f (fun z => q z.1))).symm
noncomputable def cAt (v : Nat → Int32) (a : Int32) (nd b : Nat) : Nat := sumN (fun f => wAt v a nd b f) 256
theorem cAt_0 {v : Nat → Int32} (g : own v) {a : Int32} {nd b : Nat} (hb : b < 96) (h0 : v (786 + 16 * b + 0) = 0) : cAt v a nd b = 0 := sumN_z.mpr (fun f hf => ind_f (fun z => by
  obtain ⟨b0, fr, o, b1, b2, b3, -⟩ := g.tk f hf z.1
  have e : b0 = b := by omega
  rw [e, h0] at b3
  exact absurd b3 (by decide)))
theorem cAt_1 {v : Nat → Int32} (g : own v) {a : Int32} {nd b fr o : Nat} (hb : b < 96) (h0 : v (786 + 16 * b + 0) = 1) (hf : (v (786 + 16 * b + 1)).toInt = fr) (ho : (v (786 + 16 * b + 2)).toInt = o) (ho4 : o ≤ 4) (hfr : fr < 256) (hal : fr % 2 ^ o = 0) : cAt v a nd b = 2 ^ o * ind (v (786 + 16 * b + 4) = a ∧ fr / 32 % 2 = nd) := by
  have hle := al_le ho4 hfr hal
  have hsp := t_al (k := o) (by omega) hal
  have rng : ∀ f, f < 256 → ((v (18 + 3 * f) = 3 ∧ (v (18 + 3 * f + 1)).toInt = ((b + 1 : Nat) : Int)) ↔ (fr ≤ f ∧ f < fr + 2 ^ o)) := fun f hf2 => by
    constructor
    · rintro ⟨z1, z2⟩
      obtain ⟨b0, fr0, o0, b1, b2, b3, b4, b5, b6, b7⟩ := g.tk f hf2 z1
      have e : b0 = b := by omega
      rw [e] at b4 b5
      have e1 : fr0 = fr := by omega
      have e2 : o0 = o := by omega
      rw [e1] at b6 b7
      rw [e2] at b7
      exact ⟨b6, b7⟩
    · rintro ⟨z1, z2⟩
      have := g.hs b fr o hb h0 hf ho (f - fr) (by omega)
      rw [show fr + (f - fr) = f by omega] at this
      exact this
  by_cases q : v (786 + 16 * b + 4) = a ∧ fr / 32 % 2 = nd
  · rw [ind_t q, Nat.mul_one]
    unfold cAt wAt
    rw [sumN_cg (G := fun f => ind (fr ≤ f ∧ f < fr + 2 ^ o)) (fun f hf2 => ind_cg ⟨fun z => (rng f hf2).mp ⟨z.1, z.2.1⟩, fun z => ?_⟩), sumN_rng hle]
    have r := (rng f hf2).mpr z
    refine ⟨r.1, r.2, q.1, ?_⟩
    rw [show f / 32 = fr / 32 by omega]
    exact q.2
  · rw [ind_f q, Nat.mul_zero]
    refine sumN_z.mpr (fun f hf2 => ind_f (fun z => q ⟨z.2.2.1, ?_⟩))
    have r := (rng f hf2).mp ⟨z.1, z.2.1⟩
    rw [← show f / 32 = fr / 32 by omega]
    exact z.2.2.2
theorem l_at2 {a2 : Int32} {nd : Nat} {v : Nat → Int32} (h2 : a2.toInt = nd) (a1 : Int32) (σ : sm_S) (e : σ 1 = v) (g : own v) : ∀ (d k : Nat) (a3 a4 : Int32), a4.toInt = k → k + d = 256 → a3.toInt = ((sumN (rAt v a1 nd) k : Nat) : Int) → xE xM m_M_at 30 [.ref 0, .int a1, .int a2, .int a3, .int a4] [] σ (sm_I (fun x _ => x.toInt = ((sumN (rAt v a1 nd) 256 : Nat) : Int))) := by
  have bd : ∀ k, sumN (rAt v a1 nd) k ≤ k := fun k => fin_le (fun i => ind_le _) k
  intro d
  induction d with
  | zero =>
    intro k a3 a4 h4 hk h3
    have hk : k = 256 := by omega
    subst hk
    exact w_M_at_30 a1 a2 a3 a4 σ _ ⟨fun _ => ⟨_, rfl, h3⟩, fun h => absurd (by rw [t_le, h4]; show (256 : Int) ≤ _; omega) h⟩
  | succ d ih =>
    intro k a3 a4 h4 hk h3
    have h4' : (a4 + 1).toInt = ((k + 1 : Nat) : Int) := by
      rw [t_add h4 (y := 1) rfl (by omega) (by omega)]
      omega
    have b := bd k
    have no : rAt v a1 nd k = 0 → xE xM m_M_at 30 [.ref 0, .int a1, .int a2, .int a3, .int (a4 + 1)] [] σ (sm_I (fun x _ => x.toInt = ((sumN (rAt v a1 nd) 256 : Nat) : Int))) := fun q => ih (k + 1) a3 (a4 + 1) h4' (by omega) (by
      rw [h3]
      show _ = ((sumN (rAt v a1 nd) k + rAt v a1 nd k : Nat) : Int)
      rw [q]
      rfl)
    refine w_M_at_30 a1 a2 a3 a4 σ _ ⟨fun z => ?_, fun _ => (c_spanOf2 h4 σ).int ?_⟩
    · rw [t_le, h4] at z
      have z : (256 : Int) ≤ k := z
      omega
    · rintro x2 σ1 ⟨ex2, es⟩
      rw [es]
      have hr := t_rem (b := 2) (d := 2) ex2 rfl (by decide)
      have hn : (x2 - x2 / (2 : Int32) * (2 : Int32)) = a2 ↔ k / 32 % 2 = nd := by
        refine ⟨fun z => ?_, fun z => t_inj (by rw [hr, h2, z])⟩
        rw [z, h2] at hr
        omega
      refine ⟨by decide, fun z => no (ind_f (fun y => z (hn.mpr y.1))), fun zn => (c_stateOf h4 (by omega) σ).int ?_⟩
      rintro x4 σ3 ⟨ex4, es3⟩
      rw [ex4, es3, e]
      refine ⟨fun z => no (ind_f (fun y => z y.2.1)), fun zs => (c_frameAt a4 σ).int ?_⟩
      rintro x6 σ5 ⟨ex6, es5⟩
      rw [ex6, es5]
      have ix := t_ix (c := 18) (m := 3) (C := 18) (M := 3) (k := 1) (j := 1) rfl rfl h4 rfl (by omega)
      rw [t_nat ix, e]
      obtain ⟨b0, fr, o, b1, b2, -⟩ := g.tk k (by omega) (Classical.not_not.mp zs)
      refine ⟨t_vp ix (by omega), (c_of (k := 4) (j := 4) (t_m1 b2 (by omega)) rfl (by omega) σ).int ?_⟩
      rintro x8 σ7 ⟨ex8, es7⟩
      rw [ex8, es7, e]
      refine ⟨fun z => no (ind_f (fun y => ?_)), fun z => ih (k + 1) (a3 + 1) (a4 + 1) h4' (by omega) ?_⟩
      · obtain ⟨-, -, c0, c1, c2, c3⟩ := y
        have q : c0 = b0 := by omega
        rw [q] at c3
        exact z c3
      · rw [t_add h3 (y := 1) rfl (by omega) (by omega)]
        show _ = ((sumN (rAt v a1 nd) k + rAt v a1 nd k : Nat) : Int)
        have q : rAt v a1 nd k = 1 := ind_t ⟨hn.mp (Classical.not_not.mp zn), Classical.not_not.mp zs, b0, b1, b2, Classical.not_not.mp z⟩
        rw [q]
        omega
theorem l_at3 {a2 : Int32} {nd : Nat} {v : Nat → Int32} (h2 : a2.toInt = nd) (a1 : Int32) (σ : sm_S) (h : sim0 σ v) (hb : ∀ b, b < 96 → bk_ok v b) : ∀ (d k : Nat) (a3 a4 : Int32), a4.toInt = k → k + d = 96 → a3.toInt = ((sumN (cAt v a1 nd) k : Nat) : Int) → sumN (cAt v a1 nd) k ≤ 16 * k → xE xD m_B_framesAt 5 [.ref 8, .int a1, .int a2, .int a3, .int a4] [] σ (sm_I (fun x σ' => x.toInt = ((sumN (cAt v a1 nd) 96 : Nat) : Int) ∧ σ' = σ)) := by
  intro d
  induction d with
  | zero =>
    intro k a3 a4 h4 hk h3 _
    have hk : k = 96 := by omega
    subst hk
    exact d_B_framesAt_5 a1 a2 a3 a4 σ _ ⟨fun _ => ⟨_, rfl, h3, rfl⟩, fun h => absurd (by rw [t_le, h4]; show (96 : Int) ≤ _; omega) h⟩
  | succ d ih =>
    intro k a3 a4 h4 hk h3 bd
    have h4' : (a4 + 1).toInt = ((k + 1 : Nat) : Int) := by
      rw [t_add h4 (y := 1) rfl (by omega) (by omega)]
      omega
    have vv := t_vp (N := 96) h4 (by omega)
    have sc : sumN (cAt v a1 nd) (k + 1) = sumN (cAt v a1 nd) k + cAt v a1 nd k := rfl
    have no : cAt v a1 nd k = 0 → xE xD m_B_framesAt 5 [.ref 8, .int a1, .int a2, .int a3, .int (a4 + 1)] [] σ (sm_I (fun x σ' => x.toInt = ((sumN (cAt v a1 nd) 96 : Nat) : Int) ∧ σ' = σ)) := fun q => ih (k + 1) a3 (a4 + 1) h4' (by omega) (by rw [h3, sc, q]; rfl) (by omega)
    refine d_B_framesAt_5 a1 a2 a3 a4 σ _ ⟨fun z => ?_, fun _ => ?_⟩
    · rw [t_le, h4] at z
      have z : (96 : Int) ≤ k := z
      omega
    · rw [t_nat h4]
      rcases h.B k (by omega) with ⟨g1, g2⟩ | ⟨g1, g2, gb⟩
      · exact ⟨vv, fun _ => no (cAt_0 h.O (by omega) g2), fun z => absurd g1 z⟩
      · obtain ⟨o, fr, b1, b2, b3, b4, b5, -⟩ := hb k (by omega)
        have c1 := cAt_1 (a := a1) (nd := nd) h.O (show k < 96 by omega) g2 b3 b1 b2 b4 b5
        have c9 : (σ 9 k).toInt = fr := by rw [← gb.fir]; exact b3
        have c10 : (σ 10 k).toInt = o := by rw [← gb.ord]; exact b1
        have hr := t_rem (b := 2) (d := 2) (t_div c9 (b := 32) (d := 32) rfl (by decide)) rfl (by decide)
        have hn : ((σ 9 k / (32 : Int32)) - (σ 9 k / (32 : Int32)) / (2 : Int32) * (2 : Int32)) = a2 ↔ fr / 32 % 2 = nd := by
          refine ⟨fun z => ?_, fun z => t_inj (by rw [hr, h2, z])⟩
          rw [z, h2] at hr
          omega
        refine ⟨vv, fun z => absurd z g1, fun _ => ⟨vv, fun z => no ?_, fun zo => ⟨vv, by decide, by decide, fun z => no ?_, fun zn => (c_size h4 (by omega) σ).int ?_⟩⟩⟩
        · rw [c1, ind_f (fun y => z (by rw [← gb.own]; exact y.1)), Nat.mul_zero]
        · rw [c1, ind_f (fun y => z (hn.mpr y.2)), Nat.mul_zero]
        · rintro x2 σ1 ⟨ex2, es⟩
          rw [es]
          have p := t_pow c10 (show o < 31 by omega)
          have q : cAt v a1 nd k = 2 ^ o := by rw [c1, ind_t ⟨by rw [gb.own]; exact Classical.not_not.mp zo, hn.mp (Classical.not_not.mp zn)⟩, Nat.mul_one]
          have p4 : 2 ^ o ≤ 16 := Nat.pow_le_pow_right (by decide) b2
          refine ih (k + 1) (a3 + x2) (a4 + 1) h4' (by omega) ?_ (by omega)
          rw [ex2, t_add h3 p (by omega) (by omega), sc, q]
          omega
theorem ky_at {N : Nat} (a1 a2 : Int32) (σ : sm_S) (ht : tie True N σ (σ 169)) : ky j_A_at j_M_at [.ref 42, .int a1, .int a2] [.ref 0, .int a1, .int a2] σ := by
  by_cases ok : (0 ≤ a1.toInt ∧ a1.toInt < 6) ∧ (0 ≤ a2.toInt ∧ a2.toInt < 2)
  · obtain ⟨k1, k2⟩ := ok
    obtain ⟨nd, hnd⟩ := t_of k2.1
    refine ⟨nI (sumN (cAt (σ 169) a1 nd) 96), f_A_at a1 a2 σ _ ((nw0 (e_isTaskX a1 σ)).int ?_), fun σ2 e2 => ?_⟩
    · rintro x2 σ1 ⟨hx2, es⟩
      rw [es]
      refine ⟨fun z => absurd k1 (hx2.b.1.mp z), fun _ => (nw0 (e_isNodeX a2 σ)).int ?_⟩
      rintro x4 σ3 ⟨hx4, es3⟩
      rw [es3]
      exact ⟨fun _ => anC (toN (d_B_framesAt a1 a2 σ _ (l_at3 hnd a1 σ ht.s ht.b 96 0 0 0 rfl rfl rfl (Nat.zero_le _)))), fun z => absurd (hx4.b.2.mpr k2) z⟩
    · refine w_M_at a1 a2 σ2 _ (fun σ1 e1 => (c_isTaskX a1 σ1).int ?_)
      obtain ⟨f1, -⟩ := told1 e2 e1
      rintro x3 σ3 ⟨hx3, es3⟩
      rw [es3]
      refine ⟨fun z => absurd k1 (hx3.b.1.mp z), fun _ => (c_isInX (L := 0) (H := 1) rfl rfl a2 σ1).int ?_⟩
      rintro x5 σ5 ⟨hx5, es5⟩
      rw [es5]
      refine ⟨fun _ => ?_, fun z => absurd (hx5.b.2.mpr ⟨k2.1, by omega⟩) z⟩
      refine (l_at2 hnd a1 σ1 f1 ht.s.O 256 0 0 0 rfl rfl rfl).mono ?_
      rintro r σ7 ⟨x, e, hx⟩
      refine ⟨x, e, t_nI ?_⟩
      rw [hx, sumN_cg (F := rAt (σ 169) a1 nd) (fun f hf => rAt_eq ht.s.O a1 nd hf), sumN_swap 96 256]
      rfl
  · refine ⟨-1, f_A_at a1 a2 σ _ ((nw0 (e_isTaskX a1 σ)).int ?_), fun σ2 e2 => ?_⟩
    · rintro x2 σ1 ⟨hx2, es⟩
      rw [es]
      refine ⟨fun _ => an_ rfl, fun n2 => (nw0 (e_isNodeX a2 σ)).int ?_⟩
      rintro x4 σ3 ⟨hx4, es3⟩
      exact ⟨fun n4 => absurd ⟨hx2.b.2.mp n2, hx4.b.2.mp n4⟩ ok, fun _ => an_ rfl⟩
    · refine w_M_at a1 a2 σ2 _ (fun σ1 e1 => (c_isTaskX a1 σ1).int ?_)
      rintro x3 σ3 ⟨hx3, es3⟩
      rw [es3]
      refine ⟨fun _ => an_ rfl, fun n3 => (c_isInX (L := 0) (H := 1) rfl rfl a2 σ1).int ?_⟩
      rintro x5 σ5 ⟨hx5, es5⟩
      refine ⟨fun n5 => absurd ⟨hx3.b.2.mp n3, ?_⟩ ok, fun _ => an_ rfl⟩
      have := hx5.b.2.mp n5
      omega
theorem ce_at {B : Nat} (a1 a2 : Int32) (σ : sm_S) (hB : B < 1500000000) (h : LR B σ) : two (fun x y => x = y) j_A_at j_M_at [.ref 42, .int a1, .int a2] [.ref 168, .int a1, .int a2] B σ := by
  have h2 := h
  obtain ⟨hL, ⟨N, hN, ht⟩, -⟩ := h2
  exact CLk h (a_atQ a1 a2 σ h.1.1) (fun σ1 q => m_at a1 a2 σ1 hB q.2.1) (fun σ1 q => by
    obtain ⟨N, hN, hj⟩ := (lw_bs q.2.1).1
    exact qU (as := [.ref 0, .int a1, .int a2]) rfl (k_at (N := N) a1 a2 (sh rM σ1) hj)) (asM := [.ref 0, .int a1, .int a2]) rfl (ky_at a1 a2 σ ht.1)
