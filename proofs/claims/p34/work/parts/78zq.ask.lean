/-! ===== the simulation: zone, loose, look answer the same ===== -/
theorem ky_zone {N : Nat} (a1 a2 : Int32) (σ : sm_S) (ht : tie True N σ (σ 169)) : ky j_A_zone j_M_zone [.ref 42, .int a1, .int a2] [.ref 0, .int a1, .int a2] σ := by
  by_cases k1 : 0 ≤ a1.toInt ∧ a1.toInt < 2
  · have cla : ∀ (Q : Int32 → sm_S → Prop), (∀ x, x ≠ 0 → Q x σ) → xC xF j_A_isZone [.int a1] σ (sm_ri False Q) := fun Q hQ => (nw0 (e_isZoneX a1 σ)).int (by
      rintro x σ1 ⟨hx, es⟩
      rw [es]
      exact hQ x (hx.b.2.mpr k1))
    by_cases k2 : 0 ≤ a2.toInt ∧ a2.toInt < 3
    · have ref : ∀ (Q : Option Value → sm_S → Prop) (σ2 : sm_S), σ2 1 = σ 169 → (∀ σ1 : sm_S, σ1 1 = σ 169 → ((a2 ≠ 0 → ((a2 ≠ 1 → xE xM m_M_zone 56 [.ref 0, .int a1, .int a2, .int (-1), .int 0] [] σ1 Q) ∧ (¬ (a2 ≠ 1) → xC xM j_M_freeIn [.ref 0, .int a1] σ1 (sm_ri False (fun x7 σ6 => Q (some (.int x7)) σ6))))) ∧ (¬ (a2 ≠ 0) → xC xM j_M_framesOf [.ref 0, .int a1] σ1 (sm_ri False (fun x9 σ8 => (¬ (32 : Int32) = 0 ∧ Q (some (.int (x9 / (32 : Int32)))) σ8)))))) → xC xM j_M_zone [.ref 0, .int a1, .int a2] σ2 Q := fun Q σ2 e2 hQ => by
        refine w_M_zone a1 a2 σ2 _ (fun σ1 e1 => (c_isInX (L := 0) (H := 1) rfl rfl a1 σ1).int ?_)
        obtain ⟨f1, -⟩ := told1 e2 e1
        rintro x3 σ3 ⟨hx3, es3⟩
        rw [es3]
        refine ⟨fun z => absurd ⟨k1.1, by omega⟩ (hx3.b.1.mp z), fun _ => (c_isInX (L := 0) (H := 2) rfl rfl a2 σ1).int ?_⟩
        rintro x5 σ5 ⟨hx5, es5⟩
        rw [es5]
        exact ⟨fun _ => hQ σ1 f1, fun z => absurd (hx5.b.2.mpr ⟨k2.1, by omega⟩) z⟩
      obtain ⟨rw', w1, w2⟩ := l_wz2 ht.s a1 a2 8 0 (-1) 0 rfl rfl
      rcases cs3 k2 with q | q | q
      · subst q
        exact ⟨nI (cnZ (σ 169) a1), f_A_zone a1 0 σ _ (cla _ (fun x hx => ⟨fun _ => ⟨fun _ => anC (toN (e_inZone2 a1 ht.s)), fun z => absurd rfl z⟩, fun z => absurd hx z⟩)), fun σ2 e2 => ref _ σ2 e2 (fun σ1 f1 => ⟨fun z => absurd rfl z, fun _ => (c_framesOf2 a1 σ1).int (by
          rintro x9 σ9 ⟨ex9, es9⟩
          refine ⟨by decide, an_ (t_nI ?_)⟩
          rw [t_div ex9 (d := 32) rfl (by decide), f1, Nat.mul_div_cancel_left _ (by decide)])⟩)⟩
      · subst q
        exact ⟨nI (fzN (σ 169) a1 8), f_A_zone a1 1 σ _ (cla _ (fun x hx => ⟨fun _ => ⟨fun z => absurd z (by decide), fun _ => ⟨fun _ => anC (toN (d_Y_freeInZone a1 σ _ (l_fz2 ht.s a1 8 0 0 0 rfl rfl rfl))), fun z => absurd rfl z⟩⟩, fun z => absurd hx z⟩)), fun σ2 e2 => ref _ σ2 e2 (fun σ1 f1 => ⟨fun _ => ⟨fun z => absurd rfl z, fun _ => anM (toN (by
          have q := w_M_freeIn a1 σ1 _ (l_freeIn2 a1 σ1 256 0 0 0 rfl rfl rfl)
          rw [f1, fz_eq] at q
          exact q))⟩, fun z => absurd (by decide) z⟩)⟩
      · subst q
        exact ⟨rw', f_A_zone a1 2 σ _ (cla _ (fun x hx => ⟨fun _ => ⟨fun z => absurd z (by decide), fun _ => ⟨fun z => absurd z (by decide), fun _ => ⟨fun _ => anC (d_Y_widestInZone a1 σ _ w1), fun z => absurd rfl z⟩⟩⟩, fun z => absurd hx z⟩)), fun σ2 e2 => ref _ σ2 e2 (fun σ1 f1 => ⟨fun _ => ⟨fun _ => w2 σ1 f1, fun z => absurd (by decide) z⟩, fun z => absurd (by decide) z⟩)⟩
    · refine ⟨-1, f_A_zone a1 a2 σ _ (cla _ (fun x hx => ⟨fun _ => ⟨fun z => absurd (by rw [z]; decide) k2, fun _ => ⟨fun z => absurd (by rw [z]; decide) k2, fun _ => ⟨fun z => absurd (by rw [z]; decide) k2, fun _ => an_ rfl⟩⟩⟩, fun _ => an_ rfl⟩)), fun σ2 e2 => ?_⟩
      refine w_M_zone a1 a2 σ2 _ (fun σ1 e1 => (c_isInX (L := 0) (H := 1) rfl rfl a1 σ1).int ?_)
      rintro x3 σ3 ⟨hx3, es3⟩
      rw [es3]
      refine ⟨fun _ => an_ rfl, fun _ => (c_isInX (L := 0) (H := 2) rfl rfl a2 σ1).int ?_⟩
      rintro x5 σ5 ⟨hx5, es5⟩
      exact ⟨fun z => absurd (by have := hx5.b.2.mp z; omega) k2, fun _ => an_ rfl⟩
  · refine ⟨-1, f_A_zone a1 a2 σ _ ((nw0 (e_isZoneX a1 σ)).int ?_), fun σ2 e2 => ?_⟩
    · rintro x σ1 ⟨hx, es⟩
      exact ⟨fun z => absurd (hx.b.2.mp z) k1, fun _ => an_ rfl⟩
    · refine w_M_zone a1 a2 σ2 _ (fun σ1 e1 => (c_isInX (L := 0) (H := 1) rfl rfl a1 σ1).int ?_)
      rintro x3 σ3 ⟨hx3, es3⟩
      exact ⟨fun _ => an_ rfl, fun z => absurd (by have := hx3.b.2.mp z; omega) k1⟩
theorem ce_zone {B : Nat} (a1 a2 : Int32) (σ : sm_S) (hB : B < 1500000000) (h : LR B σ) : two (fun x y => x = y) j_A_zone j_M_zone [.ref 42, .int a1, .int a2] [.ref 168, .int a1, .int a2] B σ := by
  have h2 := h
  obtain ⟨hL, ⟨N, hN, ht⟩, -⟩ := h2
  exact CLk h (a_zoneQ a1 a2 σ h.1.1) (fun σ1 q => m_zone a1 a2 σ1 hB q.2.1) (fun σ1 q => by
    obtain ⟨N, hN, hj⟩ := (lw_bs q.2.1).1
    exact qU (as := [.ref 0, .int a1, .int a2]) rfl (k_zone (N := N) a1 a2 (sh rM σ1) hj)) (asM := [.ref 0, .int a1, .int a2]) rfl (ky_zone a1 a2 σ ht.1)
theorem pc_ind (x : Int32) : pcn x = sumN (fun i => ind (bit x i)) 32 := by
  rw [pc_bit]
  exact sumN_cg (fun i _ => ind_if _ _)
theorem sumN_r0 {c n : Nat} (h : 0 < n) : sumN (fun r => if r = 0 then c else 0) n = c := by
  obtain ⟨m, rfl⟩ : ∃ m, n = m + 1 := ⟨n - 1, by omega⟩
  exact sumN_1 m
theorem frb_q {x : Int32} {o q r : Nat} (hr : r < 2 ^ o) : frb x (2 ^ o * q + r) o ↔ frb x (2 ^ o * q) o := by
  unfold frb
  rw [Nat.mul_add_div (Nat.two_pow_pos o), Nat.div_eq_of_lt hr, Nat.add_zero, Nat.mul_div_cancel_left _ (Nat.two_pow_pos o)]
theorem pc_st {x : Int32} {o : Nat} (ho : o ≤ 5) : sumN (fun i => ind (frb x i o)) 32 = 2 ^ o * pcn (st x o) := by
  have kp : 32 = 2 ^ o * 2 ^ (5 - o) := by rw [Nat.mul_comm, kp32 o ho]
  rw [pc_ind, sumN_cg (F := fun i => ind (bit (st x o) i)) (G := fun i => ind (i % 2 ^ o = 0 ∧ frb x i o)) (fun i hi => ind_cg (st_iff ho hi)), kp, sumN_blk, sumN_blk, ← sumN_mul]
  refine sumN_cg (fun q _ => ?_)
  have e1 : sumN (fun r => ind (frb x (2 ^ o * q + r) o)) (2 ^ o) = sumN (fun _ => ind (frb x (2 ^ o * q) o)) (2 ^ o) := sumN_cg (fun r hr => ind_cg (frb_q hr))
  have e2 : sumN (fun r => ind ((2 ^ o * q + r) % 2 ^ o = 0 ∧ frb x (2 ^ o * q + r) o)) (2 ^ o) = sumN (fun r => if r = 0 then ind (frb x (2 ^ o * q) o) else 0) (2 ^ o) := sumN_cg (fun r hr => by
    show ind ((2 ^ o * q + r) % 2 ^ o = 0 ∧ frb x (2 ^ o * q + r) o) = if r = 0 then ind (frb x (2 ^ o * q) o) else 0
    rw [Nat.mul_add_mod, Nat.mod_eq_of_lt hr]
    by_cases z : r = 0
    · rw [if_pos z]
      exact ind_cg ⟨fun w => (frb_q hr).mp w.2, fun w => ⟨z, (frb_q hr).mpr w⟩⟩
    · rw [if_neg z, ind_f (fun w => z w.1)])
  rw [e1, e2, sumN_c, sumN_r0 (Nat.two_pow_pos o), Nat.mul_comm]
noncomputable def lsS (v : Nat → Int32) (s o : Nat) : Nat := sumN (fun i => ind (v (18 + 3 * (32 * s + i)) = 1 ∧ ¬ frF (frV v) (32 * s + i) o)) 32
noncomputable def lsN (v : Nat → Int32) (z : Int32) (o k : Nat) : Nat := sumN (fun s => if zV v s = z then lsS v s o else 0) k
theorem lsS_le (v : Nat → Int32) (s o : Nat) : lsS v s o ≤ 32 := fin_le (fun i => ind_le _) 32
theorem lsN_le (v : Nat → Int32) (z : Int32) (o k : Nat) : lsN v z o k ≤ 32 * k := sumN_bd (fun s => by
  have := lsS_le v s o
  split <;> omega)
theorem ls_eq {c : sm_S} {v : Nat → Int32} {s o : Nat} (h : sim0 c v) (hs : s < 8) (ho : o ≤ 5) : pcn (c 2 s) = lsS v s o + 2 ^ o * pcn (st (c 2 s) o) := by
  rw [← pc_st ho, pc_ind]
  unfold lsS
  rw [← sumN_add]
  refine sumN_cg (fun i hi => ?_)
  have e1 : (32 * s + i) / 32 = s := by omega
  have e2 : (32 * s + i) % 32 = i := by omega
  have q := (h.F (32 * s + i) (by omega)).fre
  rw [e1, e2] at q
  have g : frF (frV v) (32 * s + i) o ↔ frb (c 2 s) i o := by
    rw [frF_cg (by omega) ho (sim_fr h), frF_b ho, e1, e2]
  have b0 : frb (c 2 s) i o → bit (c 2 s) i := fun z => by
    have := frb_le (Nat.zero_le o) z 0 (by decide)
    simpa using this
  by_cases w : bit (c 2 s) i
  · by_cases y : frb (c 2 s) i o
    · rw [ind_t w, ind_t y, ind_f (fun u => u.2 (g.mpr y))]
    · rw [ind_t w, ind_f y, ind_t ⟨q.mp w, fun u => y (g.mp u)⟩]
  · rw [ind_f w, ind_f (fun u => w (q.mpr u.1)), ind_f (fun u => w (b0 u))]
theorem l_loose2 {a2 : Int32} {o : Nat} (h2 : a2.toInt = o) (ho : o ≤ 5) (a1 : Int32) (σ : sm_S) : ∀ (d k : Nat) (a3 a4 : Int32), a4.toInt = k → k + d = 256 → a3.toInt = ((sumN (fun f => ind (σ 1 (18 + 3 * f) = 1 ∧ zV (σ 1) (f / 32) = a1 ∧ ¬ frF (frV (σ 1)) f o)) k : Nat) : Int) → xE xM m_M_loose 32 [.ref 0, .int a1, .int a2, .int a3, .int a4] [] σ (sm_I (fun x σ' => x.toInt = ((sumN (fun f => ind (σ 1 (18 + 3 * f) = 1 ∧ zV (σ 1) (f / 32) = a1 ∧ ¬ frF (frV (σ 1)) f o)) 256 : Nat) : Int) ∧ σ' = σ)) := by
  have bd : ∀ k, sumN (fun f => ind (σ 1 (18 + 3 * f) = 1 ∧ zV (σ 1) (f / 32) = a1 ∧ ¬ frF (frV (σ 1)) f o)) k ≤ k := fun k => fin_le (fun i => ind_le _) k
  intro d
  induction d with
  | zero =>
    intro k a3 a4 h4 hk h3
    have hk : k = 256 := by omega
    subst hk
    exact w_M_loose_32 a1 a2 a3 a4 σ _ ⟨fun _ => ⟨_, rfl, h3, rfl⟩, fun h => absurd (by rw [t_le, h4]; show (256 : Int) ≤ _; omega) h⟩
  | succ d ih =>
    intro k a3 a4 h4 hk h3
    have h4' : (a4 + 1).toInt = ((k + 1 : Nat) : Int) := by
      rw [t_add h4 (y := 1) rfl (by omega) (by omega)]
      omega
    have b := bd k
    have no : ¬ (σ 1 (18 + 3 * k) = 1 ∧ zV (σ 1) (k / 32) = a1 ∧ ¬ frF (frV (σ 1)) k o) → xE xM m_M_loose 32 [.ref 0, .int a1, .int a2, .int a3, .int (a4 + 1)] [] σ (sm_I (fun x σ' => x.toInt = ((sumN (fun f => ind (σ 1 (18 + 3 * f) = 1 ∧ zV (σ 1) (f / 32) = a1 ∧ ¬ frF (frV (σ 1)) f o)) 256 : Nat) : Int) ∧ σ' = σ)) := fun q => ih (k + 1) a3 (a4 + 1) h4' (by omega) (by
      rw [h3]
      show _ = ((sumN (fun f => ind (σ 1 (18 + 3 * f) = 1 ∧ zV (σ 1) (f / 32) = a1 ∧ ¬ frF (frV (σ 1)) f o)) k + ind (σ 1 (18 + 3 * k) = 1 ∧ zV (σ 1) (k / 32) = a1 ∧ ¬ frF (frV (σ 1)) k o) : Nat) : Int)
      rw [ind_f q]
      rfl)
    refine w_M_loose_32 a1 a2 a3 a4 σ _ ⟨fun z => ?_, fun _ => (c_isFree h4 (by omega) σ).int ?_⟩
    · rw [t_le, h4] at z
      have z : (256 : Int) ≤ k := z
      omega
    · rintro x2 σ1 ⟨hx2, es⟩
      rw [es]
      refine ⟨fun z => no (fun w => ?_), fun z => (c_spanOf2 h4 σ).int ?_⟩
      · rcases hx2 with ⟨y, -⟩ | ⟨-, y⟩
        · rw [y] at z; exact absurd z (by decide)
        · exact y w.1
      · have f1 : σ 1 (18 + 3 * k) = 1 := by
          rcases hx2 with ⟨-, y⟩ | ⟨y, -⟩
          · exact y
          · exact absurd y z
        rintro x4 σ4 ⟨ex4, es4⟩
        rw [es4]
        refine (c_zoneOf2 ex4 (by omega) σ).int ?_
        rintro x6 σ6 ⟨ex6, es6⟩
        rw [ex6, es6]
        refine ⟨fun z => no (fun w => z w.2.1), fun zz => (c_areFree h4 (by omega) h2 ho σ).int ?_⟩
        rintro x8 σ8 ⟨hx8, es8⟩
        rw [es8]
        refine ⟨fun z => no (fun w => w.2.2 ?_), fun z => ih (k + 1) (a3 + 1) (a4 + 1) h4' (by omega) ?_⟩
        · rcases hx8 with ⟨-, y⟩ | ⟨y, -⟩
          · exact y
          · exact absurd y z
        · have fr : ¬ frF (frV (σ 1)) k o := by
            rcases hx8 with ⟨y, -⟩ | ⟨-, y, y1, y2⟩
            · exact absurd y (by rw [Classical.not_not.mp z]; decide)
            · exact fun g => y2 (g y y1)
          rw [t_add h3 (y := 1) rfl (by omega) (by omega)]
          show _ = ((sumN (fun f => ind (σ 1 (18 + 3 * f) = 1 ∧ zV (σ 1) (f / 32) = a1 ∧ ¬ frF (frV (σ 1)) f o)) k + ind (σ 1 (18 + 3 * k) = 1 ∧ zV (σ 1) (k / 32) = a1 ∧ ¬ frF (frV (σ 1)) k o) : Nat) : Int)
          rw [ind_t ⟨f1, Classical.not_not.mp zz, fr⟩]
          omega
theorem ls_256 (v : Nat → Int32) (z : Int32) (o : Nat) : sumN (fun f => ind (v (18 + 3 * f) = 1 ∧ zV v (f / 32) = z ∧ ¬ frF (frV v) f o)) 256 = lsN v z o 8 := by
  rw [show (256 : Nat) = 32 * 8 from rfl, sumN_blk 32 8]
  refine sumN_cg (fun s hs => ?_)
  by_cases q : zV v s = z
  · rw [if_pos q]
    exact sumN_cg (fun i hi => by
      show ind (v (18 + 3 * (32 * s + i)) = 1 ∧ zV v ((32 * s + i) / 32) = z ∧ ¬ frF (frV v) (32 * s + i) o) = _
      rw [show (32 * s + i) / 32 = s by omega]
      exact ind_cg ⟨fun w => ⟨w.1, w.2.2⟩, fun w => ⟨w.1, q, w.2⟩⟩)
  · rw [if_neg q, sumN_cg (G := fun _ => 0) (fun i hi => ?_), sumN_0]
    show ind (v (18 + 3 * (32 * s + i)) = 1 ∧ zV v ((32 * s + i) / 32) = z ∧ ¬ frF (frV v) (32 * s + i) o) = 0
    rw [show (32 * s + i) / 32 = s by omega, ind_f (fun w => q w.2.1)]
theorem sl_dec : ∀ m, m < 33 → ∀ o, o < 6 → (nI m) <<< (nI o &&& 31) = nI (m * 2 ^ o) := by decide +kernel
theorem l_looseC2 {a2 : Int32} {o : Nat} {v : Nat → Int32} (h2 : a2.toInt = o) (ho : o ≤ 5) (a1 : Int32) (σ : sm_S) (h : sim0 σ v) : ∀ (d k : Nat) (a3 a4 : Int32) (v5 v6 : Value), a4.toInt = k → k + d = 8 → a3.toInt = ((lsN v a1 o k : Nat) : Int) → xE xF m_A_loose 23 [.ref 42, .int a1, .int a2, .int a3, .int a4, v5, v6] [] σ (sm_I (fun x _ => x = nI (lsN v a1 o 8))) := by
  intro d
  induction d with
  | zero =>
    intro k a3 a4 v5 v6 h4 hk h3
    have hk : k = 8 := by omega
    subst hk
    exact f_A_loose_23 a1 a2 a3 a4 v5 v6 σ _ ⟨fun _ => ⟨_, rfl, t_nI h3⟩, fun h => absurd (by rw [t_le, h4]; show (8 : Int) ≤ _; omega) h⟩
  | succ d ih =>
    intro k a3 a4 v5 v6 h4 hk h3
    have h4' : (a4 + 1).toInt = ((k + 1 : Nat) : Int) := by
      rw [t_add h4 (y := 1) rfl (by omega) (by omega)]
      omega
    have b := lsN_le v a1 o k
    have vv := t_vp (N := 8) h4 (by omega)
    refine f_A_loose_23 a1 a2 a3 a4 v5 v6 σ _ ⟨fun z => ?_, fun _ => ?_⟩
    · rw [t_le, h4] at z
      have z : (8 : Int) ≤ k := z
      omega
    · rw [t_nat h4, sim_zone h (by omega)]
      refine ⟨vv, fun q => ih (k + 1) a3 (a4 + 1) _ _ h4' (by omega) ?_, fun q => ⟨vv, (nw0 (c_starts h2 ho (σ 2 k) σ)).int ?_⟩⟩
      · rw [h3]
        show _ = ((lsN v a1 o k + (if zV v k = a1 then lsS v k o else 0) : Nat) : Int)
        rw [if_neg q]
        rfl
      · rintro x2 σ2 ⟨ex2, es2⟩
        rw [ex2, es2]
        refine (nw0 (c_bitCount2 (st (σ 2 k) o) σ)).int ?_
        rintro x4 σ4 ⟨ex4, es4⟩
        rw [es4]
        refine (nw0 (c_bitCount2 (σ 2 k) σ)).int ?_
        rintro x6 σ6 ⟨ex6, es6⟩
        rw [es6]
        have e := ls_eq h (show k < 8 by omega) ho
        have p6 := pc_le (σ 2 k)
        have p4 := pc_le (st (σ 2 k) o)
        have lS := lsS_le v k o
        have e4 : (x4 <<< (a2 &&& 31)).toInt = ((2 ^ o * pcn (st (σ 2 k) o) : Nat) : Int) := by
          rw [t_nI ex4, t_nI h2, sl_dec _ (by omega) o (by omega), Nat.mul_comm, nI_toInt (by omega)]
        refine ih (k + 1) _ (a4 + 1) _ _ h4' (by omega) ?_
        rw [t_add h3 (t_sub ex6 e4 (by omega) (by omega)) (by omega) (by omega)]
        show _ = ((lsN v a1 o k + (if zV v k = a1 then lsS v k o else 0) : Nat) : Int)
        rw [if_pos (Classical.not_not.mp q)]
        omega
theorem ky_loose {N : Nat} (a1 a2 : Int32) (σ : sm_S) (ht : tie True N σ (σ 169)) : ky j_A_loose j_M_loose [.ref 42, .int a1, .int a2] [.ref 0, .int a1, .int a2] σ := by
  have l0 : a2 < 0 ↔ a2.toInt < 0 := by rw [t_lt]; exact Iff.rfl
  have l5 : a2 ≤ 5 ↔ a2.toInt ≤ 5 := by rw [t_le]; exact Iff.rfl
  by_cases ok : (0 ≤ a1.toInt ∧ a1.toInt < 2) ∧ (0 ≤ a2.toInt ∧ a2.toInt ≤ 5)
  · obtain ⟨k1, k2⟩ := ok
    obtain ⟨o, ho⟩ := t_of k2.1
    refine ⟨nI (lsN (σ 169) a1 o 8), f_A_loose a1 a2 σ _ ((nw0 (e_isZoneX a1 σ)).int ?_), fun σ2 e2 => ?_⟩
    · rintro x2 σ1 ⟨hx2, es⟩
      rw [es]
      exact ⟨fun z => absurd k1 (hx2.b.1.mp z), fun _ => ⟨fun z => absurd (l0.mp z) (by omega), fun _ => ⟨fun _ => l_looseC2 ho (by omega) a1 σ ht.s 8 0 0 0 .null .null rfl rfl rfl, fun z => absurd (l5.mpr k2.2) z⟩⟩⟩
    · refine w_M_loose a1 a2 σ2 _ (fun σ1 e1 => (c_isInX (L := 0) (H := 1) rfl rfl a1 σ1).int ?_)
      obtain ⟨f1, -⟩ := told1 e2 e1
      rintro x3 σ3 ⟨hx3, es3⟩
      rw [es3]
      refine ⟨fun z => absurd ⟨k1.1, by omega⟩ (hx3.b.1.mp z), fun _ => (c_isInX (L := 0) (H := 5) rfl rfl a2 σ1).int ?_⟩
      rintro x5 σ5 ⟨hx5, es5⟩
      rw [es5]
      refine ⟨fun _ => ?_, fun z => absurd (hx5.b.2.mpr k2) z⟩
      refine (l_loose2 ho (by omega) a1 σ1 256 0 0 0 rfl rfl rfl).mono ?_
      rintro r σ7 ⟨x, e, hx, -⟩
      rw [f1, ls_256] at hx
      exact ⟨x, e, t_nI hx⟩
  · refine ⟨-1, f_A_loose a1 a2 σ _ ((nw0 (e_isZoneX a1 σ)).int ?_), fun σ2 e2 => ?_⟩
    · rintro x2 σ1 ⟨hx2, es⟩
      refine ⟨fun _ => an_ rfl, fun n2 => ⟨fun _ => an_ rfl, fun n0 => ⟨fun n5 => ?_, fun _ => an_ rfl⟩⟩⟩
      rw [l0] at n0
      exact absurd ⟨hx2.b.2.mp n2, by omega, l5.mp n5⟩ ok
    · refine w_M_loose a1 a2 σ2 _ (fun σ1 e1 => (c_isInX (L := 0) (H := 1) rfl rfl a1 σ1).int ?_)
      rintro x3 σ3 ⟨hx3, es3⟩
      rw [es3]
      refine ⟨fun _ => an_ rfl, fun n3 => (c_isInX (L := 0) (H := 5) rfl rfl a2 σ1).int ?_⟩
      rintro x5 σ5 ⟨hx5, es5⟩
      refine ⟨fun n5 => absurd ⟨?_, hx5.b.2.mp n5⟩ ok, fun _ => an_ rfl⟩
      have := hx3.b.2.mp n3
      omega
theorem ce_loose {B : Nat} (a1 a2 : Int32) (σ : sm_S) (hB : B < 1500000000) (h : LR B σ) : two (fun x y => x = y) j_A_loose j_M_loose [.ref 42, .int a1, .int a2] [.ref 168, .int a1, .int a2] B σ := by
  have h2 := h
  obtain ⟨hL, ⟨N, hN, ht⟩, -⟩ := h2
  exact CLk h (a_looseQ a1 a2 σ h.1.1) (fun σ1 q => m_loose a1 a2 σ1 hB q.2.1) (fun σ1 q => by
    obtain ⟨N, hN, hj⟩ := (lw_bs q.2.1).1
    exact qU (as := [.ref 0, .int a1, .int a2]) rfl (k_loose (N := N) a1 a2 (sh rM σ1) hj)) (asM := [.ref 0, .int a1, .int a2]) rfl (ky_loose a1 a2 σ ht.1)
