/-! ===== the simulation: log, hole, span answer the same ===== -/
theorem cs4 {a : Int32} (h : 0 ≤ a.toInt ∧ a.toInt < 4) : a = 0 ∨ a = 1 ∨ a = 2 ∨ a = 3 := by
  rcases (show a.toInt = 0 ∨ a.toInt = 1 ∨ a.toInt = 2 ∨ a.toInt = 3 by omega) with q | q | q | q
  · exact Or.inl (t_inj q)
  · exact Or.inr (Or.inl (t_inj q))
  · exact Or.inr (Or.inr (Or.inl (t_inj q)))
  · exact Or.inr (Or.inr (Or.inr (t_inj q)))
theorem ky_log {N : Nat} (a1 a2 : Int32) (σ : sm_S) (ht : tie True N σ (σ 169)) : ky j_A_log j_M_log [.ref 42, .int a1, .int a2] [.ref 0, .int a1, .int a2] σ := by
  have hl := ht.l trivial
  obtain ⟨n, hn, hx⟩ := hl.nxt
  have l0 : a1 < 0 ↔ a1.toInt < 0 := by rw [t_lt]; exact Iff.rfl
  have l60 : 60 ≤ a1 ↔ 60 ≤ a1.toInt := by rw [t_le]; exact Iff.rfl
  have ln4 : a1 < σ 34 4 ↔ a1.toInt < n := by rw [hl.lns, t_lt, hn]
  have ln5 : σ 169 5 ≤ a1 ↔ (n : Int) ≤ a1.toInt := by rw [t_le, hn]
  have h5 : (5 : Int32).toNatClampNeg = 5 := rfl
  have v5 : vp_in (5 : Int32) 2662 := t_vp (n := 5) rfl (by decide)
  have bn := t_bd (σ 169 5)
  by_cases ok : 0 ≤ a1.toInt ∧ a1.toInt < 60 ∧ a1.toInt < n
  · obtain ⟨i, hi⟩ := t_of ok.1
    have hi6 : i < 60 := by omega
    have hin : i < n := by omega
    have p60 : (n - 1 - i) % 60 < 60 := by omega
    have ixA : σ 34 5 ≤ a1 → (((σ 34 5 - 1) - a1) + 60).toInt = (((n - 1 - i) % 60 : Nat) : Int) := fun z => by
      rw [t_le, hx, hi] at z
      rw [t_add (t_sub (t_sub hx (y := 1) rfl (by omega) (by omega)) hi (by omega) (by omega)) (y := 60) rfl (by omega) (by omega)]
      omega
    have ixB : ¬ σ 34 5 ≤ a1 → ((σ 34 5 - 1) - a1).toInt = (((n - 1 - i) % 60 : Nat) : Int) := fun z => by
      rw [t_le, hx, hi] at z
      rw [t_sub (t_sub hx (y := 1) rfl (by omega) (by omega)) hi (by omega) (by omega)]
      omega
    obtain ⟨g0, g1, g2, g3⟩ := hl.ent ((n - 1 - i) % 60) p60
    by_cases k2 : 0 ≤ a2.toInt ∧ a2.toInt < 4
    · have ref : ∀ j : Nat, a2.toInt = j → ∀ σ2 : sm_S, σ2 1 = σ 169 → xC xM j_M_log [.ref 0, .int a1, .int a2] σ2 (sm_I (fun y _ => y = σ 169 (2422 + 4 * ((n - 1 - i) % 60) + j))) := fun j hj σ2 e2 => by
        refine w_M_log a1 a2 σ2 _ (fun σ1 e1 => ?_)
        obtain ⟨f1, -⟩ := told1 e2 e1
        rw [h5, f1]
        refine ⟨fun z => absurd (l0.mp z) (by omega), fun _ => ⟨fun z => absurd (l60.mp z) (by omega), fun _ => ⟨v5, fun z => absurd (ln5.mp z) (by omega), fun _ => (c_isInX (L := 0) (H := 3) rfl rfl a2 σ1).int ?_⟩⟩⟩
        rintro x3 σ3 ⟨hx3, es3⟩
        rw [es3, f1]
        have hq : ((σ 169 5 - 1) - a1).toInt = ((n - 1 - i : Nat) : Int) := by
          rw [t_sub (t_sub hn (y := 1) rfl (by omega) (by omega)) hi (by omega) (by omega)]
          omega
        have hr := t_rem (b := 60) (d := 60) hq rfl (by decide)
        have ix := t_ix (c := 2422) (m := 4) (C := 2422) (M := 4) rfl rfl hr hj (by omega)
        rw [t_nat ix]
        exact ⟨fun _ => ⟨v5, by decide, t_vp ix (by omega), an_ rfl⟩, fun z => absurd (hx3.b.2.mpr ⟨k2.1, by omega⟩) z⟩
      rcases cs4 k2 with q | q | q | q
      · subst q
        exact ⟨_, f_A_log a1 0 σ _ (anC (d_L_cell a1 0 σ _ ⟨fun z => absurd (l0.mp z) (by omega), fun _ => ⟨fun z => absurd (l60.mp z) (by omega), fun _ => ⟨fun _ => ⟨fun z => ⟨fun _ => ⟨t_vp (ixA z) p60, _, rfl, by rw [t_nat (ixA z)]; exact g0.symm, rfl⟩, fun w => absurd rfl w⟩, fun z => ⟨fun _ => ⟨t_vp (ixB z) p60, _, rfl, by rw [t_nat (ixB z)]; exact g0.symm, rfl⟩, fun w => absurd rfl w⟩⟩, fun z => absurd (ln4.mpr (by omega)) z⟩⟩⟩)), ref 0 rfl⟩
      · subst q
        exact ⟨_, f_A_log a1 1 σ _ (anC (d_L_cell a1 1 σ _ ⟨fun z => absurd (l0.mp z) (by omega), fun _ => ⟨fun z => absurd (l60.mp z) (by omega), fun _ => ⟨fun _ => ⟨fun z => ⟨fun w => absurd w (by decide), fun _ => ⟨fun _ => ⟨t_vp (ixA z) p60, _, rfl, by rw [t_nat (ixA z)]; exact g1.symm, rfl⟩, fun w => absurd rfl w⟩⟩, fun z => ⟨fun w => absurd w (by decide), fun _ => ⟨fun _ => ⟨t_vp (ixB z) p60, _, rfl, by rw [t_nat (ixB z)]; exact g1.symm, rfl⟩, fun w => absurd rfl w⟩⟩⟩, fun z => absurd (ln4.mpr (by omega)) z⟩⟩⟩)), ref 1 rfl⟩
      · subst q
        exact ⟨_, f_A_log a1 2 σ _ (anC (d_L_cell a1 2 σ _ ⟨fun z => absurd (l0.mp z) (by omega), fun _ => ⟨fun z => absurd (l60.mp z) (by omega), fun _ => ⟨fun _ => ⟨fun z => ⟨fun w => absurd w (by decide), fun _ => ⟨fun w => absurd w (by decide), fun _ => ⟨fun _ => ⟨t_vp (ixA z) p60, _, rfl, by rw [t_nat (ixA z)]; exact g2.symm, rfl⟩, fun w => absurd rfl w⟩⟩⟩, fun z => ⟨fun w => absurd w (by decide), fun _ => ⟨fun w => absurd w (by decide), fun _ => ⟨fun _ => ⟨t_vp (ixB z) p60, _, rfl, by rw [t_nat (ixB z)]; exact g2.symm, rfl⟩, fun w => absurd rfl w⟩⟩⟩⟩, fun z => absurd (ln4.mpr (by omega)) z⟩⟩⟩)), ref 2 rfl⟩
      · subst q
        exact ⟨_, f_A_log a1 3 σ _ (anC (d_L_cell a1 3 σ _ ⟨fun z => absurd (l0.mp z) (by omega), fun _ => ⟨fun z => absurd (l60.mp z) (by omega), fun _ => ⟨fun _ => ⟨fun z => ⟨fun w => absurd w (by decide), fun _ => ⟨fun w => absurd w (by decide), fun _ => ⟨fun w => absurd w (by decide), fun _ => ⟨fun _ => ⟨t_vp (ixA z) p60, _, rfl, by rw [t_nat (ixA z)]; exact g3.symm, rfl⟩, fun w => absurd rfl w⟩⟩⟩⟩, fun z => ⟨fun w => absurd w (by decide), fun _ => ⟨fun w => absurd w (by decide), fun _ => ⟨fun w => absurd w (by decide), fun _ => ⟨fun _ => ⟨t_vp (ixB z) p60, _, rfl, by rw [t_nat (ixB z)]; exact g3.symm, rfl⟩, fun w => absurd rfl w⟩⟩⟩⟩⟩, fun z => absurd (ln4.mpr (by omega)) z⟩⟩⟩)), ref 3 rfl⟩
    · refine ⟨-1, f_A_log a1 a2 σ _ (anC (d_L_cell a1 a2 σ _ ⟨fun _ => ⟨_, rfl, rfl, rfl⟩, fun _ => ⟨fun _ => ⟨_, rfl, rfl, rfl⟩, fun _ => ⟨fun _ => ⟨fun _ => ⟨fun z => absurd (by rw [z]; decide) k2, fun _ => ⟨fun z => absurd (by rw [z]; decide) k2, fun _ => ⟨fun z => absurd (by rw [z]; decide) k2, fun _ => ⟨fun z => absurd (by rw [z]; decide) k2, fun _ => ⟨_, rfl, rfl, rfl⟩⟩⟩⟩⟩, fun _ => ⟨fun z => absurd (by rw [z]; decide) k2, fun _ => ⟨fun z => absurd (by rw [z]; decide) k2, fun _ => ⟨fun z => absurd (by rw [z]; decide) k2, fun _ => ⟨fun z => absurd (by rw [z]; decide) k2, fun _ => ⟨_, rfl, rfl, rfl⟩⟩⟩⟩⟩⟩, fun _ => ⟨_, rfl, rfl, rfl⟩⟩⟩⟩)), fun σ2 e2 => w_M_log a1 a2 σ2 _ (fun σ1 e1 => ?_)⟩
      rw [h5]
      refine ⟨fun _ => an_ rfl, fun _ => ⟨fun _ => an_ rfl, fun _ => ⟨v5, fun _ => an_ rfl, fun _ => (c_isInX (L := 0) (H := 3) rfl rfl a2 σ1).int ?_⟩⟩⟩
      rintro x3 σ3 ⟨hx3, es3⟩
      exact ⟨fun z => absurd (by have := hx3.b.2.mp z; omega) k2, fun _ => an_ rfl⟩
  · refine ⟨-1, f_A_log a1 a2 σ _ (anC (d_L_cell a1 a2 σ _ ⟨fun _ => ⟨_, rfl, rfl, rfl⟩, fun z0 => ⟨fun _ => ⟨_, rfl, rfl, rfl⟩, fun z6 => ⟨fun z => ?_, fun _ => ⟨_, rfl, rfl, rfl⟩⟩⟩⟩)), fun σ2 e2 => w_M_log a1 a2 σ2 _ (fun σ1 e1 => ?_)⟩
    · rw [l0] at z0
      rw [l60] at z6
      rw [ln4] at z
      exact absurd ⟨by omega, by omega, z⟩ ok
    · obtain ⟨f1, -⟩ := told1 e2 e1
      rw [h5, f1]
      refine ⟨fun _ => an_ rfl, fun z0 => ⟨fun _ => an_ rfl, fun z6 => ⟨v5, fun _ => an_ rfl, fun z => ?_⟩⟩⟩
      rw [l0] at z0
      rw [l60] at z6
      rw [ln5] at z
      exact absurd ⟨by omega, by omega, by omega⟩ ok
theorem ce_log {B : Nat} (a1 a2 : Int32) (σ : sm_S) (hB : B < 1500000000) (h : LR B σ) : two (fun x y => x = y) j_A_log j_M_log [.ref 42, .int a1, .int a2] [.ref 168, .int a1, .int a2] B σ := by
  have h2 := h
  obtain ⟨hL, ⟨N, hN, ht⟩, -⟩ := h2
  exact CLk h (a_logQ a1 a2 σ h.1.1) (fun σ1 q => m_log a1 a2 σ1 hB q.2.1) (fun σ1 q => by
    obtain ⟨N, hN, hj⟩ := (lw_bs q.2.1).1
    exact qU (as := [.ref 0, .int a1, .int a2]) rfl (k_log (N := N) a1 a2 (sh rM σ1) hj)) (asM := [.ref 0, .int a1, .int a2]) rfl (ky_log a1 a2 σ ht.1)
theorem fl_dec : ∀ p, p < 32 → ∀ k, k < 6 → (nI p >>> (nI k &&& 31)) <<< (nI k &&& 31) = nI (p / 2 ^ k * 2 ^ k) := by decide +kernel
theorem bt1 {x q : Int32} {p : Nat} (hq : q = nI p) (hp : p < 32) : (((x.toUInt32 >>> (q.toUInt32 &&& Int32.toUInt32 31)).toInt32) &&& 1) ≠ 0 ↔ bit x p := by
  rw [hq, am_b p hp, bit_ne]
  constructor
  · rintro ⟨i, hi, h⟩
    obtain ⟨h1, h2⟩ := bit_and.mp h
    rw [(bit_1 hi).mp h2, bit_shr hp, Nat.add_zero] at h1
    exact h1
  · intro h
    exact ⟨0, by decide, bit_and.mpr ⟨by rw [bit_shr hp, Nat.add_zero]; exact h, (bit_1 (by decide)).mpr rfl⟩⟩
theorem l_holeRound2 {a0 a1 : Int32} {p : Nat} (h1 : a1.toInt = p) (hp : p < 32) (σ : sm_S) : ∀ (d k : Nat) (a2 a3 : Int32) (v4 : Value), a3.toInt = k → k + d = 6 → a2.toInt = (k : Int) - 1 → (∀ j, j < k → frb a0 p j) → xE xD m_R_holeRound 4 [.int a0, .int a1, .int a2, .int a3, v4] [] σ (sm_I (fun x σ' => ((x = -1 ∧ ¬ frb a0 p 0) ∨ ∃ h : Nat, x.toInt = h ∧ hol a0 p 0 h) ∧ σ' = σ)) := by
  intro d
  induction d with
  | zero =>
    intro k a2 a3 v4 h3 hk h2 hf
    refine d_R_holeRound_4 a0 a1 a2 a3 v4 σ _ ⟨fun _ => ⟨_, rfl, Or.inr ⟨5, by omega, by omega, by omega, hf 5 (by omega), Or.inl rfl⟩, rfl⟩, fun z => absurd ?_ z⟩
    rw [t_lt, h3]
    show (5 : Int) < _
    omega
  | succ d ih =>
    intro k a2 a3 v4 h3 hk h2 hf
    have h3' : (a3 + 1).toInt = ((k + 1 : Nat) : Int) := by
      rw [t_add h3 (y := 1) rfl (by omega) (by omega)]
      omega
    have l : ¬ (5 : Int32) < a3 := by rw [t_lt, h3]; show ¬ (5 : Int) < _; omega
    have e : (a1 >>> (a3 &&& 31)) <<< (a3 &&& 31) = nI (p / 2 ^ k * 2 ^ k) := by rw [t_nI h1, t_nI h3, fl_dec p hp k (by omega)]
    have hb : p / 2 ^ k * 2 ^ k < 32 := by
      have := base_lt (i := p) (k := k)
      omega
    have hs : bit (st a0 k) (p / 2 ^ k * 2 ^ k) ↔ frb a0 p k := by
      rw [st_iff (by omega) hb]
      refine ⟨fun z j hj => ?_, fun z => ⟨base_b p k, frb_base z⟩⟩
      have := z.2 j hj
      rw [al_pow (base_b p k)] at this
      exact this
    refine d_R_holeRound_4 a0 a1 a2 a3 v4 σ _ ⟨fun z => absurd z l, fun _ => (c_starts h3 (by omega) a0 σ).int ?_⟩
    rintro x2 σ1 ⟨ex2, es⟩
    rw [ex2, es]
    refine ⟨fun z => ih (k + 1) a3 (a3 + 1) _ h3' (by omega) (by rw [h3]; omega) (fun j hj => ?_), fun z => ⟨_, rfl, ?_, rfl⟩⟩
    · rw [bt1 e hb, hs] at z
      by_cases q : j = k
      · rw [q]; exact z
      · exact hf j (by omega)
    · rw [bt1 e hb, hs] at z
      cases k with
      | zero => exact Or.inl ⟨t_inj (by rw [h2]; rfl), z⟩
      | succ k => exact Or.inr ⟨k, by rw [h2]; omega, by omega, by omega, hf k (by omega), Or.inr z⟩
theorem l_holeOf2 {a1 : Int32} {n : Nat} (h1 : a1.toInt = n) (hn : n < 700) (σ : sm_S) : ∀ (d k : Nat) (a3 : Int32), a3.toInt = k → k + d = 5 → frF (frV (σ 1)) n k → xE xM m_M_holeOf 2 [.ref 0, .int a1, .int a3] [] σ (sm_I (fun x σ' => (∃ j : Nat, x.toInt = j ∧ holF (frV (σ 1)) n 0 j) ∧ σ' = σ)) := by
  intro d
  induction d with
  | zero =>
    intro k a3 h2 hk hf
    refine w_M_holeOf_2 a1 a3 σ _ ⟨fun _ => ⟨_, rfl, ⟨k, h2, by omega, by omega, hf, Or.inl (by omega)⟩, rfl⟩, fun h => absurd ?_ h⟩
    rw [t_le, h2]
    show (5 : Int) ≤ _
    omega
  | succ d ih =>
    intro k a3 h2 hk hf
    have h3 : (a3 + 1).toInt = ((k + 1 : Nat) : Int) := by
      rw [t_add h2 (y := 1) rfl (by omega) (by omega)]
      omega
    refine w_M_holeOf_2 a1 a3 σ _ ⟨fun h => ?_, fun h => (c_areFree h1 hn h3 (by omega) σ).int ?_⟩
    · rw [t_le, h2] at h
      have h : (5 : Int) ≤ k := h
      omega
    · rintro x σ1 ⟨hx, es⟩
      rw [es]
      refine ⟨fun z => ⟨_, rfl, ⟨k, h2, by omega, by omega, hf, Or.inr ?_⟩, rfl⟩, fun z => ih (k + 1) _ h3 (by omega) ?_⟩
      · rcases hx with ⟨q, -⟩ | ⟨-, j, q1, q2⟩
        · rw [q] at z; exact absurd z (by decide)
        · exact fun g => q2 (g j q1)
      · rcases hx with ⟨-, q⟩ | ⟨q, -⟩
        · exact q
        · exact absurd q z
theorem sim_fr {c : sm_S} {v : Nat → Int32} (h : sim0 c v) : ∀ f, f < 256 → (frV v f ↔ frC c f) := fun f hf => (h.F f hf).fre.symm
theorem ky_hole {N : Nat} (a1 : Int32) (σ : sm_S) (ht : tie True N σ (σ 169)) : ky j_A_hole j_M_hole [.ref 42, .int a1] [.ref 0, .int a1] σ := by
  have l0 : a1 < 0 ↔ a1.toInt < 0 := by rw [t_lt]; exact Iff.rfl
  have l1 : a1 < 256 ↔ a1.toInt < 256 := by rw [t_lt]; exact Iff.rfl
  have d32 : ¬ (32 : Int32) = 0 := by decide
  by_cases k1 : 0 ≤ a1.toInt ∧ a1.toInt < 256
  · obtain ⟨n, hn⟩ := t_of k1.1
    have hF := ht.s.F n (by omega)
    have hs : (a1 / (32 : Int32)).toInt = ((n / 32 : Nat) : Int) := t_div hn rfl (by decide)
    have hr : (a1 - a1 / (32 : Int32) * (32 : Int32)).toInt = ((n % 32 : Nat) : Int) := t_rem hn rfl (by decide)
    have vv := t_vp (N := 8) hs (by omega)
    obtain ⟨r, hr1, hr2⟩ := pick (d_R_holeRound (σ 2 (n / 32)) _ σ _ (l_holeRound2 (a0 := σ 2 (n / 32)) hr (by omega) σ 6 0 (-1) 0 .null rfl rfl rfl (fun j hj => by omega)))
    have f0 : frb (σ 2 (n / 32)) (n % 32) 0 ↔ σ 169 (18 + 3 * n) = 1 := by
      rw [← hF.fre]
      refine ⟨fun z => ?_, fun z j hj => ?_⟩
      · have := z 0 (by decide)
        simpa using this
      · rw [show j = 0 by simpa using hj]
        simpa using z
    refine ⟨r, f_A_hole a1 σ _ ⟨fun z => absurd (l0.mp z) (by omega), fun _ => ⟨fun _ => ⟨d32, vv, d32, ?_⟩, fun z => absurd (l1.mpr k1.2) z⟩⟩, fun σ2 e2 => ?_⟩
    · rw [t_nat hs]
      exact anC hr2
    · refine w_M_hole a1 σ2 _ (fun σ1 e1 => (c_isInX (L := 0) (H := 255) rfl rfl a1 σ1).int ?_)
      obtain ⟨f1, -⟩ := told1 e2 e1
      rintro x3 σ3 ⟨hx3, es3⟩
      rw [es3]
      refine ⟨fun z => absurd ⟨k1.1, by omega⟩ (hx3.b.1.mp z), fun _ => (c_isFree hn (by omega) σ1).int ?_⟩
      rintro x5 σ5 ⟨hx5, es5⟩
      rw [es5]
      rw [f1] at hx5
      refine ⟨fun z => an_ ?_, fun z => (w_M_holeOf a1 σ1 _ (l_holeOf2 hn (by omega) σ1 5 0 0 rfl rfl ?_)).int ?_⟩
      · rcases hr1 with ⟨q, -⟩ | ⟨h, -, q⟩
        · exact q.symm
        · exfalso
          rcases hx5 with ⟨w, -⟩ | ⟨-, w⟩
          · rw [w] at z; exact absurd z (by decide)
          · exact w (f0.mp (frb_le (by omega) q.2.2.1))
      · rw [f1]
        intro j hj
        rw [show j = 0 by simpa using hj]
        have : σ 169 (18 + 3 * n) = 1 := by
          rcases hx5 with ⟨-, w⟩ | ⟨w, -⟩
          · exact w
          · exact absurd w z
        show σ 169 (18 + 3 * (n / 2 ^ 0 * 2 ^ 0 + 0)) = 1
        simpa using this
      · rintro y σ7 ⟨⟨h, hy, hh⟩, es7⟩
        refine an_ ?_
        rw [f1] at hh
        have hc := holF_b.mp (holF_cg (by omega) (sim_fr ht.s) hh)
        rcases hr1 with ⟨-, q⟩ | ⟨h', q1, q2⟩
        · exact absurd (frb_le (by omega) hc.2.2.1) q
        · apply t_inj
          rw [hy, q1, hol_un hc q2]
  · refine ⟨-1, f_A_hole a1 σ _ ⟨fun _ => an_ rfl, fun z => ⟨fun w => absurd ⟨(by rw [l0] at z; omega), l1.mp w⟩ k1, fun _ => an_ rfl⟩⟩, fun σ2 e2 => ?_⟩
    refine w_M_hole a1 σ2 _ (fun σ1 e1 => (c_isInX (L := 0) (H := 255) rfl rfl a1 σ1).int ?_)
    rintro x3 σ3 ⟨hx3, es3⟩
    exact ⟨fun _ => an_ rfl, fun z => absurd (by have := hx3.b.2.mp z; omega) k1⟩
theorem ce_hole {B : Nat} (a1 : Int32) (σ : sm_S) (hB : B < 1500000000) (h : LR B σ) : two (fun x y => x = y) j_A_hole j_M_hole [.ref 42, .int a1] [.ref 168, .int a1] B σ := by
  have h2 := h
  obtain ⟨hL, ⟨N, hN, ht⟩, -⟩ := h2
  exact CLk h (a_holeQ a1 σ h.1.1) (fun σ1 q => m_hole a1 σ1 hB q.2.1) (fun σ1 q => by
    obtain ⟨N, hN, hj⟩ := (lw_bs q.2.1).1
    exact qU (as := [.ref 0, .int a1]) rfl (k_hole (N := N) a1 (sh rM σ1) hj)) (asM := [.ref 0, .int a1]) rfl (ky_hole a1 σ ht.1)
theorem pc_S {c : sm_S} {v : Nat → Int32} {s : Nat} {x a : Int32} (hs : s < 8) (h : ∀ i, i < 32 → (bit x i ↔ v (18 + 3 * (32 * s + i)) = a)) : pcn x = cnS v s a := by
  rw [pc_bit]
  exact sumN_cg (fun i hi => by
    have q := h i hi
    unfold bit at q
    by_cases z : v (18 + 3 * (32 * s + i)) = a
    · rw [if_pos (q.mpr z), if_pos z]
    · rw [if_neg (fun w => z (q.mp w)), if_neg z])
theorem pc_fr {c : sm_S} {v : Nat → Int32} {s : Nat} (h : sim0 c v) (hs : s < 8) : pcn (c 2 s) = cnS v s 1 ∧ pcn (c 3 s) = cnS v s 2 ∧ pcn (c 4 s) = cnS v s 3 ∧ pcn (c 5 s) = cnS v s 4 := by
  have e1 : ∀ i, i < 32 → (32 * s + i) / 32 = s := fun i hi => by omega
  have e2 : ∀ i, i < 32 → (32 * s + i) % 32 = i := fun i hi => by omega
  refine ⟨pc_S (c := c) hs (fun i hi => ?_), pc_S (c := c) hs (fun i hi => ?_), pc_S (c := c) hs (fun i hi => ?_), pc_S (c := c) hs (fun i hi => ?_)⟩
  · have := (h.F (32 * s + i) (by omega)).fre
    rw [e1 i hi, e2 i hi] at this
    exact this
  · have := (h.F (32 * s + i) (by omega)).apa
    rw [e1 i hi, e2 i hi] at this
    exact this
  · have := (h.F (32 * s + i) (by omega)).tak
    rw [e1 i hi, e2 i hi] at this
    exact this
  · have := (h.F (32 * s + i) (by omega)).hel
    rw [e1 i hi, e2 i hi] at this
    exact this
theorem ky_span {N : Nat} (a1 a2 : Int32) (σ : sm_S) (ht : tie True N σ (σ 169)) : ky j_A_span j_M_span [.ref 42, .int a1, .int a2] [.ref 0, .int a1, .int a2] σ := by
  by_cases k1 : 0 ≤ a1.toInt ∧ a1.toInt < 8
  · obtain ⟨n, hn⟩ := t_of k1.1
    have hn8 : n < 8 := by omega
    have hS := ht.s.S n hn8
    have vv := t_vp (N := 8) hn hn8
    obtain ⟨u2, u3, u4, u5⟩ := pc_fr ht.s hn8
    have cla : ∀ (Q : Int32 → sm_S → Prop), (∀ x, x ≠ 0 → Q x σ) → xC xF j_A_isSpan [.int a1] σ (sm_ri False Q) := fun Q hQ => (nw0 (e_isSpanX a1 σ)).int (by
      rintro x σ1 ⟨hx, es⟩
      rw [es]
      exact hQ x (hx.b.2.mpr k1))
    have bc : ∀ (x : Int32) (m : Nat), pcn x = m → xC xF j_I_bitCount [.int x] σ (sm_ri False (fun x σ' => sm_I (fun x _ => x = nI m) (some (.int x)) σ')) := fun x m e => by
      rw [← e]
      exact anC (toN (c_bitCount2 x σ))
    by_cases k2 : 0 ≤ a2.toInt ∧ a2.toInt < 11
    · have ref : ∀ (Q : Option Value → sm_S → Prop) (σ2 : sm_S), σ2 1 = σ 169 → (∀ σ1 : sm_S, σ1 1 = σ 169 → ((a2 ≠ 0 → ((a2 ≠ 1 → ((6 ≤ a2 → ((a2 ≠ 6 → ((a2 ≠ 7 → ((a2 ≠ 8 → ((a2 ≠ 9 → Q (some (.int ((σ 169 (2358 + 8 * n + 7)) - 1))) σ1) ∧ (¬ (a2 ≠ 9) → Q (some (.int ((σ 169 (2358 + 8 * n + 6)) - 1))) σ1))) ∧ (¬ (a2 ≠ 8) → Q (some (.int (σ 169 (2358 + 8 * n + 4)))) σ1))) ∧ (¬ (a2 ≠ 7) → Q (some (.int (σ 169 (2358 + 8 * n + 3)))) σ1))) ∧ (¬ (a2 ≠ 6) → Q (some (.int (σ 169 (2358 + 8 * n + 2)))) σ1))) ∧ (¬ (6 ≤ a2) → Q (some (.int (nI (cnS (σ 169) n (a2 - 1))))) σ1))) ∧ (¬ (a2 ≠ 1) → Q (some (.int (zV (σ 169) n))) σ1))) ∧ (¬ (a2 ≠ 0) → Q (some (.int (σ 169 (2358 + 8 * n + 0)))) σ1))) → xC xM j_M_span [.ref 0, .int a1, .int a2] σ2 Q := fun Q σ2 e2 hQ => by
        refine w_M_span a1 a2 σ2 _ (fun σ1 e1 => (c_isSpanX a1 σ1).int ?_)
        obtain ⟨f1, -⟩ := told1 e2 e1
        rintro x3 σ3 ⟨hx3, es3⟩
        rw [es3]
        refine ⟨fun z => absurd k1 (hx3.b.1.mp z), fun _ => (c_isInX (L := 0) (H := 10) rfl rfl a2 σ1).int ?_⟩
        rintro x5 σ5 ⟨hx5, es5⟩
        rw [es5]
        refine ⟨fun _ => (c_spanAt a1 σ1).int ?_, fun z => absurd (hx5.b.2.mpr ⟨k2.1, by omega⟩) z⟩
        rintro x7 σ7 ⟨ex7, es7⟩
        rw [ex7, es7]
        have ix : ∀ (k : Int32) (j : Nat), k.toInt = j → j < 8 → (2358 + 8 * a1 + k).toInt = ((2358 + 8 * n + j : Nat) : Int) := fun k j hk hj => t_ix (c := 2358) (m := 8) (C := 2358) (M := 8) rfl rfl hn hk (by omega)
        have i0 := ix 0 0 rfl (by decide)
        have i2 := ix 2 2 rfl (by decide)
        have i3 := ix 3 3 rfl (by decide)
        have i4 := ix 4 4 rfl (by decide)
        have i6 := ix 6 6 rfl (by decide)
        have i7 := ix 7 7 rfl (by decide)
        rw [t_nat i0, t_nat i2, t_nat i3, t_nat i4, t_nat i6, t_nat i7, f1]
        have q := hQ σ1 f1
        refine ⟨fun z0 => ⟨fun z1 => ⟨fun z6 => ⟨fun y6 => ⟨fun y7 => ⟨fun y8 => ⟨fun y9 => ⟨t_vp i7 (by omega), ((((((q.1 z0).1 z1).1 z6).1 y6).1 y7).1 y8).1 y9⟩, fun y9 => ⟨t_vp i6 (by omega), ((((((q.1 z0).1 z1).1 z6).1 y6).1 y7).1 y8).2 y9⟩⟩, fun y8 => ⟨t_vp i4 (by omega), (((((q.1 z0).1 z1).1 z6).1 y6).1 y7).2 y8⟩⟩, fun y7 => ⟨t_vp i3 (by omega), ((((q.1 z0).1 z1).1 z6).1 y6).2 y7⟩⟩, fun y6 => ⟨t_vp i2 (by omega), (((q.1 z0).1 z1).1 z6).2 y6⟩⟩, fun z6 => (c_manyIn2 hn hn8 (a2 - 1) σ1).int ?_⟩, fun z1 => (c_zoneOf2 hn hn8 σ1).int ?_⟩, fun z0 => ⟨t_vp i0 (by omega), q.2 z0⟩⟩
        · rintro x9 σ9 ⟨ex9, es9⟩
          rw [f1] at ex9
          rw [t_nI ex9, es9]
          exact ((q.1 z0).1 z1).2 z6
        · rintro x11 σ11 ⟨ex11, es11⟩
          rw [ex11, es11, f1]
          exact (q.1 z0).2 z1
      rcases cs11 k2 with q | q | q | q | q | q | q | q | q | q | q
      · subst q
        exact ⟨σ 169 (2358 + 8 * n + 0), f_A_span a1 0 σ _ (cla _ (fun x hx => ⟨fun _ => ⟨fun _ => ⟨vv, an_ (by rw [t_nat hn]; exact hS.sta.symm)⟩, fun z => absurd rfl z⟩, fun z => absurd hx z⟩)), fun σ2 e2 => ref _ σ2 e2 (fun σ1 f1 => ⟨fun z => absurd rfl z, fun _ => an_ rfl⟩)⟩
      · subst q
        exact ⟨zV (σ 169) n, f_A_span a1 1 σ _ (cla _ (fun x hx => ⟨fun _ => ⟨fun z => absurd z (by decide), fun _ => ⟨fun _ => ⟨vv, an_ (by rw [t_nat hn]; exact sim_zone ht.s hn8)⟩, fun z => absurd rfl z⟩⟩, fun z => absurd hx z⟩)), fun σ2 e2 => ref _ σ2 e2 (fun σ1 f1 => ⟨fun _ => ⟨fun z => absurd rfl z, fun _ => an_ rfl⟩, fun z => absurd (by decide) z⟩)⟩
      · subst q
        exact ⟨nI (cnS (σ 169) n 1), f_A_span a1 2 σ _ (cla _ (fun x hx => ⟨fun _ => ⟨fun z => absurd z (by decide), fun _ => ⟨fun z => absurd z (by decide), fun _ => ⟨fun _ => ⟨vv, by rw [t_nat hn]; exact bc _ _ u2⟩, fun z => absurd rfl z⟩⟩⟩, fun z => absurd hx z⟩)), fun σ2 e2 => ref _ σ2 e2 (fun σ1 f1 => ⟨fun _ => ⟨fun _ => ⟨fun z => absurd z (by decide), fun _ => an_ rfl⟩, fun z => absurd (by decide) z⟩, fun z => absurd (by decide) z⟩)⟩
      · subst q
        exact ⟨nI (cnS (σ 169) n 2), f_A_span a1 3 σ _ (cla _ (fun x hx => ⟨fun _ => ⟨fun z => absurd z (by decide), fun _ => ⟨fun z => absurd z (by decide), fun _ => ⟨fun z => absurd z (by decide), fun _ => ⟨fun _ => ⟨vv, by rw [t_nat hn]; exact bc _ _ u3⟩, fun z => absurd rfl z⟩⟩⟩⟩, fun z => absurd hx z⟩)), fun σ2 e2 => ref _ σ2 e2 (fun σ1 f1 => ⟨fun _ => ⟨fun _ => ⟨fun z => absurd z (by decide), fun _ => an_ rfl⟩, fun z => absurd (by decide) z⟩, fun z => absurd (by decide) z⟩)⟩
      · subst q
        exact ⟨nI (cnS (σ 169) n 3), f_A_span a1 4 σ _ (cla _ (fun x hx => ⟨fun _ => ⟨fun z => absurd z (by decide), fun _ => ⟨fun z => absurd z (by decide), fun _ => ⟨fun z => absurd z (by decide), fun _ => ⟨fun z => absurd z (by decide), fun _ => ⟨fun _ => ⟨vv, by rw [t_nat hn]; exact bc _ _ u4⟩, fun z => absurd rfl z⟩⟩⟩⟩⟩, fun z => absurd hx z⟩)), fun σ2 e2 => ref _ σ2 e2 (fun σ1 f1 => ⟨fun _ => ⟨fun _ => ⟨fun z => absurd z (by decide), fun _ => an_ rfl⟩, fun z => absurd (by decide) z⟩, fun z => absurd (by decide) z⟩)⟩
      · subst q
        exact ⟨nI (cnS (σ 169) n 4), f_A_span a1 5 σ _ (cla _ (fun x hx => ⟨fun _ => ⟨fun z => absurd z (by decide), fun _ => ⟨fun z => absurd z (by decide), fun _ => ⟨fun z => absurd z (by decide), fun _ => ⟨fun z => absurd z (by decide), fun _ => ⟨fun z => absurd z (by decide), fun _ => ⟨fun _ => ⟨vv, by rw [t_nat hn]; exact bc _ _ u5⟩, fun z => absurd rfl z⟩⟩⟩⟩⟩⟩, fun z => absurd hx z⟩)), fun σ2 e2 => ref _ σ2 e2 (fun σ1 f1 => ⟨fun _ => ⟨fun _ => ⟨fun z => absurd z (by decide), fun _ => an_ rfl⟩, fun z => absurd (by decide) z⟩, fun z => absurd (by decide) z⟩)⟩
      · subst q
        exact ⟨σ 169 (2358 + 8 * n + 2), f_A_span a1 6 σ _ (cla _ (fun x hx => ⟨fun _ => ⟨fun z => absurd z (by decide), fun _ => ⟨fun z => absurd z (by decide), fun _ => ⟨fun z => absurd z (by decide), fun _ => ⟨fun z => absurd z (by decide), fun _ => ⟨fun z => absurd z (by decide), fun _ => ⟨fun z => absurd z (by decide), fun _ => ⟨fun _ => ⟨vv, an_ (by rw [t_nat hn]; exact hS.par.symm)⟩, fun z => absurd rfl z⟩⟩⟩⟩⟩⟩⟩, fun z => absurd hx z⟩)), fun σ2 e2 => ref _ σ2 e2 (fun σ1 f1 => ⟨fun _ => ⟨fun _ => ⟨fun _ => ⟨fun z => absurd rfl z, fun _ => an_ rfl⟩, fun z => absurd (by decide) z⟩, fun z => absurd (by decide) z⟩, fun z => absurd (by decide) z⟩)⟩
      · subst q
        exact ⟨σ 169 (2358 + 8 * n + 3), f_A_span a1 7 σ _ (cla _ (fun x hx => ⟨fun _ => ⟨fun z => absurd z (by decide), fun _ => ⟨fun z => absurd z (by decide), fun _ => ⟨fun z => absurd z (by decide), fun _ => ⟨fun z => absurd z (by decide), fun _ => ⟨fun z => absurd z (by decide), fun _ => ⟨fun z => absurd z (by decide), fun _ => ⟨fun z => absurd z (by decide), fun _ => ⟨fun _ => ⟨vv, an_ (by rw [t_nat hn]; exact hS.pas.symm)⟩, fun z => absurd rfl z⟩⟩⟩⟩⟩⟩⟩⟩, fun z => absurd hx z⟩)), fun σ2 e2 => ref _ σ2 e2 (fun σ1 f1 => ⟨fun _ => ⟨fun _ => ⟨fun _ => ⟨fun _ => ⟨fun z => absurd rfl z, fun _ => an_ rfl⟩, fun z => absurd (by decide) z⟩, fun z => absurd (by decide) z⟩, fun z => absurd (by decide) z⟩, fun z => absurd (by decide) z⟩)⟩
      · subst q
        exact ⟨σ 169 (2358 + 8 * n + 4), f_A_span a1 8 σ _ (cla _ (fun x hx => ⟨fun _ => ⟨fun z => absurd z (by decide), fun _ => ⟨fun z => absurd z (by decide), fun _ => ⟨fun z => absurd z (by decide), fun _ => ⟨fun z => absurd z (by decide), fun _ => ⟨fun z => absurd z (by decide), fun _ => ⟨fun z => absurd z (by decide), fun _ => ⟨fun z => absurd z (by decide), fun _ => ⟨fun z => absurd z (by decide), fun _ => ⟨fun _ => ⟨vv, an_ (by rw [t_nat hn]; exact hS.pau.symm)⟩, fun z => absurd rfl z⟩⟩⟩⟩⟩⟩⟩⟩⟩, fun z => absurd hx z⟩)), fun σ2 e2 => ref _ σ2 e2 (fun σ1 f1 => ⟨fun _ => ⟨fun _ => ⟨fun _ => ⟨fun _ => ⟨fun _ => ⟨fun z => absurd rfl z, fun _ => an_ rfl⟩, fun z => absurd (by decide) z⟩, fun z => absurd (by decide) z⟩, fun z => absurd (by decide) z⟩, fun z => absurd (by decide) z⟩, fun z => absurd (by decide) z⟩)⟩
      · subst q
        exact ⟨σ 169 (2358 + 8 * n + 6) - 1, f_A_span a1 9 σ _ (cla _ (fun x hx => ⟨fun _ => ⟨fun z => absurd z (by decide), fun _ => ⟨fun z => absurd z (by decide), fun _ => ⟨fun z => absurd z (by decide), fun _ => ⟨fun z => absurd z (by decide), fun _ => ⟨fun z => absurd z (by decide), fun _ => ⟨fun z => absurd z (by decide), fun _ => ⟨fun z => absurd z (by decide), fun _ => ⟨fun z => absurd z (by decide), fun _ => ⟨fun z => absurd z (by decide), fun _ => ⟨fun _ => ⟨vv, an_ (by rw [t_nat hn]; exact sub1 hS.lea)⟩, fun z => absurd rfl z⟩⟩⟩⟩⟩⟩⟩⟩⟩⟩, fun z => absurd hx z⟩)), fun σ2 e2 => ref _ σ2 e2 (fun σ1 f1 => ⟨fun _ => ⟨fun _ => ⟨fun _ => ⟨fun _ => ⟨fun _ => ⟨fun _ => ⟨fun z => absurd rfl z, fun _ => an_ rfl⟩, fun z => absurd (by decide) z⟩, fun z => absurd (by decide) z⟩, fun z => absurd (by decide) z⟩, fun z => absurd (by decide) z⟩, fun z => absurd (by decide) z⟩, fun z => absurd (by decide) z⟩)⟩
      · subst q
        exact ⟨σ 169 (2358 + 8 * n + 7) - 1, f_A_span a1 10 σ _ (cla _ (fun x hx => ⟨fun _ => ⟨fun z => absurd z (by decide), fun _ => ⟨fun z => absurd z (by decide), fun _ => ⟨fun z => absurd z (by decide), fun _ => ⟨fun z => absurd z (by decide), fun _ => ⟨fun z => absurd z (by decide), fun _ => ⟨fun z => absurd z (by decide), fun _ => ⟨fun z => absurd z (by decide), fun _ => ⟨fun z => absurd z (by decide), fun _ => ⟨fun z => absurd z (by decide), fun _ => ⟨fun z => absurd z (by decide), fun _ => ⟨fun _ => ⟨vv, an_ (by rw [t_nat hn]; exact sub1 hS.why)⟩, fun z => absurd rfl z⟩⟩⟩⟩⟩⟩⟩⟩⟩⟩⟩, fun z => absurd hx z⟩)), fun σ2 e2 => ref _ σ2 e2 (fun σ1 f1 => ⟨fun _ => ⟨fun _ => ⟨fun _ => ⟨fun _ => ⟨fun _ => ⟨fun _ => ⟨fun _ => an_ rfl, fun z => absurd (by decide) z⟩, fun z => absurd (by decide) z⟩, fun z => absurd (by decide) z⟩, fun z => absurd (by decide) z⟩, fun z => absurd (by decide) z⟩, fun z => absurd (by decide) z⟩, fun z => absurd (by decide) z⟩)⟩
    · refine ⟨-1, f_A_span a1 a2 σ _ (cla _ (fun x hx => ⟨fun _ => ⟨fun z => absurd (by rw [z]; decide) k2, fun _ => ⟨fun z => absurd (by rw [z]; decide) k2, fun _ => ⟨fun z => absurd (by rw [z]; decide) k2, fun _ => ⟨fun z => absurd (by rw [z]; decide) k2, fun _ => ⟨fun z => absurd (by rw [z]; decide) k2, fun _ => ⟨fun z => absurd (by rw [z]; decide) k2, fun _ => ⟨fun z => absurd (by rw [z]; decide) k2, fun _ => ⟨fun z => absurd (by rw [z]; decide) k2, fun _ => ⟨fun z => absurd (by rw [z]; decide) k2, fun _ => ⟨fun z => absurd (by rw [z]; decide) k2, fun _ => ⟨fun z => absurd (by rw [z]; decide) k2, fun _ => an_ rfl⟩⟩⟩⟩⟩⟩⟩⟩⟩⟩⟩, fun _ => an_ rfl⟩)), fun σ2 e2 => ?_⟩
      refine w_M_span a1 a2 σ2 _ (fun σ1 e1 => (c_isSpanX a1 σ1).int ?_)
      rintro x3 σ3 ⟨hx3, es3⟩
      rw [es3]
      refine ⟨fun _ => an_ rfl, fun _ => (c_isInX (L := 0) (H := 10) rfl rfl a2 σ1).int ?_⟩
      rintro x5 σ5 ⟨hx5, es5⟩
      exact ⟨fun z => absurd (by have := hx5.b.2.mp z; omega) k2, fun _ => an_ rfl⟩
  · refine ⟨-1, f_A_span a1 a2 σ _ ((nw0 (e_isSpanX a1 σ)).int ?_), fun σ2 e2 => ?_⟩
    · rintro x σ1 ⟨hx, es⟩
      exact ⟨fun z => absurd (hx.b.2.mp z) k1, fun _ => an_ rfl⟩
    · refine w_M_span a1 a2 σ2 _ (fun σ1 e1 => (c_isSpanX a1 σ1).int ?_)
      rintro x3 σ3 ⟨hx3, es3⟩
      exact ⟨fun _ => an_ rfl, fun z => absurd (hx3.b.2.mp z) k1⟩
theorem ce_span {B : Nat} (a1 a2 : Int32) (σ : sm_S) (hB : B < 1500000000) (h : LR B σ) : two (fun x y => x = y) j_A_span j_M_span [.ref 42, .int a1, .int a2] [.ref 168, .int a1, .int a2] B σ := by
  have h2 := h
  obtain ⟨hL, ⟨N, hN, ht⟩, -⟩ := h2
  exact CLk h (a_spanQ a1 a2 σ h.1.1) (fun σ1 q => m_span a1 a2 σ1 hB q.2.1) (fun σ1 q => by
    obtain ⟨N, hN, hj⟩ := (lw_bs q.2.1).1
    exact qU (as := [.ref 0, .int a1, .int a2]) rfl (k_span (N := N) a1 a2 (sh rM σ1) hj)) (asM := [.ref 0, .int a1, .int a2]) rfl (ky_span a1 a2 σ ht.1)
