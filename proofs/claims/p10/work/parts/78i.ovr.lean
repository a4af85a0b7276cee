/-! ===== the simulation: endPass | isOver ===== -/
theorem r_set0 (v : Nat → Int32) (σ : sm_S) (e : σ 1 = v) : xC xM j_M_settingOf [.ref 0, .int 0] σ (sm_I (fun x σ' => x = v 0 + 4 ∧ σ' = σ)) := by
  refine w_M_settingOf 0 σ _ ⟨t_vp (n := 0) rfl (by omega), w_M_firstOf 0 σ _ ⟨fun q => absurd rfl q, fun _ => ?_⟩⟩
  exact ⟨_, rfl, by rw [← e]; rfl, rfl⟩
theorem r_set1 (v : Nat → Int32) (σ : sm_S) (e : σ 1 = v) : xC xM j_M_settingOf [.ref 0, .int 1] σ (sm_I (fun x σ' => x = v 1 + 3 ∧ σ' = σ)) := by
  refine w_M_settingOf 1 σ _ ⟨t_vp (n := 1) rfl (by omega), w_M_firstOf 1 σ _ ⟨fun _ => ⟨fun q => absurd rfl q, fun _ => ?_⟩, fun q => absurd (by decide) q⟩⟩
  exact ⟨_, rfl, by rw [← e]; rfl, rfl⟩
theorem r_set2 (v : Nat → Int32) (σ : sm_S) (e : σ 1 = v) : xC xM j_M_settingOf [.ref 0, .int 2] σ (sm_I (fun x σ' => x = v 2 + 150 ∧ σ' = σ)) := by
  refine w_M_settingOf 2 σ _ ⟨t_vp (n := 2) rfl (by omega), w_M_firstOf 2 σ _ ⟨fun _ => ⟨fun _ => ⟨fun q => absurd rfl q, fun _ => ?_⟩, fun q => absurd (by decide) q⟩, fun q => absurd (by decide) q⟩⟩
  exact ⟨_, rfl, by rw [← e]; rfl, rfl⟩
theorem r_set3 (v : Nat → Int32) (σ : sm_S) (e : σ 1 = v) : xC xM j_M_settingOf [.ref 0, .int 3] σ (sm_I (fun x σ' => x = v 3 + 2 ∧ σ' = σ)) := by
  refine w_M_settingOf 3 σ _ ⟨t_vp (n := 3) rfl (by omega), w_M_firstOf 3 σ _ ⟨fun _ => ⟨fun _ => ⟨fun _ => ?_, fun q => absurd (by decide) q⟩, fun q => absurd (by decide) q⟩, fun q => absurd (by decide) q⟩⟩
  exact ⟨_, rfl, by rw [← e]; rfl, rfl⟩
theorem jx_fl {v : Nat → Int32} {N s : Nat} {a1 w : Int32} (hx : jx v) (hs : s < 8) (h0 : v (2358 + 8 * s + 0) ≠ 0) : jx (flF v N s a1 w) := by
  have e : ∀ i, i < 2422 → i ≠ 5 → i ≠ 14 → flF v N s a1 w i = upd (opnF v s) (2358 + 8 * s + 7) (w + 1) i := fun i i1 i2 i3 => by
    unfold flF
    rw [wrF_lo i1 i2]
    exact u_ne (by omega)
  refine hx.cg (fun b k hb hk => ?_) (fun s' hs' z => ?_) ?_ (fun i i1 i2 => by rw [e _ (by omega) (by omega) (by omega), u_ne (by omega), opnF_old (by omega) (by omega) (by omega) (by omega) (by omega)])
  · rw [e _ (by omega) (by omega) (by omega), u_ne (by omega), opnF_old (by omega) (by omega) (by omega) (by omega) (by omega)]
  · rw [e _ (by omega) (by omega) (by omega), u_ne (by omega)] at z
    rw [e _ (by omega) (by omega) (by omega), u_ne (by omega), opnF_old (i := 2358 + 8 * s' + 1) (by omega) (by omega) (by omega) (by omega) (by omega)]
    refine ⟨?_, rfl⟩
    by_cases q : s' = s
    · rw [q]; exact h0
    · rw [opnF_old (by omega) (by omega) (by omega) (by omega) (by omega)] at z
      exact z
  · rw [e _ (by omega) (by omega) (by omega), u_ne (by omega), opnF_old (by omega) (by omega) (by omega) (by omega) (by omega)]
/-- the next pass -/
def nxF (v : Nat → Int32) (s : Nat) : Nat → Int32 := upd (upd (upd v (2358 + 8 * s + 3) (v (2358 + 8 * s + 3) + 1)) (2358 + 8 * s + 4) (v 3 + 2)) (2358 + 8 * s + 5) 0
def nxC (c : sm_S) (s : Nat) : sm_S := sm_set (sm_set (sm_set c 21 (upd (c 21) s (c 21 s + 1))) 22 (upd (c 22) s (c 39 3))) 23 (upd (c 23) s 0)
theorem nxF_o {v : Nat → Int32} {s i : Nat} (h : i < 2358 + 8 * s + 3 ∨ 2358 + 8 * s + 5 < i) : nxF v s i = v i := by
  unfold nxF
  rw [u_ne (by omega), u_ne (by omega), u_ne (by omega)]
theorem sim_nxt {c : sm_S} {v : Nat → Int32} {s : Nat} (h : sim0 c v) (hk : ∀ b, b < 96 → bk_ok v b) (hx : jx v) (hs : s < 8) (h3 : c 18 s = 3) : sim0 (nxC c s) (nxF v s) := by
  have gs := h.S s hs
  have r3 : nxF v s (2358 + 8 * s + 3) = v (2358 + 8 * s + 3) + 1 := by
    unfold nxF
    rw [u_ne (by omega), u_ne (by omega), u_at]
  have r4 : nxF v s (2358 + 8 * s + 4) = v 3 + 2 := by
    unfold nxF
    rw [u_ne (by omega), u_at]
  have r5 : nxF v s (2358 + 8 * s + 5) = 0 := u_at
  have c21 : nxC c s 21 = upd (c 21) s (c 21 s + 1) := rfl
  have c22 : nxC c s 22 = upd (c 22) s (c 39 3) := rfl
  have c23 : nxC c s 23 = upd (c 23) s 0 := rfl
  have co : ∀ k, k < 21 ∨ 23 < k → nxC c s k = c k := fun k hk => by
    unfold nxC
    rw [s_ne (by omega), s_ne (by omega), s_ne (by omega)]
  refine h.sv hk (fun t ht => ?_) (fun t ht => by rw [nxF_o (by omega)]) (fun k hk => co k (by omega)) (fun i hi => nxF_o (by omega))
  by_cases e : t = s
  · subst e
    have p3 : c 39 3 = v 3 + 2 := h.N.pau
    refine ⟨?_, ?_, ?_, ?_, ?_, ?_, ?_, ?_, ?_, ?_, ?_⟩
    · rw [nxF_o (by omega), co 18 (by decide)]; exact gs.sta
    · rw [co 18 (by decide), co 19 (by decide)]; exact gs.zof
    · rw [nxF_o (by omega), co 18 (by decide), co 19 (by decide)]; exact gs.zon
    · rw [nxF_o (by omega), co 20 (by decide)]; exact gs.par
    · rw [r3, c21, u_at, gs.pas]
    · rw [r4, c22, u_at, p3]
    · rw [c22, u_at, p3]; exact hx.2.2.2.2.1
    · rw [r5, c23, u_at]; exact fun _ => rfl
    · rw [nxF_o (by omega), co 24 (by decide)]; exact gs.lea
    · rw [nxF_o (by omega), co 25 (by decide)]; exact gs.why
    · rw [co 18 (by decide), h3]; exact fun z => absurd z (by decide)
  · refine (h.S t ht).cg (fun k k1 k2 => ?_) (fun k hk => nxF_o (by omega))
    rcases (show k = 21 ∨ k = 22 ∨ k = 23 ∨ (k < 21 ∨ 23 < k) by omega) with q | q | q | q
    · rw [q, c21, u_ne e]
    · rw [q, c22, u_ne e]
    · rw [q, c23, u_ne e]
    · rw [co k q]
theorem l_off2 {a1 a2 : Int32} {s : Nat} (h1 : a1.toInt = s) (hs : s < 8) (σ : sm_S) : ∀ (d k : Nat) (a3 : Int32), a3.toInt = ((32 * s + k : Nat) : Int) → k + d = 32 → xE xM m_M_isOver 84 [.ref 0, .int a1, .int a2, .int a3] [] (sm_set σ 1 (mpF (fun _ => 0) (σ 1) (32 * s) k)) (sm_V (fun σ' => σ' = sm_set σ 1 (cnF (mpF (fun _ => 0) (σ 1) (32 * s) 32) 6 1))) := by
  have h32 : (32 * a1 + 32).toInt = ((32 * s + 32 : Nat) : Int) := by
    have e := t_ix (c := 0) (m := 32) (C := 0) (M := 32) (k := 32) (j := 32) rfl rfl h1 rfl (by omega)
    rw [Int32.zero_add] at e
    rw [e]
    omega
  intro d
  induction d with
  | zero =>
    intro k a3 h3 hk
    have hk : k = 32 := by omega
    subst hk
    refine w_M_isOver_84 a1 a2 a3 _ _ ⟨fun _ => (c_counts (j := 6) rfl (by decide) 1 _).void ?_, fun h => absurd (by rw [t_le, h32, h3]; omega) h⟩
    rintro _ rfl
    refine ⟨rfl, ?_⟩
    rw [s_at, s_ss]
    rfl
  | succ d ih =>
    intro k a3 h3 hk
    have h3' : (a3 + 1).toInt = ((32 * s + (k + 1) : Nat) : Int) := by
      rw [t_add h3 (y := 1) rfl (by omega) (by omega)]
      omega
    refine w_M_isOver_84 a1 a2 a3 _ _ ⟨fun h => ?_, fun _ => (c_frameAt a3 _).int ?_⟩
    · rw [t_le, h32, h3] at h
      omega
    · rintro _ _ ⟨rfl, rfl⟩
      obtain ⟨p1, p2⟩ := ixF (k := 0) (j := 0) h3 rfl (by omega)
      refine ⟨p1, fun σ4 e4 => ?_⟩
      have e := mpF_s (fun _ => 0) (σ 1) (32 * s) k
      rw [p2, s_at, s_ss, Nat.add_zero, ← e] at e4
      rw [e4]
      exact ih (k + 1) (a3 + 1) h3' (by omega)
theorem tie_off {g : Prop} {N s : Nat} {c : sm_S} {v : Nat → Int32} (t : tie g N c v) (hs : s < 8) (s4 : sim0 (ofC c s) (ofF v s)) : ∀ M, jj M (ofF v s) → tie g M (ofC c s) (ofF v s) := fun M jm => by
  have t' := t.to s4 (fun k k1 k2 => ofC_o (by omega)) (ofF_o (by omega) (by omega)) (fun i hi => ofF_o (by omega) (by omega)) jm.2.1.1
  have nn := t'.n
  have mm := jm.2.2
  have : M = N := by omega
  rw [this]
  exact t'
theorem p_over {g : Prop} {N s : Nat} {c : sm_S} {v : Nat → Int32} {a1 : Int32} (h : tie g N c v) (hj : jj N v) (hx : jx v) (hN : N + 7 < 2000000000) (h1 : a1.toInt = s) (hs : s < 8) (hst : v (2358 + 8 * s + 0) = 3) (hS : v (2358 + 8 * s + 6) = 0) (h4 : v (2358 + 8 * s + 4) = 0) : ∃ v' c' N', rd j_M_isOver [.ref 0, .int a1] v v' ∧ xC xD j_G_endPass [.ref 41, .int a1] c (sm_V (fun σ' => σ' = c')) ∧ tie g N' c' v' ∧ jj N' v' ∧ jx v' ∧ N ≤ N' ∧ N' ≤ N + 7 := by
  have gs := h.s.S s hs
  have c18 : c 18 s = 3 := by rw [← gs.sta]; exact hst
  have va := t_vp h1 hs
  obtain ⟨p0, q0⟩ := ixS (k := 0) (j := 0) h1 rfl (by omega)
  obtain ⟨p1, q1⟩ := ixS (k := 1) (j := 1) h1 rfl (by omega)
  obtain ⟨p2, q2⟩ := ixS (k := 2) (j := 2) h1 rfl (by omega)
  obtain ⟨p3, q3⟩ := ixS (k := 3) (j := 3) h1 rfl (by omega)
  obtain ⟨p4, q4⟩ := ixS (k := 4) (j := 4) h1 rfl (by omega)
  obtain ⟨p5, q5⟩ := ixS (k := 5) (j := 5) h1 rfl (by omega)
  have t1 := h.cnt (k := 9) (by decide) 1
  have j1 : jj N (cnF v 9 1) := jj_cn hj (by decide)
  have e1 : ∀ i, i ≠ 16 → cnF v 9 1 i = v i := fun i hi => u_ne (by omega)
  have x1 : jx (cnF v 9 1) := hx.cg (fun b k _ _ => e1 _ (by omega)) (fun s' hs' z => ⟨fun y => z ((e1 _ (by omega)).trans y), e1 _ (by omega)⟩) (e1 0 (by omega)) (fun i i1 i2 => e1 i (by omega))
  have fin : ∀ v' c', rd j_M_isOver [.ref 0, .int a1] v v' → xC xD j_G_endPass [.ref 41, .int a1] c (sm_V (fun σ' => σ' = c')) → (∀ M, jj M v' → tie g M c' v') → jx v' → ∃ v' c' N', rd j_M_isOver [.ref 0, .int a1] v v' ∧ xC xD j_G_endPass [.ref 41, .int a1] c (sm_V (fun σ' => σ' = c')) ∧ tie g N' c' v' ∧ jj N' v' ∧ jx v' ∧ N ≤ N' ∧ N' ≤ N + 7 := fun v' c' r rc t x => by
    obtain ⟨w, N', ew, jw, k1, k2, -⟩ := r.det (c_isOver (N := N) h1 hs (by omega) (rz v) (by rw [rz_at]; exact hj) (by rw [rz_at]; exact hst) (by rw [rz_at]; exact hS))
    rw [rz_eq ew] at jw
    exact ⟨v', c', N', r, rc, t N' jw, jw, x, k1, k2⟩
  -- both counts
  have many : ∀ (σ : sm_S) (Q : Option Value → sm_S → Prop), σ 1 = v → (∀ (y5 y7 : Int32), y5.toInt = ((cnS (cnF v 9 1) s 3 : Nat) : Int) → y7.toInt = ((cnS (cnF v 9 1) s 4 : Nat) : Int) → (((y5 + y7) ≠ 0 → (vp_in (2358 + 8 * a1 + 3) 2662 ∧ xC xM j_M_settingOf [.ref 0, .int 1] (sm_set σ 1 (cnF v 9 1)) (sm_ri False (fun x9 σ8 => ((((cnF v 9 1) (2358 + 8 * s + 3)) < x9 → xC xM j_M_more [.ref 0, .int (2358 + 8 * a1 + 3), .int 1] σ8 (sm_rv False (fun σ10 => xC xM j_M_settingOf [.ref 0, .int 3] σ10 (sm_ri False (fun x12 σ11 => (vp_in (2358 + 8 * a1 + 4) 2662 ∧ ∀ σ13, σ13 = sm_set σ11 1 (upd (σ11 1) (2358 + 8 * s + 4) x12) → (vp_in (2358 + 8 * a1 + 5) 2662 ∧ ∀ σ14, σ14 = sm_set σ13 1 (upd (σ13 1) (2358 + 8 * s + 5) 0) → Q none σ14))))))) ∧ (¬ (((cnF v 9 1) (2358 + 8 * s + 3)) < x9) → xC xM j_M_whyOf [.ref 0, .int a1] σ8 (sm_ri False (fun x16 σ15 => xC xM j_M_fails [.ref 0, .int a1, .int x16] σ15 (sm_rv False (fun σ17 => Q none σ17)))))))))) ∧ (¬ ((y5 + y7) ≠ 0) → (vp_in (2358 + 8 * a1 + 3) 2662 ∧ xC xM j_M_writes [.ref 0, .int 1, .int a1, .int ((cnF v 9 1) (2358 + 8 * s + 3))] (sm_set σ 1 (cnF v 9 1)) (sm_rv False (fun σ18 => (vp_in (2358 + 8 * a1 + 0) 2662 ∧ ∀ σ19, σ19 = sm_set σ18 1 (upd (σ18 1) (2358 + 8 * s + 0) 0) → (vp_in (2358 + 8 * a1 + 1) 2662 ∧ ∀ σ20, σ20 = sm_set σ19 1 (upd (σ19 1) (2358 + 8 * s + 1) 0) → (vp_in (2358 + 8 * a1 + 2) 2662 ∧ ∀ σ21, σ21 = sm_set σ20 1 (upd (σ20 1) (2358 + 8 * s + 2) 0) → (vp_in (2358 + 8 * a1 + 3) 2662 ∧ ∀ σ22, σ22 = sm_set σ21 1 (upd (σ21 1) (2358 + 8 * s + 3) 0) → xE xM m_M_isOver 84 [.ref 0, .int a1, .int (2358 + 8 * a1), .int (32 * a1)] [] σ22 Q)))))))))) → xC xM j_M_isOver [.ref 0, .int a1] σ Q := fun σ Q e hQ => by
    refine w_M_isOver a1 σ Q ((c_spanAt a1 σ).int ?_)
    rintro _ σ ⟨rfl, rfl⟩
    refine (c_counts (j := 9) rfl (by decide) 1 _).void ?_
    rintro σ3 e3
    have e3' : σ3 = sm_set σ 1 (cnF v 9 1) := by
      rw [e3, e]
      rfl
    rw [e3']
    refine (c_manyIn2 h1 hs 3 _).int ?_
    rintro y5 σ4 ⟨ey5, es4⟩
    rw [es4]
    refine (c_manyIn2 h1 hs 4 _).int ?_
    rintro y7 σ6 ⟨ey7, es6⟩
    rw [es6, q0, q1, q2, q3, q4, q5, s_at]
    rw [s_at] at ey5 ey7
    exact hQ y5 y7 ey5 ey7
  have b3 := cnS_le (cnF v 9 1) s 3
  have b4 := cnS_le (cnF v 9 1) s 4
  have sum0 : ∀ y5 y7 : Int32, y5.toInt = ((cnS (cnF v 9 1) s 3 : Nat) : Int) → y7.toInt = ((cnS (cnF v 9 1) s 4 : Nat) : Int) → ((y5 + y7) = 0 ↔ cnS (cnF v 9 1) s 3 = 0 ∧ cnS (cnF v 9 1) s 4 = 0) := fun y5 y7 a b => by
    have := t_add a b (by omega) (by omega)
    refine ⟨fun q => ?_, fun q => t_inj ?_⟩
    · rw [q] at this
      have this : (0 : Int) = _ := this
      omega
    · rw [this]
      show _ = (0 : Int)
      omega
  have bits : ∀ K a, (∀ f, f < 256 → (bit (c K (f / 32)) (f % 32) ↔ v (18 + 3 * f) = a)) → (c K s = 0 ↔ cnS (cnF v 9 1) s a = 0) := fun K a hb => by
    rw [cnS_z]
    refine ⟨fun q f hf z => ?_, fun q => Classical.byContradiction (fun z => ?_)⟩
    · rw [e1 _ (by omega)] at z
      have := (hb f (by omega)).mpr z
      rw [hf, q] at this
      exact bit_0 this
    · obtain ⟨i, hi, hb2⟩ := bit_ne.mp z
      have := (hb (32 * s + i) (by omega)).mp (by rw [show (32 * s + i) / 32 = s by omega, show (32 * s + i) % 32 = i by omega]; exact hb2)
      exact q (32 * s + i) (by omega) (by rw [e1 _ (by omega)]; exact this)
  have z4 := bits 4 3 (fun f hf => (h.s.F f hf).tak)
  have z5 := bits 5 4 (fun f hf => (h.s.F f hf).hel)
  have e3p : cnF v 9 1 (2358 + 8 * s + 3) = c 21 s := by rw [e1 _ (by omega)]; exact gs.pas
  have tr : c 39 1 = v 1 + 3 := h.s.N.tri
  by_cases em : cnS (cnF v 9 1) s 3 = 0 ∧ cnS (cnF v 9 1) s 4 = 0
  · -- it is off
    obtain ⟨nl, hnl, h5l, t2⟩ := t1.log (by omega) 1 a1 (c 21 s)
    have t3 := t2.cnt (k := 6) (by decide) 1
    have ez : ∀ i, i < 2422 → i ≠ 5 → i ≠ 13 → i ≠ 16 → cnF (wrF (cnF v 9 1) N 1 a1 (c 21 s)) 6 1 i = v i := fun i i1 i2 i3 i4 => by
      unfold cnF
      rw [u_ne (by omega), wrF_lo i1 i2, u_ne (by omega)]
    have s4 := sim_off t3.s t3.b hs (by rw [ez _ (by omega) (by omega) (by omega) (by omega)]; exact h4) (by rw [ez _ (by omega) (by omega) (by omega) (by omega)]; exact hS) (fun f hf => by
      rw [ez _ (by omega) (by omega) (by omega) (by omega), ← e1 (18 + 3 * f) (by omega)]
      exact ⟨cnS_z.mp em.1 f hf, cnS_z.mp em.2 f hf⟩)
    have eV : cnF (ofF (wrF (cnF v 9 1) N 1 a1 (c 21 s)) s) 6 1 = ofF (cnF (wrF (cnF v 9 1) N 1 a1 (c 21 s)) 6 1) s := by
      funext i
      have k13 : ofF (wrF (cnF v 9 1) N 1 a1 (c 21 s)) s 13 = wrF (cnF v 9 1) N 1 a1 (c 21 s) 13 := ofF_o (by omega) (by omega)
      unfold cnF at k13 ⊢
      rw [show 7 + 6 = 13 from rfl, k13]
      by_cases e : i = 13
      · rw [e, u_at, ofF_o (by omega) (by omega), u_at]
      · rw [u_ne e]
        unfold ofF mpF
        by_cases q : (18 + 3 * (32 * s) ≤ i ∧ i < 18 + 3 * (32 * s + 32)) ∧ (i - 18) % 3 = 0
        · rw [if_pos q, if_pos q]
        · rw [if_neg q, if_neg q]
          by_cases a3 : i = 2358 + 8 * s + 3
          · rw [a3, u_at, u_at]
          · rw [u_ne a3, u_ne a3]
            by_cases a2 : i = 2358 + 8 * s + 2
            · rw [a2, u_at, u_at]
            · rw [u_ne a2, u_ne a2]
              by_cases b1 : i = 2358 + 8 * s + 1
              · rw [b1, u_at, u_at]
              · rw [u_ne b1, u_ne b1]
                by_cases b0 : i = 2358 + 8 * s + 0
                · rw [b0, u_at, u_at]
                · rw [u_ne b0, u_ne b0, u_ne e]
    refine fin (ofF (cnF (wrF (cnF v 9 1) N 1 a1 (c 21 s)) 6 1) s) _ (fun σ e => many σ _ e (fun y5 y7 a b => ⟨fun q => absurd ((sum0 y5 y7 a b).mpr em) q, fun _ => ⟨p3, ?_⟩⟩)) ?_ (tie_off t3 hs s4) ?_
    · rw [e3p]
      refine (c_writes2 (n := N) 1 a1 _ _ (by rw [s_at]; exact t1.n)).void ?_
      rintro σ18 e18
      rw [s_at, s_ss] at e18
      refine ⟨p0, fun σ19 e19 => ⟨p1, fun σ20 e20 => ⟨p2, fun σ21 e21 => ⟨p3, fun σ22 e22 => ?_⟩⟩⟩⟩
      rw [e18, s_at, s_ss] at e19
      rw [e19, s_at, s_ss] at e20
      rw [e20, s_at, s_ss] at e21
      rw [e21, s_at, s_ss] at e22
      have h32 : (32 * a1).toInt = ((32 * s + 0 : Nat) : Int) := by
        have e := t_ix (c := 0) (m := 32) (C := 0) (M := 32) (k := 0) (j := 0) rfl rfl h1 rfl (by omega)
        rw [Int32.zero_add, Int32.add_zero] at e
        rw [e]
        omega
      have := l_off2 (a2 := 2358 + 8 * a1) h1 hs σ22 32 0 (32 * a1) h32 rfl
      rw [mpF_0, s_id] at this
      refine this.mono ?_
      rintro r σ' ⟨hr, hs'⟩
      refine ⟨hr, ?_⟩
      rw [hs', e22, s_at, s_ss, ← eV]
      rfl
    · refine d_G_endPass a1 c _ ⟨t_vp (n := 9) rfl (by omega), t_vp (n := 9) rfl (by omega), fun σ1 e1' => ?_⟩
      have f1 : σ1 = sm_set c 40 (upd (c 40) 9 (c 40 9 + 1)) := e1'
      have k4 : σ1 4 = c 4 := by rw [f1, s_ne (by decide)]
      have k5 : σ1 5 = c 5 := by rw [f1, s_ne (by decide)]
      rw [t_nat h1, k4, k5]
      refine ⟨va, fun q => absurd (z4.mpr em.1) q, fun _ => ⟨va, fun q => absurd (z5.mpr em.2) q, fun _ => ?_⟩⟩
      refine d_G_turnOff a1 σ1 _ ⟨t_vp (n := 6) rfl (by omega), t_vp (n := 6) rfl (by omega), fun σ2 e2 => ⟨va, ?_⟩⟩
      have f2 : σ2 = sm_set σ1 40 (upd (σ1 40) 6 (σ1 40 6 + 1)) := e2
      have k21 : σ2 21 = c 21 := by rw [f2, s_ne (by decide), f1, s_ne (by decide)]
      have k34 : (σ2 34 5).toInt = nl := by
        rw [f2, s_ne (by decide), f1]
        exact h5l
      rw [t_nat h1, k21]
      refine (e_add2 _ _ _ _ σ2 k34 hnl).void ?_
      rintro σ3 e3
      refine ⟨va, fun σ4 e4 => ⟨va, fun σ5 e5 => ⟨va, fun σ6 e6 => ?_⟩⟩⟩
      refine (e_endGoing2 h1 hs 0 σ6).void ?_
      rintro σ7 e7
      refine ⟨rfl, ?_⟩
      have f3 : σ3 = sm_set (laC (sm_set c 40 (upd (c 40) 9 (c 40 9 + 1))) nl (sm_set c 40 (upd (c 40) 9 (c 40 9 + 1)) 0 7) 1 a1 (c 21 s)) 40 (upd (laC (sm_set c 40 (upd (c 40) 9 (c 40 9 + 1))) nl (sm_set c 40 (upd (c 40) 9 (c 40 9 + 1)) 0 7) 1 a1 (c 21 s) 40) 6 (laC (sm_set c 40 (upd (c 40) 9 (c 40 9 + 1))) nl (sm_set c 40 (upd (c 40) 9 (c 40 9 + 1)) 0 7) 1 a1 (c 21 s) 40 6 + 1)) := by
        rw [e3, f2, laC_s (by omega), f1]
        rfl
      rw [e7, e6, e5, e4, f3]
      rfl
    · refine hx.cg (fun b k hb hk => ?_) (fun s' hs' z => ?_) ?_ (fun i i1 i2 => by rw [ofF_o (by omega) (by omega), ez _ (by omega) (by omega) (by omega) (by omega)])
      · rw [ofF_o (by omega) (by omega), ez _ (by omega) (by omega) (by omega) (by omega)]
      · by_cases q : s' = s
        · rw [q, ofF_at hs (by decide)] at z
          exact absurd rfl z
        · rw [ofF_o (by omega) (by omega), ez _ (by omega) (by omega) (by omega) (by omega)] at z
          exact ⟨z, by rw [ofF_o (by omega) (by omega), ez _ (by omega) (by omega) (by omega) (by omega)]⟩
      · rw [ofF_o (by omega) (by omega), ez _ (by omega) (by omega) (by omega) (by omega)]
  · -- it stays
    have cN : ¬ (c 4 s = 0 ∧ c 5 s = 0) := fun q => em ⟨z4.mp q.1, z5.mp q.2⟩
    -- the class comes to the same place
    have upC : ∀ {Q : Option Value → sm_S → Prop}, (((c 21 s) < (c 39 1) → (∀ σ4, σ4 = sm_set (nxC c s) 40 (upd (c 40) 9 (c 40 9 + 1)) → Q none σ4)) ∧ (¬ ((c 21 s) < (c 39 1)) → xC xD j_G_whyFails [.ref 41, .int a1] (sm_set c 40 (upd (c 40) 9 (c 40 9 + 1))) (sm_ri False (fun x6 σ5 => xC xD j_G_fail [.ref 41, .int a1, .int x6] σ5 (sm_rv False (fun σ7 => Q none σ7)))))) → xC xD j_G_endPass [.ref 41, .int a1] c Q := fun {Q} hQ => by
      refine d_G_endPass a1 c _ ⟨t_vp (n := 9) rfl (by omega), t_vp (n := 9) rfl (by omega), fun σ1 e1' => ?_⟩
      have f1 : σ1 = sm_set c 40 (upd (c 40) 9 (c 40 9 + 1)) := e1'
      have k4 : σ1 4 = c 4 := by rw [f1, s_ne (by decide)]
      have k5 : σ1 5 = c 5 := by rw [f1, s_ne (by decide)]
      have k21 : σ1 21 = c 21 := by rw [f1, s_ne (by decide)]
      have k39 : σ1 39 = c 39 := by rw [f1, s_ne (by decide)]
      have n1 : ((1 : Int32)).toNatClampNeg = 1 := rfl
      have n3 : ((3 : Int32)).toNatClampNeg = 3 := rfl
      rw [t_nat h1, k4, k5, k21, k39, n1]
      have fin2 : vp_in a1 8 ∧ (vp_in (1 : Int32) 4 ∧ (((c 21 s) < (c 39 1) → (vp_in a1 8 ∧ (vp_in a1 8 ∧ ∀ σ2, σ2 = sm_set σ1 21 (upd (c 21) s ((c 21 s) + 1)) → (vp_in (3 : Int32) 4 ∧ (vp_in a1 8 ∧ ∀ σ3, σ3 = sm_set σ2 22 (upd (σ2 22) s (σ2 39 ((3 : Int32)).toNatClampNeg)) → (vp_in a1 8 ∧ ∀ σ4, σ4 = sm_set σ3 23 (upd (σ3 23) s 0) → Q none σ4)))))) ∧ (¬ ((c 21 s) < (c 39 1)) → xC xD j_G_whyFails [.ref 41, .int a1] σ1 (sm_ri False (fun x6 σ5 => xC xD j_G_fail [.ref 41, .int a1, .int x6] σ5 (sm_rv False (fun σ7 => Q none σ7))))))) := by
        refine ⟨va, t_vp (n := 1) rfl (by omega), fun q => ⟨va, va, fun σ2 e2 => ⟨t_vp (n := 3) rfl (by omega), va, fun σ3 e3 => ⟨va, fun σ4 e4 => hQ.1 q σ4 ?_⟩⟩⟩, fun q => by rw [f1]; exact hQ.2 q⟩
        rw [n3] at e3
        have g2 : σ2 22 = c 22 := by rw [e2, s_ne (by decide), f1, s_ne (by decide)]
        have g39 : σ2 39 = c 39 := by rw [e2, s_ne (by decide), k39]
        have g3 : σ3 23 = c 23 := by rw [e3, s_ne (by decide), e2, s_ne (by decide), f1, s_ne (by decide)]
        rw [e4, g3, e3, g2, g39, e2, f1]
        unfold nxC
        rw [s_com (show 40 ≠ 21 by decide), s_com (show 40 ≠ 22 by decide), s_com (show 40 ≠ 23 by decide)]
      refine ⟨va, fun _ => fin2, fun q => ⟨va, fun _ => fin2, fun q2 => absurd ⟨Classical.not_not.mp q, Classical.not_not.mp q2⟩ cN⟩⟩
    have sumN0 : ∀ y5 y7 : Int32, y5.toInt = ((cnS (cnF v 9 1) s 3 : Nat) : Int) → y7.toInt = ((cnS (cnF v 9 1) s 4 : Nat) : Int) → (y5 + y7) ≠ 0 := fun y5 y7 a b q => em ((sum0 y5 y7 a b).mp q)
    by_cases lt : c 21 s < c 39 1
    · have s4 := sim_nxt t1.s t1.b x1 hs (by rw [s_ne (by decide)]; exact c18)
      have eC : nxC (sm_set c 40 (upd (c 40) 9 (c 40 9 + 1))) s = sm_set (nxC c s) 40 (upd (c 40) 9 (c 40 9 + 1)) := by
        unfold nxC
        rw [s_ne (show 21 ≠ 40 by decide), s_ne (show 22 ≠ 40 by decide), s_ne (show 23 ≠ 40 by decide), s_ne (show 39 ≠ 40 by decide), s_com (show 40 ≠ 21 by decide), s_com (show 40 ≠ 22 by decide), s_com (show 40 ≠ 23 by decide)]
      rw [eC] at s4
      refine fin (nxF (cnF v 9 1) s) _ (fun σ e => many σ _ e (fun y5 y7 a b => ⟨fun _ => ⟨p3, (r_set1 (cnF v 9 1) _ s_at).int ?_⟩, fun q => absurd (sumN0 y5 y7 a b) q⟩)) (upC ⟨fun _ σ4 e4 => ⟨rfl, e4⟩, fun q => absurd lt q⟩) (fun M jm => ?_) ?_
      · rintro y9 σ8 ⟨ey9, es8⟩
        rw [ey9, es8, e3p, e1 1 (by decide), ← tr]
        refine ⟨fun _ => ?_, fun q => absurd lt q⟩
        have ik : (2358 + 8 * a1 + 3).toInt = ((2358 + 8 * s + 3 : Nat) : Int) := t_ix (c := 2358) (m := 8) (C := 2358) (M := 8) (k := 3) (j := 3) rfl rfl h1 rfl (by omega)
        refine (c_more ik (by omega) 1 _).void ?_
        rintro σ10 e10
        rw [s_at, s_ss] at e10
        refine (r_set3 (upd (cnF v 9 1) (2358 + 8 * s + 3) (cnF v 9 1 (2358 + 8 * s + 3) + 1)) σ10 (by rw [e10, s_at])).int ?_
        rintro y12 σ11 ⟨ey12, es11⟩
        rw [ey12, es11]
        refine ⟨p4, fun σ13 e13 => ⟨p5, fun σ14 e14 => ⟨rfl, ?_⟩⟩⟩
        rw [u_ne (show (3 : Nat) ≠ 2358 + 8 * s + 3 by omega)] at e13
        rw [e14, e13, s_at, s_ss, e10, s_at, s_ss]
        rfl
      · have t := t1.to (c' := sm_set (nxC c s) 40 (upd (c 40) 9 (c 40 9 + 1))) s4 (fun k k1 k2 => by
          rw [s_ne (by omega), s_ne (by omega)]
          unfold nxC
          rw [s_ne (by omega), s_ne (by omega), s_ne (by omega)]) (nxF_o (by omega)) (fun i hi => nxF_o (by omega)) jm.2.1.1
        have nn := t.n
        have mm := jm.2.2
        have : M = N := by omega
        rw [this]
        exact t
      · refine x1.cg (fun b k hb hk => nxF_o (by omega)) (fun s' hs' z => ⟨fun y => z ((nxF_o (by omega)).trans y), nxF_o (by omega)⟩) (nxF_o (by omega)) (fun i i1 i2 => nxF_o (by omega))
    · obtain ⟨w, rw1, rcw⟩ := whyE t1.s h1 hs
      obtain ⟨c', rc', t', j', -, -⟩ := p_fail w t1 j1 (by omega) h1 hs (by rw [e1 _ (by omega)]; exact hS) (by rw [s_ne (by decide), c18]; decide)
      refine ⟨_, c', N + 1, fun σ e => many σ _ e (fun y5 y7 a b => ⟨fun _ => ⟨p3, (r_set1 (cnF v 9 1) _ s_at).int ?_⟩, fun q => absurd (sumN0 y5 y7 a b) q⟩), upC ⟨fun q => absurd q lt, fun _ => rcw.int ?_⟩, t', j', jx_fl x1 hs (by rw [e1 _ (by omega), hst]; decide), by omega, by omega⟩
      · rintro y9 σ8 ⟨ey9, es8⟩
        rw [ey9, es8, e3p, e1 1 (by decide), ← tr]
        refine ⟨fun q => absurd q lt, fun _ => (rw1 _ s_at).int ?_⟩
        rintro y16 σ15 ⟨ey16, es15⟩
        rw [ey16, es15, s_ss]
        refine (r_fails (w := w) h1 hs (r_stays0 h1 hs (by rw [e1 _ (by omega)]; exact hS)) t1.n _ s_at).void ?_
        rintro _ rfl
        exact ⟨rfl, by rw [s_ss]⟩
      · rintro y6 σ5 ⟨ey6, es5⟩
        rw [ey6, es5]
        refine rc'.void ?_
        rintro _ rfl
        exact ⟨rfl, rfl⟩
