/-! ===== the simulation: arrive | arrives ===== -/
/-- what the invariant doesn't say: copied, where to, settings -/
def jx (v : Nat → Int32) : Prop := (∀ b, b < 96 → v (786 + 16 * b + 0) = 1 → (v (786 + 16 * b + 6) = 0 → v (786 + 16 * b + 7) = 0) ∧ ∀ to fr o : Nat, (v (786 + 16 * b + 6)).toInt = ((to + 1 : Nat) : Int) → (v (786 + 16 * b + 1)).toInt = fr → (v (786 + 16 * b + 2)).toInt = o → (v (786 + 16 * b + 7)).toInt ≤ ((2 ^ o : Nat) : Int) ∧ to / 32 ≠ fr / 32) ∧ (∀ b, b < 96 → v (786 + 16 * b + 0) = 1 → v (786 + 16 * b + 3) = 0 ∨ v (786 + 16 * b + 3) = 1 ∨ v (786 + 16 * b + 3) = 2) ∧ (∀ s, s < 8 → v (2358 + 8 * s + 0) ≠ 0 → v (2358 + 8 * s + 1) = 0 ∨ v (2358 + 8 * s + 1) = 1) ∧ 0 ≤ (v 0 + 4).toInt ∧ 0 ≤ (v 3 + 2).toInt ∧ 0 ≤ (v 2 + 150).toInt ∧ (v 2 + 150).toInt ≤ 400
theorem jx.cg {v v' : Nat → Int32} (h : jx v) (e : ∀ b k, b < 96 → (k = 0 ∨ k = 1 ∨ k = 2 ∨ k = 3 ∨ k = 6 ∨ k = 7) → v' (786 + 16 * b + k) = v (786 + 16 * b + k)) (es : ∀ s, s < 8 → v' (2358 + 8 * s + 0) ≠ 0 → v (2358 + 8 * s + 0) ≠ 0 ∧ v' (2358 + 8 * s + 1) = v (2358 + 8 * s + 1)) (e0 : v' 0 = v 0) (e3 : ∀ i, 1 < i → i < 4 → v' i = v i) : jx v' := by
  refine ⟨fun b hb h0 => ?_, fun b hb h0 => ?_, fun s hs h0 => by rw [(es s hs h0).2]; exact h.2.2.1 s hs (es s hs h0).1, by rw [e0]; exact h.2.2.2.1, by rw [e3 3 (by decide) (by decide), e3 2 (by decide) (by decide)]; exact h.2.2.2.2⟩
  · rw [e b 0 hb (by omega)] at h0
    rw [e b 6 hb (by omega), e b 7 hb (by omega), e b 1 hb (by omega), e b 2 hb (by omega)]
    exact h.1 b hb h0
  · rw [e b 0 hb (by omega)] at h0
    rw [e b 3 hb (by omega)]
    exact h.2.1 b hb h0
/-- one block's row is new -/
theorem jx.re {v v' : Nat → Int32} {n : Nat} (h : jx v) (e : ∀ b k, b < 96 → b ≠ n → (k = 0 ∨ k = 1 ∨ k = 2 ∨ k = 3 ∨ k = 6 ∨ k = 7) → v' (786 + 16 * b + k) = v (786 + 16 * b + k)) (hn : v' (786 + 16 * n + 0) = 1 → (v' (786 + 16 * n + 6) = 0 → v' (786 + 16 * n + 7) = 0) ∧ ∀ to fr o : Nat, (v' (786 + 16 * n + 6)).toInt = ((to + 1 : Nat) : Int) → (v' (786 + 16 * n + 1)).toInt = fr → (v' (786 + 16 * n + 2)).toInt = o → (v' (786 + 16 * n + 7)).toInt ≤ ((2 ^ o : Nat) : Int) ∧ to / 32 ≠ fr / 32) (hd : v' (786 + 16 * n + 0) = 1 → v' (786 + 16 * n + 3) = 0 ∨ v' (786 + 16 * n + 3) = 1 ∨ v' (786 + 16 * n + 3) = 2) (es : ∀ s, s < 8 → v' (2358 + 8 * s + 0) ≠ 0 → v (2358 + 8 * s + 0) ≠ 0 ∧ v' (2358 + 8 * s + 1) = v (2358 + 8 * s + 1)) (e0 : v' 0 = v 0) (e3 : ∀ i, 1 < i → i < 4 → v' i = v i) : jx v' := by
  refine ⟨fun b hb h0 => ?_, fun b hb h0 => ?_, fun s hs h0 => by rw [(es s hs h0).2]; exact h.2.2.1 s hs (es s hs h0).1, by rw [e0]; exact h.2.2.2.1, by rw [e3 3 (by decide) (by decide), e3 2 (by decide) (by decide)]; exact h.2.2.2.2⟩
  · by_cases q : b = n
    · subst q
      exact hn h0
    · rw [e b 0 hb q (by omega)] at h0
      rw [e b 6 hb q (by omega), e b 7 hb q (by omega), e b 1 hb q (by omega), e b 2 hb q (by omega)]
      exact h.1 b hb h0
  · by_cases q : b = n
    · subst q
      exact hd h0
    · rw [e b 0 hb q (by omega)] at h0
      rw [e b 3 hb q (by omega)]
      exact h.2.1 b hb h0
/-- how much a frame weighs in a pass -/
def wt (v : Nat → Int32) (f : Nat) : Nat := if v (18 + 3 * f) = 3 then (if (v (786 + 16 * (v (18 + 3 * f + 1) - 1).toNatClampNeg + 1)).toInt = f then 1 else 2) else 0
theorem wt_cg {v v' : Nat → Int32} {f : Nat} (e0 : v' (18 + 3 * f) = v (18 + 3 * f)) (e1 : v' (18 + 3 * f + 1) = v (18 + 3 * f + 1)) (e2 : ∀ b : Nat, v (18 + 3 * f) = 3 → (v (18 + 3 * f + 1)).toInt = ((b + 1 : Nat) : Int) → b < 96 → v' (786 + 16 * b + 1) = v (786 + 16 * b + 1)) (h : own v) (hf : f < 256) : wt v' f = wt v f := by
  unfold wt
  rw [e0, e1]
  by_cases q : v (18 + 3 * f) = 3
  · obtain ⟨b, fr, o, p1, p2, -⟩ := h.tk f hf q
    rw [if_pos q, if_pos q, t_nat (t_m1 p2 (by omega)), e2 b q p2 p1]
  · rw [if_neg q, if_neg q]
theorem wt_0 {v : Nat → Int32} {f : Nat} (h : v (18 + 3 * f) ≠ 3) : wt v f = 0 := if_neg h
theorem hsF_u {w : Nat → Int32} {fr n i : Nat} {s x y : Int32} (h : i < 18 + 3 * fr ∨ 18 + 3 * (fr + n) ≤ i) : hsF (upd w i y) fr n s x = upd (hsF w fr n s x) i y := by
  funext j
  by_cases e : j = i
  · subst e
    rw [u_at, hsF_out h, u_at]
  · rw [u_ne e]
    unfold hsF
    rw [u_ne e]
theorem shV_cg {v v' : Nat → Int32} {f : Nat} (h : v' (2358 + 8 * (f / 32) + 2) = v (2358 + 8 * (f / 32) + 2)) : shV v' f = shV v f := by
  unfold shV
  rw [h]
theorem l_arrives2 {a1 a2 a3 : Int32} {s n o fr to N : Nat} {w v' : Nat → Int32} (h1 : a1.toInt = s) (hs : s < 8) (h2 : a2.toInt = n) (hn : n < 96) (h3 : a3.toInt = to) (ho : o ≤ 4) (hle : fr + 2 ^ o ≤ 256) (hlt : to + 2 ^ o ≤ 256) (hd : to + 2 ^ o ≤ fr ∨ fr + 2 ^ o ≤ to) (ho2 : (w (786 + 16 * n + 2)).toInt = o) (hf2 : (w (786 + 16 * n + 1)).toInt = fr) (h5 : (w 5).toInt = N) (hw : rd j_M_wakes [.ref 0, .int a2] (wrF (cnF (arF w n s fr to o (a2 + 1) a3) 2 1) N 4 a2 a3) v') : ∀ (d k : Nat) (a4 : Int32) (σ : sm_S), σ 1 = hsF (lvF w fr k) to k 3 (a2 + 1) → a4.toInt = k → k + d = 2 ^ o → xE xM m_M_arrives 13 [.ref 0, .int a1, .int a2, .int a3, .int a4] [] σ (sm_V (fun σ' => σ' = sm_set σ 1 v')) := by
  have hp := t_pw (k := o) (by omega)
  obtain ⟨p6, q6⟩ := ixS (k := 6) (j := 6) h1 rfl (by omega)
  intro d
  induction d with
  | zero =>
    intro k a4 σ hσ h4 hk
    refine w_M_arrives_13 a1 a2 a3 a4 _ _ ((c_longOf h2 hn _).int ?_)
    rintro _ σ ⟨rfl, rfl⟩
    rw [hσ, hsF_out (by omega), lvF_out (by omega)]
    refine ⟨fun _ => (c_lay (k := 1) (j := 1) h2 rfl (by omega) a3 _).void ?_, fun h => absurd ?_ h⟩
    · rintro _ rfl
      refine (c_lay (k := 6) (j := 6) h2 rfl (by omega) 0 _).void ?_
      rintro _ rfl
      refine (c_lay (k := 7) (j := 7) h2 rfl (by omega) 0 _).void ?_
      rintro _ rfl
      refine (c_spanAt a1 _).int ?_
      rintro _ _ ⟨rfl, rfl⟩
      refine ⟨p6, fun σ7 e7 => ?_⟩
      rw [q6, s_at, s_ss, s_at, s_ss, s_at, s_ss, hσ, show k = 2 ^ o by omega] at e7
      have e8 : σ7 = sm_set σ 1 (arF w n s fr to o (a2 + 1) a3) := e7
      rw [e8]
      refine (c_counts (j := 2) rfl (by decide) 1 _).void ?_
      rintro _ rfl
      refine (c_writes2 (n := N) 4 a2 a3 _ ?_).void ?_
      · rw [s_at, s_at, u_ne (by omega), arF_o (by omega) (by omega) (by omega) (by omega) (by omega) (by omega)]
        exact h5
      · rintro _ rfl
        refine (hw _ ?_).void ?_
        · rw [s_at, s_at, s_at]
          rfl
        · rintro _ rfl
          exact ⟨rfl, by rw [s_ss, s_ss, s_ss]⟩
    · rw [t_le, t_pow ho2 (by omega), h4]
      omega
  | succ d ih =>
    intro k a4 σ hσ h4 hk
    refine w_M_arrives_13 a1 a2 a3 a4 _ _ ((c_longOf h2 hn _).int ?_)
    rintro _ σ ⟨rfl, rfl⟩
    rw [hσ, hsF_out (by omega), lvF_out (by omega)]
    have h4' : (a4 + 1).toInt = ((k + 1 : Nat) : Int) := by
      rw [t_add h4 (y := 1) rfl (by omega) (by omega)]
      omega
    refine ⟨fun h => ?_, fun _ => (c_frameOf h2 hn _).int ?_⟩
    · rw [t_le, t_pow ho2 (by omega), h4] at h
      omega
    · rintro _ σ ⟨rfl, rfl⟩
      rw [hσ, hsF_out (by omega), lvF_out (by omega)]
      have hf3 := t_add hf2 h4 (by omega) (by omega)
      rw [← Int.natCast_add] at hf3
      have ht3 := t_add h3 h4 (by omega) (by omega)
      rw [← Int.natCast_add] at ht3
      refine (c_leaves2 hf3 (by omega) σ).void ?_
      rintro _ rfl
      refine (c_has ht3 (by omega) a2 3 _).void ?_
      rintro _ rfl
      have key : upd (upd (upd (upd (upd (σ 1) (18 + 3 * (fr + k)) (shV (σ 1) (fr + k))) (18 + 3 * (fr + k) + 1) 0) (18 + 3 * (fr + k) + 2) 0) (18 + 3 * (to + k)) 3) (18 + 3 * (to + k) + 1) (a2 + 1) = hsF (lvF w fr (k + 1)) to (k + 1) 3 (a2 + 1) := by
        have e1 : shV (σ 1) (fr + k) = shV w (fr + k) := shV_cg (by rw [hσ, hsF_out (by omega), lvF_out (by omega)])
        rw [e1, hσ, hsF_s, lvF_s, hsF_u (by omega), hsF_u (by omega), hsF_u (by omega)]
      rw [s_at, s_ss, key]
      have := ih (k + 1) (a4 + 1) (sm_set σ 1 (hsF (lvF w fr (k + 1)) to (k + 1) 3 (a2 + 1))) s_at h4' (by omega)
      rw [s_ss] at this
      exact this
theorem p_arrive {g : Prop} {N s n : Nat} {c : sm_S} {v : Nat → Int32} {a1 a2 : Int32} (h : tie g N c v) (hj : jj N v) (hx : jx v) (hN : N + 7 < 2000000000) (h1 : a1.toInt = s) (hs : s < 8) (h2 : a2.toInt = n) (h6 : (v (2358 + 8 * s + 6)).toInt = ((n + 1 : Nat) : Int)) : ∃ v' c' N', rd j_M_arrives [.ref 0, .int a1, .int a2] v v' ∧ xC xD j_G_arrive [.ref 41, .int a1, .int a2] c (sm_V (fun σ' => σ' = c')) ∧ tie g N' c' v' ∧ jj N' v' ∧ jx v' ∧ N' ≤ N + 7 ∧ (∀ i, 2358 ≤ i → i < 2422 → i ≠ 2358 + 8 * s + 6 → v' i = v i) ∧ v' (2358 + 8 * s + 6) = 0 ∧ (∀ f, f < 256 → f / 32 = s → wt v' f ≤ wt v f) := by
  have n6 : v (2358 + 8 * s + 6) ≠ 0 := fun z => by
    rw [z] at h6
    have h6 : (0 : Int) = ((n + 1 : Nat) : Int) := h6
    omega
  obtain ⟨n', o, fr, to, hn, e6, h0, e2, ho, e1, hfr, hal, hfs, et, hto, halt, h3⟩ := way_of hj hs n6
  have en : n' = n := by omega
  subst en
  obtain ⟨L, h9⟩ := hj.L hn
  have hle := al_le ho hfr hal
  have hlt := al_le ho hto halt
  obtain ⟨hL6, hline⟩ := line_of hj hn e2 hlt h9
  obtain ⟨p, hp, hp4⟩ := hj.pt (s := fr / 32) (by omega)
  obtain ⟨gb, -⟩ := (h.s.B n' hn).al h0
  have hne := (((hx.1 n' hn h0).2 to fr o et e1 e2).2)
  have ha1 := t_al (k := o) (by omega) hal
  have ha2 := t_al (k := o) (by omega) halt
  have c14 : (c 14 n').toInt = to := m1_add (by rw [← gb.tgt]; exact et) (by omega)
  have c9 : (c 9 n').toInt = fr := by rw [← gb.fir]; exact e1
  have c10 : (c 10 n').toInt = o := by rw [← gb.ord]; exact e2
  have hpc : (c 20 s).toInt = p := by rw [← (h.s.S s hs).par, ← hfs]; exact hp
  obtain ⟨sb, hsb, sbr⟩ := pick (e_shutBits2 h1 hs c hpc hp4)
  have aro : ∀ i, 786 ≤ i → i ≠ 786 + 16 * n' + 1 → i ≠ 786 + 16 * n' + 6 → i ≠ 786 + 16 * n' + 7 → i ≠ 2358 + 8 * s + 6 → arF v n' s fr to o (a2 + 1) (c 14 n') i = v i := fun i a b d e f => arF_o (by omega) (by omega) b d e f
  have arl : ∀ i, i < 18 → arF v n' s fr to o (a2 + 1) (c 14 n') i = v i := fun i a => arF_o (by omega) (by omega) (by omega) (by omega) (by omega) (by omega)
  have r1 : arF v n' s fr to o (a2 + 1) (c 14 n') (786 + 16 * n' + 1) = c 14 n' := by
    unfold arF
    rw [u_ne (by omega), u_ne (by omega), u_ne (by omega), u_at]
  have r6 : arF v n' s fr to o (a2 + 1) (c 14 n') (786 + 16 * n' + 6) = 0 := by
    unfold arF
    rw [u_ne (by omega), u_ne (by omega), u_at]
  have r7 : arF v n' s fr to o (a2 + 1) (c 14 n') (786 + 16 * n' + 7) = 0 := by
    unfold arF
    rw [u_ne (by omega), u_at]
  have t1 : tie g N (arC c n' s fr to o sb (c 14 n')) (arF v n' s fr to o (a2 + 1) (c 14 n')) := by
    refine h.to (sim_arr h.s h.b hn hs h0 e1 et e2 ho hfr hal hto halt hp hsb h2 c14) (fun k k1 k2 => ?_) (arl 5 (by omega)) (fun i hi => aro i (by omega) (by omega) (by omega) (by omega) (by omega)) (fun b hb => ?_)
    · unfold arC ewC
      rw [s_ne (by omega), s_ne (by omega), s_ne (by omega), s_ne (by omega), stC_o (by omega), lgC_o (by omega)]
    · obtain ⟨o1, f1, z1, z2, z3, z4, z5, ⟨w, z6, z6'⟩, ⟨q, z7, z7'⟩, z8⟩ := h.b b hb
      by_cases e : b = n'
      · subst e
        have eo : o1 = o := by omega
        subst eo
        exact ⟨o1, to, by rw [aro _ (by omega) (by omega) (by omega) (by omega) (by omega)]; exact z1, z2, by rw [r1]; exact c14, hto, halt, ⟨w, by rw [aro _ (by omega) (by omega) (by omega) (by omega) (by omega)]; exact z6, z6'⟩, ⟨0, by rw [r6]; rfl, Or.inl rfl⟩, by rw [r7]; decide⟩
      · exact bk_cong (fun k k1 _ _ _ => aro _ (by omega) (by omega) (by omega) (by omega) (by omega)) (h.b b hb)
  have t2 := t1.cnt (k := 2) (by decide) 1
  obtain ⟨nl, hnl, h5l, t3⟩ := t2.log (by omega) 4 a2 (c 14 n')
  have lo3 : ∀ i, i < 2422 → i ≠ 5 → i ≠ 9 → wrF (cnF (arF v n' s fr to o (a2 + 1) (c 14 n')) 2 1) N 4 a2 (c 14 n') i = arF v n' s fr to o (a2 + 1) (c 14 n') i := fun i i1 i2 i3 => by
    rw [wrF_lo i1 i2]
    exact u_ne (by omega)
  have hb3 : ∀ k, 9 ≤ k → k < 16 → wrF (cnF (arF v n' s fr to o (a2 + 1) (c 14 n')) 2 1) N 4 a2 (c 14 n') (786 + 16 * n' + k) = v (786 + 16 * n' + k) := fun k k1 k2 => by
    rw [lo3 _ (by omega) (by omega) (by omega), aro _ (by omega) (by omega) (by omega) (by omega) (by omega)]
  have lnE : lnV (wrF (cnF (arF v n' s fr to o (a2 + 1) (c 14 n')) 2 1) N 4 a2 (c 14 n')) n' L = lnV v n' L := lnV_cg (fun k hk => hb3 (10 + k) (by omega) (by omega))
  obtain ⟨v4, c4, rw4, rc4, t4, -, fx1, fx2⟩ := p_serve (b := a2) (L := L) (fr := to) t3 (by omega) hn h2 (by rw [hb3 9 (by omega) (by omega)]; exact h9) (by rw [lo3 _ (by omega) (by omega) (by omega), aro _ (by omega) (by omega) (by omega) (by omega) (by omega)]; exact h0) (by rw [lo3 _ (by omega) (by omega) (by omega), r1]; exact c14) (fun t ht => by
    rw [lnE] at ht
    obtain ⟨m, a, y1, y2, y3, y4⟩ := hline t ht
    exact ⟨m, a, y1, y2, by rw [lo3 _ (by omega) (by omega) (by omega), aro _ (by omega) (by omega) (by omega) (by omega) (by omega)]; exact y3, y4⟩)
  have ecv : v (786 + 16 * n' + 6) - 1 = c 14 n' := by rw [gb.tgt, Int32.add_sub_cancel]
  have run : rd j_M_arrives [.ref 0, .int a1, .int a2] v v4 := fun σ e => by
    refine w_M_arrives a1 a2 σ _ ((c_of (k := 6) (j := 6) h2 rfl (by omega) σ).int ?_)
    rintro _ σ ⟨rfl, rfl⟩
    rw [e, ecv]
    exact l_arrives2 h1 hs h2 hn c14 ho hle hlt (by omega) e2 e1 h.n rw4 (2 ^ o) 0 0 σ (by rw [hsF_0, lvF_0]; exact e) rfl (by omega)
  obtain ⟨w, N', ew, jw, k1, k2, -, k4⟩ := run.det (c_arrives (N := N) h1 hs h2 hn (by omega) (rz v) (by rw [rz_at]; exact hj) (by rw [rz_at]; exact h6))
  rw [rz_eq ew] at jw k4
  have eN : N' = N + 1 + L := by have := t4.n; have := jw.2.2; omega
  have va : ∀ b k, b < 96 → k < 9 → k ≠ 5 → k ≠ 8 → v4 (786 + 16 * b + k) = arF v n' s fr to o (a2 + 1) (c 14 n') (786 + 16 * b + k) := fun b k y1 y2 y3 y4 => by
    rw [fx2 b k y1 y2 y3 y4, lo3 _ (by omega) (by omega) (by omega)]
  have vl : ∀ i, (i < 5 ∨ (18 ≤ i ∧ i < 786 ∧ i % 3 ≠ 2) ∨ (2358 ≤ i ∧ i < 2422)) → v4 i = arF v n' s fr to o (a2 + 1) (c 14 n') i := fun i hi => by
    rw [fx1 i (by unfold vfx; omega) (by omega), lo3 _ (by omega) (by omega) (by omega)]
  refine ⟨v4, c4, N', run, ?_, ?_, jw, ?_, by omega, fun i i1 i2 i3 => ?_, ?_, fun f hf hfs2 => ?_⟩
  · refine d_G_arrive a1 a2 c _ ⟨t_vp h2 hn, t_vp h2 hn, (c_size h2 hn c).int ?_⟩
    rintro y1 σ1 ⟨ey1, es1⟩
    rw [ey1, es1, t_nat h2]
    refine sbr.int ?_
    rintro y2 σ2 ⟨ey2, es2⟩
    rw [ey2, es2]
    refine (e_letGo2 c9 (t_pow c10 (by omega)) ho hle sb c).void ?_
    rintro _ rfl
    refine (e_settle2 c14 (t_pow c10 (by omega)) ho hlt _).void ?_
    rintro _ rfl
    refine ⟨t_vp h2 hn, fun σ7 e7 => ?_⟩
    refine (e_endWay2 h1 hs h2 hn σ7).void ?_
    rintro σ8 e8
    have e8' : σ8 = arC c n' s fr to o sb (c 14 n') := by
      rw [e8, e7]
      rfl
    rw [e8']
    refine ⟨t_vp (n := 2) rfl (by omega), t_vp (n := 2) rfl (by omega), fun σ9 e9 => ?_⟩
    have e9' : σ9 = sm_set (arC c n' s fr to o sb (c 14 n')) 40 (upd (arC c n' s fr to o sb (c 14 n') 40) 2 (arC c n' s fr to o sb (c 14 n') 40 2 + 1)) := e9
    rw [e9']
    refine (e_add2 _ _ _ _ _ h5l hnl).void ?_
    rintro _ rfl
    refine rc4.void ?_
    rintro _ rfl
    exact ⟨rfl, rfl⟩
  · rw [eN]
    exact t4
  · refine hx.re (n := n') (fun b k b1 b2 b3 => ?_) (fun y0 => ⟨fun _ => ?_, fun to2 fr2 o2 y1 y2 y3 => ?_⟩) (fun _ => by rw [va n' 3 hn (by omega) (by omega) (by omega), aro _ (by omega) (by omega) (by omega) (by omega) (by omega)]; exact hx.2.1 n' hn h0) (fun s' hs' z => ⟨fun y => z ((k4 (2358 + 8 * s' + 0) (by omega) (by omega) (by omega)).trans y), k4 (2358 + 8 * s' + 1) (by omega) (by omega) (by omega)⟩) ?_ (fun i i1 i2 => by rw [vl i (by omega), arl i (by omega)])
    · rw [va b k b1 (by omega) (by omega) (by omega), aro _ (by omega) (by omega) (by omega) (by omega) (by omega)]
    · rw [va n' 7 hn (by omega) (by omega) (by omega)]; exact r7
    · rw [va n' 6 hn (by omega) (by omega) (by omega), r6] at y1
      have y1 : (0 : Int) = _ := y1
      omega
    · rw [vl 0 (by omega), arl 0 (by omega)]
  · exact k4 i i1 i2 i3
  · rw [vl _ (by omega)]
    exact u_at
  · have nt : ¬ (to ≤ f ∧ f < to + 2 ^ o) := by omega
    have arf : ∀ j, j < 2 → v4 (18 + 3 * f + j) = hsF (lvF v fr (2 ^ o)) to (2 ^ o) 3 (a2 + 1) (18 + 3 * f + j) := fun j hj => by
      rw [vl _ (by omega)]
      unfold arF
      rw [u_ne (by omega), u_ne (by omega), u_ne (by omega), u_ne (by omega)]
    by_cases z : fr ≤ f ∧ f < fr + 2 ^ o
    · have : v4 (18 + 3 * f) ≠ 3 := by
        have := arf 0 (by decide)
        rw [Nat.add_zero] at this
        rw [this, hsF_out (by omega), (lvF_in z.1 z.2).1]
        rcases shV_12 v f with q | q <;> rw [q] <;> decide
      rw [wt_0 this]
      exact Nat.zero_le _
    · have q0 : v4 (18 + 3 * f) = v (18 + 3 * f) := by
        have := arf 0 (by decide)
        rw [Nat.add_zero] at this
        rw [this, hsF_out (by omega), lvF_out (by omega)]
      have q1 : v4 (18 + 3 * f + 1) = v (18 + 3 * f + 1) := by
        rw [arf 1 (by decide), hsF_out (by omega), lvF_out (by omega)]
      refine Nat.le_of_eq (wt_cg q0 q1 (fun b y1 y2 y3 => ?_) h.s.O hf)
      have bn : b ≠ n' := fun e => by
        subst e
        obtain ⟨b', fr', o', p1, p2, p3, p4, p5, p6⟩ := h.s.O.tk f hf y1
        have e : b' = b := by omega
        subst e
        have e1 : fr' = fr := by omega
        have e2 : o' = o := by omega
        subst e1 e2
        exact z p6
      rw [va b 1 y3 (by omega) (by omega) (by omega), aro _ (by omega) (by omega) (by omega) (by omega) (by omega)]
