/-! ===== the simulation: a block is looked at ===== -/
def sumN (F : Nat → Nat) : Nat → Nat
  | 0 => 0
  | n + 1 => sumN F n + F n
theorem sumN_le {F G : Nat → Nat} : ∀ {n : Nat}, (∀ i, i < n → F i ≤ G i) → sumN F n ≤ sumN G n
  | 0, _ => Nat.le_refl 0
  | n + 1, h => Nat.add_le_add (sumN_le (fun i hi => h i (by omega))) (h n (by omega))
theorem sumN_lt {F G : Nat → Nat} {j : Nat} (hj : F j < G j) : ∀ {n : Nat}, j < n → (∀ i, i < n → F i ≤ G i) → sumN F n < sumN G n
  | 0, h, _ => absurd h (Nat.not_lt_zero j)
  | n + 1, h, k => by
    show sumN F n + F n < sumN G n + G n
    by_cases e : j = n
    · subst e
      have := sumN_le (F := F) (G := G) (n := j) (fun i hi => k i (by omega))
      omega
    · have := sumN_lt hj (n := n) (by omega) (fun i hi => k i (by omega))
      have := k n (by omega)
      omega
/-- how much is before a pass -/
def phi (v : Nat → Int32) (s r : Nat) : Nat := sumN (fun i => if r ≤ i then wt v (32 * s + i) else 0) 32
theorem wt_le2 (v : Nat → Int32) (f : Nat) : wt v f ≤ 2 := by
  unfold wt
  split
  · split <;> omega
  · omega
theorem sumN_bd {F : Nat → Nat} {K : Nat} : ∀ {n : Nat}, (∀ i, F i ≤ K) → sumN F n ≤ K * n
  | 0, _ => Nat.zero_le _
  | n + 1, h => by
    have := sumN_bd (n := n) h
    have := h n
    show sumN F n + F n ≤ K * (n + 1)
    rw [Nat.mul_succ]
    omega
theorem phi_le (v : Nat → Int32) (s r : Nat) : phi v s r ≤ 64 := sumN_bd (K := 2) (n := 32) (fun i => by
  split
  · exact wt_le2 _ _
  · omega)
theorem phi_mono {v v' : Nat → Int32} {s r r' : Nat} (h : ∀ f, f < 256 → f / 32 = s → wt v' f ≤ wt v f) (hs : s < 8) (hr : r ≤ r') : phi v' s r' ≤ phi v s r := sumN_le (fun i hi => by
  by_cases q : r' ≤ i
  · rw [if_pos q, if_pos (by omega)]
    exact h _ (by omega) (by omega)
  · rw [if_neg q]
    exact Nat.zero_le _)
theorem phi_lt {v v' : Nat → Int32} {s r r' f : Nat} (h : ∀ f, f < 256 → f / 32 = s → wt v' f ≤ wt v f) (hs : s < 8) (hr : r ≤ r') (hf : f < 256) (hfs : f / 32 = s) (hfr : r ≤ f % 32) (hl : wt v' f < wt v f ∨ (f % 32 < r' ∧ 0 < wt v f)) : phi v' s r' < phi v s r := by
  refine sumN_lt (j := f % 32) ?_ (Nat.mod_lt _ (by decide)) (fun i hi => ?_)
  · show (if r' ≤ f % 32 then wt v' (32 * s + f % 32) else 0) < (if r ≤ f % 32 then wt v (32 * s + f % 32) else 0)
    rw [if_pos hfr, show 32 * s + f % 32 = f by omega]
    rcases hl with hl | ⟨l1, l2⟩
    · split
      · exact hl
      · omega
    · rw [if_neg (by omega)]
      exact l2
  · show (if r' ≤ i then wt v' (32 * s + i) else 0) ≤ (if r ≤ i then wt v (32 * s + i) else 0)
    by_cases q : r' ≤ i
    · rw [if_pos q, if_pos (by omega)]
      exact h _ (by omega) (by omega)
    · rw [if_neg q]
      exact Nat.zero_le _
theorem r_pass {a1 a2 : Int32} {s n o fr : Nat} {v : Nat → Int32} (h1 : a1.toInt = s) (hs : s < 8) (h2 : a2.toInt = n) (hn : n < 96) (ho : (v (786 + 16 * n + 2)).toInt = o) (ho4 : o ≤ 4) (hfr : (v (786 + 16 * n + 1)).toInt = fr) (hal : fr % 2 ^ o = 0) : rd j_M_isPassed [.ref 0, .int a1, .int a2] v (upd v (2358 + 8 * s + 5) (nI (fr % 32 + 2 ^ o))) := fun σ e => by
  have hpw := t_pw (k := o) (by omega)
  have ha := t_al (k := o) (by omega) hal
  obtain ⟨p5, q5⟩ := ixS (k := 5) (j := 5) h1 rfl (by omega)
  refine w_M_isPassed a1 a2 σ _ ((c_spanAt a1 σ).int ?_)
  rintro _ σ ⟨rfl, rfl⟩
  refine (c_frameOf h2 hn _).int ?_
  rintro y σ2 ⟨ey, es⟩
  rw [ey, es, e]
  refine ⟨by decide, (c_longOf h2 hn _).int ?_⟩
  rintro y2 σ3 ⟨ey2, es2⟩
  rw [ey2, es2, e, q5]
  refine ⟨p5, fun σ7 e7 => ⟨rfl, ?_⟩⟩
  have hy : (v (786 + 16 * n + 1) - v (786 + 16 * n + 1) / (32 : Int32) * (32 : Int32) + (1 : Int32) <<< (v (786 + 16 * n + 2) &&& 31)).toInt = ((fr % 32 + 2 ^ o : Nat) : Int) := by
    rw [t_add (t_rem (d := 32) hfr rfl (by decide)) (t_pow ho (by omega)) (by omega) (by omega)]
    omega
  rw [e7, t_nI hy]
def lkA (a1 a2 x : Int32) (s : Nat) (v v' : Nat → Int32) : Prop := ∀ x', rdI j_M_firstBlock [.ref 0, .int a1, .int (v' (2358 + 8 * s + 5))] v' x' v' → ∀ (σ : sm_S) (v4 v5 : Value) (Q : Option Value → sm_S → Prop), σ 1 = v → (∀ u4 u5, xE xM m_M_looks 20 [.ref 0, .int a1, .int a2, .int x', u4, u5] [] (sm_set σ 1 v') Q) → xE xM m_M_looks 20 [.ref 0, .int a1, .int a2, .int x, v4, v5] [] σ Q
def lkB (a1 a2 x : Int32) (v v' : Nat → Int32) : Prop := ∀ (σ : sm_S) (v4 v5 : Value) (Q : Option Value → sm_S → Prop), σ 1 = v → Q (some (.int 1)) (sm_set σ 1 v') → xE xM m_M_looks 20 [.ref 0, .int a1, .int a2, .int x, v4, v5] [] σ Q
theorem ix5 {a2 : Int32} {s : Nat} (h2 : a2.toInt = ((2358 + 8 * s : Nat) : Int)) (hs : s < 8) {k : Int32} {j : Nat} (hk : k.toInt = j) (hj : j < 8) : vp_in (a2 + k) 2662 ∧ (a2 + k).toNatClampNeg = 2358 + 8 * s + j := by
  have e : (a2 + k).toInt = ((2358 + 8 * s + j : Nat) : Int) := by
    rw [t_add h2 hk (by omega) (by omega)]
    omega
  exact ⟨t_vp e (by omega), t_nat e⟩
/-- after a step of a pass the next block is found -/
theorem lk_next {a1 a2 x' : Int32} {s : Nat} {v' : Nat → Int32} {Q : Option Value → sm_S → Prop} (h2 : a2.toInt = ((2358 + 8 * s : Nat) : Int)) (hs : s < 8) (hx' : rdI j_M_firstBlock [.ref 0, .int a1, .int (v' (2358 + 8 * s + 5))] v' x' v') (σ : sm_S) (e : σ 1 = v') (v4 v5 : Value) (k : ∀ u4 u5, xE xM m_M_looks 20 [.ref 0, .int a1, .int a2, .int x', u4, u5] [] σ Q) : vp_in (a2 + 5) 2662 ∧ xC xM j_M_firstBlock [.ref 0, .int a1, .int (σ 1 (a2 + 5).toNatClampNeg)] σ (sm_ri False (fun x5 σ4 => xE xM m_M_looks 20 [.ref 0, .int a1, .int a2, .int x5, v4, v5] [] σ4 Q)) := by
  obtain ⟨p, q⟩ := ix5 h2 hs (k := 5) (j := 5) rfl (by decide)
  refine ⟨p, ?_⟩
  rw [q, e]
  refine (hx' σ e).int ?_
  rintro y σ4 ⟨ey, es⟩
  rw [ey, es, ← e, s_id]
  exact k v4 v5
theorem l_hold2 {a1 a2 a3 a4 : Int32} {s n o to fr : Nat} {w : Nat → Int32} {Q : Option Value → sm_S → Prop} (h1 : a1.toInt = s) (hs : s < 8) (h2 : a2.toInt = ((2358 + 8 * s : Nat) : Int)) (h3 : a3.toInt = n) (hn : n < 96) (h4 : a4.toInt = to) (ho : o ≤ 4) (hle : to + 2 ^ o ≤ 256) (ho2 : (w (786 + 16 * n + 2)).toInt = o) (hf2 : (w (786 + 16 * n + 1)).toInt = fr) (hal : fr % 2 ^ o = 0) : ∀ (d k : Nat) (a5 : Int32) (σ : sm_S), σ 1 = hsF w to k 4 (a3 + 1) → a5.toInt = k → k + d = 2 ^ o → Q (some (.int 1)) (sm_set σ 1 (upd (upd (hsF w to (2 ^ o) 4 (a3 + 1)) (2358 + 8 * s + 6) (a3 + 1)) (2358 + 8 * s + 5) (nI (fr % 32 + 2 ^ o)))) → xE xM m_M_looks 123 [.ref 0, .int a1, .int a2, .int a3, .int a4, .int a5] [] σ Q := by
  have hp := t_pw (k := o) (by omega)
  obtain ⟨p6, q6⟩ := ix5 h2 hs (k := 6) (j := 6) rfl (by decide)
  intro d
  induction d with
  | zero =>
    intro k a5 σ hσ h5 hk hQ
    have hk : k = 2 ^ o := by omega
    subst hk
    refine w_M_looks_123 a1 a2 a3 a4 a5 _ _ ((c_longOf h3 hn _).int ?_)
    rintro y σ1 ⟨ey, es⟩
    rw [ey, es, hσ, hsF_out (by omega)]
    refine ⟨fun _ => ⟨p6, fun σ3 e3 => ?_⟩, fun h => absurd ?_ h⟩
    · rw [q6] at e3
      have e31 : σ3 1 = upd (hsF w to (2 ^ o) 4 (a3 + 1)) (2358 + 8 * s + 6) (a3 + 1) := by rw [e3, s_at]
      refine (r_pass h1 hs h3 hn (o := o) (fr := fr) (by rw [u_ne (by omega), hsF_out (by omega)]; exact ho2) ho (by rw [u_ne (by omega), hsF_out (by omega)]; exact hf2) hal σ3 e31).void ?_
      rintro _ rfl
      refine ⟨Or.inr rfl, ?_⟩
      rw [e3, s_ss]
      exact hQ
    · rw [t_le, t_pow ho2 (by omega), h5]
      omega
  | succ d ih =>
    intro k a5 σ hσ h5 hk hQ
    refine w_M_looks_123 a1 a2 a3 a4 a5 _ _ ((c_longOf h3 hn _).int ?_)
    rintro y σ1 ⟨ey, es⟩
    rw [ey, es, hσ, hsF_out (by omega)]
    have h5' : (a5 + 1).toInt = ((k + 1 : Nat) : Int) := by
      rw [t_add h5 (y := 1) rfl (by omega) (by omega)]
      omega
    have hf3 := t_add h4 h5 (by omega) (by omega)
    rw [← Int.natCast_add] at hf3
    refine ⟨fun h => ?_, fun _ => (c_has hf3 (by omega) a3 4 _).void ?_⟩
    · rw [t_le, t_pow ho2 (by omega), h5] at h
      omega
    · rintro _ rfl
      rw [hσ, ← hsF_s]
      refine ih (k + 1) (a5 + 1) _ s_at h5' (by omega) ?_
      rw [s_ss]
      exact hQ
theorem p_look {g : Prop} {N s n r : Nat} {c : sm_S} {v : Nat → Int32} {a1 a2 x : Int32} (h : tie g N c v) (hj : jj N v) (hx : jx v) (hN : N + 1 < 2000000000) (h1 : a1.toInt = s) (hs : s < 8) (h2 : a2.toInt = ((2358 + 8 * s : Nat) : Int)) (hst : v (2358 + 8 * s + 0) = 3) (hS : v (2358 + 8 * s + 6) = 0) (hr : (v (2358 + 8 * s + 5)).toInt = r) (hn : n < 96) (hxn : x.toInt = n) (hf : fst v s r x) : ∃ v' c' N' r', xC xD j_G_lookAt [.ref 41, .int a1, .int x] c (sm_V (fun σ' => σ' = c')) ∧ tie g N' c' v' ∧ jj N' v' ∧ jx v' ∧ N ≤ N' ∧ N' ≤ N + 1 ∧ (∀ i, 2358 ≤ i → i < 2422 → i ≠ 2358 + 8 * s + 5 → i ≠ 2358 + 8 * s + 6 → v' i = v i) ∧ (v' (2358 + 8 * s + 5)).toInt = ((r' : Nat) : Int) ∧ r' ≤ 32 ∧ phi v' s r' < phi v s r ∧ ((v' (2358 + 8 * s + 6) = 0 ∧ lkA a1 a2 x s v v') ∨ ((v' (2358 + 8 * s + 6)).toInt = ((n + 1 : Nat) : Int) ∧ lkB a1 a2 x v v')) := by
  have xm : x ≠ -1 := ne_m1 hxn
  rcases hf with ⟨z, -⟩ | ⟨n', fr, -, y2, hfr, hfs, hrf, h0, e1, f3, fb, -⟩
  · exact absurd z xm
  have en : n' = n := by omega
  subst en
  obtain ⟨o, fr', b1, ho, b3, -, hal, ⟨w, b6, b6'⟩, -, -⟩ := hj.2.1.1 n' hn
  have ef : fr' = fr := by omega
  subst ef
  have hle := al_le ho hfr hal
  have hp := t_pw (k := o) (by omega)
  have ha := t_al (k := o) (by omega) hal
  have h6 := to_0 hj.2.1 hn hS b3 hfs
  obtain ⟨gb, gb9⟩ := (h.s.B n' hn).al h0
  have gs := h.s.S s hs
  have c9 : (c 9 n').toInt = fr' := by rw [← gb.fir]; exact b3
  have c10 : (c 10 n').toInt = o := by rw [← gb.ord]; exact b1
  have c18 : c 18 s = 3 := by rw [← gs.sta]; exact hst
  have wfr : wt v fr' = 1 := by rw [wt_1 f3 fb hn, if_pos b3]
  have behind : c 9 n' - c 9 n' / (32 : Int32) * (32 : Int32) + (1 : Int32) <<< (c 10 n' &&& 31) = nI (fr' % 32 + 2 ^ o) := t_nI (by
    rw [t_add (t_rem (d := 32) c9 rfl (by decide)) (t_pow c10 (by omega)) (by omega) (by omega)]
    omega)
  -- it is passed
  have pass : ∀ (Pc : Prop), (Pc → xC xD j_G_lookAt [.ref 41, .int a1, .int x] c (sm_V (fun σ' => σ' = sm_set c 23 (upd (c 23) s (nI (fr' % 32 + 2 ^ o)))))) → (Pc → lkA a1 a2 x s v (upd v (2358 + 8 * s + 5) (nI (fr' % 32 + 2 ^ o)))) → Pc → ∃ v' c' N' r', xC xD j_G_lookAt [.ref 41, .int a1, .int x] c (sm_V (fun σ' => σ' = c')) ∧ tie g N' c' v' ∧ jj N' v' ∧ jx v' ∧ N ≤ N' ∧ N' ≤ N + 1 ∧ (∀ i, 2358 ≤ i → i < 2422 → i ≠ 2358 + 8 * s + 5 → i ≠ 2358 + 8 * s + 6 → v' i = v i) ∧ (v' (2358 + 8 * s + 5)).toInt = ((r' : Nat) : Int) ∧ r' ≤ 32 ∧ phi v' s r' < phi v s r ∧ ((v' (2358 + 8 * s + 6) = 0 ∧ lkA a1 a2 x s v v') ∨ ((v' (2358 + 8 * s + 6)).toInt = ((n' + 1 : Nat) : Int) ∧ lkB a1 a2 x v v')) := fun Pc q1 q2 q3 => by
    have iy : (nI (fr' % 32 + 2 ^ o)).toInt = ((fr' % 32 + 2 ^ o : Nat) : Int) := nI_toInt (by omega)
    have jw : jj N (upd v (2358 + 8 * s + 5) (nI (fr' % 32 + 2 ^ o))) := jj_at hs iy (by omega) hj
    have wte : ∀ f, f < 256 → wt (upd v (2358 + 8 * s + 5) (nI (fr' % 32 + 2 ^ o))) f = wt v f := fun f hf => wt_cg (u_ne (by omega)) (u_ne (by omega)) (fun b _ _ _ => u_ne (by omega)) h.s.O hf
    refine ⟨_, _, N, fr' % 32 + 2 ^ o, q1 q3, h.to (sim_rea _ h.s h.b hs) (fun k k1 k2 => s_ne (by omega)) (u_ne (by omega)) (fun i hi => u_ne (by omega)) jw.2.1.1, jw, hx.cg (fun b k _ _ => u_ne (by omega)) (fun s' hs' z => ⟨fun y => z (by rw [u_ne (by omega)]; exact y), u_ne (by omega)⟩) (u_ne (by omega)) (fun i i1 i2 => u_ne (by omega)), Nat.le_refl _, by omega, fun i i1 i2 i3 i4 => u_ne i3, by rw [u_at]; exact iy, by omega, ?_, Or.inl ⟨by rw [u_ne (by omega)]; exact hS, q2 q3⟩⟩
    exact phi_lt (f := fr') (fun f hf _ => Nat.le_of_eq (wte f hf)) hs (by omega) hfr hfs hrf (Or.inr ⟨by omega, by rw [wfr]; decide⟩)
  have run3 : ∀ σ : sm_S, σ 1 = v → xC xM j_M_of [.ref 0, .int x, .int 3] σ (sm_I (fun y σ' => y = v (786 + 16 * n' + 3) ∧ σ' = σ)) := fun σ e => by
    have := c_of (k := 3) (j := 3) hxn rfl (by omega) σ
    rw [e] at this
    exact this
  have runP : ∀ σ : sm_S, σ 1 = v → xC xM j_M_isPinned [.ref 0, .int x] σ (sm_I (fun y σ' => ((y = 0 ∧ v (786 + 16 * n' + 5) = 0) ∨ (y = 1 ∧ ¬ v (786 + 16 * n' + 5) = 0)) ∧ σ' = σ)) := fun σ e => by
    have := c_isPinned hxn hn σ
    rw [e] at this
    exact this
  have passR := r_pass (v := v) h1 hs hxn hn b1 ho b3 hal
  -- the start of lookAt
  have startC : ∀ {Q : Option Value → sm_S → Prop}, (vp_in x 96 ∧ (((c 11 n') = 1 → (vp_in a1 8 ∧ ∀ σ3, σ3 = sm_set c 23 (upd (c 23) s (nI (fr' % 32 + 2 ^ o))) → Q none σ3)) ∧ (¬ ((c 11 n') = 1) → (vp_in x 96 ∧ (((c 13 n') = 0 → (vp_in x 96 ∧ (((c 11 n') ≠ 2 → (vp_in x 96 ∧ (vp_in x 96 ∧ xC xD j_Y_bestPlace [.ref 0, .int (c 12 n'), .int (c 11 n'), .int (c 10 n'), .int 1] c (sm_ri False (fun x5 σ4 => ((x5 = (-1) → (((c 10 n') ≤ 0 → ((((-1) : Int32) ≠ (-1) → xC xD j_G_split [.ref 41, .int x, .int (-1)] σ4 (sm_rv False (fun σ6 => Q none σ6))) ∧ (¬ (((-1) : Int32) ≠ (-1)) → (vp_in a1 8 ∧ ∀ σ7, σ7 = sm_set σ4 23 (upd (σ4 23) s (nI (fr' % 32 + 2 ^ o))) → Q none σ7)))) ∧ (¬ ((c 10 n') ≤ 0) → xC xD j_B_leastNumber [.ref 8] σ4 (sm_ri False (fun x9 σ8 => ((x9 ≠ (-1) → xC xD j_G_split [.ref 41, .int x, .int x9] σ8 (sm_rv False (fun σ10 => Q none σ10))) ∧ (¬ (x9 ≠ (-1)) → (vp_in a1 8 ∧ ∀ σ11, σ11 = sm_set σ8 23 (upd (σ8 23) s (nI (fr' % 32 + 2 ^ o))) → Q none σ11)))))))) ∧ (¬ (x5 = (-1)) → (vp_in a1 8 ∧ ∀ σ12, σ12 = sm_set σ4 23 (upd (σ4 23) s (nI (fr' % 32 + 2 ^ o))) → (vp_in a1 8 ∧ ∀ σ13, σ13 = sm_set σ12 24 (upd (σ12 24) s x) → (vp_in x 96 ∧ ∀ σ14, σ14 = sm_set σ13 14 (upd (σ13 14) n' x5) → xC xD j_F_hold [.ref 1, .int x, .int x5, .int ((1 : Int32) <<< (c 10 n' &&& 31))] σ14 (sm_rv False (fun σ15 => Q none σ15)))))))))))) ∧ (¬ ((c 11 n') ≠ 2) → xC xD j_Y_noteDrop [.ref 0, .int x] c (sm_rv False (fun σ16 => xC xD j_Y_remove [.ref 0, .int x] σ16 (sm_rv False (fun σ17 => Q none σ17)))))))) ∧ (¬ ((c 13 n') = 0) → (vp_in a1 8 ∧ ∀ σ18, σ18 = sm_set c 23 (upd (c 23) s (nI (fr' % 32 + 2 ^ o))) → Q none σ18)))))) ) → xC xD j_G_lookAt [.ref 41, .int a1, .int x] c Q := fun {Q} hQ => by
    refine d_G_lookAt a1 x c Q ⟨t_vp hxn hn, t_vp hxn hn, by decide, (c_size hxn hn c).int ?_⟩
    rintro y σ1 ⟨ey, es⟩
    rw [ey, es, t_nat hxn, t_nat h1, behind]
    exact hQ
  have vx := t_vp hxn hn
  have va := t_vp h1 hs
  by_cases k1 : v (786 + 16 * n' + 3) = 1
  · refine pass True (fun _ => startC ⟨vx, fun _ => ⟨va, fun σ3 e3 => ⟨rfl, e3⟩⟩, fun q => absurd (by rw [← gb.kin]; exact k1) q⟩) (fun _ => ?_) trivial
    intro x' hx' σ v4 v5 Q e hQ
    refine w_M_looks_20 a1 a2 x v4 v5 σ Q ⟨fun z => absurd z xm, fun _ => (run3 σ e).int ?_⟩
    rintro y σ1 ⟨ey, es⟩
    rw [ey, es, k1]
    refine ⟨fun _ => (passR σ e).void ?_, fun q => absurd rfl q⟩
    rintro _ rfl
    exact lk_next h2 hs hx' _ s_at v4 v5 hQ
  by_cases kp : ¬ v (786 + 16 * n' + 5) = 0
  · refine pass True (fun _ => startC ⟨vx, fun q => absurd (gb.kin.trans q) k1, fun _ => ⟨vx, fun q => absurd (gb.pin.trans q) kp, fun _ => ⟨va, fun σ3 e3 => ⟨rfl, e3⟩⟩⟩⟩) (fun _ => ?_) trivial
    intro x' hx' σ v4 v5 Q e hQ
    refine w_M_looks_20 a1 a2 x v4 v5 σ Q ⟨fun z => absurd z xm, fun _ => (run3 σ e).int ?_⟩
    rintro y σ1 ⟨ey, es⟩
    rw [ey, es]
    refine ⟨fun q => absurd q k1, fun _ => (runP σ e).int ?_⟩
    rintro y2 σ2 ⟨ey2, es2⟩
    rw [es2]
    refine ⟨fun q => ?_, fun _ => (passR σ e).void ?_⟩
    · rcases ey2 with ⟨-, z⟩ | ⟨z, -⟩
      · exact absurd z kp
      · rw [z] at q; exact absurd q (by decide)
    · rintro _ rfl
      exact lk_next h2 hs hx' _ s_at v4 v5 hQ
  have kp : v (786 + 16 * n' + 5) = 0 := Classical.not_not.mp kp
  -- up to the kind
  have upto : ∀ (σ : sm_S) (v4 v5 : Value) (Q : Option Value → sm_S → Prop), σ 1 = v → xC xM j_M_of [.ref 0, .int x, .int 3] σ (sm_ri False (fun x9 σ8 => ((x9 ≠ 2 → xC xM j_M_of [.ref 0, .int x, .int 4] σ8 (sm_ri False (fun x11 σ10 => xC xM j_M_of [.ref 0, .int x, .int 3] σ10 (sm_ri False (fun x13 σ12 => xC xM j_M_of [.ref 0, .int x, .int 2] σ12 (sm_ri False (fun x15 σ14 => xC xM j_M_bestPlace [.ref 0, .int x11, .int x13, .int x15, .int 1] σ14 (sm_ri False (fun x17 σ16 => ((x17 = (-1) → xC xM j_M_of [.ref 0, .int x, .int 2] σ16 (sm_ri False (fun x19 σ18 => ((x19 ≤ 0 → xC xM j_M_isPassed [.ref 0, .int a1, .int x] σ18 (sm_rv False (fun σ20 => (vp_in (a2 + 5) 2662 ∧ xC xM j_M_firstBlock [.ref 0, .int a1, .int (σ20 1 ((a2 + 5)).toNatClampNeg)] σ20 (sm_ri False (fun x22 σ21 => xE xM m_M_looks 20 [.ref 0, .int a1, .int a2, .int x22, .int x17, v5] [] σ21 Q)))))) ∧ (¬ (x19 ≤ 0) → xC xM j_M_freeNumber [.ref 0] σ18 (sm_ri False (fun x24 σ23 => ((x24 = (-1) → xC xM j_M_isPassed [.ref 0, .int a1, .int x] σ23 (sm_rv False (fun σ25 => (vp_in (a2 + 5) 2662 ∧ xC xM j_M_firstBlock [.ref 0, .int a1, .int (σ25 1 ((a2 + 5)).toNatClampNeg)] σ25 (sm_ri False (fun x27 σ26 => xE xM m_M_looks 20 [.ref 0, .int a1, .int a2, .int x27, .int x17, v5] [] σ26 Q)))))) ∧ (¬ (x24 = (-1)) → xC xM j_M_splits [.ref 0, .int x] σ23 (sm_rv False (fun σ28 => (vp_in (a2 + 5) 2662 ∧ xC xM j_M_firstBlock [.ref 0, .int a1, .int (σ28 1 ((a2 + 5)).toNatClampNeg)] σ28 (sm_ri False (fun x30 σ29 => xE xM m_M_looks 20 [.ref 0, .int a1, .int a2, .int x30, .int x17, v5] [] σ29 Q)))))))))))))) ∧ (¬ (x17 = (-1)) → xC xM j_M_lay [.ref 0, .int x, .int 6, .int (x17 + 1)] σ16 (sm_rv False (fun σ31 => xC xM j_M_lay [.ref 0, .int x, .int 7, .int 0] σ31 (sm_rv False (fun σ32 => xE xM m_M_looks 123 [.ref 0, .int a1, .int a2, .int x, .int x17, .int 0] [] σ32 Q))))))))))))))) ∧ (¬ (x9 ≠ 2) → xC xM j_M_drops [.ref 0, .int x] σ8 (sm_rv False (fun σ33 => (vp_in (a2 + 5) 2662 ∧ xC xM j_M_firstBlock [.ref 0, .int a1, .int (σ33 1 ((a2 + 5)).toNatClampNeg)] σ33 (sm_ri False (fun x35 σ34 => xE xM m_M_looks 20 [.ref 0, .int a1, .int a2, .int x35, v4, v5] [] σ34 Q))))))))) → xE xM m_M_looks 20 [.ref 0, .int a1, .int a2, .int x, v4, v5] [] σ Q := fun σ v4 v5 Q e hQ => by
    refine w_M_looks_20 a1 a2 x v4 v5 σ Q ⟨fun z => absurd z xm, fun _ => (run3 σ e).int ?_⟩
    rintro y σ1 ⟨ey, es⟩
    rw [ey, es]
    refine ⟨fun q => absurd q k1, fun _ => (runP σ e).int ?_⟩
    rintro y2 σ2 ⟨ey2, es2⟩
    rw [es2]
    refine ⟨fun _ => hQ, fun q => ?_⟩
    rcases ey2 with ⟨z, -⟩ | ⟨-, z⟩
    · exact absurd z q
    · exact absurd kp z
  have cp : c 13 n' = 0 := by rw [← gb.pin]; exact kp
  have ck1 : c 11 n' ≠ 1 := fun q => k1 (gb.kin.trans q)
  by_cases k2 : v (786 + 16 * n' + 3) = 2
  · obtain ⟨v', c1, c', rr, rc1, rc2, t', j', x', sp, q0, qB, wle, fr2, f1, f2, wl⟩ := p_drop h hj hx (by omega) hxn hn h0 h6
    have e2 : fr2 = fr' := by omega
    subst e2
    have s5 : v' (2358 + 8 * s + 5) = v (2358 + 8 * s + 5) := sp _ (by omega) (by omega)
    refine ⟨v', c', N + 1, r, startC ⟨vx, fun q => absurd q ck1, fun _ => ⟨vx, fun _ => ⟨vx, fun q => absurd (gb.kin.symm.trans k2) q, fun _ => rc1.void ?_⟩, fun q => absurd cp q⟩⟩, t', j', x', by omega, by omega, fun i i1 i2 _ _ => sp i (by omega) i2, by rw [s5]; exact hr, by omega, phi_lt (f := fr2) (fun f hf _ => wle f hf) hs (Nat.le_refl r) hfr hfs hrf (Or.inl wl), Or.inl ⟨by rw [sp _ (by omega) (by omega)]; exact hS, ?_⟩⟩
    · rintro _ rfl
      refine rc2.void ?_
      rintro _ rfl
      exact ⟨rfl, rfl⟩
    · intro x2 hx2 σ v4 v5 Q e hQ
      refine upto σ v4 v5 Q e ((run3 σ e).int ?_)
      rintro y σ1 ⟨ey, es⟩
      rw [ey, es, k2]
      refine ⟨fun q => absurd rfl q, fun _ => (rr σ e).void ?_⟩
      rintro _ rfl
      exact lk_next h2 hs hx2 _ s_at v4 v5 hQ
  have k0 : v (786 + 16 * n' + 3) = 0 := by
    rcases hx.2.1 n' hn h0 with q | q | q
    · exact q
    · exact absurd q k1
    · exact absurd q k2
  have ck2 : c 11 n' ≠ 2 := fun q => k2 (gb.kin.trans q)
  obtain ⟨y, ry, rcy, hBP⟩ := p_best (a1 := c 12 n') (a2 := c 11 n') (a3 := c 10 n') (a4 := 1) h.s hx (by rw [← gb.own]; exact b6) b6' c10 ho
  -- up to the place
  have upto2 : ∀ (σ : sm_S) (v4 v5 : Value) (Q : Option Value → sm_S → Prop), σ 1 = v → ((y = (-1) → (((c 10 n') ≤ 0 → xC xM j_M_isPassed [.ref 0, .int a1, .int x] σ (sm_rv False (fun σ20 => (vp_in (a2 + 5) 2662 ∧ xC xM j_M_firstBlock [.ref 0, .int a1, .int (σ20 1 ((a2 + 5)).toNatClampNeg)] σ20 (sm_ri False (fun x22 σ21 => xE xM m_M_looks 20 [.ref 0, .int a1, .int a2, .int x22, .int y, v5] [] σ21 Q)))))) ∧ (¬ ((c 10 n') ≤ 0) → xC xM j_M_freeNumber [.ref 0] σ (sm_ri False (fun x24 σ23 => ((x24 = (-1) → xC xM j_M_isPassed [.ref 0, .int a1, .int x] σ23 (sm_rv False (fun σ25 => (vp_in (a2 + 5) 2662 ∧ xC xM j_M_firstBlock [.ref 0, .int a1, .int (σ25 1 ((a2 + 5)).toNatClampNeg)] σ25 (sm_ri False (fun x27 σ26 => xE xM m_M_looks 20 [.ref 0, .int a1, .int a2, .int x27, .int y, v5] [] σ26 Q)))))) ∧ (¬ (x24 = (-1)) → xC xM j_M_splits [.ref 0, .int x] σ23 (sm_rv False (fun σ28 => (vp_in (a2 + 5) 2662 ∧ xC xM j_M_firstBlock [.ref 0, .int a1, .int (σ28 1 ((a2 + 5)).toNatClampNeg)] σ28 (sm_ri False (fun x30 σ29 => xE xM m_M_looks 20 [.ref 0, .int a1, .int a2, .int x30, .int y, v5] [] σ29 Q)))))))))))) ∧ (¬ (y = (-1)) → xC xM j_M_lay [.ref 0, .int x, .int 6, .int (y + 1)] σ (sm_rv False (fun σ31 => xC xM j_M_lay [.ref 0, .int x, .int 7, .int 0] σ31 (sm_rv False (fun σ32 => xE xM m_M_looks 123 [.ref 0, .int a1, .int a2, .int x, .int y, .int 0] [] σ32 Q)))))) → xE xM m_M_looks 20 [.ref 0, .int a1, .int a2, .int x, v4, v5] [] σ Q := fun σ v4 v5 Q e hQ => by
    refine upto σ v4 v5 Q e ((run3 σ e).int ?_)
    rintro y1 σ1 ⟨ey1, es1⟩
    rw [ey1, es1]
    refine ⟨fun _ => (c_of (k := 4) (j := 4) hxn rfl (by omega) σ).int ?_, fun q => absurd k2 q⟩
    rintro y2 σ2 ⟨ey2, es2⟩
    rw [ey2, es2, e, gb.own]
    refine (run3 σ e).int ?_
    rintro y3 σ3 ⟨ey3, es3⟩
    rw [ey3, es3, gb.kin]
    refine (c_of (k := 2) (j := 2) hxn rfl (by omega) σ).int ?_
    rintro y4 σ4 ⟨ey4, es4⟩
    rw [ey4, es4, e, gb.ord]
    refine (ry σ e).int ?_
    rintro y5 σ5 ⟨ey5, es5⟩
    have es5' : σ5 = σ := by rw [es5, ← e, s_id]
    rw [ey5, es5']
    refine ⟨fun z => (c_of (k := 2) (j := 2) hxn rfl (by omega) σ).int ?_, hQ.2⟩
    rintro y6 σ6 ⟨ey6, es6⟩
    rw [ey6, es6, e, gb.ord]
    exact hQ.1 z
  -- up to the place, in the class
  have upC : ∀ {Q : Option Value → sm_S → Prop}, ((y = (-1) → (((c 10 n') ≤ 0 → ((((-1) : Int32) ≠ (-1) → xC xD j_G_split [.ref 41, .int x, .int (-1)] c (sm_rv False (fun σ6 => Q none σ6))) ∧ (¬ (((-1) : Int32) ≠ (-1)) → (vp_in a1 8 ∧ ∀ σ7, σ7 = sm_set c 23 (upd (c 23) s (nI (fr' % 32 + 2 ^ o))) → Q none σ7)))) ∧ (¬ ((c 10 n') ≤ 0) → xC xD j_B_leastNumber [.ref 8] c (sm_ri False (fun x9 σ8 => ((x9 ≠ (-1) → xC xD j_G_split [.ref 41, .int x, .int x9] σ8 (sm_rv False (fun σ10 => Q none σ10))) ∧ (¬ (x9 ≠ (-1)) → (vp_in a1 8 ∧ ∀ σ11, σ11 = sm_set σ8 23 (upd (σ8 23) s (nI (fr' % 32 + 2 ^ o))) → Q none σ11)))))))) ∧ (¬ (y = (-1)) → (vp_in a1 8 ∧ ∀ σ12, σ12 = sm_set c 23 (upd (c 23) s (nI (fr' % 32 + 2 ^ o))) → (vp_in a1 8 ∧ ∀ σ13, σ13 = sm_set σ12 24 (upd (σ12 24) s x) → (vp_in x 96 ∧ ∀ σ14, σ14 = sm_set σ13 14 (upd (σ13 14) n' y) → xC xD j_F_hold [.ref 1, .int x, .int y, .int ((1 : Int32) <<< (c 10 n' &&& 31))] σ14 (sm_rv False (fun σ15 => Q none σ15)))))))  → xC xD j_G_lookAt [.ref 41, .int a1, .int x] c Q := fun {Q} hQ => by
    refine startC ⟨vx, fun q => absurd q ck1, fun _ => ⟨vx, fun _ => ⟨vx, fun _ => ⟨vx, vx, rcy.int ?_⟩, fun q => absurd ck2 q⟩, fun q => absurd cp q⟩⟩
    rintro y1 σ1 ⟨ey1, es1⟩
    rw [ey1, es1]
    exact hQ
  by_cases ym : y = -1
  · by_cases oz : c 10 n' ≤ 0
    · refine pass True (fun _ => upC ⟨fun _ => ⟨fun _ => ⟨fun q => absurd rfl q, fun _ => ⟨va, fun σ3 e3 => ⟨rfl, e3⟩⟩⟩, fun q => absurd oz q⟩, fun q => absurd ym q⟩) (fun _ => ?_) trivial
      intro x2 hx2 σ v4 v5 Q e hQ
      refine upto2 σ v4 v5 Q e ⟨fun _ => ⟨fun _ => (passR σ e).void ?_, fun q => absurd oz q⟩, fun q => absurd ym q⟩
      rintro _ rfl
      exact lk_next h2 hs hx2 _ s_at _ v5 hQ
    · obtain ⟨m, rm, rcm, hm⟩ := p_num h.s
      by_cases mm : m = -1
      · refine pass True (fun _ => upC ⟨fun _ => ⟨fun q => absurd q oz, fun _ => rcm.int ?_⟩, fun q => absurd ym q⟩) (fun _ => ?_) trivial
        · rintro y1 σ1 ⟨ey1, es1⟩
          rw [ey1, es1]
          exact ⟨fun q => absurd mm q, fun _ => ⟨va, fun σ3 e3 => ⟨rfl, e3⟩⟩⟩
        · intro x2 hx2 σ v4 v5 Q e hQ
          refine upto2 σ v4 v5 Q e ⟨fun _ => ⟨fun q => absurd q oz, fun _ => (rm σ e).int ?_⟩, fun q => absurd ym q⟩
          rintro y1 σ1 ⟨ey1, es1⟩
          have es1' : σ1 = σ := by rw [es1, ← e, s_id]
          rw [ey1, es1']
          refine ⟨fun _ => (passR σ e).void ?_, fun q => absurd mm q⟩
          rintro _ rfl
          exact lk_next h2 hs hx2 _ s_at _ v5 hQ
      · rcases hm with ⟨z, -⟩ | ⟨m', m1, m2, m0⟩
        · exact absurd z mm
        · obtain ⟨o', ho'⟩ : ∃ o', o = o' + 1 := by
            rw [t_le, c10] at oz
            have oz : ¬ (o : Int) ≤ 0 := oz
            exact ⟨o - 1, by omega⟩
          subst ho'
          obtain ⟨v', c', rr, rc, t', j', x', sp, wle, wl, wb⟩ := p_split h hj hx (by omega) hxn hn h0 h6 k2 b1 b3 m2 m1 m0 rm
          have pw : 2 ^ (o' + 1) = 2 ^ o' + 2 ^ o' := by rw [Nat.pow_succ]; omega
          have hp' := t_pw (k := o') (by omega)
          refine ⟨v', c', N + 1, r, upC ⟨fun _ => ⟨fun q => absurd q oz, fun _ => rcm.int ?_⟩, fun q => absurd ym q⟩, t', j', x', by omega, by omega, fun i i1 i2 _ _ => sp i i1 i2, by rw [sp _ (by omega) (by omega)]; exact hr, by omega, phi_lt (f := fr' + 2 ^ o') (fun f hf _ => wle f hf) hs (Nat.le_refl r) wb (by omega) (by omega) (Or.inl wl), Or.inl ⟨by rw [sp _ (by omega) (by omega)]; exact hS, ?_⟩⟩
          · rintro y1 σ1 ⟨ey1, es1⟩
            rw [ey1, es1]
            refine ⟨fun _ => rc.void ?_, fun q => absurd mm q⟩
            rintro _ rfl
            exact ⟨rfl, rfl⟩
          · intro x2 hx2 σ v4 v5 Q e hQ
            refine upto2 σ v4 v5 Q e ⟨fun _ => ⟨fun q => absurd q oz, fun _ => (rm σ e).int ?_⟩, fun q => absurd ym q⟩
            rintro y1 σ1 ⟨ey1, es1⟩
            have es1' : σ1 = σ := by rw [es1, ← e, s_id]
            rw [ey1, es1']
            refine ⟨fun q => absurd q mm, fun _ => (rr σ e).void ?_⟩
            rintro _ rfl
            exact lk_next h2 hs hx2 _ s_at _ v5 hQ
  · rcases hBP with ⟨z, -⟩ | ⟨to, hy, ⟨hto, halt, -, hon, hfree⟩, -⟩
    · exact absurd z ym
    · have hlt := al_le ho hto halt
      have on1 : v (2358 + 8 * (to / 32) + 0) = 1 := by
        rcases hon with z | z
        · exact absurd z (by decide)
        · exact z
      have hne : to / 32 ≠ s := fun z => by
        rw [z, hst] at on1
        exact absurd on1 (by decide)
      have hfr1 : ∀ f, to ≤ f → f < to + 2 ^ o → v (18 + 3 * f) = 1 := fun f f1 f2 => by
        have := hfree (f - to) (by omega)
        rw [al_pow halt, show to + (f - to) = f by omega] at this
        exact this
      have h7 := (hx.1 n' hn h0).1 h6
      have s1 := sim_rea (nI (fr' % 32 + 2 ^ o)) h.s h.b hs
      have bk1 : ∀ b, b < 96 → bk_ok (upd v (2358 + 8 * s + 5) (nI (fr' % 32 + 2 ^ o))) b := fun b hb => bk_cong (fun k _ _ _ _ => u_ne (by omega)) (h.b b hb)
      have s2 := sim_lea x s1 bk1 hs (by rw [s_ne (by decide)]; exact c18)
      have bk2 : ∀ b, b < 96 → bk_ok (upd (upd v (2358 + 8 * s + 5) (nI (fr' % 32 + 2 ^ o))) (2358 + 8 * s + 6) (x + 1)) b := fun b hb => bk_cong (fun k _ _ _ _ => u_ne (by omega)) (bk1 b hb)
      have u2 : ∀ i, i < 2358 → upd (upd v (2358 + 8 * s + 5) (nI (fr' % 32 + 2 ^ o))) (2358 + 8 * s + 6) (x + 1) i = v i := fun i hi => by rw [u_ne (by omega), u_ne (by omega)]
      have s3 := sim_hold (bI := x) (y := y) s2 bk2 hn (by rw [u2 _ (by omega)]; exact h0) (by rw [u2 _ (by omega)]; exact b3) (by rw [u2 _ (by omega)]; exact b1) (by rw [u2 _ (by omega)]; exact k0) (by rw [u2 _ (by omega)]; exact h6) (by rw [u2 _ (by omega)]; exact h7) ho hto halt (fun f f1 f2 => by rw [u2 _ (by omega)]; exact hfr1 f f1 f2) hxn hy
      have hx1 : (x + 1).toInt = ((n' + 1 : Nat) : Int) := by
        rw [t_add hxn (y := 1) rfl (by omega) (by omega)]
        omega
      have hy1 : (y + 1).toInt = ((to + 1 : Nat) : Int) := by
        rw [t_add hy (y := 1) rfl (by omega) (by omega)]
        omega
      have iy : (nI (fr' % 32 + 2 ^ o)).toInt = ((fr' % 32 + 2 ^ o : Nat) : Int) := nI_toInt (by omega)
      have eRow : hdF (upd (upd v (2358 + 8 * s + 5) (nI (fr' % 32 + 2 ^ o))) (2358 + 8 * s + 6) (x + 1)) n' to o (x + 1) (y + 1) = upd (upd (hsF (upd (upd v (786 + 16 * n' + 6) (y + 1)) (786 + 16 * n' + 7) 0) to (2 ^ o) 4 (x + 1)) (2358 + 8 * s + 6) (x + 1)) (2358 + 8 * s + 5) (nI (fr' % 32 + 2 ^ o)) := by
        unfold hdF
        rw [u_com (a := 2358 + 8 * s + 5) (b := 2358 + 8 * s + 6) (by omega), u_com (a := 2358 + 8 * s + 5) (b := 786 + 16 * n' + 6) (by omega), u_com (a := 2358 + 8 * s + 6) (b := 786 + 16 * n' + 6) (by omega), u_com (a := 2358 + 8 * s + 5) (b := 786 + 16 * n' + 7) (by omega), u_com (a := 2358 + 8 * s + 6) (b := 786 + 16 * n' + 7) (by omega), hsF_u (by omega), hsF_u (by omega)]
      have old : ∀ i, (i < 18 + 3 * to ∨ 18 + 3 * (to + 2 ^ o) ≤ i) → i ≠ 786 + 16 * n' + 6 → i ≠ 786 + 16 * n' + 7 → i ≠ 2358 + 8 * s + 5 → i ≠ 2358 + 8 * s + 6 → hdF (upd (upd v (2358 + 8 * s + 5) (nI (fr' % 32 + 2 ^ o))) (2358 + 8 * s + 6) (x + 1)) n' to o (x + 1) (y + 1) i = v i := fun i i1 i2 i3 i4 i5 => by rw [hdF_o i1 i2 i3, u_ne i5, u_ne i4]
      have r6 : hdF (upd (upd v (2358 + 8 * s + 5) (nI (fr' % 32 + 2 ^ o))) (2358 + 8 * s + 6) (x + 1)) n' to o (x + 1) (y + 1) (786 + 16 * n' + 6) = y + 1 := by
        unfold hdF
        rw [hsF_out (by omega), u_ne (by omega), u_at]
      have r7 : hdF (upd (upd v (2358 + 8 * s + 5) (nI (fr' % 32 + 2 ^ o))) (2358 + 8 * s + 6) (x + 1)) n' to o (x + 1) (y + 1) (786 + 16 * n' + 7) = 0 := by
        unfold hdF
        rw [hsF_out (by omega), u_at]
      have rS5 : hdF (upd (upd v (2358 + 8 * s + 5) (nI (fr' % 32 + 2 ^ o))) (2358 + 8 * s + 6) (x + 1)) n' to o (x + 1) (y + 1) (2358 + 8 * s + 5) = nI (fr' % 32 + 2 ^ o) := by
        rw [hdF_o (by omega) (by omega) (by omega), u_ne (by omega), u_at]
      have rS6 : hdF (upd (upd v (2358 + 8 * s + 5) (nI (fr' % 32 + 2 ^ o))) (2358 + 8 * s + 6) (x + 1)) n' to o (x + 1) (y + 1) (2358 + 8 * s + 6) = x + 1 := by
        rw [hdF_o (by omega) (by omega) (by omega), u_at]
      have rF : ∀ f, to ≤ f → f < to + 2 ^ o → hdF (upd (upd v (2358 + 8 * s + 5) (nI (fr' % 32 + 2 ^ o))) (2358 + 8 * s + 6) (x + 1)) n' to o (x + 1) (y + 1) (18 + 3 * f) = 4 ∧ hdF (upd (upd v (2358 + 8 * s + 5) (nI (fr' % 32 + 2 ^ o))) (2358 + 8 * s + 6) (x + 1)) n' to o (x + 1) (y + 1) (18 + 3 * f + 1) = x + 1 := fun f f1 f2 => by
        unfold hdF
        obtain ⟨z1, z2, -⟩ := hsF_in (v := upd (upd (upd (upd v (2358 + 8 * s + 5) (nI (fr' % 32 + 2 ^ o))) (2358 + 8 * s + 6) (x + 1)) (786 + 16 * n' + 6) (y + 1)) (786 + 16 * n' + 7) 0) (s := 4) (x := x + 1) f1 f2
        exact ⟨z1, z2⟩
      have jw0 : jj N (upd v (2358 + 8 * s + 5) (nI (fr' % 32 + 2 ^ o))) := jj_at hs iy (by omega) hj
      have jw : jj N (hdF (upd (upd v (2358 + 8 * s + 5) (nI (fr' % 32 + 2 ^ o))) (2358 + 8 * s + 6) (x + 1)) n' to o (x + 1) (y + 1)) := by
        refine ⟨fr_mono (fun f hf => ?_) (fun b k hb hk => ?_) (fun f hf z => ?_) hj.1, jr_leave hn hs jw0.2.1 (by rw [u_ne (by omega)]; exact h0) (by rw [u_ne (by omega)]; exact b3) hfs (by rw [u_ne (by omega)]; exact hst) (by rw [u_ne (by omega)]; exact hS) (by rw [u_ne (by omega)]; exact b1) hto halt (by rw [r6]; exact hy1) r7 (by rw [rS6]; exact hx1) (fun i i1 i2 i3 i4 i5 => ?_), ?_⟩
        · by_cases z : to ≤ f ∧ f < to + 2 ^ o
          · rw [(rF f z.1 z.2).2, hx1]
            omega
          · rw [old _ (by omega) (by omega) (by omega) (by omega) (by omega)]
            exact hj.1.1 f hf
        · exact old _ (by omega) (by omega) (by omega) (by omega) (by omega)
        · by_cases y2 : to ≤ f ∧ f < to + 2 ^ o
          · rw [(rF f y2.1 y2.2).1] at z
            exact absurd z (by decide)
          · rw [old _ (by omega) (by omega) (by omega) (by omega) (by omega)] at z
            exact ⟨z, old _ (by omega) (by omega) (by omega) (by omega) (by omega)⟩
        · rw [hdF_o (by omega) i3 i4, u_ne i5]
        · rw [old _ (by omega) (by omega) (by omega) (by omega) (by omega)]
          exact hj.2.2
      have wte : ∀ f, f < 256 → wt (hdF (upd (upd v (2358 + 8 * s + 5) (nI (fr' % 32 + 2 ^ o))) (2358 + 8 * s + 6) (x + 1)) n' to o (x + 1) (y + 1)) f ≤ wt v f := fun f hf => by
        by_cases z : to ≤ f ∧ f < to + 2 ^ o
        · rw [wt_0 (by rw [(rF f z.1 z.2).1]; decide)]
          exact Nat.zero_le _
        · exact Nat.le_of_eq (wt_cg (old _ (by omega) (by omega) (by omega) (by omega) (by omega)) (old _ (by omega) (by omega) (by omega) (by omega) (by omega)) (fun b _ _ _ => old _ (by omega) (by omega) (by omega) (by omega) (by omega)) h.s.O hf)
      refine ⟨_, _, N, fr' % 32 + 2 ^ o, upC ⟨fun q => absurd q ym, fun _ => ⟨va, fun σ12 e12 => ⟨va, fun σ13 e13 => ⟨vx, fun σ14 e14 => ?_⟩⟩⟩⟩, h.to s3 (fun k q1 q2 => ?_) (old 5 (by omega) (by omega) (by omega) (by omega) (by omega)) (fun i hi => old i (by omega) (by omega) (by omega) (by omega) (by omega)) jw.2.1.1, jw, ?_, Nat.le_refl _, by omega, fun i i1 i2 i3 i4 => old i (by omega) (by omega) (by omega) i3 i4, by rw [rS5]; exact iy, by omega, phi_lt (f := fr') (fun f hf _ => wte f hf) hs (by omega) hfr hfs hrf (Or.inr ⟨by omega, by rw [wfr]; decide⟩), Or.inr ⟨by rw [rS6]; exact hx1, ?_⟩⟩
      · refine (e_hold2 x hy (t_pow c10 (by omega)) ho hlt σ14).void ?_
        rintro _ rfl
        refine ⟨rfl, ?_⟩
        rw [e14, e13, e12]
      · rw [gvC_o (by omega), s_ne (by omega), s_ne (by omega), s_ne (by omega)]
      · refine hx.re (n := n') (fun b k q1 q2 q3 => old _ (by omega) (by omega) (by omega) (by omega) (by omega)) (fun _ => ⟨fun z => ?_, fun to2 fr2 o2 y1 y2 y3 => ?_⟩) (fun _ => ?_) (fun s' hs' z => ⟨fun y2 => z ((old _ (by omega) (by omega) (by omega) (by omega) (by omega)).trans y2), old _ (by omega) (by omega) (by omega) (by omega) (by omega)⟩) (old _ (by omega) (by omega) (by omega) (by omega) (by omega)) (fun i i1 i2 => old _ (by omega) (by omega) (by omega) (by omega) (by omega))
        · exact r7
        · rw [r6] at y1
          rw [old _ (by omega) (by omega) (by omega) (by omega) (by omega)] at y2
          rw [r7]
          have q1 : to2 = to := by omega
          have q2 : fr2 = fr' := by omega
          subst q1 q2
          exact ⟨Int.natCast_nonneg _, by omega⟩
        · rw [old _ (by omega) (by omega) (by omega) (by omega) (by omega)]
          exact hx.2.1 n' hn h0
      · intro σ v4 v5 Q e hQ
        refine upto2 σ v4 v5 Q e ⟨fun q => absurd q ym, fun _ => (c_lay (k := 6) (j := 6) hxn rfl (by omega) _ σ).void ?_⟩
        rintro _ rfl
        refine (c_lay (k := 7) (j := 7) hxn rfl (by omega) _ _).void ?_
        rintro _ rfl
        rw [s_at, s_ss, e]
        refine l_hold2 (w := upd (upd v (786 + 16 * n' + 6) (y + 1)) (786 + 16 * n' + 7) 0) h1 hs h2 hxn hn hy ho hlt (by rw [u_ne (by omega), u_ne (by omega)]; exact b1) (by rw [u_ne (by omega), u_ne (by omega)]; exact b3) hal (2 ^ o) 0 0 _ (by rw [s_at, hsF_0]) rfl (by omega) ?_
        rw [s_ss, ← eRow]
        exact hQ
