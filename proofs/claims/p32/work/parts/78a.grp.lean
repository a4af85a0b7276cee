section
/-! ===== the simulation: copySome | copies ===== -/
theorem sim_cop {c : sm_S} {v : Nat → Int32} {b : Nat} (x : Int32) (h : sim0 c v) (hk : ∀ b, b < 96 → bk_ok v b) (hb : b < 96) : sim0 (sm_set c 15 (upd (c 15) b x)) (upd v (786 + 16 * b + 7) x) := by
  refine h.bv hk (fun b' hb' => ?_) (h.N.cg (s_ne (by decide)) (s_ne (by decide)) (by rw [s_ne (by decide)]) (by rw [s_ne (by decide)]) (fun i hi _ => u_ne (by omega))) (fun k h1 h2 h3 => s_ne (by omega)) (fun i h1 h2 h3 => u_ne (by omega)) (fun b' k h1 h2 h3 => u_ne (by omega))
  by_cases q : b' = b
  · subst q
    have e : ∀ k, k < 9 → k ≠ 7 → upd v (786 + 16 * b' + 7) x (786 + 16 * b' + k) = v (786 + 16 * b' + k) := fun k _ hk => u_ne (by omega)
    rcases h.B b' hb' with ⟨g1, g2⟩ | ⟨g1, g2, g⟩
    · exact Or.inl ⟨by rw [s_ne (by decide)]; exact g1, by rw [e 0 (by decide) (by decide)]; exact g2⟩
    · exact Or.inr ⟨by rw [s_ne (by decide)]; exact g1, by rw [e 0 (by decide) (by decide)]; exact g2, ⟨by rw [e 1 (by decide) (by decide), s_ne (by decide)]; exact g.fir, by rw [e 2 (by decide) (by decide), s_ne (by decide)]; exact g.ord, by rw [e 3 (by decide) (by decide), s_ne (by decide)]; exact g.kin, by rw [e 4 (by decide) (by decide), s_ne (by decide)]; exact g.own, by rw [e 5 (by decide) (by decide), s_ne (by decide)]; exact g.pin, by rw [e 6 (by decide) (by decide), s_ne (by decide)]; exact g.tgt, by rw [u_at, s_at, u_at], by rw [e 8 (by decide) (by decide), s_ne (by decide)]; exact g.use⟩⟩
  · exact (h.B b' hb').cg (by rw [s_ne (by decide)]) (by rw [s_ne (by decide)]) (by rw [s_ne (by decide)]) (by rw [s_ne (by decide)]) (by rw [s_ne (by decide)]) (by rw [s_ne (by decide)]) (by rw [s_at, u_ne q]) (by rw [s_ne (by decide)]) (fun k hk => u_ne (by omega))
/-- k values from A to B -/
def vcF (v : Nat → Int32) (A B k : Nat) : Nat → Int32 := fun i => if (18 + 3 * B ≤ i ∧ i < 18 + 3 * (B + k)) ∧ (i - 18) % 3 = 2 then v (i - 3 * B + 3 * A) else v i
theorem vcF_0 (v : Nat → Int32) (A B : Nat) : vcF v A B 0 = v := by
  funext i
  exact if_neg (by omega)
theorem vcF_out {v : Nat → Int32} {A B k i : Nat} (h : i < 18 + 3 * B ∨ 18 + 3 * (B + k) ≤ i ∨ (i - 18) % 3 ≠ 2) : vcF v A B k i = v i := if_neg (by omega)
theorem vcF_in {v : Nat → Int32} {A B k f : Nat} (h1 : B ≤ f) (h2 : f < B + k) : vcF v A B k (18 + 3 * f + 2) = v (18 + 3 * (A + (f - B)) + 2) := by
  unfold vcF
  rw [if_pos (by omega)]
  exact congrArg v (by omega)
theorem vcF_s (v : Nat → Int32) (A B k : Nat) : vcF v A B (k + 1) = upd (vcF v A B k) (18 + 3 * (B + k) + 2) (v (18 + 3 * (A + k) + 2)) := by
  funext i
  by_cases e : i = 18 + 3 * (B + k) + 2
  · rw [e, u_at, vcF_in (by omega) (by omega)]
    exact congrArg v (by omega)
  · rw [u_ne e]
    unfold vcF
    by_cases d : (18 + 3 * B ≤ i ∧ i < 18 + 3 * (B + k)) ∧ (i - 18) % 3 = 2
    · rw [if_pos d, if_pos (by omega)]
    · rw [if_neg d, if_neg (by omega)]
def cpF (v : Nat → Int32) (n A B a k : Nat) : Nat → Int32 := upd (upd (vcF v A B k) (786 + 16 * n + 7) (nI (a + k))) 10 (v 10 + nI k)
theorem cpF_o {v : Nat → Int32} {n A B a k i : Nat} (h1 : i < 18 + 3 * B ∨ 18 + 3 * (B + k) ≤ i ∨ (i - 18) % 3 ≠ 2) (h2 : i ≠ 786 + 16 * n + 7) (h3 : i ≠ 10) : cpF v n A B a k i = v i := by
  unfold cpF
  rw [u_ne h3, u_ne h2, vcF_out h1]
theorem nI_s {k : Nat} (h : k < 2000000000) : nI k + 1 = nI (k + 1) := t_inj (by
  rw [t_add (nI_toInt (by omega)) (y := 1) rfl (by omega) (by omega), nI_toInt (by omega)]
  omega)
theorem cpF_s {v : Nat → Int32} {n A B a k : Nat} (hn : n < 96) (hk : a + k < 2000) (hB : B + k < 256) : upd (upd (upd (cpF v n A B a k) (18 + 3 * (B + k) + 2) (v (18 + 3 * (A + k) + 2))) (786 + 16 * n + 7) (nI (a + k) + 1)) 10 (cpF v n A B a k 10 + 1) = cpF v n A B a (k + 1) := by
  have e10 : cpF v n A B a k 10 + 1 = v 10 + nI (k + 1) := by
    unfold cpF
    rw [u_at, Int32.add_assoc, nI_s (by omega)]
  rw [e10, nI_s (by omega)]
  unfold cpF
  rw [vcF_s, show a + k + 1 = a + (k + 1) by omega]
  funext i
  by_cases e : i = 10
  · rw [e, u_at, u_at]
  · rw [u_ne e, u_ne e]
    by_cases e2 : i = 786 + 16 * n + 7
    · rw [e2, u_at, u_at]
    · rw [u_ne e2, u_ne e2]
      by_cases e3 : i = 18 + 3 * (B + k) + 2
      · rw [e3, u_at, u_at]
      · rw [u_ne e3, u_ne e3, u_ne e, u_ne e2]
theorem l_copies2 {a1 a2 a3 : Int32} {n o fr to a l K : Nat} {v v' : Nat → Int32} (h3 : a3.toInt = n) (hn : n < 96) (ho : o ≤ 4) (hle : fr + 2 ^ o ≤ 256) (hlt : to + 2 ^ o ≤ 256) (hd : to + 2 ^ o ≤ fr ∨ fr + 2 ^ o ≤ to) (e1 : (v (786 + 16 * n + 1)).toInt = fr) (e2 : (v (786 + 16 * n + 2)).toInt = o) (e6 : (v (786 + 16 * n + 6)).toInt = ((to + 1 : Nat) : Int)) (hl2 : l < 2147483648) (hK1 : K ≤ l) (hK2 : a + K ≤ 2 ^ o) (hK3 : K = l ∨ a + K = 2 ^ o) (hv' : (a + K ≠ 2 ^ o ∧ v' = cpF v n (fr + a) (to + a) a K) ∨ (a + K = 2 ^ o ∧ rd j_M_arrives [.ref 0, .int a1, .int a3] (cpF v n (fr + a) (to + a) a K) v')) : ∀ (d k : Nat) (a4 : Int32) (v5 : Value) (σ : sm_S), σ 1 = cpF v n (fr + a) (to + a) a k → a4.toInt = ((l - k : Nat) : Int) → k + d = K → xE xM m_M_copies 19 [.ref 0, .int a1, .int a2, .int a3, .int a4, v5] [] σ (sm_I (fun y σ' => y.toInt = ((l - K : Nat) : Int) ∧ σ' = sm_set σ 1 v')) := by
  have hp := t_pw (k := o) (by omega)
  have c7 : ∀ k, cpF v n (fr + a) (to + a) a k (786 + 16 * n + 7) = nI (a + k) := fun k => by
    unfold cpF
    rw [u_ne (by omega), u_at]
  intro d
  induction d with
  | zero =>
    intro k a4 v5 σ hσ h4 hk
    have hk : k = K := by omega
    subst hk
    have i7 : (nI (a + k)).toInt = ((a + k : Nat) : Int) := nI_toInt (by omega)
    have lng : ((1 : Int32) <<< (σ 1 (786 + 16 * n + 2) &&& 31)).toInt = ((2 ^ o : Nat) : Int) := t_pow (by rw [hσ, cpF_o (by omega) (by omega) (by omega)]; exact e2) (by omega)
    have fin : (σ 1 (786 + 16 * n + 7) ≠ (1 : Int32) <<< (σ 1 (786 + 16 * n + 2) &&& 31) → sm_I (fun y σ' => y.toInt = ((l - k : Nat) : Int) ∧ σ' = sm_set σ 1 v') (some (.int a4)) σ) ∧ (¬ (σ 1 (786 + 16 * n + 7) ≠ (1 : Int32) <<< (σ 1 (786 + 16 * n + 2) &&& 31)) → xC xM j_M_arrives [.ref 0, .int a1, .int a3] σ (sm_rv False (fun σ5 => sm_I (fun y σ' => y.toInt = ((l - k : Nat) : Int) ∧ σ' = sm_set σ 1 v') (some (.int a4)) σ5))) := by
      refine ⟨fun q => ?_, fun q => ?_⟩
      · rcases hv' with ⟨z, hv'⟩ | ⟨z, hv'⟩
        · exact ⟨a4, rfl, h4, by rw [hv', ← hσ, s_id]⟩
        · refine absurd (t_inj ?_) q
          rw [lng, hσ, c7, i7, z]
      · have q := congrArg Int32.toInt (Classical.not_not.mp q)
        rw [lng, hσ, c7, i7] at q
        rcases hv' with ⟨z, hv'⟩ | ⟨z, hv'⟩
        · omega
        · refine (hv' σ hσ).void ?_
          rintro _ rfl
          exact ⟨a4, rfl, h4, rfl⟩
    refine w_M_copies_19 a1 a2 a3 a4 v5 σ _ ⟨fun _ => (c_of (k := 7) (j := 7) h3 rfl (by omega) σ).int ?_, fun q => (c_of (k := 7) (j := 7) h3 rfl (by omega) σ).int ?_⟩
    · rintro _ σ2 ⟨rfl, hs2⟩
      rw [hs2]
      refine (c_longOf h3 hn σ).int ?_
      rintro _ σ3 ⟨rfl, hs3⟩
      rw [hs3]
      exact fin
    · rintro _ σ2 ⟨rfl, hs2⟩
      rw [hs2]
      refine (c_longOf h3 hn σ).int ?_
      rintro _ σ3 ⟨rfl, hs3⟩
      rw [hs3]
      refine ⟨fun _ => (c_of (k := 7) (j := 7) h3 rfl (by omega) σ).int ?_, fun z => absurd ?_ z⟩
      · rintro _ σ4 ⟨rfl, hs4⟩
        rw [hs4]
        refine (c_longOf h3 hn σ).int ?_
        rintro _ σ5 ⟨rfl, hs5⟩
        rw [hs5]
        exact fin
      · rw [t_le, lng, hσ, c7, i7]
        rw [t_le, h4] at q
        have q : ¬ ((l - k : Nat) : Int) ≤ 0 := q
        omega
  | succ d ih =>
    intro k a4 v5 σ hσ h4 hk
    have i7 : (nI (a + k)).toInt = ((a + k : Nat) : Int) := nI_toInt (by omega)
    have lng : ((1 : Int32) <<< (σ 1 (786 + 16 * n + 2) &&& 31)).toInt = ((2 ^ o : Nat) : Int) := t_pow (by rw [hσ, cpF_o (by omega) (by omega) (by omega)]; exact e2) (by omega)
    refine w_M_copies_19 a1 a2 a3 a4 v5 σ _ ⟨fun q => ?_, fun q => (c_of (k := 7) (j := 7) h3 rfl (by omega) σ).int ?_⟩
    · rw [t_le, h4] at q
      have q : ((l - k : Nat) : Int) ≤ 0 := q
      omega
    · rintro _ σ2 ⟨rfl, hs2⟩
      rw [hs2]
      refine (c_longOf h3 hn σ).int ?_
      rintro _ σ3 ⟨rfl, hs3⟩
      rw [hs3]
      refine ⟨fun z => ?_, fun _ => (c_of (k := 7) (j := 7) h3 rfl (by omega) σ).int ?_⟩
      · rw [t_le, lng, hσ, c7, i7] at z
        omega
      · rintro _ σ4 ⟨rfl, hs4⟩
        rw [hs4]
        refine (c_of (k := 6) (j := 6) h3 rfl (by omega) σ).int ?_
        rintro _ σ5 ⟨rfl, hs5⟩
        rw [hs5]
        refine (c_frameOf h3 hn σ).int ?_
        rintro _ σ6 ⟨rfl, hs6⟩
        rw [hs6, hσ, c7, cpF_o (i := 786 + 16 * n + 6) (by omega) (by omega) (by omega), cpF_o (i := 786 + 16 * n + 1) (by omega) (by omega) (by omega)]
        have hA : (v (786 + 16 * n + 1) + nI (a + k)).toInt = ((fr + a + k : Nat) : Int) := by
          rw [t_add e1 i7 (by omega) (by omega)]
          omega
        have hB : (v (786 + 16 * n + 6) - 1 + nI (a + k)).toInt = ((to + a + k : Nat) : Int) := by
          rw [t_add (t_m1 e6 (by omega)) i7 (by omega) (by omega)]
          omega
        refine (c_valueOf hA (by omega) σ).int ?_
        rintro _ σ7 ⟨rfl, hs7⟩
        rw [hs7, hσ, cpF_o (i := 18 + 3 * (fr + a + k) + 2) (by omega) (by omega) (by omega)]
        refine (c_lays hB (by omega) _ σ).void ?_
        rintro _ rfl
        refine (c_lay (k := 7) (j := 7) h3 rfl (by omega) _ _).void ?_
        rintro _ rfl
        refine (c_counts (j := 3) rfl (by decide) 1 _).void ?_
        rintro _ rfl
        have h4' : (a4 - 1).toInt = ((l - (k + 1) : Nat) : Int) := by
          rw [t_sub h4 (y := 1) rfl (by omega) (by omega)]
          omega
        have key := cpF_s (v := v) (n := n) (A := fr + a) (B := to + a) (a := a) (k := k) hn (by omega) (by omega)
        rw [s_at, s_ss, s_at, s_ss, hσ]
        have e10 : upd (upd (cpF v n (fr + a) (to + a) a k) (18 + 3 * (to + a + k) + 2) (v (18 + 3 * (fr + a + k) + 2))) (786 + 16 * n + 7) (nI (a + k) + 1) (7 + 3) = cpF v n (fr + a) (to + a) a k 10 := by
          rw [u_ne (by omega), u_ne (by omega)]
        rw [e10, show 7 + 3 = 10 from rfl, key]
        have := ih (k + 1) (a4 - 1) (.int (nI (a + k))) (sm_set σ 1 (cpF v n (fr + a) (to + a) a (k + 1))) s_at h4' (by omega)
        rw [s_ss] at this
        exact this
def cpC (c : sm_S) (n A B K : Nat) (x : Int32) : sm_S := sm_set (sm_set (sm_set c 7 (cvF (c 7) A B K)) 15 (upd (c 15) n (c 15 n + x))) 40 (upd (c 40) 3 (c 40 3 + x))
theorem p_copy {g : Prop} {N s n l : Nat} {c : sm_S} {v : Nat → Int32} {a1 a2 a3 : Int32} (h : tie g N c v) (hj : jj N v) (hx : jx v) (h1 : a1.toInt = s) (hs : s < 8) (h3 : a3.toInt = n) (h6 : (v (2358 + 8 * s + 6)).toInt = ((n + 1 : Nat) : Int)) (h2 : a2.toInt = l) : ∃ K v1 c1, K ≤ l ∧ xC xD j_G_copySome [.ref 41, .int a3, .int a2] c (sm_I (fun y σ' => y = nI K ∧ σ' = c1)) ∧ tie g N c1 v1 ∧ jj N v1 ∧ jx v1 ∧ (∀ i, 2322 ≤ i → v1 i = v i) ∧ (∀ f, f < 256 → wt v1 f = wt v f) ∧ ∃ o : Nat, (c1 10 n).toInt = o ∧ o ≤ 4 ∧ ((((c1 15 n).toInt < ((2 ^ o : Nat) : Int)) ∧ rdI j_M_copies [.ref 0, .int a1, .int a2] v (a2 - nI K) v1) ∨ ((c1 15 n).toInt = ((2 ^ o : Nat) : Int) ∧ ∀ v', rd j_M_arrives [.ref 0, .int a1, .int a3] v1 v' → rdI j_M_copies [.ref 0, .int a1, .int a2] v (a2 - nI K) v')) := by
  have n6 : v (2358 + 8 * s + 6) ≠ 0 := fun z => by
    rw [z] at h6
    have h6 : (0 : Int) = ((n + 1 : Nat) : Int) := h6
    omega
  obtain ⟨n', o, fr, to, hn, e6, h0, e2, ho, e1, hfr, hal, hfs, et, hto, halt, hst⟩ := way_of hj hs n6
  have en : n' = n := by omega
  subst en
  have hle := al_le ho hfr hal
  have hlt := al_le ho hto halt
  obtain ⟨gb, -⟩ := (h.s.B n' hn).al h0
  obtain ⟨hcp, hne⟩ := (hx.1 n' hn h0).2 to fr o et e1 e2
  obtain ⟨a, ha⟩ := t_of (x := v (786 + 16 * n' + 7)) (by obtain ⟨_, _, _, _, _, _, _, _, _, z⟩ := hj.2.1.1 n' hn; exact z)
  rw [ha] at hcp
  have ha1 := t_al (k := o) (by omega) hal
  have ha2 := t_al (k := o) (by omega) halt
  have hp := t_pw (k := o) (by omega)
  have dd : to + 2 ^ o ≤ fr ∨ fr + 2 ^ o ≤ to := by omega
  have hb := t_bd a2
  have hl2 : l < 2147483648 := by omega
  obtain ⟨K, hK⟩ : ∃ K, K = min l (2 ^ o - a) := ⟨_, rfl⟩
  have hK1 : K ≤ l := by omega
  have hK2 : a + K ≤ 2 ^ o := by omega
  have hK3 : K = l ∨ a + K = 2 ^ o := by omega
  have c14 : (c 14 n').toInt = to := m1_add (by rw [← gb.tgt]; exact et) (by omega)
  have c9 : (c 9 n').toInt = fr := by rw [← gb.fir]; exact e1
  have c10 : (c 10 n').toInt = o := by rw [← gb.ord]; exact e2
  have c15 : (c 15 n').toInt = a := by rw [← gb.cop]; exact ha
  have iK : (nI K).toInt = K := nI_toInt (by omega)
  have c15n : c 15 n' + nI K = nI (a + K) := t_inj (by
    rw [t_add c15 iK (by omega) (by omega), nI_toInt (by omega)]
    omega)
  have co : ∀ i, (i < 18 + 3 * (to + a) ∨ 18 + 3 * (to + a + K) ≤ i ∨ (i - 18) % 3 ≠ 2) → i ≠ 786 + 16 * n' + 7 → i ≠ 10 → cpF v n' (fr + a) (to + a) a K i = v i := fun i q1 q2 q3 => cpF_o q1 q2 q3
  have s1 : sim0 (sm_set c 7 (cvF (c 7) (fr + a) (to + a) K)) (vcF v (fr + a) (to + a) K) := by
    refine h.s.fv h.b (fun f hf => ?_) (fun k hk => s_ne (by omega)) (fun i hi => vcF_out (by omega)) (fun i q1 q2 q3 => vcF_out (by omega))
    have gf := h.s.F f hf
    have z0 : vcF v (fr + a) (to + a) K (18 + 3 * f) = v (18 + 3 * f) := vcF_out (by omega)
    have z1 : vcF v (fr + a) (to + a) K (18 + 3 * f + 1) = v (18 + 3 * f + 1) := vcF_out (by omega)
    refine ⟨by rw [z0]; exact gf.rng, by rw [z0, s_ne (by decide)]; exact gf.fre, by rw [z0, s_ne (by decide)]; exact gf.apa, by rw [z0, s_ne (by decide)]; exact gf.tak, by rw [z0, s_ne (by decide)]; exact gf.hel, by rw [z1, s_ne (by decide)]; exact gf.blk, ?_⟩
    rw [s_at]
    unfold cvF
    by_cases q : to + a ≤ f ∧ f < to + a + K
    · rw [if_pos q, vcF_in q.1 q.2]
      exact (h.s.F (fr + a + (f - (to + a))) (by omega)).val
    · rw [if_neg q, vcF_out (by omega)]
      exact gf.val
  have bk1 : ∀ b, b < 96 → bk_ok (vcF v (fr + a) (to + a) K) b := fun b hb => bk_cong (fun k k1 _ _ _ => vcF_out (by omega)) (h.b b hb)
  have s2 := sim_cop (nI (a + K)) s1 bk1 hn
  have jjc : jj N (upd v (786 + 16 * n' + 7) (nI (a + K))) := jj_copied hn (by rw [nI_toInt (by omega)]; omega) hj
  have jjv : jj N (cpF v n' (fr + a) (to + a) a K) := by
    have ez : ∀ i, (i < 18 ∧ i ≠ 10) ∨ (18 ≤ i ∧ i < 786 ∧ i % 3 ≠ 2) ∨ 786 ≤ i → cpF v n' (fr + a) (to + a) a K i = upd v (786 + 16 * n' + 7) (nI (a + K)) i := fun i hi => by
      by_cases q : i = 786 + 16 * n' + 7
      · unfold cpF
        rw [u_ne (by omega), q, u_at, u_at]
      · rw [co i (by omega) q (by omega), u_ne q]
    refine ⟨fr_mono (fun f hf => ?_) (fun m k m1 m2 => ez _ (by omega)) (fun f hf q => ?_) jjc.1, jr_cong (ceq.of (fun i i1 i2 => ez i (by omega))) jjc.2.1, ?_⟩
    · rw [co _ (by omega) (by omega) (by omega)]; exact hj.1.1 f hf
    · rw [co _ (by omega) (by omega) (by omega)] at q
      rw [u_ne (by omega), u_ne (by omega), co _ (by omega) (by omega) (by omega)]
      exact ⟨q, rfl⟩
    · rw [co _ (by omega) (by omega) (by omega)]; exact hj.2.2
  have bk2 : ∀ b, b < 96 → bk_ok (upd (vcF v (fr + a) (to + a) K) (786 + 16 * n' + 7) (nI (a + K))) b := fun b hb => by
    refine bk_cong (fun k k1 _ _ _ => ?_) (jjv.2.1.1 b hb)
    unfold cpF
    rw [u_ne (show 786 + 16 * b + k ≠ 10 by omega)]
  have s3 := sim_cnt (k := 3) (nI K) s2 bk2 (by decide)
  have eV : cnF (upd (vcF v (fr + a) (to + a) K) (786 + 16 * n' + 7) (nI (a + K))) 3 (nI K) = cpF v n' (fr + a) (to + a) a K := by
    unfold cnF cpF
    rw [show 7 + 3 = 10 from rfl, u_ne (show (10 : Nat) ≠ 786 + 16 * n' + 7 by omega), vcF_out (by omega)]
  rw [eV] at s3
  have eC : sm_set (sm_set (sm_set c 7 (cvF (c 7) (fr + a) (to + a) K)) 15 (upd (sm_set c 7 (cvF (c 7) (fr + a) (to + a) K) 15) n' (nI (a + K)))) 40 (upd (sm_set (sm_set c 7 (cvF (c 7) (fr + a) (to + a) K)) 15 (upd (sm_set c 7 (cvF (c 7) (fr + a) (to + a) K) 15) n' (nI (a + K))) 40) 3 (sm_set (sm_set c 7 (cvF (c 7) (fr + a) (to + a) K)) 15 (upd (sm_set c 7 (cvF (c 7) (fr + a) (to + a) K) 15) n' (nI (a + K))) 40 3 + nI K)) = cpC c n' (fr + a) (to + a) K (nI K) := by
    unfold cpC
    rw [c15n]
    rfl
  rw [eC] at s3
  have t3 : tie g N (cpC c n' (fr + a) (to + a) K (nI K)) (cpF v n' (fr + a) (to + a) a K) := by
    refine h.to s3 (fun k k1 k2 => ?_) (co 5 (by omega) (by omega) (by omega)) (fun i hi => co i (by omega) (by omega) (by omega)) jjv.2.1.1
    unfold cpC
    rw [s_ne (by omega), s_ne (by omega), s_ne (by omega)]
  have k10 : (cpC c n' (fr + a) (to + a) K (nI K) 10 n').toInt = o := c10
  have k15 : (cpC c n' (fr + a) (to + a) K (nI K) 15 n').toInt = ((a + K : Nat) : Int) := by
    have : cpC c n' (fr + a) (to + a) K (nI K) 15 n' = nI (a + K) := by
      rw [← c15n]
      exact u_at
    rw [this, nI_toInt (by omega)]
  have lng : ((1 : Int32) <<< (c 10 n' &&& 31)).toInt = ((2 ^ o : Nat) : Int) := t_pow c10 (by omega)
  have sub : ((1 : Int32) <<< (c 10 n' &&& 31) - c 15 n').toInt = ((2 ^ o - a : Nat) : Int) := by
    rw [t_sub lng c15 (by omega) (by omega)]
    omega
  have many : (if (1 : Int32) <<< (c 10 n' &&& 31) - c 15 n' < a2 then (1 : Int32) <<< (c 10 n' &&& 31) - c 15 n' else a2) = nI K := by
    refine t_nI ?_
    by_cases q : (1 : Int32) <<< (c 10 n' &&& 31) - c 15 n' < a2
    · rw [if_pos q, sub]
      rw [t_lt, sub, h2] at q
      omega
    · rw [if_neg q, h2]
      rw [t_lt, sub, h2] at q
      omega
  have rr : ∀ v', ((a + K ≠ 2 ^ o ∧ v' = cpF v n' (fr + a) (to + a) a K) ∨ (a + K = 2 ^ o ∧ rd j_M_arrives [.ref 0, .int a1, .int a3] (cpF v n' (fr + a) (to + a) a K) v')) → rdI j_M_copies [.ref 0, .int a1, .int a2] v (a2 - nI K) v' := fun v' hv' σ e => by
    obtain ⟨p6, q6⟩ := ixS (k := 6) (j := 6) h1 rfl (by omega)
    refine w_M_copies a1 a2 σ _ ((c_spanAt a1 σ).int ?_)
    rintro _ σ ⟨rfl, rfl⟩
    refine ⟨p6, ?_⟩
    rw [q6, e]
    have ec : v (2358 + 8 * s + 6) - 1 = a3 := t_inj (by rw [t_m1 h6 (by omega), h3])
    rw [ec]
    have z0 : σ 1 = cpF v n' (fr + a) (to + a) a 0 := by
      rw [e]
      unfold cpF
      have : nI (a + 0) = vcF v (fr + a) (to + a) 0 (786 + 16 * n' + 7) := by
        rw [vcF_0, Nat.add_zero]
        exact (t_nI ha).symm
      rw [this, u_id, vcF_0]
      have : v 10 + nI 0 = v 10 := Int32.add_zero _
      rw [this, u_id]
    refine (l_copies2 (a1 := a1) (a2 := a2) h3 hn ho hle hlt dd e1 e2 et hl2 hK1 hK2 hK3 hv' K 0 a2 .null σ z0 (by rw [h2]; omega) (by omega)).mono ?_
    rintro r σ' ⟨y, rfl, y1, y2⟩
    refine ⟨y, rfl, t_inj ?_, y2⟩
    rw [y1, t_sub h2 iK (by omega) (by omega)]
    omega
  refine ⟨K, _, _, hK1, ?_, t3, jjv, ?_, fun i hi => co i (by omega) (by omega) (by omega), fun f hf => ?_, o, k10, ho, ?_⟩
  · refine d_G_copySome a3 a2 c _ ⟨t_vp h3 hn, t_vp h3 hn, t_vp h3 hn, t_vp h3 hn, (c_size h3 hn c).int ?_⟩
    rintro y1 σ1 ⟨ey1, es1⟩
    rw [ey1, es1, t_nat h3, many]
    have hA : (c 9 n' + c 15 n').toInt = ((fr + a : Nat) : Int) := by
      rw [t_add c9 c15 (by omega) (by omega)]
      omega
    have hB : (c 14 n' + c 15 n').toInt = ((to + a : Nat) : Int) := by
      rw [t_add c14 c15 (by omega) (by omega)]
      omega
    refine ⟨t_vp h3 hn, (e_copyValues2 hA hB iK (by omega) (by omega) (by omega) c).void ?_⟩
    rintro _ rfl
    refine ⟨t_vp h3 hn, t_vp h3 hn, fun σ4 e4 => ⟨t_vp (n := 3) rfl (by omega), t_vp (n := 3) rfl (by omega), fun σ5 e5 => ⟨_, rfl, rfl, ?_⟩⟩⟩
    rw [e5, e4]
    rfl
  · refine hx.re (n := n') (fun b k b1 b2 b3 => co _ (by omega) (by omega) (by omega)) (fun y0 => ⟨fun z => ?_, fun to2 fr2 o2 y1 y2 y3 => ?_⟩) (fun _ => by rw [co _ (by omega) (by omega) (by omega)]; exact hx.2.1 n' hn h0) (fun s' hs' z => ⟨fun y => z ((co (2358 + 8 * s' + 0) (by omega) (by omega) (by omega)).trans y), co (2358 + 8 * s' + 1) (by omega) (by omega) (by omega)⟩) (co 0 (by omega) (by omega) (by omega)) (fun i i1 i2 => co i (by omega) (by omega) (by omega))
    · rw [co _ (by omega) (by omega) (by omega)] at z
      rw [z] at et
      have et : (0 : Int) = _ := et
      omega
    · rw [co _ (by omega) (by omega) (by omega)] at y1 y2 y3
      have q1 : to2 = to := by omega
      have q2 : fr2 = fr := by omega
      have q3 : o2 = o := by omega
      subst q1 q2 q3
      have : cpF v n' (fr2 + a) (to2 + a) a K (786 + 16 * n' + 7) = nI (a + K) := by
        unfold cpF
        rw [u_ne (by omega), u_at]
      rw [this, nI_toInt (by omega)]
      exact ⟨by omega, hne⟩
  · exact wt_cg (co _ (by omega) (by omega) (by omega)) (co _ (by omega) (by omega) (by omega)) (fun b y1 y2 y3 => co _ (by omega) (by omega) (by omega)) h.s.O hf
  · rw [k15]
    by_cases q : a + K = 2 ^ o
    · exact Or.inr ⟨by omega, fun v' hv' => rr v' (Or.inr ⟨q, hv'⟩)⟩
    · exact Or.inl ⟨by omega, rr _ (Or.inl ⟨q, rfl⟩)⟩
end
section
/-! ===== the simulation: a block is on its way; how far a pass is ===== -/
theorem sim_rea {c : sm_S} {v : Nat → Int32} {s : Nat} (x : Int32) (h : sim0 c v) (hk : ∀ b, b < 96 → bk_ok v b) (hs : s < 8) : sim0 (sm_set c 23 (upd (c 23) s x)) (upd v (2358 + 8 * s + 5) x) := by
  refine h.sv hk (fun t ht => ?_) (fun t ht => by rw [u_ne (by omega)]) (fun k hk => s_ne (by omega)) (fun i hi => u_ne (by omega))
  have g := h.S t ht
  have ev : ∀ k, k < 8 → k ≠ 5 → upd v (2358 + 8 * s + 5) x (2358 + 8 * t + k) = v (2358 + 8 * t + k) := fun k h1 h2 => u_ne (by omega)
  refine ⟨by rw [ev 0 (by decide) (by decide), s_ne (by decide)]; exact g.sta, by rw [s_ne (show 18 ≠ 23 by decide), s_ne (show 19 ≠ 23 by decide)]; exact g.zof, by rw [s_ne (show 18 ≠ 23 by decide), s_ne (show 19 ≠ 23 by decide), ev 1 (by decide) (by decide)]; exact g.zon, by rw [ev 2 (by decide) (by decide), s_ne (by decide)]; exact g.par, by rw [ev 3 (by decide) (by decide), s_ne (by decide)]; exact g.pas, by rw [ev 4 (by decide) (by decide), s_ne (by decide)]; exact g.pau, by rw [s_ne (by decide)]; exact g.pag, ?_, by rw [ev 6 (by decide) (by decide), s_ne (by decide)]; exact g.lea, by rw [ev 7 (by decide) (by decide), s_ne (by decide)]; exact g.why, by rw [s_ne (show 18 ≠ 23 by decide), s_ne (show 20 ≠ 23 by decide), s_ne (show 21 ≠ 23 by decide), s_ne (show 22 ≠ 23 by decide), s_ne (show 24 ≠ 23 by decide)]; exact g.off⟩
  rw [s_ne (show 18 ≠ 23 by decide), s_at]
  by_cases q : t = s
  · subst q
    rw [u_at, u_at]
    exact fun _ => rfl
  · rw [u_ne q, u_ne (by omega)]
    exact g.rea
theorem sim_lea {c : sm_S} {v : Nat → Int32} {s : Nat} (x : Int32) (h : sim0 c v) (hk : ∀ b, b < 96 → bk_ok v b) (hs : s < 8) (h3 : c 18 s = 3) : sim0 (sm_set c 24 (upd (c 24) s x)) (upd v (2358 + 8 * s + 6) (x + 1)) := by
  refine h.sv hk (fun t ht => ?_) (fun t ht => by rw [u_ne (by omega)]) (fun k hk => s_ne (by omega)) (fun i hi => u_ne (by omega))
  have g := h.S t ht
  have ev : ∀ k, k < 8 → k ≠ 6 → upd v (2358 + 8 * s + 6) (x + 1) (2358 + 8 * t + k) = v (2358 + 8 * t + k) := fun k h1 h2 => u_ne (by omega)
  refine ⟨by rw [ev 0 (by decide) (by decide), s_ne (by decide)]; exact g.sta, by rw [s_ne (show 18 ≠ 24 by decide), s_ne (show 19 ≠ 24 by decide)]; exact g.zof, by rw [s_ne (show 18 ≠ 24 by decide), s_ne (show 19 ≠ 24 by decide), ev 1 (by decide) (by decide)]; exact g.zon, by rw [ev 2 (by decide) (by decide), s_ne (by decide)]; exact g.par, by rw [ev 3 (by decide) (by decide), s_ne (by decide)]; exact g.pas, by rw [ev 4 (by decide) (by decide), s_ne (by decide)]; exact g.pau, by rw [s_ne (by decide)]; exact g.pag, by rw [s_ne (show 18 ≠ 24 by decide), s_ne (show 23 ≠ 24 by decide), ev 5 (by decide) (by decide)]; exact g.rea, ?_, by rw [ev 7 (by decide) (by decide), s_ne (by decide)]; exact g.why, ?_⟩
  · rw [s_at]
    by_cases q : t = s
    · subst q
      rw [u_at, u_at]
    · rw [u_ne q, u_ne (by omega)]
      exact g.lea
  · rw [s_ne (show 18 ≠ 24 by decide), s_ne (show 20 ≠ 24 by decide), s_ne (show 21 ≠ 24 by decide), s_ne (show 22 ≠ 24 by decide), s_at]
    by_cases q : t = s
    · subst q
      rw [h3]
      exact fun z => absurd z (by decide)
    · rw [u_ne q]
      exact g.off
def hdF (v : Nat → Int32) (n to o : Nat) (x y : Int32) : Nat → Int32 := hsF (upd (upd v (786 + 16 * n + 6) y) (786 + 16 * n + 7) 0) to (2 ^ o) 4 x
theorem hdF_o {v : Nat → Int32} {n to o i : Nat} {x y : Int32} (h1 : i < 18 + 3 * to ∨ 18 + 3 * (to + 2 ^ o) ≤ i) (h2 : i ≠ 786 + 16 * n + 6) (h3 : i ≠ 786 + 16 * n + 7) : hdF v n to o x y i = v i := by
  unfold hdF
  rw [hsF_out h1, u_ne h3, u_ne h2]
theorem sim_hold {c : sm_S} {v : Nat → Int32} {n fr to o : Nat} {bI y : Int32} (h : sim0 c v) (hk : ∀ b, b < 96 → bk_ok v b) (hn : n < 96) (h0 : v (786 + 16 * n + 0) = 1) (h1 : (v (786 + 16 * n + 1)).toInt = fr) (h2 : (v (786 + 16 * n + 2)).toInt = o) (h3 : v (786 + 16 * n + 3) = 0) (h6 : v (786 + 16 * n + 6) = 0) (h7 : v (786 + 16 * n + 7) = 0) (ho : o ≤ 4) (hto : to < 256) (halt : to % 2 ^ o = 0) (hfree : ∀ f, to ≤ f → f < to + 2 ^ o → v (18 + 3 * f) = 1) (hbI : bI.toInt = n) (hy : y.toInt = to) : sim0 (gvC (sm_set c 14 (upd (c 14) n y)) 5 bI to o) (hdF v n to o (bI + 1) (y + 1)) := by
  have hlt := al_le ho hto halt
  have hb1 : (bI + 1).toInt = ((n + 1 : Nat) : Int) := by
    rw [t_add hbI (y := 1) rfl (by omega) (by omega)]
    omega
  have hy1 : (y + 1).toInt = ((to + 1 : Nat) : Int) := by
    rw [t_add hy (y := 1) rfl (by omega) (by omega)]
    omega
  have own3 := h.O.hs n fr o hn h0 h1 h2
  have co : ∀ k, k ≠ 2 → k ≠ 5 → k ≠ 6 → k ≠ 14 → gvC (sm_set c 14 (upd (c 14) n y)) 5 bI to o k = c k := fun k a1 a2 a3 a4 => by rw [gvC_o ⟨a1, a3, a2⟩, s_ne a4]
  have c14 : gvC (sm_set c 14 (upd (c 14) n y)) 5 bI to o 14 = upd (c 14) n y := rfl
  have r6 : hdF v n to o (bI + 1) (y + 1) (786 + 16 * n + 6) = y + 1 := by
    unfold hdF
    rw [hsF_out (by omega), u_ne (by omega), u_at]
  have r7 : hdF v n to o (bI + 1) (y + 1) (786 + 16 * n + 7) = 0 := by
    unfold hdF
    rw [hsF_out (by omega), u_at]
  refine h.fb (fun f hf => ?_) (fun b hb => ?_) (fun t ht => ?_) ?_ (fun k hk => co k (by omega) (by omega) (by omega) (by omega)) (fun i hi => hdF_o (by omega) (by omega) (by omega)) (fun b k h1 h2 h3 => hdF_o (by omega) (by omega) (by omega))
  · have g : sF (sm_set c 14 (upd (c 14) n y)) (upd (upd v (786 + 16 * n + 6) (y + 1)) (786 + 16 * n + 7) 0) f := (h.F f hf).cg (by rw [s_ne (by decide)]) (by rw [s_ne (by decide)]) (by rw [s_ne (by decide)]) (by rw [s_ne (by decide)]) (by rw [s_ne (by decide)]) (by rw [s_ne (by decide)]) (by rw [u_ne (by omega), u_ne (by omega)]) (by rw [u_ne (by omega), u_ne (by omega)]) (by rw [u_ne (by omega), u_ne (by omega)])
    exact sF_gv5 g ho halt (fun a1 a2 => by rw [u_ne (by omega), u_ne (by omega)]; exact hfree f a1 a2)
  · have cc : ∀ k, 9 ≤ k → k ≤ 16 → k ≠ 14 → gvC (sm_set c 14 (upd (c 14) n y)) 5 bI to o k = c k := fun k a1 a2 a3 => co k (by omega) (by omega) (by omega) a3
    by_cases e : b = n
    · subst e
      have rk : ∀ k, k < 9 → k ≠ 6 → k ≠ 7 → hdF v b to o (bI + 1) (y + 1) (786 + 16 * b + k) = v (786 + 16 * b + k) := fun k a1 a2 a3 => hdF_o (by omega) (by omega) (by omega)
      obtain ⟨q, q1⟩ := (h.B b hb).al h0
      exact Or.inr ⟨by rw [cc 9 (by decide) (by decide) (by decide)]; exact q1, by rw [rk 0 (by decide) (by decide) (by decide)]; exact h0, by rw [rk 1 (by decide) (by decide) (by decide), cc 9 (by decide) (by decide) (by decide)]; exact q.fir, by rw [rk 2 (by decide) (by decide) (by decide), cc 10 (by decide) (by decide) (by decide)]; exact q.ord, by rw [rk 3 (by decide) (by decide) (by decide), cc 11 (by decide) (by decide) (by decide)]; exact q.kin, by rw [rk 4 (by decide) (by decide) (by decide), cc 12 (by decide) (by decide) (by decide)]; exact q.own, by rw [rk 5 (by decide) (by decide) (by decide), cc 13 (by decide) (by decide) (by decide)]; exact q.pin, by rw [r6, c14, u_at], by rw [r7, cc 15 (by decide) (by decide) (by decide), ← h7]; exact q.cop, by rw [rk 8 (by decide) (by decide) (by decide), cc 16 (by decide) (by decide) (by decide)]; exact q.use⟩
    · exact (h.B b hb).cg (by rw [cc 9 (by decide) (by decide) (by decide)]) (by rw [cc 10 (by decide) (by decide) (by decide)]) (by rw [cc 11 (by decide) (by decide) (by decide)]) (by rw [cc 12 (by decide) (by decide) (by decide)]) (by rw [cc 13 (by decide) (by decide) (by decide)]) (by rw [c14, u_ne e]) (by rw [cc 15 (by decide) (by decide) (by decide)]) (by rw [cc 16 (by decide) (by decide) (by decide)]) (fun k hk => hdF_o (by omega) (by omega) (by omega))
  · exact (h.S t ht).cg (fun k a1 a2 => by rw [co k (by omega) (by omega) (by omega) (by omega)]) (fun k hk => hdF_o (by omega) (by omega) (by omega))
  · have out0 : ∀ f, f < 256 → ¬ (to ≤ f ∧ f < to + 2 ^ o) → hdF v n to o (bI + 1) (y + 1) (18 + 3 * f) = v (18 + 3 * f) ∧ hdF v n to o (bI + 1) (y + 1) (18 + 3 * f + 1) = v (18 + 3 * f + 1) := fun f a1 a2 => ⟨hdF_o (by omega) (by omega) (by omega), hdF_o (by omega) (by omega) (by omega)⟩
    have inn : ∀ f, to ≤ f ∧ f < to + 2 ^ o → hdF v n to o (bI + 1) (y + 1) (18 + 3 * f) = 4 ∧ hdF v n to o (bI + 1) (y + 1) (18 + 3 * f + 1) = bI + 1 := fun f a2 => by
      obtain ⟨q0, q1, -⟩ := hsF_in (v := upd (upd v (786 + 16 * n + 6) (y + 1)) (786 + 16 * n + 7) 0) (s := 4) (x := bI + 1) a2.1 a2.2
      exact ⟨q0, q1⟩
    have rb : ∀ k, k < 4 → hdF v n to o (bI + 1) (y + 1) (786 + 16 * n + k) = v (786 + 16 * n + k) := fun k a1 => hdF_o (by omega) (by omega) (by omega)
    refine h.O.re (fun b => b = n) (fun f => to ≤ f ∧ f < to + 2 ^ o) hk (fun b k a1 a2 a3 => hdF_o (by omega) (by omega) (by omega)) out0 (fun f hf z => Or.inl (by rw [hfree f z.1 z.2]; decide)) (fun b fr' o' hb z g0 g1 g2 j hj => ?_) (fun b t o' hb z g0 g6 g2 => ?_) (fun f b hf hb z g3 g1 => ?_) (fun f b hf hb z g4 g1 => ?_) (fun f hf z => Or.inl ⟨n, hn, rfl, by rw [(inn f z).2]; exact hb1, Or.inr (inn f z).1⟩) (fun f hf => ?_)
    · subst z
      rw [rb 1 (by decide)] at g1
      rw [rb 2 (by decide)] at g2
      have hx := h.O.hs b fr' o' hb h0 g1 g2 j hj
      obtain ⟨o2, fr2, p1, p2, p3, p4, p5, -⟩ := hk b hb
      have e1 : o2 = o' := by omega
      have e2 : fr2 = fr' := by omega
      subst e1 e2
      have hl := al_le p2 p4 p5
      have nd : ¬ (to ≤ fr2 + j ∧ fr2 + j < to + 2 ^ o) := fun z => by
        have := hfree _ z.1 z.2
        rw [hx.1] at this
        exact absurd this (by decide)
      rw [(out0 _ (by omega) nd).1, (out0 _ (by omega) nd).2]
      exact hx
    · subst z
      rw [r6] at g6
      rw [rb 2 (by decide)] at g2
      have e1 : t = to := by omega
      have e2 : o' = o := by omega
      subst e1 e2
      refine ⟨by rw [rb 3 (by decide)]; exact h3, fun j hj => ?_⟩
      obtain ⟨q0, q1⟩ := inn (t + j) (by omega)
      rw [q0, q1]
      exact ⟨rfl, hb1⟩
    · subst z
      have nd : ¬ (to ≤ f ∧ f < to + 2 ^ o) := fun z => by
        rw [(inn f z).1] at g3
        exact absurd g3 (by decide)
      rw [(out0 f hf nd).1] at g3
      rw [(out0 f hf nd).2] at g1
      obtain ⟨b', fr', o', p1, p2, p3, p4, p5, p6⟩ := h.O.tk f hf g3
      have e : b' = b := by omega
      subst e
      exact ⟨by rw [rb 0 (by decide)]; exact p3, fr', o', by rw [rb 1 (by decide)]; exact p4, by rw [rb 2 (by decide)]; exact p5, p6⟩
    · subst z
      refine ⟨by rw [rb 0 (by decide)]; exact h0, to, o, by rw [r6]; exact hy1, by rw [rb 2 (by decide)]; exact h2, ?_⟩
      by_cases z : to ≤ f ∧ f < to + 2 ^ o
      · exact z
      · rw [(out0 f hf z).1] at g4
        rw [(out0 f hf z).2] at g1
        obtain ⟨b', t, o', p1, p2, p3, p4, p5, p6⟩ := h.O.hl f hf g4
        have e : b' = b := by omega
        subst e
        rw [h6] at p4
        have p4 : (0 : Int) = _ := p4
        omega
    · rw [hdF_o (i := 2358 + 8 * (f / 32) + 0) (by omega) (by omega) (by omega)]
      by_cases z : to ≤ f ∧ f < to + 2 ^ o
      · rw [(inn f z).1, ← h.O.of f hf, hfree f z.1 z.2]
        decide
      · rw [(out0 f hf z).1]
        exact h.O.of f hf
end
section
/-! ===== the simulation: a block is split ===== -/
/-- a number that was none's: its line is empty -/
theorem sQ.new {c c' : sm_S} {v v' : Nat → Int32} {L n : Nat} (q : sQ c v L) (h26 : c' 26 = c 26) (h28 : c' 28 = c 28) (h33 : c' 33 = c 33) (h9 : v (786 + 16 * n + 9) = 0) (h9' : v' (786 + 16 * n + 9) = 0) (e : ∀ b k, b < 96 → b ≠ n → 9 ≤ k → k < 16 → v' (786 + 16 * b + k) = v (786 + 16 * b + k)) : sQ c' v' L := by
  have hl : lnC c' L = lnC c L := lnC_cg (fun k _ => by rw [h33])
  refine ⟨by rw [h26]; exact q.len, q.le6, by rw [h28, h33]; exact q.tsk, by rw [hl]; exact q.nod, by rw [h28, h33]; exact q.all, fun b hb => ?_⟩
  obtain ⟨m, g1, g2⟩ := q.lin b hb
  by_cases z : b = n
  · subst z
    rw [h9] at g1
    have g1 : (0 : Int) = (m : Int) := g1
    have e0 : m = 0 := by omega
    subst e0
    refine ⟨0, by rw [h9']; rfl, ?_⟩
    rw [hl, h28]
    exact g2
  · have hm := (q.m_le hb g1).1
    have := q.le6
    refine ⟨m, by rw [e b 9 hb z (by decide) (by decide)]; exact g1, ?_⟩
    rw [lnV_cg (fun k hk => e b (10 + k) hb z (by omega) (by omega)), hl, h28]
    exact g2
def spF (v : Nat → Int32) (n m mid o : Nat) (mI x2 x3 : Int32) : Nat → Int32 := hsF (blF (upd v (786 + 16 * n + 2) x3) m x2 x3 (v (786 + 16 * n + 3)) (v (786 + 16 * n + 4)) (v (786 + 16 * n + 8))) mid (2 ^ o) 3 (mI + 1)
theorem spF_o {v : Nat → Int32} {n m mid o i : Nat} {mI x2 x3 : Int32} (h1 : i < 18 + 3 * mid ∨ 18 + 3 * (mid + 2 ^ o) ≤ i) (h2 : i ≠ 786 + 16 * n + 2) (h3 : i < 786 + 16 * m ∨ 786 + 16 * m + 16 ≤ i) : spF v n m mid o mI x2 x3 i = v i := by
  unfold spF
  rw [hsF_out h1, blF_out h3, u_ne h2]
def spC (c : sm_S) (n m mid o : Nat) (mI x2 x3 : Int32) : sm_S := sm_set (cmC (sm_set c 10 (upd (c 10) n x3)) m x2 x3 (c 11 n) (c 12 n) (c 16 n)) 6 (rg (c 6) mid (2 ^ o) mI)
theorem sim_split {c : sm_S} {v : Nat → Int32} {n m fr o : Nat} {mI x2 x3 : Int32} (h : sim0 c v) (hk : ∀ b, b < 96 → bk_ok v b) (hn : n < 96) (hm : m < 96) (h0 : v (786 + 16 * n + 0) = 1) (h1 : (v (786 + 16 * n + 1)).toInt = fr) (h2 : (v (786 + 16 * n + 2)).toInt = ((o + 1 : Nat) : Int)) (h6 : v (786 + 16 * n + 6) = 0) (m0 : v (786 + 16 * m + 0) = 0) (m9 : v (786 + 16 * m + 9) = 0) (ho : o ≤ 3) (hmI : mI.toInt = m) (hx2 : x2.toInt = ((fr + 2 ^ o : Nat) : Int)) (hx3 : x3.toInt = o) : sim0 (spC c n m (fr + 2 ^ o) o mI x2 x3) (spF v n m (fr + 2 ^ o) o mI x2 x3) := by
  obtain ⟨ob, frb, b1, b2, b3, b4, b5, -⟩ := hk n hn
  have eo : ob = o + 1 := by omega
  have ef : frb = fr := by omega
  subst eo ef
  have hle := al_le b2 b4 b5
  have pw : 2 ^ (o + 1) = 2 ^ o + 2 ^ o := by rw [Nat.pow_succ]; omega
  rw [pw] at hle
  have hp := t_pw (k := o) (by omega)
  have nm : m ≠ n := fun e => by
    subst e
    rw [m0] at h0
    exact absurd h0 (by decide)
  have hm1 : (mI + 1).toInt = ((m + 1 : Nat) : Int) := by
    rw [t_add hmI (y := 1) rfl (by omega) (by omega)]
    omega
  have own3 := h.O.hs n frb (o + 1) hn h0 h1 h2
  have in3 : ∀ f, frb ≤ f → f < frb + 2 ^ o + 2 ^ o → v (18 + 3 * f) = 3 ∧ (v (18 + 3 * f + 1)).toInt = ((n + 1 : Nat) : Int) := fun f a1 a2 => by
    have := own3 (f - frb) (by omega)
    rw [show frb + (f - frb) = f by omega] at this
    exact this
  obtain ⟨gb, gb9⟩ := (h.B n hn).al h0
  have co : ∀ k, k ≠ 6 → (k < 9 ∨ 16 < k) → spC c n m (frb + 2 ^ o) o mI x2 x3 k = c k := fun k a1 a2 => by
    unfold spC
    rw [s_ne a1, cmC_o a2, s_ne (by omega)]
  have c6 : spC c n m (frb + 2 ^ o) o mI x2 x3 6 = rg (c 6) (frb + 2 ^ o) (2 ^ o) mI := rfl
  have c9 : spC c n m (frb + 2 ^ o) o mI x2 x3 9 = upd (c 9) m x2 := rfl
  have c10 : spC c n m (frb + 2 ^ o) o mI x2 x3 10 = upd (upd (c 10) n x3) m x3 := rfl
  have c11 : spC c n m (frb + 2 ^ o) o mI x2 x3 11 = upd (c 11) m (c 11 n) := rfl
  have c12 : spC c n m (frb + 2 ^ o) o mI x2 x3 12 = upd (c 12) m (c 12 n) := rfl
  have c13 : spC c n m (frb + 2 ^ o) o mI x2 x3 13 = upd (c 13) m 0 := rfl
  have c14 : spC c n m (frb + 2 ^ o) o mI x2 x3 14 = upd (c 14) m (-1) := rfl
  have c15 : spC c n m (frb + 2 ^ o) o mI x2 x3 15 = upd (c 15) m 0 := rfl
  have c16 : spC c n m (frb + 2 ^ o) o mI x2 x3 16 = upd (c 16) m (c 16 n) := rfl
  obtain ⟨r0, r1, r2, r3, r4, r8⟩ := blF_0 (v := upd v (786 + 16 * n + 2) x3) (n := m) (a2 := x2) (a3 := x3) (a4 := v (786 + 16 * n + 3)) (a5 := v (786 + 16 * n + 4)) (a6 := v (786 + 16 * n + 8))
  have hi : ∀ i, 786 ≤ i → spF v n m (frb + 2 ^ o) o mI x2 x3 i = blF (upd v (786 + 16 * n + 2) x3) m x2 x3 (v (786 + 16 * n + 3)) (v (786 + 16 * n + 4)) (v (786 + 16 * n + 8)) i := fun i a => hsF_out (by omega)
  have rn : ∀ k, k < 16 → k ≠ 2 → spF v n m (frb + 2 ^ o) o mI x2 x3 (786 + 16 * n + k) = v (786 + 16 * n + k) := fun k a1 a2 => spF_o (by omega) (by omega) (by omega)
  have rn2 : spF v n m (frb + 2 ^ o) o mI x2 x3 (786 + 16 * n + 2) = x3 := by
    rw [hi _ (by omega), blF_out (by omega), u_at]
  have inn : ∀ f, (frb + 2 ^ o ≤ f ∧ f < frb + 2 ^ o + 2 ^ o) → spF v n m (frb + 2 ^ o) o mI x2 x3 (18 + 3 * f) = 3 ∧ spF v n m (frb + 2 ^ o) o mI x2 x3 (18 + 3 * f + 1) = mI + 1 ∧ spF v n m (frb + 2 ^ o) o mI x2 x3 (18 + 3 * f + 2) = v (18 + 3 * f + 2) := fun f a => by
    obtain ⟨q0, q1, q2⟩ := hsF_in (v := blF (upd v (786 + 16 * n + 2) x3) m x2 x3 (v (786 + 16 * n + 3)) (v (786 + 16 * n + 4)) (v (786 + 16 * n + 8))) (s := 3) (x := mI + 1) a.1 a.2
    refine ⟨q0, q1, ?_⟩
    unfold spF
    rw [q2, blF_out (by omega), u_ne (by omega)]
  have out0 : ∀ f, f < 256 → ¬ (frb + 2 ^ o ≤ f ∧ f < frb + 2 ^ o + 2 ^ o) → spF v n m (frb + 2 ^ o) o mI x2 x3 (18 + 3 * f) = v (18 + 3 * f) ∧ spF v n m (frb + 2 ^ o) o mI x2 x3 (18 + 3 * f + 1) = v (18 + 3 * f + 1) ∧ spF v n m (frb + 2 ^ o) o mI x2 x3 (18 + 3 * f + 2) = v (18 + 3 * f + 2) := fun f a1 a2 => ⟨spF_o (by omega) (by omega) (by omega), spF_o (by omega) (by omega) (by omega), spF_o (by omega) (by omega) (by omega)⟩
  refine ⟨fun f hf => ?_, fun b hb => ?_, fun s hs => ?_, fun t ht => ?_, ?_, ?_, ?_⟩
  · have g := h.F f hf
    by_cases z : frb + 2 ^ o ≤ f ∧ f < frb + 2 ^ o + 2 ^ o
    · obtain ⟨q0, q1, q2⟩ := inn f z
      have s3 := (in3 f (by omega) (by omega)).1
      refine ⟨by rw [q0]; decide, ?_, ?_, ?_, ?_, ?_, ?_⟩
      · rw [q0, co 2 (by decide) (by decide), ← s3]; exact g.fre
      · rw [q0, co 3 (by decide) (by decide), ← s3]; exact g.apa
      · rw [q0, co 4 (by decide) (by decide), g.tak, s3]
      · rw [q0, co 5 (by decide) (by decide), ← s3]; exact g.hel
      · rw [q1, c6, rg_in z.1 z.2]
      · rw [q2, co 7 (by decide) (by decide)]; exact g.val
    · obtain ⟨q0, q1, q2⟩ := out0 f hf z
      exact g.cg (by rw [co 2 (by decide) (by decide)]) (by rw [co 3 (by decide) (by decide)]) (by rw [co 4 (by decide) (by decide)]) (by rw [co 5 (by decide) (by decide)]) (by rw [c6, rg_out (by omega)]) (by rw [co 7 (by decide) (by decide)]) q0 q1 q2
  · by_cases e : b = m
    · subst e
      refine Or.inr ⟨?_, ?_, ?_, ?_, ?_, ?_, ?_, ?_, ?_, ?_⟩
      · rw [c9, u_at]; exact ne_m1 hx2
      · rw [hi _ (by omega)]; exact r0
      · rw [hi _ (by omega), c9, u_at]; exact r1
      · rw [hi _ (by omega), c10, u_at]; exact r2
      · rw [hi _ (by omega), c11, u_at, r3]; exact gb.kin
      · rw [hi _ (by omega), c12, u_at, r4]; exact gb.own
      · rw [hi _ (by omega), c13, u_at]; exact blF_z (by decide) (by decide) (by decide)
      · rw [hi _ (by omega), c14, u_at]; exact blF_z (by decide) (by decide) (by decide)
      · rw [hi _ (by omega), c15, u_at]; exact blF_z (by decide) (by decide) (by decide)
      · rw [hi _ (by omega), c16, u_at, r8]; exact gb.use
    · by_cases e2 : b = n
      · subst e2
        exact Or.inr ⟨by rw [c9, u_ne e]; exact gb9, by rw [rn 0 (by decide) (by decide)]; exact h0, by rw [rn 1 (by decide) (by decide), c9, u_ne e]; exact gb.fir, by rw [rn2, c10, u_ne e, u_at], by rw [rn 3 (by decide) (by decide), c11, u_ne e]; exact gb.kin, by rw [rn 4 (by decide) (by decide), c12, u_ne e]; exact gb.own, by rw [rn 5 (by decide) (by decide), c13, u_ne e]; exact gb.pin, by rw [rn 6 (by decide) (by decide), c14, u_ne e]; exact gb.tgt, by rw [rn 7 (by decide) (by decide), c15, u_ne e]; exact gb.cop, by rw [rn 8 (by decide) (by decide), c16, u_ne e]; exact gb.use⟩
      · exact (h.B b hb).cg (by rw [c9, u_ne e]) (by rw [c10, u_ne e, u_ne e2]) (by rw [c11, u_ne e]) (by rw [c12, u_ne e]) (by rw [c13, u_ne e]) (by rw [c14, u_ne e]) (by rw [c15, u_ne e]) (by rw [c16, u_ne e]) (fun k hk => spF_o (by omega) (by omega) (by omega))
  · exact (h.S s hs).cg (fun k a1 a2 => by rw [co k (by omega) (by omega)]) (fun k hk => spF_o (by omega) (by omega) (by omega))
  · exact (h.T t ht).cg (fun k a1 a2 => by rw [co k (by omega) (by omega)]) (fun k hk => spF_o (by omega) (by omega) (by omega))
  · obtain ⟨L, q⟩ := h.Q
    refine ⟨L, q.new (n := m) (co 26 (by decide) (by decide)) (co 28 (by decide) (by decide)) (co 33 (by decide) (by decide)) m9 ?_ (fun b k a1 a2 a3 a4 => spF_o (by omega) (by omega) (by omega))⟩
    rw [hi _ (by omega)]
    exact blF_z (by decide) (by decide) (by decide)
  · exact h.N.cg (co 39 (by decide) (by decide)) (co 40 (by decide) (by decide)) (by rw [co 0 (by decide) (by decide)]) (by rw [co 8 (by decide) (by decide)]) (fun i hi _ => spF_o (by omega) (by omega) (by omega))
  · have m0' : spF v n m (frb + 2 ^ o) o mI x2 x3 (786 + 16 * m + 0) = 1 := by rw [hi _ (by omega)]; exact r0
    have m1' : (spF v n m (frb + 2 ^ o) o mI x2 x3 (786 + 16 * m + 1)).toInt = ((frb + 2 ^ o : Nat) : Int) := by rw [hi _ (by omega), r1]; exact hx2
    have m2' : (spF v n m (frb + 2 ^ o) o mI x2 x3 (786 + 16 * m + 2)).toInt = o := by rw [hi _ (by omega), r2]; exact hx3
    have m6' : spF v n m (frb + 2 ^ o) o mI x2 x3 (786 + 16 * m + 6) = 0 := by rw [hi _ (by omega)]; exact blF_z (by decide) (by decide) (by decide)
    have n0' : spF v n m (frb + 2 ^ o) o mI x2 x3 (786 + 16 * n + 0) = 1 := by rw [rn 0 (by decide) (by decide)]; exact h0
    have n1' : (spF v n m (frb + 2 ^ o) o mI x2 x3 (786 + 16 * n + 1)).toInt = frb := by rw [rn 1 (by decide) (by decide)]; exact h1
    have n6' : spF v n m (frb + 2 ^ o) o mI x2 x3 (786 + 16 * n + 6) = 0 := by rw [rn 6 (by decide) (by decide)]; exact h6
    have noM : ∀ f, f < 256 → ¬ (frb + 2 ^ o ≤ f ∧ f < frb + 2 ^ o + 2 ^ o) → (v (18 + 3 * f) = 3 ∨ v (18 + 3 * f) = 4) → (v (18 + 3 * f + 1)).toInt ≠ ((m + 1 : Nat) : Int) := fun f hf _ z y => by
      rcases z with z | z
      · obtain ⟨b', _, _, p1, p2, p3, -⟩ := h.O.tk f hf z
        have e : b' = m := by omega
        subst e
        rw [m0] at p3
        exact absurd p3 (by decide)
      · obtain ⟨b', _, _, p1, p2, p3, -⟩ := h.O.hl f hf z
        have e : b' = m := by omega
        subst e
        rw [m0] at p3
        exact absurd p3 (by decide)
    refine h.O.re (fun b => b = n ∨ b = m) (fun f => frb + 2 ^ o ≤ f ∧ f < frb + 2 ^ o + 2 ^ o) hk (fun b k a1 a2 a3 => spF_o (by omega) (by omega) (by omega)) (fun f hf z => ⟨(out0 f hf z).1, (out0 f hf z).2.1⟩) (fun f hf z => Or.inr ⟨n, hn, Or.inl rfl, (in3 f (by omega) (by omega)).2⟩) (fun b fr' o' hb z g0 g1 g2 j hj => ?_) (fun b t o' hb z g0 g6 g2 => ?_) (fun f b hf hb z g3 g1 => ?_) (fun f b hf hb z g4 g1 => ?_) (fun f hf z => Or.inl ⟨m, hm, Or.inr rfl, by rw [(inn f z).2.1]; exact hm1, Or.inl (inn f z).1⟩) (fun f hf => ?_)
    · rcases z with z | z
      · subst z
        rw [rn2] at g2
        have e1 : fr' = frb := by omega
        have e2 : o' = o := by omega
        subst e1 e2
        obtain ⟨q0, q1, -⟩ := out0 (fr' + j) (by omega) (by omega)
        rw [q0, q1]
        exact in3 _ (by omega) (by omega)
      · subst z
        have e1 : fr' = frb + 2 ^ o := by omega
        have e2 : o' = o := by omega
        subst e1 e2
        obtain ⟨q0, q1, -⟩ := inn (frb + 2 ^ o' + j) (by omega)
        rw [q0, q1]
        exact ⟨rfl, hm1⟩
    · rcases z with z | z
      · subst z
        rw [n6'] at g6
        have g6 : (0 : Int) = _ := g6
        omega
      · subst z
        rw [m6'] at g6
        have g6 : (0 : Int) = _ := g6
        omega
    · by_cases y : frb + 2 ^ o ≤ f ∧ f < frb + 2 ^ o + 2 ^ o
      · rw [(inn f y).2.1, hm1] at g1
        have e : b = m := by omega
        subst e
        exact ⟨m0', _, _, m1', m2', y⟩
      · rw [(out0 f hf y).1] at g3
        rw [(out0 f hf y).2.1] at g1
        rcases z with z | z
        · subst z
          obtain ⟨b', fr', o', p1, p2, p3, p4, p5, p6⟩ := h.O.tk f hf g3
          have e : b' = b := by omega
          subst e
          have e1 : fr' = frb := by omega
          have e2 : o' = o + 1 := by omega
          subst e1 e2
          rw [pw] at p6
          exact ⟨n0', _, _, n1', by rw [rn2]; exact hx3, by omega⟩
        · subst z
          exact absurd g1 (noM f hf y (Or.inl g3))
    · have y : ¬ (frb + 2 ^ o ≤ f ∧ f < frb + 2 ^ o + 2 ^ o) := fun y => by
        rw [(inn f y).1] at g4
        exact absurd g4 (by decide)
      rw [(out0 f hf y).1] at g4
      rw [(out0 f hf y).2.1] at g1
      rcases z with z | z
      · subst z
        obtain ⟨b', t, o', p1, p2, p3, p4, p5, p6⟩ := h.O.hl f hf g4
        have e : b' = b := by omega
        subst e
        rw [h6] at p4
        have p4 : (0 : Int) = _ := p4
        omega
      · subst z
        exact absurd g1 (noM f hf y (Or.inr g4))
    · rw [spF_o (i := 2358 + 8 * (f / 32) + 0) (by omega) (by omega) (by omega)]
      by_cases y : frb + 2 ^ o ≤ f ∧ f < frb + 2 ^ o + 2 ^ o
      · rw [(inn f y).1, ← h.O.of f hf, (in3 f (by omega) (by omega)).1]
      · rw [(out0 f hf y).1]
        exact h.O.of f hf
end
section
/-! ===== the simulation: the least number; split | splits; a cache is dropped ===== -/
theorem l_least2 (σ : sm_S) : ∀ (d k : Nat) (a1 : Int32), a1.toInt = k → k + d = 96 → (∀ j, j < k → σ 9 j ≠ -1) → xE xD m_B_leastNumber 2 [.ref 8, .int a1] [] σ (sm_I (fun x σ' => ((x = -1 ∧ ∀ j, j < 96 → σ 9 j ≠ -1) ∨ ∃ n : Nat, n < 96 ∧ x.toInt = n ∧ σ 9 n = -1 ∧ ∀ j, j < n → σ 9 j ≠ -1) ∧ σ' = σ)) := by
  intro d
  induction d with
  | zero =>
    intro k a1 h1 hk hb
    refine d_B_leastNumber_2 a1 σ _ ⟨fun _ => ⟨_, rfl, Or.inl ⟨rfl, fun j hj => hb j (by omega)⟩, rfl⟩, fun h => absurd ?_ h⟩
    rw [t_le, h1]
    show (96 : Int) ≤ _
    omega
  | succ d ih =>
    intro k a1 h1 hk hb
    have h1' : (a1 + 1).toInt = ((k + 1 : Nat) : Int) := by
      rw [t_add h1 (y := 1) rfl (by omega) (by omega)]
      omega
    refine d_B_leastNumber_2 a1 σ _ ⟨fun h => ?_, fun _ => ⟨t_vp h1 (by omega), fun h => ih (k + 1) _ h1' (by omega) (fun j hj => ?_), fun h => ⟨_, rfl, Or.inr ⟨k, by omega, h1, ?_, hb⟩, rfl⟩⟩⟩
    · rw [t_le, h1] at h
      have h : (96 : Int) ≤ k := h
      omega
    · rw [t_nat h1] at h
      by_cases e : j = k
      · rw [e]; exact h
      · exact hb j (by omega)
    · rw [t_nat h1] at h
      exact Classical.not_not.mp h
theorem e_least2 (σ : sm_S) : xC xD j_B_leastNumber [.ref 8] σ (sm_I (fun x σ' => ((x = -1 ∧ ∀ j, j < 96 → σ 9 j ≠ -1) ∨ ∃ n : Nat, n < 96 ∧ x.toInt = n ∧ σ 9 n = -1 ∧ ∀ j, j < n → σ 9 j ≠ -1) ∧ σ' = σ)) := d_B_leastNumber σ _ (l_least2 σ 96 0 0 rfl rfl (fun j hj => by omega))
theorem sB.iff {c : sm_S} {v : Nat → Int32} {b : Nat} (h : sB c v b) : c 9 b = -1 ↔ v (786 + 16 * b + 0) = 0 := by
  rcases h with ⟨g1, g2⟩ | ⟨g1, g2, -⟩
  · exact ⟨fun _ => g2, fun _ => g1⟩
  · exact ⟨fun z => absurd z g1, fun z => by rw [g2] at z; exact absurd z (by decide)⟩
theorem sB.one {c : sm_S} {v : Nat → Int32} {b : Nat} (h : sB c v b) (h0 : v (786 + 16 * b + 0) ≠ 0) : v (786 + 16 * b + 0) = 1 := by
  rcases h with ⟨-, g2⟩ | ⟨-, g2, -⟩
  · exact absurd g2 h0
  · exact g2
/-- leastNumber | freeNumber -/
theorem p_num {c : sm_S} {v : Nat → Int32} (h : sim0 c v) : ∃ x : Int32, rdI j_M_freeNumber [.ref 0] v x v ∧ xC xD j_B_leastNumber [.ref 8] c (sm_I (fun y σ' => y = x ∧ σ' = c)) ∧ ((x = -1 ∧ ∀ j, j < 96 → v (786 + 16 * j + 0) = 1) ∨ ∃ m : Nat, m < 96 ∧ x.toInt = m ∧ v (786 + 16 * m + 0) = 0) := by
  obtain ⟨x, hx, rx⟩ := pick (e_least2 c)
  refine ⟨x, fun σ e => (c_freeNumber σ).mono ?_, rx, ?_⟩
  · rintro r σ' ⟨y, rfl, hy, rfl⟩
    refine ⟨y, rfl, ?_, by rw [← e, s_id]⟩
    rw [e] at hy
    rcases hx with ⟨hx1, hx2⟩ | ⟨m, m1, m2, m3, m4⟩
    · rcases hy with ⟨hy1, -⟩ | ⟨j, j1, j2, j3, -⟩
      · rw [hx1, hy1]
      · exact absurd ((h.B j j2).iff.mpr j3) (hx2 j j2)
    · have m5 := (h.B m m1).iff.mp m3
      rcases hy with ⟨-, hy2⟩ | ⟨j, j1, j2, j3, j4⟩
      · exact absurd m5 (hy2 m m1)
      · have : j = m := by
          have a1 : ¬ j < m := fun z => m4 j z ((h.B j j2).iff.mpr j3)
          have a2 : ¬ m < j := fun z => j4 m z m5
          omega
        subst this
        exact t_inj (by rw [j1, m2])
  · rcases hx with ⟨hx1, hx2⟩ | ⟨m, m1, m2, m3, -⟩
    · exact Or.inl ⟨hx1, fun j hj => (h.B j hj).one (fun z => hx2 j hj ((h.B j hj).iff.mpr z))⟩
    · exact Or.inr ⟨m, m1, m2, (h.B m m1).iff.mp m3⟩
theorem jj.dead {N n : Nat} {v : Nat → Int32} (hj : jj N v) (hn : n < 96) (h0 : v (786 + 16 * n + 0) = 0) : v (786 + 16 * n + 9) = 0 := by
  obtain ⟨L, o, l1, -, -, l4, -⟩ := hj.2.1.2.1 n hn
  by_cases q : 0 < L
  · have := (hj.2.1.2.2.2.1 n hn (l4 q)).1
    rw [h0] at this
    exact absurd this (by decide)
  · have : L = 0 := by omega
    subst this
    exact t_inj l1
theorem l_split2 {a1 a2 a3 a4 : Int32} {m mid o nl : Nat} (h3 : a3.toInt = o) (ho : o ≤ 4) (h4 : a4.toInt = mid) (hle : mid + 2 ^ o ≤ 256) (σ : sm_S) (h5 : (σ 34 5).toInt = nl) (hnl : nl < 60) : ∀ (d k : Nat) (a5 : Int32), a5.toInt = k → k + d = 2 ^ o → xE xD m_G_split 87 [.ref 41, .int a1, .int a2, .int a3, .int a4, .int a5] [] (sm_set σ 6 (rg (σ 6) mid k a2)) (sm_V (fun σ' => σ' = laC (sm_set (sm_set σ 6 (rg (σ 6) mid (2 ^ o) a2)) 40 (upd (σ 40) 4 (σ 40 4 + 1))) nl (σ 0 7) 5 a1 a2)) := by
  have hp := t_pw (k := o) (by omega)
  intro d
  induction d with
  | zero =>
    intro k a5 h5' hk
    have hk : k = 2 ^ o := by omega
    subst hk
    refine d_G_split_87 a1 a2 a3 a4 a5 _ _ ⟨fun _ => ⟨t_vp (n := 4) rfl (by omega), t_vp (n := 4) rfl (by omega), fun σ1 e1 => ?_⟩, fun h => absurd ?_ h⟩
    · have e1' : σ1 = sm_set (sm_set σ 6 (rg (σ 6) mid (2 ^ o) a2)) 40 (upd (σ 40) 4 (σ 40 4 + 1)) := e1
      rw [e1']
      refine (e_add2 _ _ _ _ (sm_set (sm_set σ 6 (rg (σ 6) mid (2 ^ o) a2)) 40 (upd (σ 40) 4 (σ 40 4 + 1))) h5 hnl).void ?_
      rintro _ rfl
      exact ⟨rfl, rfl⟩
    · rw [t_le, t_pow h3 (by omega), h5']
      omega
  | succ d ih =>
    intro k a5 h5' hk
    have h5'' : (a5 + 1).toInt = ((k + 1 : Nat) : Int) := by
      rw [t_add h5' (y := 1) rfl (by omega) (by omega)]
      omega
    have hq : (a4 + a5).toInt = ((mid + k : Nat) : Int) := by
      rw [t_add h4 h5' (by omega) (by omega)]
      omega
    refine d_G_split_87 a1 a2 a3 a4 a5 _ _ ⟨fun h => ?_, fun _ => ⟨t_vp hq (by omega), fun σ3 e3 => ?_⟩⟩
    · rw [t_le, t_pow h3 (by omega), h5'] at h
      omega
    · rw [t_nat hq, s_at, s_ss, ← rg_s] at e3
      rw [e3]
      exact ih (k + 1) (a5 + 1) h5'' (by omega)
theorem p_split {g : Prop} {N n m fr o : Nat} {c : sm_S} {v : Nat → Int32} {a1 x : Int32} (h : tie g N c v) (hj : jj N v) (hx : jx v) (hN : N < 2000000000) (h1 : a1.toInt = n) (hn : n < 96) (h0 : v (786 + 16 * n + 0) = 1) (h6 : v (786 + 16 * n + 6) = 0) (hk2 : v (786 + 16 * n + 3) ≠ 2) (ho : (v (786 + 16 * n + 2)).toInt = ((o + 1 : Nat) : Int)) (hfr : (v (786 + 16 * n + 1)).toInt = fr) (hxm : x.toInt = m) (hm : m < 96) (m0 : v (786 + 16 * m + 0) = 0) (rx : rdI j_M_freeNumber [.ref 0] v x v) : ∃ v' c', rd j_M_splits [.ref 0, .int a1] v v' ∧ xC xD j_G_split [.ref 41, .int a1, .int x] c (sm_V (fun σ' => σ' = c')) ∧ tie g (N + 1) c' v' ∧ jj (N + 1) v' ∧ jx v' ∧ (∀ i, 2358 ≤ i → i < 2422 → v' i = v i) ∧ (∀ f, f < 256 → wt v' f ≤ wt v f) ∧ wt v' (fr + 2 ^ o) < wt v (fr + 2 ^ o) ∧ fr + 2 ^ o < 256 := by
  obtain ⟨ob, frb, b1, b2, b3, b4, b5, -⟩ := hj.2.1.1 n hn
  have eo : ob = o + 1 := by omega
  have ef : frb = fr := by omega
  subst eo ef
  have hle := al_le b2 b4 b5
  have pw : 2 ^ (o + 1) = 2 ^ o + 2 ^ o := by rw [Nat.pow_succ]; omega
  rw [pw] at hle
  have hp := t_pw (k := o) (by omega)
  have nm : m ≠ n := fun e => by
    subst e
    rw [m0] at h0
    exact absurd h0 (by decide)
  have m9 := hj.dead hm m0
  obtain ⟨gb, gb9⟩ := (h.s.B n hn).al h0
  have c9 : (c 9 n).toInt = frb := by rw [← gb.fir]; exact hfr
  have c10 : (c 10 n).toInt = ((o + 1 : Nat) : Int) := by rw [← gb.ord]; exact ho
  have x3 : (c 10 n - 1).toInt = o := t_m1 c10 (by omega)
  have x2 : (c 9 n + (1 : Int32) <<< ((c 10 n - 1) &&& 31)).toInt = ((frb + 2 ^ o : Nat) : Int) := by
    rw [t_add c9 (t_pow x3 (by omega)) (by omega) (by omega)]
    omega
  have s1 := sim_split h.s h.b hn hm h0 hfr ho h6 m0 m9 (by omega) hxm x2 x3
  have sp_o : ∀ i, i < 18 ∨ 2322 ≤ i → spF v n m (frb + 2 ^ o) o x (c 9 n + (1 : Int32) <<< ((c 10 n - 1) &&& 31)) (c 10 n - 1) i = v i := fun i hi => spF_o (by omega) (by omega) (by omega)
  have run : rd j_M_splits [.ref 0, .int a1] v (wrF (cnF (spF v n m (frb + 2 ^ o) o x (c 9 n + (1 : Int32) <<< ((c 10 n - 1) &&& 31)) (c 10 n - 1)) 4 1) N 5 a1 x) := fun σ e => by
    refine w_M_splits a1 σ _ ((rx σ e).int ?_)
    rintro y1 σ1 ⟨ey1, es1⟩
    have es1' : σ1 = σ := by rw [es1, ← e, s_id]
    rw [ey1, es1']
    refine (c_of (k := 2) (j := 2) h1 rfl (by omega) σ).int ?_
    rintro y2 σ2 ⟨ey2, es2⟩
    rw [ey2, es2, e, gb.ord]
    refine (c_lay (k := 2) (j := 2) h1 rfl (by omega) _ σ).void ?_
    rintro _ rfl
    refine (c_frameOf h1 hn _).int ?_
    rintro y3 σ3 ⟨ey3, es3⟩
    rw [s_at, u_ne (by omega), e, gb.fir] at ey3
    rw [ey3, es3]
    refine (c_of (k := 3) (j := 3) h1 rfl (by omega) _).int ?_
    rintro y4 σ4 ⟨ey4, es4⟩
    rw [s_at, u_ne (by omega), e] at ey4
    rw [ey4, es4]
    refine (c_of (k := 4) (j := 4) h1 rfl (by omega) _).int ?_
    rintro y5 σ5 ⟨ey5, es5⟩
    rw [s_at, u_ne (by omega), e] at ey5
    rw [ey5, es5]
    refine (c_of (k := 8) (j := 8) h1 rfl (by omega) _).int ?_
    rintro y6 σ6 ⟨ey6, es6⟩
    rw [s_at, u_ne (by omega), e] at ey6
    rw [ey6, es6]
    refine (c_comes2 hxm hm x2 x3 (by omega) (by omega) _ _ _ _).void ?_
    rintro _ rfl
    refine (c_counts (j := 4) rfl (by decide) 1 _).void ?_
    rintro _ rfl
    refine (c_writes2 (n := N) 5 a1 x _ ?_).void ?_
    · rw [s_at, s_at, s_at, e, u_ne (by omega)]
      have := sp_o 5 (by omega)
      unfold spF at this
      rw [this]
      exact h.n
    · rintro _ rfl
      refine ⟨rfl, ?_⟩
      rw [s_at, s_ss, s_at, s_ss, s_at, s_ss, e]
      rfl
  obtain ⟨w, ew, jw, -, k4⟩ := run.det (c_splits (N := N) h1 hn (by omega) (rz v) (by rw [rz_at]; exact hj) (by rw [rz_at]; exact h0) (by rw [rz_at]; exact h6) (by rw [rz_at]; exact ho) (by rw [rz_at]; exact hfr) (by rw [rz_at]; exact hk2) ⟨m, hm, by rw [rz_at]; exact m0⟩)
  rw [rz_eq ew] at jw k4
  have eV : ∀ i, i < 2422 → i ≠ 5 → i ≠ 11 → wrF (cnF (spF v n m (frb + 2 ^ o) o x (c 9 n + (1 : Int32) <<< ((c 10 n - 1) &&& 31)) (c 10 n - 1)) 4 1) N 5 a1 x i = spF v n m (frb + 2 ^ o) o x (c 9 n + (1 : Int32) <<< ((c 10 n - 1) &&& 31)) (c 10 n - 1) i := fun i i1 i2 i3 => by
    rw [wrF_lo i1 i2]
    exact u_ne (by omega)
  have t1 : tie g N (spC c n m (frb + 2 ^ o) o x (c 9 n + (1 : Int32) <<< ((c 10 n - 1) &&& 31)) (c 10 n - 1)) (spF v n m (frb + 2 ^ o) o x (c 9 n + (1 : Int32) <<< ((c 10 n - 1) &&& 31)) (c 10 n - 1)) := by
    refine h.to s1 (fun k k1 k2 => ?_) (sp_o 5 (by omega)) (fun i hi => sp_o i (by omega)) (fun b hb => bk_cong (fun k k1 _ _ _ => (eV _ (by omega) (by omega) (by omega)).symm) (jw.2.1.1 b hb))
    unfold spC
    rw [s_ne (by omega), cmC_o (by omega), s_ne (by omega)]
  have t2 := t1.cnt (k := 4) (by decide) 1
  obtain ⟨nl, hnl, h5l, t3⟩ := t2.log (by omega) 5 a1 x
  obtain ⟨r0, r1, r2, r3, -, -⟩ := blF_0 (v := upd v (786 + 16 * n + 2) (c 10 n - 1)) (n := m) (a2 := c 9 n + (1 : Int32) <<< ((c 10 n - 1) &&& 31)) (a3 := c 10 n - 1) (a4 := v (786 + 16 * n + 3)) (a5 := v (786 + 16 * n + 4)) (a6 := v (786 + 16 * n + 8))
  have mrow : ∀ k, spF v n m (frb + 2 ^ o) o x (c 9 n + (1 : Int32) <<< ((c 10 n - 1) &&& 31)) (c 10 n - 1) (786 + 16 * m + k) = blF (upd v (786 + 16 * n + 2) (c 10 n - 1)) m (c 9 n + (1 : Int32) <<< ((c 10 n - 1) &&& 31)) (c 10 n - 1) (v (786 + 16 * n + 3)) (v (786 + 16 * n + 4)) (v (786 + 16 * n + 8)) (786 + 16 * m + k) := fun k => hsF_out (by omega)
  have own3 := h.s.O.hs n frb (o + 1) hn h0 hfr ho
  have in3 : ∀ f, frb ≤ f → f < frb + 2 ^ o + 2 ^ o → v (18 + 3 * f) = 3 ∧ (v (18 + 3 * f + 1)).toInt = ((n + 1 : Nat) : Int) := fun f a1 a2 => by
    have := own3 (f - frb) (by omega)
    rw [show frb + (f - frb) = f by omega] at this
    exact this
  have hm1 : (x + 1).toInt = ((m + 1 : Nat) : Int) := by
    rw [t_add hxm (y := 1) rfl (by omega) (by omega)]
    omega
  have wtU : ∀ f, frb + 2 ^ o ≤ f → f < frb + 2 ^ o + 2 ^ o → wt (wrF (cnF (spF v n m (frb + 2 ^ o) o x (c 9 n + (1 : Int32) <<< ((c 10 n - 1) &&& 31)) (c 10 n - 1)) 4 1) N 5 a1 x) f = (if frb + 2 ^ o = f then 1 else 2) ∧ wt v f = 2 := fun f a b => by
    obtain ⟨q0, q1, -⟩ := hsF_in (v := blF (upd v (786 + 16 * n + 2) (c 10 n - 1)) m (c 9 n + (1 : Int32) <<< ((c 10 n - 1) &&& 31)) (c 10 n - 1) (v (786 + 16 * n + 3)) (v (786 + 16 * n + 4)) (v (786 + 16 * n + 8))) (s := 3) (x := x + 1) a b
    refine ⟨?_, ?_⟩
    · unfold wt
      rw [eV _ (by omega) (by omega) (by omega), eV (18 + 3 * f + 1) (by omega) (by omega) (by omega), if_pos (show spF v n m (frb + 2 ^ o) o x (c 9 n + (1 : Int32) <<< ((c 10 n - 1) &&& 31)) (c 10 n - 1) (18 + 3 * f) = 3 from q0), show spF v n m (frb + 2 ^ o) o x (c 9 n + (1 : Int32) <<< ((c 10 n - 1) &&& 31)) (c 10 n - 1) (18 + 3 * f + 1) = x + 1 from q1, t_nat (t_m1 hm1 (by omega)), eV _ (by omega) (by omega) (by omega), mrow 1, r1, x2]
      by_cases z : frb + 2 ^ o = f
      · rw [if_pos z, if_pos (by omega)]
      · rw [if_neg z, if_neg (by omega)]
    · unfold wt
      obtain ⟨z0, z1⟩ := in3 f (by omega) (by omega)
      rw [if_pos z0, t_nat (t_m1 z1 (by omega)), hfr, if_neg (by omega)]
  have wtO : ∀ f, f < 256 → ¬ (frb + 2 ^ o ≤ f ∧ f < frb + 2 ^ o + 2 ^ o) → wt (wrF (cnF (spF v n m (frb + 2 ^ o) o x (c 9 n + (1 : Int32) <<< ((c 10 n - 1) &&& 31)) (c 10 n - 1)) 4 1) N 5 a1 x) f = wt v f := fun f hf z => by
    refine wt_cg ?_ ?_ (fun b y1 y2 y3 => ?_) h.s.O hf
    · rw [eV _ (by omega) (by omega) (by omega), spF_o (by omega) (by omega) (by omega)]
    · rw [eV _ (by omega) (by omega) (by omega), spF_o (by omega) (by omega) (by omega)]
    · have bm : b ≠ m := fun e => by
        subst e
        obtain ⟨b', _, _, p1, p2, p3, -⟩ := h.s.O.tk f hf y1
        have e : b' = b := by omega
        subst e
        rw [m0] at p3
        exact absurd p3 (by decide)
      rw [eV _ (by omega) (by omega) (by omega), spF_o (by omega) (by omega) (by omega)]
  refine ⟨_, _, run, ?_, t3, jw, ?_, k4, fun f hf => ?_, ?_, by omega⟩
  · refine d_G_split a1 x c _ ?_
    rw [t_nat h1, t_nat hxm]
    refine ⟨t_vp h1 hn, t_vp h1 hn, t_vp h1 hn, fun σ1 e1 => ⟨t_vp h1 hn, t_vp h1 hn, ?_⟩⟩
    refine (e_begin2 hxm hm _ _ _ _ σ1).void ?_
    rintro σ2 e2
    refine ⟨t_vp h1 hn, t_vp hxm hm, fun σ3 e3 => ?_⟩
    have c16n : σ2 16 = c 16 := by
      rw [e2, e1]
      rfl
    have e3' : σ3 = cmC (sm_set c 10 (upd (c 10) n (c 10 n - 1))) m (c 9 n + (1 : Int32) <<< ((c 10 n - 1) &&& 31)) (c 10 n - 1) (c 11 n) (c 12 n) (c 16 n) := by
      rw [e3, c16n, e2, e1]
      rfl
    have := l_split2 (a1 := a1) (a2 := x) (m := m) x3 (by omega) x2 (by omega) σ3 (nl := nl) (by rw [e3']; exact h5l) hnl (2 ^ o) 0 0 rfl (by omega)
    rw [rg_0, s_id] at this
    refine this.mono ?_
    rintro r σ' ⟨hr, hs'⟩
    refine ⟨hr, ?_⟩
    rw [hs', e3']
    rfl
  · refine jx.re (v := upd (upd v (786 + 16 * n + 2) (c 10 n - 1)) 5 0) (n := m) ?_ (fun b k q1 q2 q3 => ?_) (fun _ => ⟨fun _ => ?_, fun to2 fr2 o2 y1 y2 y3 => ?_⟩) (fun _ => ?_) (fun s' hs' z => by rw [u_ne (by omega), u_ne (by omega), u_ne (by omega), u_ne (by omega)]; exact ⟨fun y => z ((k4 (2358 + 8 * s' + 0) (by omega) (by omega)).trans y), k4 (2358 + 8 * s' + 1) (by omega) (by omega)⟩) ?_ (fun i i1 i2 => by rw [eV _ (by omega) (by omega) (by omega), sp_o i (by omega), u_ne (by omega), u_ne (by omega)])
    · refine hx.re (n := n) (fun b k q1 q2 q3 => by rw [u_ne (by omega), u_ne (by omega)]) (fun y0 => ⟨fun _ => ?_, fun to2 fr2 o2 y1 y2 y3 => ?_⟩) (fun _ => ?_) (fun s' hs' z => ⟨fun y => z (by rw [u_ne (by omega), u_ne (by omega)]; exact y), by rw [u_ne (by omega), u_ne (by omega)]⟩) (by rw [u_ne (by omega), u_ne (by omega)]) (fun i i1 i2 => by rw [u_ne (by omega), u_ne (by omega)])
      · rw [u_ne (by omega), u_ne (by omega)]
        exact (hx.1 n hn h0).1 h6
      · rw [u_ne (by omega), u_ne (by omega), h6] at y1
        have y1 : (0 : Int) = _ := y1
        omega
      · rw [u_ne (by omega), u_ne (by omega)]
        exact hx.2.1 n hn h0
    · rw [eV _ (by omega) (by omega) (by omega)]
      unfold spF
      rw [hsF_out (by omega), blF_out (by omega), u_ne (show 786 + 16 * b + k ≠ 5 by omega)]
    · rw [eV _ (by omega) (by omega) (by omega), mrow 7]
      exact blF_z (by decide) (by decide) (by decide)
    · rw [eV _ (by omega) (by omega) (by omega), mrow 6, blF_z (by decide) (by decide) (by decide)] at y1
      have y1 : (0 : Int) = _ := y1
      omega
    · rw [eV _ (by omega) (by omega) (by omega), mrow 3, r3]
      exact hx.2.1 n hn h0
    · rw [eV _ (by omega) (by omega) (by omega), sp_o 0 (by omega), u_ne (by omega), u_ne (by omega)]
  · by_cases z : frb + 2 ^ o ≤ f ∧ f < frb + 2 ^ o + 2 ^ o
    · rw [(wtU f z.1 z.2).1, (wtU f z.1 z.2).2]
      split <;> omega
    · rw [wtO f hf z]
      exact Nat.le_refl _
  · rw [(wtU (frb + 2 ^ o) (by omega) (by omega)).1, (wtU (frb + 2 ^ o) (by omega) (by omega)).2, if_pos rfl]
    decide
end
section
/-! ===== the simulation: what is found on both sides ===== -/
theorem rk_eq {h k z : Int32} {s : Nat} (hz : z = 0 ∨ z = 1) : rkc h k z s = rkf h k z s := by
  unfold rkc rkf
  rcases hz with e | e <;> subst e
  · rw [if_neg (show ¬ (0 : Int32) = -1 by decide), if_neg (show ¬ (k ≠ 0 ∧ (0 : Int32) = 1) from fun q => absurd q.2 (by decide)), if_neg (show ¬ (0 : Int32) = 1 by decide), if_pos (show (0 : Int32) = 0 from rfl)]
    by_cases q : k = 0
    · rw [if_pos q, if_neg (show ¬ (k ≠ 0 ∨ (0 : Int32) = 1) from fun z => z.elim (fun z => z q) (fun z => absurd z (by decide)))]
    · rw [if_neg q, if_pos (Or.inl q), Int32.zero_add]
  · rw [if_neg (show ¬ (1 : Int32) = -1 by decide), if_pos (show (1 : Int32) = 1 from rfl), if_neg (show ¬ (1 : Int32) = 0 by decide)]
    by_cases q : k = 0
    · rw [if_pos q, if_neg (show ¬ (k ≠ 0 ∧ (1 : Int32) = 1) from fun z => z.1 q), if_pos (Or.inr rfl)]
    · rw [if_neg q, if_pos ⟨q, rfl⟩]
theorem sim_zone {c : sm_S} {v : Nat → Int32} {s : Nat} (h : sim0 c v) (hs : s < 8) : c 19 s = zV v s := by
  have g := h.S s hs
  unfold zV
  have e : v (2358 + 8 * s) = c 18 s := g.sta
  rw [e]
  by_cases q : c 18 s = 0
  · rw [if_pos q]; exact g.zof q
  · rw [if_neg q]; exact (g.zon q).symm
theorem sim_rk {c : sm_S} {v : Nat → Int32} {s m : Nat} (k : Int32) (h : sim0 c v) (hx : jx v) (hs : s < 8) (hm : m < 6) (h0 : v (2358 + 8 * s + 0) ≠ 0) : rkC c k m s = rkV v k m s := by
  unfold rkC rkV
  have ez : zV v s = v (2358 + 8 * s + 1) := if_neg h0
  have hh : v (2322 + 6 * m) = c 27 m := (h.T m hm).hom
  rw [sim_zone h hs, hh]
  refine rk_eq ?_
  rw [ez]
  exact hx.2.2.1 s hs h0
/-- bestPlace | bestPlace -/
theorem p_best {c : sm_S} {v : Nat → Int32} {a1 a2 a3 a4 : Int32} {m o : Nat} (h : sim0 c v) (hx : jx v) (h1 : a1.toInt = m) (hm : m < 6) (h3 : a3.toInt = o) (ho : o ≤ 4) : ∃ x : Int32, rdI j_M_bestPlace [.ref 0, .int a1, .int a2, .int a3, .int a4] v x v ∧ xC xD j_Y_bestPlace [.ref 0, .int a1, .int a2, .int a3, .int a4] c (sm_I (fun y σ' => y = x ∧ σ' = c)) ∧ BP (frV v) (rkV v a2 m) (onV v a4) o x := by
  obtain ⟨x, hxB, rx⟩ := pick (e_bestPlace2 h1 hm h3 ho c (a2 := a2) (a4 := a4))
  have hB : BP (frV v) (rkV v a2 m) (onV v a4) o x := BP_cg (by omega) (fun f hf => (h.F f hf).fre) (fun f hf q => sim_rk a2 h hx (by omega) hm (fun z => by
    have := (h.O.of f hf).mpr z
    have q2 : v (18 + 3 * f) = 1 := (h.F f hf).fre.mp q
    rw [this] at q2
    exact absurd q2 (by decide))) (fun s hs => by
    unfold onC onV
    have e : v (2358 + 8 * s) = c 18 s := (h.S s hs).sta
    rw [e]) hxB
  refine ⟨x, fun σ e => (c_bestPlace2 h1 hm h3 ho σ).mono ?_, rx, hB⟩
  rintro r σ' ⟨y, rfl, hy, rfl⟩
  rw [e] at hy
  exact ⟨y, rfl, BP_un hy hB, by rw [← e, s_id]⟩
/-- the first block of span s at offset r or behind it -/
def fst (v : Nat → Int32) (s r : Nat) (x : Int32) : Prop := (x = -1 ∧ ∀ f, f < 256 → f / 32 = s → r ≤ f % 32 → wt v f ≠ 1) ∨ ∃ n fr : Nat, n < 96 ∧ x.toInt = n ∧ fr < 256 ∧ fr / 32 = s ∧ r ≤ fr % 32 ∧ v (786 + 16 * n + 0) = 1 ∧ (v (786 + 16 * n + 1)).toInt = fr ∧ v (18 + 3 * fr) = 3 ∧ (v (18 + 3 * fr + 1)).toInt = ((n + 1 : Nat) : Int) ∧ ∀ f, f < fr → f / 32 = s → r ≤ f % 32 → wt v f ≠ 1
theorem wt_1 {v : Nat → Int32} {f n : Nat} (h3 : v (18 + 3 * f) = 3) (h1 : (v (18 + 3 * f + 1)).toInt = ((n + 1 : Nat) : Int)) (hn : n < 96) : wt v f = if (v (786 + 16 * n + 1)).toInt = f then 1 else 2 := by
  unfold wt
  rw [if_pos h3, t_nat (t_m1 h1 (by omega))]
theorem fst_un {v : Nat → Int32} {s r : Nat} {x y : Int32} (a : fst v s r x) (b : fst v s r y) : x = y := by
  have w1 : ∀ {n fr : Nat}, n < 96 → (v (786 + 16 * n + 1)).toInt = fr → v (18 + 3 * fr) = 3 → (v (18 + 3 * fr + 1)).toInt = ((n + 1 : Nat) : Int) → wt v fr = 1 := fun a1 a2 a3 a4 => by rw [wt_1 a3 a4 a1, if_pos a2]
  rcases a with ⟨a1, a2⟩ | ⟨n, fr, n1, n2, n3, n4, n5, n6, n7, n8, n9, n10⟩
  · rcases b with ⟨b1, -⟩ | ⟨m, gr, m1, m2, m3, m4, m5, m6, m7, m8, m9, -⟩
    · rw [a1, b1]
    · exact absurd (w1 m1 m7 m8 m9) (a2 gr m3 m4 m5)
  · rcases b with ⟨-, b2⟩ | ⟨m, gr, m1, m2, m3, m4, m5, m6, m7, m8, m9, m10⟩
    · exact absurd (w1 n1 n7 n8 n9) (b2 fr n3 n4 n5)
    · have e : fr = gr := by
        have c1 : ¬ fr < gr := fun z => m10 fr z n4 n5 (w1 n1 n7 n8 n9)
        have c2 : ¬ gr < fr := fun z => n10 gr z m4 m5 (w1 m1 m7 m8 m9)
        omega
      subst e
      have : n = m := by omega
      subst this
      exact t_inj (by rw [n2, m2])
theorem l_first2 {a1 a2 : Int32} {s r : Nat} (h1 : a1.toInt = s) (hs : s < 8) (σ : sm_S) (ow : own (σ 1)) : ∀ (d k : Nat) (a3 : Int32) (v4 v5 : Value), a3.toInt = k → k + d = 32 → r ≤ k → (∀ f, f < 32 * s + k → f / 32 = s → r ≤ f % 32 → wt (σ 1) f ≠ 1) → xE xM m_M_firstBlock 2 [.ref 0, .int a1, .int a2, .int a3, v4, v5] [] σ (sm_I (fun x σ' => fst (σ 1) s r x ∧ σ' = σ)) := by
  intro d
  induction d with
  | zero =>
    intro k a3 v4 v5 h3 hk hr hb
    refine w_M_firstBlock_2 a1 a2 a3 v4 v5 σ _ ⟨fun _ => ⟨_, rfl, Or.inl ⟨rfl, fun f f1 f2 f3 => hb f (by omega) f2 f3⟩, rfl⟩, fun q => absurd ?_ q⟩
    rw [t_le, h3]
    show (32 : Int) ≤ _
    omega
  | succ d ih =>
    intro k a3 v4 v5 h3 hk hr hb
    have h3' : (a3 + 1).toInt = ((k + 1 : Nat) : Int) := by
      rw [t_add h3 (y := 1) rfl (by omega) (by omega)]
      omega
    have hf : (32 * a1 + a3).toInt = ((32 * s + k : Nat) : Int) := by
      have e := t_ix (c := 0) (m := 32) (C := 0) (M := 32) (k := a3) (j := k) rfl rfl h1 h3 (by omega)
      rw [Int32.zero_add] at e
      rw [e]
      omega
    have nxt : wt (σ 1) (32 * s + k) ≠ 1 → ∀ f, f < 32 * s + (k + 1) → f / 32 = s → r ≤ f % 32 → wt (σ 1) f ≠ 1 := fun z f f1 f2 f3 => by
      by_cases e : f = 32 * s + k
      · rw [e]; exact z
      · exact hb f (by omega) f2 f3
    obtain ⟨p1, q1⟩ := ixF (k := 1) (j := 1) hf rfl (by omega)
    refine w_M_firstBlock_2 a1 a2 a3 v4 v5 σ _ ⟨fun q => ?_, fun _ => (c_frameAt _ σ).int ?_⟩
    · rw [t_le, h3] at q
      have q : (32 : Int) ≤ k := q
      omega
    · rintro _ σ ⟨rfl, rfl⟩
      refine ⟨p1, (c_stateOf hf (by omega) σ).int ?_⟩
      rintro y σ2 ⟨ey, es⟩
      rw [ey, es, q1]
      refine ⟨fun z => ih (k + 1) _ _ _ h3' (by omega) (by omega) (nxt (by rw [wt_0 z]; decide)), fun z => ?_⟩
      have z := Classical.not_not.mp z
      obtain ⟨b, fr, o, p1, p2, p3, p4, p5, p6⟩ := ow.tk (32 * s + k) (by omega) z
      have hb1 := t_m1 p2 (by omega)
      refine (c_frameOf hb1 p1 σ).int ?_
      rintro y2 σ3 ⟨ey2, es2⟩
      rw [ey2, es2]
      refine ⟨fun w => ih (k + 1) _ _ _ h3' (by omega) (by omega) (nxt ?_), fun w => ?_⟩
      · rw [wt_1 z p2 p1, if_neg (fun y => w (t_inj (by rw [y, hf])))]
        decide
      · have w := congrArg Int32.toInt (Classical.not_not.mp w)
        rw [hf] at w
        exact ⟨_, rfl, Or.inr ⟨b, 32 * s + k, p1, hb1, by omega, by omega, by omega, p3, w, z, p2, hb⟩, rfl⟩
theorem l_from2 {a1 a2 : Int32} {s r : Nat} {v : Nat → Int32} (h1 : a1.toInt = s) (hs : s < 8) (σ : sm_S) (h : sim0 σ v) : ∀ (d k : Nat) (a3 : Int32) (v4 : Value), a3.toInt = ((32 * s + k : Nat) : Int) → k + d = 32 → r ≤ k → (∀ f, f < 32 * s + k → f / 32 = s → r ≤ f % 32 → wt v f ≠ 1) → xE xD m_G_blockFrom 7 [.ref 41, .int a1, .int a2, .int a3, v4] [] σ (sm_I (fun x σ' => fst v s r x ∧ σ' = σ)) := by
  have h32 : ((a1 + 1) * 32).toInt = ((32 * s + 32 : Nat) : Int) := by
    rw [t_mul (t_add h1 (y := 1) rfl (by omega) (by omega)) (y := 32) rfl (by omega) (by omega)]
    omega
  intro d
  induction d with
  | zero =>
    intro k a3 v4 h3 hk hr hb
    refine d_G_blockFrom_7 a1 a2 a3 v4 σ _ ⟨fun _ => ⟨_, rfl, Or.inl ⟨rfl, fun f f1 f2 f3 => hb f (by omega) f2 f3⟩, rfl⟩, fun q => absurd ?_ q⟩
    rw [t_le, h3, h32]
    omega
  | succ d ih =>
    intro k a3 v4 h3 hk hr hb
    have h3' : (a3 + 1).toInt = ((32 * s + (k + 1) : Nat) : Int) := by
      rw [t_add h3 (y := 1) rfl (by omega) (by omega)]
      omega
    have nxt : wt v (32 * s + k) ≠ 1 → ∀ f, f < 32 * s + (k + 1) → f / 32 = s → r ≤ f % 32 → wt v f ≠ 1 := fun z f f1 f2 f3 => by
      by_cases e : f = 32 * s + k
      · rw [e]; exact z
      · exact hb f (by omega) f2 f3
    have gF := h.F (32 * s + k) (by omega)
    refine d_G_blockFrom_7 a1 a2 a3 v4 σ _ ⟨fun q => ?_, fun _ => ?_⟩
    · rw [t_le, h3, h32] at q
      omega
    · rw [t_nat h3]
      refine ⟨t_vp h3 (by omega), fun z => ih (k + 1) _ _ h3' (by omega) (by omega) (nxt ?_), fun z => ?_⟩
      · have e := gF.blk
        rw [z] at e
        have e : v (18 + 3 * (32 * s + k) + 1) = 0 := e
        by_cases q : v (18 + 3 * (32 * s + k)) = 3
        · obtain ⟨b, _, _, p1, p2, -⟩ := h.O.tk _ (by omega) q
          rw [e] at p2
          have p2 : (0 : Int) = _ := p2
          omega
        · rw [wt_0 q]; decide
      · have s34 : v (18 + 3 * (32 * s + k)) = 3 ∨ v (18 + 3 * (32 * s + k)) = 4 := by
          refine Classical.byContradiction (fun q => z ?_)
          have e := h.O.no (32 * s + k) (by omega) (fun y => q (Or.inl y)) (fun y => q (Or.inr y))
          rw [gF.blk] at e
          have e2 : σ 6 (32 * s + k) = (σ 6 (32 * s + k) + 1) - 1 := by rw [Int32.add_sub_cancel]
          rw [e2, e]
          rfl
        have bb : ∃ b : Nat, b < 96 ∧ (v (18 + 3 * (32 * s + k) + 1)).toInt = ((b + 1 : Nat) : Int) ∧ v (786 + 16 * b + 0) = 1 ∧ (v (18 + 3 * (32 * s + k)) ≠ 3 → (v (786 + 16 * b + 1)).toInt ≠ ((32 * s + k : Nat) : Int)) := by
          rcases s34 with q | q
          · obtain ⟨b, _, _, p1, p2, p3, -⟩ := h.O.tk _ (by omega) q
            exact ⟨b, p1, p2, p3, fun y => absurd q y⟩
          · obtain ⟨b, t, o, p1, p2, p3, p4, p5, p6⟩ := h.O.hl _ (by omega) q
            refine ⟨b, p1, p2, p3, fun _ y => ?_⟩
            have := (h.O.hs b (32 * s + k) o p1 p3 y p5 0 (Nat.two_pow_pos o)).1
            rw [Nat.add_zero, q] at this
            exact absurd this (by decide)
        obtain ⟨b, p1, p2, p3, p4⟩ := bb
        have c6 : (σ 6 (32 * s + k)).toInt = b := m1_add (by rw [← gF.blk]; exact p2) (by omega)
        obtain ⟨gb, -⟩ := (h.B b p1).al p3
        rw [t_nat c6, ← gb.fir]
        refine ⟨t_vp c6 p1, fun w => ih (k + 1) _ _ h3' (by omega) (by omega) (nxt ?_), fun w => ?_⟩
        · by_cases q : v (18 + 3 * (32 * s + k)) = 3
          · rw [wt_1 q p2 p1, if_neg (fun y => w (t_inj (by rw [y, h3])))]
            decide
          · rw [wt_0 q]; decide
        · have w := congrArg Int32.toInt (Classical.not_not.mp w)
          rw [h3] at w
          have q : v (18 + 3 * (32 * s + k)) = 3 := Classical.byContradiction (fun q => p4 q w)
          exact ⟨_, rfl, Or.inr ⟨b, 32 * s + k, p1, c6, by omega, by omega, by omega, p3, w, q, p2, hb⟩, rfl⟩
/-- blockFrom | firstBlock -/
theorem p_first {c : sm_S} {v : Nat → Int32} {a1 a2 : Int32} {s r : Nat} (h : sim0 c v) (h1 : a1.toInt = s) (hs : s < 8) (h2 : a2.toInt = r) (hr : r ≤ 32) : ∃ x : Int32, rdI j_M_firstBlock [.ref 0, .int a1, .int a2] v x v ∧ xC xD j_G_blockFrom [.ref 41, .int a1, .int a2] c (sm_I (fun y σ' => y = x ∧ σ' = c)) ∧ fst v s r x := by
  have h3 : (a1 * 32 + a2).toInt = ((32 * s + r : Nat) : Int) := by
    rw [t_add (t_mul h1 (y := 32) rfl (by omega) (by omega)) h2 (by omega) (by omega)]
    omega
  obtain ⟨x, hx, rx⟩ := pick (d_G_blockFrom a1 a2 c _ (l_from2 (a2 := a2) (r := r) h1 hs c h (32 - r) r (a1 * 32 + a2) .null h3 (by omega) (Nat.le_refl r) (fun f f1 f2 f3 => by omega)))
  refine ⟨x, fun σ e => ?_, rx, hx⟩
  refine (w_M_firstBlock a1 a2 σ _ (l_first2 (a2 := a2) (r := r) h1 hs σ (by rw [e]; exact h.O) (32 - r) r a2 .null .null h2 (by omega) (Nat.le_refl r) (fun f f1 f2 f3 => by omega))).mono ?_
  rintro r σ' ⟨y, rfl, hy, rfl⟩
  rw [e] at hy
  exact ⟨y, rfl, fst_un hy hx, by rw [← e, s_id]⟩
/-- a cache is dropped -/
theorem p_drop {g : Prop} {N n : Nat} {c : sm_S} {v : Nat → Int32} {a1 : Int32} (h : tie g N c v) (hj : jj N v) (hx : jx v) (hN : N < 2000000000) (h1 : a1.toInt = n) (hn : n < 96) (h0 : v (786 + 16 * n + 0) = 1) (h6 : v (786 + 16 * n + 6) = 0) : ∃ v' c1 c', rd j_M_drops [.ref 0, .int a1] v v' ∧ xC xD j_Y_noteDrop [.ref 0, .int a1] c (sm_V (fun σ' => σ' = c1)) ∧ xC xD j_Y_remove [.ref 0, .int a1] c1 (sm_V (fun σ' => σ' = c')) ∧ tie g (N + 1) c' v' ∧ jj (N + 1) v' ∧ jx v' ∧ (∀ i, 2322 ≤ i → i < 2422 → v' i = v i) ∧ v' (786 + 16 * n + 0) = 0 ∧ (∀ i, 786 ≤ i → i < 2322 → i ≠ 786 + 16 * n + 0 → v' i = v i) ∧ (∀ f, f < 256 → wt v' f ≤ wt v f) ∧ ∃ fr : Nat, (v (786 + 16 * n + 1)).toInt = fr ∧ fr < 256 ∧ wt v' fr < wt v fr := by
  obtain ⟨o, fr, b1, b2, b3, b4, b5, -⟩ := hj.2.1.1 n hn
  have hle := al_le b2 b4 b5
  have hp := t_pw (k := o) (by omega)
  obtain ⟨gb, gb9⟩ := (h.s.B n hn).al h0
  have c9 : (c 9 n).toInt = fr := by rw [← gb.fir]; exact b3
  have c10 : (c 10 n).toInt = o := by rw [← gb.ord]; exact b1
  obtain ⟨p, hpp, hp4⟩ := hj.pt (s := fr / 32) (by omega)
  have hpc : (c 20 (fr / 32)).toInt = p := by rw [← (h.s.S (fr / 32) (by omega)).par]; exact hpp
  obtain ⟨nl, hnl, h5l, t1⟩ := h.log hN 6 a1 (v (786 + 16 * n + 1))
  have t2 := t1.cnt (k := 5) (by decide) 1
  have eC : sm_set (laC c nl (c 0 7) 6 a1 (v (786 + 16 * n + 1))) 40 (upd (laC c nl (c 0 7) 6 a1 (v (786 + 16 * n + 1)) 40) 5 (laC c nl (c 0 7) 6 a1 (v (786 + 16 * n + 1)) 40 5 + 1)) = laC (sm_set c 40 (upd (c 40) 5 (c 40 5 + 1))) nl (c 0 7) 6 a1 (c 9 n) := by
    rw [laC_s (by omega), gb.fir]
    rfl
  rw [eC] at t2
  have e2 : ∀ i, 786 ≤ i → i < 2422 → cnF (wrF v N 6 a1 (v (786 + 16 * n + 1))) 5 1 i = v i := fun i i1 i2 => by
    unfold cnF
    rw [u_ne (by omega), wrF_lo i2 (by omega)]
  have e2l : ∀ i, i < 786 → i ≠ 5 → i ≠ 12 → cnF (wrF v N 6 a1 (v (786 + 16 * n + 1))) 5 1 i = v i := fun i i1 i2 i3 => by
    unfold cnF
    rw [u_ne (by omega), wrF_lo (by omega) i2]
  have c9' : (laC (sm_set c 40 (upd (c 40) 5 (c 40 5 + 1))) nl (c 0 7) 6 a1 (c 9 n) 9 n).toInt = fr := c9
  have c10' : (laC (sm_set c 40 (upd (c 40) 5 (c 40 5 + 1))) nl (c 0 7) 6 a1 (c 9 n) 10 n).toInt = o := c10
  have c20' : (laC (sm_set c 40 (upd (c 40) 5 (c 40 5 + 1))) nl (c 0 7) 6 a1 (c 9 n) 20 (fr / 32)).toInt = p := hpc
  obtain ⟨M0, hM0, nf, r, σ', rrun, hr, sb, hsb, eσ⟩ := e_remove2 h1 hn b2 hle _ c9' c10' c20' hp4
  have s3 := sim_goes (sb := sb) (p := p) t2.s t2.b hn (by rw [e2 _ (by omega) (by omega)]; exact h0) (by rw [e2 _ (by omega) (by omega)]; exact h6) (by rw [e2 _ (by omega) (by omega)]; exact b3) (by rw [e2 _ (by omega) (by omega)]; exact b1) b2 b4 b5 (by rw [e2 _ (by omega) (by omega)]; exact hpp) hsb
  have run : rd j_M_drops [.ref 0, .int a1] v (upd (lvF (cnF (wrF v N 6 a1 (v (786 + 16 * n + 1))) 5 1) fr (2 ^ o)) (786 + 16 * n + 0) 0) := fun σ e => by
    rw [← e]
    exact c_drops2 h1 hn b2 hle σ (by rw [e]; exact h.n) (by rw [e]; exact b1) (by rw [e]; exact b3)
  obtain ⟨w, fr', ew, jw, -, k3, k4, -⟩ := run.det (c_drops (N := N) h1 hn (by omega) (rz v) (by rw [rz_at]; exact hj) (by rw [rz_at]; exact h6))
  rw [rz_eq ew] at jw k3 k4
  rw [rz_at] at k4
  have vo : ∀ i, i < 18 → i ≠ 5 → i ≠ 12 → upd (lvF (cnF (wrF v N 6 a1 (v (786 + 16 * n + 1))) 5 1) fr (2 ^ o)) (786 + 16 * n + 0) 0 i = v i := fun i i1 i2 i3 => by
    rw [u_ne (by omega), lvF_out (by omega), e2l i (by omega) i2 i3]
  have own3 := h.s.O.hs n fr o hn h0 b3 b1
  have wz : ∀ f, fr ≤ f → f < fr + 2 ^ o → wt (upd (lvF (cnF (wrF v N 6 a1 (v (786 + 16 * n + 1))) 5 1) fr (2 ^ o)) (786 + 16 * n + 0) 0) f = 0 := fun f f1 f2 => by
    refine wt_0 ?_
    rw [u_ne (by omega), (lvF_in f1 f2).1]
    rcases shV_12 (cnF (wrF v N 6 a1 (v (786 + 16 * n + 1))) 5 1) f with q | q <;> rw [q] <;> decide
  refine ⟨_, _, _, run, e_noteDrop2 h1 hn c h5l hnl, ⟨M0, hM0, nf, r, σ', rrun, hr, eσ⟩, ?_, jw, ?_, fun i i1 i2 => k4 i (by omega) i2 (by omega), k3, fun i i1 i2 i3 => k4 i i1 (by omega) i3, fun f hf => ?_, fr, b3, b4, ?_⟩
  · refine t2.to s3 (fun k k1 k2 => ?_) ?_ (fun i hi => ?_) jw.2.1.1
    · rw [s_ne (by omega), lgC_o (by omega)]
    · rw [u_ne (by omega), lvF_out (by omega)]
    · rw [u_ne (by omega), lvF_out (by omega)]
  · refine hx.re (n := n) (fun b k q1 q2 q3 => k4 _ (by omega) (by omega) (by omega)) (fun z => ?_) (fun z => ?_) (fun s' hs' z => ?_) (vo 0 (by omega) (by omega) (by omega)) (fun i i1 i2 => vo i (by omega) (by omega) (by omega))
    · rw [k3] at z
      exact absurd z (by decide)
    · rw [k3] at z
      exact absurd z (by decide)
    · exact ⟨fun y => z ((k4 (2358 + 8 * s' + 0) (by omega) (by omega) (by omega)).trans y), k4 (2358 + 8 * s' + 1) (by omega) (by omega) (by omega)⟩
  · by_cases z : fr ≤ f ∧ f < fr + 2 ^ o
    · rw [wz f z.1 z.2]
      exact Nat.zero_le _
    · refine Nat.le_of_eq (wt_cg ?_ ?_ (fun b y1 y2 y3 => k4 _ (by omega) (by omega) (by omega)) h.s.O hf)
      · rw [u_ne (by omega), lvF_out (by omega), e2l _ (by omega) (by omega) (by omega)]
      · rw [u_ne (by omega), lvF_out (by omega), e2l _ (by omega) (by omega) (by omega)]
  · have o0 := own3 0 (by omega)
    rw [Nat.add_zero] at o0
    rw [wz fr (by omega) (by omega), wt_1 o0.1 o0.2 hn, if_pos b3]
    decide
end
section
/-! ===== the simulation: a block is looked at ===== -/
def sumN (F : Nat → Nat) : Nat → Nat
  | 0 => 0
  | n + 1 => sumN F n + F n
theorem sumN_le {F G : Nat → Nat} : ∀ {n : Nat}, (∀ i, i < n → F i ≤ G i) → sumN F n ≤ sumN G n
  | 0, _ => Nat.le_refl 0
  | n + 1, h => Nat.add_le_add (sumN_le (fun i hi => h i (by omega))) (h n (by omega))
theorem sumN_lt {F G : Nat → Nat} {j : Nat} (hj : F j < G j) : ∀ {n : Nat}, j < n → (∀ i, i < n → F i ≤ G i) → sumN F n < sumN G n
  | 0, h, _ => absurd h (Nat.not_lt_zero j)
  | n + 1, h, k => by
    show sumN F n + F n < sumN G n + G n
    by_cases e : j = n
    · subst e
      have := sumN_le (F := F) (G := G) (n := j) (fun i hi => k i (by omega))
      omega
    · have := sumN_lt hj (n := n) (by omega) (fun i hi => k i (by omega))
      have := k n (by omega)
      omega
/-- how much is before a pass -/
def phi (v : Nat → Int32) (s r : Nat) : Nat := sumN (fun i => if r ≤ i then wt v (32 * s + i) else 0) 32
theorem wt_le2 (v : Nat → Int32) (f : Nat) : wt v f ≤ 2 := by
  unfold wt
  split
  · split <;> omega
  · omega
theorem sumN_bd {F : Nat → Nat} {K : Nat} : ∀ {n : Nat}, (∀ i, F i ≤ K) → sumN F n ≤ K * n
  | 0, _ => Nat.zero_le _
  | n + 1, h => by
    have := sumN_bd (n := n) h
    have := h n
    show sumN F n + F n ≤ K * (n + 1)
    rw [Nat.mul_succ]
    omega
theorem phi_le (v : Nat → Int32) (s r : Nat) : phi v s r ≤ 64 := sumN_bd (K := 2) (n := 32) (fun i => by
  split
  · exact wt_le2 _ _
  · omega)
theorem phi_mono {v v' : Nat → Int32} {s r r' : Nat} (h : ∀ f, f < 256 → f / 32 = s → wt v' f ≤ wt v f) (hs : s < 8) (hr : r ≤ r') : phi v' s r' ≤ phi v s r := sumN_le (fun i hi => by
  by_cases q : r' ≤ i
  · rw [if_pos q, if_pos (by omega)]
    exact h _ (by omega) (by omega)
  · rw [if_neg q]
    exact Nat.zero_le _)
theorem phi_lt {v v' : Nat → Int32} {s r r' f : Nat} (h : ∀ f, f < 256 → f / 32 = s → wt v' f ≤ wt v f) (hs : s < 8) (hr : r ≤ r') (hf : f < 256) (hfs : f / 32 = s) (hfr : r ≤ f % 32) (hl : wt v' f < wt v f ∨ (f % 32 < r' ∧ 0 < wt v f)) : phi v' s r' < phi v s r := by
  refine sumN_lt (j := f % 32) ?_ (Nat.mod_lt _ (by decide)) (fun i hi => ?_)
  · show (if r' ≤ f % 32 then wt v' (32 * s + f % 32) else 0) < (if r ≤ f % 32 then wt v (32 * s + f % 32) else 0)
    rw [if_pos hfr, show 32 * s + f % 32 = f by omega]
    rcases hl with hl | ⟨l1, l2⟩
    · split
      · exact hl
      · omega
    · rw [if_neg (by omega)]
      exact l2
  · show (if r' ≤ i then wt v' (32 * s + i) else 0) ≤ (if r ≤ i then wt v (32 * s + i) else 0)
    by_cases q : r' ≤ i
    · rw [if_pos q, if_pos (by omega)]
      exact h _ (by omega) (by omega)
    · rw [if_neg q]
      exact Nat.zero_le _
theorem r_pass {a1 a2 : Int32} {s n o fr : Nat} {v : Nat → Int32} (h1 : a1.toInt = s) (hs : s < 8) (h2 : a2.toInt = n) (hn : n < 96) (ho : (v (786 + 16 * n + 2)).toInt = o) (ho4 : o ≤ 4) (hfr : (v (786 + 16 * n + 1)).toInt = fr) (hal : fr % 2 ^ o = 0) : rd j_M_isPassed [.ref 0, .int a1, .int a2] v (upd v (2358 + 8 * s + 5) (nI (fr % 32 + 2 ^ o))) := fun σ e => by
  have hpw := t_pw (k := o) (by omega)
  have ha := t_al (k := o) (by omega) hal
  obtain ⟨p5, q5⟩ := ixS (k := 5) (j := 5) h1 rfl (by omega)
  refine w_M_isPassed a1 a2 σ _ ((c_spanAt a1 σ).int ?_)
  rintro _ σ ⟨rfl, rfl⟩
  refine (c_frameOf h2 hn _).int ?_
  rintro y σ2 ⟨ey, es⟩
  rw [ey, es, e]
  refine ⟨by decide, (c_longOf h2 hn _).int ?_⟩
  rintro y2 σ3 ⟨ey2, es2⟩
  rw [ey2, es2, e, q5]
  refine ⟨p5, fun σ7 e7 => ⟨rfl, ?_⟩⟩
  have hy : (v (786 + 16 * n + 1) - v (786 + 16 * n + 1) / (32 : Int32) * (32 : Int32) + (1 : Int32) <<< (v (786 + 16 * n + 2) &&& 31)).toInt = ((fr % 32 + 2 ^ o : Nat) : Int) := by
    rw [t_add (t_rem (d := 32) hfr rfl (by decide)) (t_pow ho (by omega)) (by omega) (by omega)]
    omega
  rw [e7, t_nI hy]
def lkA (a1 a2 x : Int32) (s : Nat) (v v' : Nat → Int32) : Prop := ∀ x', rdI j_M_firstBlock [.ref 0, .int a1, .int (v' (2358 + 8 * s + 5))] v' x' v' → ∀ (σ : sm_S) (v4 v5 : Value) (Q : Option Value → sm_S → Prop), σ 1 = v → (∀ u4 u5, xE xM m_M_looks 20 [.ref 0, .int a1, .int a2, .int x', u4, u5] [] (sm_set σ 1 v') Q) → xE xM m_M_looks 20 [.ref 0, .int a1, .int a2, .int x, v4, v5] [] σ Q
def lkB (a1 a2 x : Int32) (v v' : Nat → Int32) : Prop := ∀ (σ : sm_S) (v4 v5 : Value) (Q : Option Value → sm_S → Prop), σ 1 = v → Q (some (.int 1)) (sm_set σ 1 v') → xE xM m_M_looks 20 [.ref 0, .int a1, .int a2, .int x, v4, v5] [] σ Q
theorem ix5 {a2 : Int32} {s : Nat} (h2 : a2.toInt = ((2358 + 8 * s : Nat) : Int)) (hs : s < 8) {k : Int32} {j : Nat} (hk : k.toInt = j) (hj : j < 8) : vp_in (a2 + k) 2662 ∧ (a2 + k).toNatClampNeg = 2358 + 8 * s + j := by
  have e : (a2 + k).toInt = ((2358 + 8 * s + j : Nat) : Int) := by
    rw [t_add h2 hk (by omega) (by omega)]
    omega
  exact ⟨t_vp e (by omega), t_nat e⟩
/-- after a step of a pass the next block is found -/
theorem lk_next {a1 a2 x' : Int32} {s : Nat} {v' : Nat → Int32} {Q : Option Value → sm_S → Prop} (h2 : a2.toInt = ((2358 + 8 * s : Nat) : Int)) (hs : s < 8) (hx' : rdI j_M_firstBlock [.ref 0, .int a1, .int (v' (2358 + 8 * s + 5))] v' x' v') (σ : sm_S) (e : σ 1 = v') (v4 v5 : Value) (k : ∀ u4 u5, xE xM m_M_looks 20 [.ref 0, .int a1, .int a2, .int x', u4, u5] [] σ Q) : vp_in (a2 + 5) 2662 ∧ xC xM j_M_firstBlock [.ref 0, .int a1, .int (σ 1 (a2 + 5).toNatClampNeg)] σ (sm_ri False (fun x5 σ4 => xE xM m_M_looks 20 [.ref 0, .int a1, .int a2, .int x5, v4, v5] [] σ4 Q)) := by
  obtain ⟨p, q⟩ := ix5 h2 hs (k := 5) (j := 5) rfl (by decide)
  refine ⟨p, ?_⟩
  rw [q, e]
  refine (hx' σ e).int ?_
  rintro y σ4 ⟨ey, es⟩
  rw [ey, es, ← e, s_id]
  exact k v4 v5
theorem l_hold2 {a1 a2 a3 a4 : Int32} {s n o to fr : Nat} {w : Nat → Int32} {Q : Option Value → sm_S → Prop} (h1 : a1.toInt = s) (hs : s < 8) (h2 : a2.toInt = ((2358 + 8 * s : Nat) : Int)) (h3 : a3.toInt = n) (hn : n < 96) (h4 : a4.toInt = to) (ho : o ≤ 4) (hle : to + 2 ^ o ≤ 256) (ho2 : (w (786 + 16 * n + 2)).toInt = o) (hf2 : (w (786 + 16 * n + 1)).toInt = fr) (hal : fr % 2 ^ o = 0) : ∀ (d k : Nat) (a5 : Int32) (σ : sm_S), σ 1 = hsF w to k 4 (a3 + 1) → a5.toInt = k → k + d = 2 ^ o → Q (some (.int 1)) (sm_set σ 1 (upd (upd (hsF w to (2 ^ o) 4 (a3 + 1)) (2358 + 8 * s + 6) (a3 + 1)) (2358 + 8 * s + 5) (nI (fr % 32 + 2 ^ o)))) → xE xM m_M_looks 123 [.ref 0, .int a1, .int a2, .int a3, .int a4, .int a5] [] σ Q := by
  have hp := t_pw (k := o) (by omega)
  obtain ⟨p6, q6⟩ := ix5 h2 hs (k := 6) (j := 6) rfl (by decide)
  intro d
  induction d with
  | zero =>
    intro k a5 σ hσ h5 hk hQ
    have hk : k = 2 ^ o := by omega
    subst hk
    refine w_M_looks_123 a1 a2 a3 a4 a5 _ _ ((c_longOf h3 hn _).int ?_)
    rintro y σ1 ⟨ey, es⟩
    rw [ey, es, hσ, hsF_out (by omega)]
    refine ⟨fun _ => ⟨p6, fun σ3 e3 => ?_⟩, fun h => absurd ?_ h⟩
    · rw [q6] at e3
      have e31 : σ3 1 = upd (hsF w to (2 ^ o) 4 (a3 + 1)) (2358 + 8 * s + 6) (a3 + 1) := by rw [e3, s_at]
      refine (r_pass h1 hs h3 hn (o := o) (fr := fr) (by rw [u_ne (by omega), hsF_out (by omega)]; exact ho2) ho (by rw [u_ne (by omega), hsF_out (by omega)]; exact hf2) hal σ3 e31).void ?_
      rintro _ rfl
      refine ⟨Or.inr rfl, ?_⟩
      rw [e3, s_ss]
      exact hQ
    · rw [t_le, t_pow ho2 (by omega), h5]
      omega
  | succ d ih =>
    intro k a5 σ hσ h5 hk hQ
    refine w_M_looks_123 a1 a2 a3 a4 a5 _ _ ((c_longOf h3 hn _).int ?_)
    rintro y σ1 ⟨ey, es⟩
    rw [ey, es, hσ, hsF_out (by omega)]
    have h5' : (a5 + 1).toInt = ((k + 1 : Nat) : Int) := by
      rw [t_add h5 (y := 1) rfl (by omega) (by omega)]
      omega
    have hf3 := t_add h4 h5 (by omega) (by omega)
    rw [← Int.natCast_add] at hf3
    refine ⟨fun h => ?_, fun _ => (c_has hf3 (by omega) a3 4 _).void ?_⟩
    · rw [t_le, t_pow ho2 (by omega), h5] at h
      omega
    · rintro _ rfl
      rw [hσ, ← hsF_s]
      refine ih (k + 1) (a5 + 1) _ s_at h5' (by omega) ?_
      rw [s_ss]
      exact hQ
theorem p_look {g : Prop} {N s n r : Nat} {c : sm_S} {v : Nat → Int32} {a1 a2 x : Int32} (h : tie g N c v) (hj : jj N v) (hx : jx v) (hN : N + 1 < 2000000000) (h1 : a1.toInt = s) (hs : s < 8) (h2 : a2.toInt = ((2358 + 8 * s : Nat) : Int)) (hst : v (2358 + 8 * s + 0) = 3) (hS : v (2358 + 8 * s + 6) = 0) (hr : (v (2358 + 8 * s + 5)).toInt = r) (hn : n < 96) (hxn : x.toInt = n) (hf : fst v s r x) : ∃ v' c' N' r', xC xD j_G_lookAt [.ref 41, .int a1, .int x] c (sm_V (fun σ' => σ' = c')) ∧ tie g N' c' v' ∧ jj N' v' ∧ jx v' ∧ N ≤ N' ∧ N' ≤ N + 1 ∧ (∀ i, 2358 ≤ i → i < 2422 → i ≠ 2358 + 8 * s + 5 → i ≠ 2358 + 8 * s + 6 → v' i = v i) ∧ (v' (2358 + 8 * s + 5)).toInt = ((r' : Nat) : Int) ∧ r' ≤ 32 ∧ phi v' s r' < phi v s r ∧ ((v' (2358 + 8 * s + 6) = 0 ∧ lkA a1 a2 x s v v') ∨ ((v' (2358 + 8 * s + 6)).toInt = ((n + 1 : Nat) : Int) ∧ lkB a1 a2 x v v')) := by
  have xm : x ≠ -1 := ne_m1 hxn
  rcases hf with ⟨z, -⟩ | ⟨n', fr, -, y2, hfr, hfs, hrf, h0, e1, f3, fb, -⟩
  · exact absurd z xm
  have en : n' = n := by omega
  subst en
  obtain ⟨o, fr', b1, ho, b3, -, hal, ⟨w, b6, b6'⟩, -, -⟩ := hj.2.1.1 n' hn
  have ef : fr' = fr := by omega
  subst ef
  have hle := al_le ho hfr hal
  have hp := t_pw (k := o) (by omega)
  have ha := t_al (k := o) (by omega) hal
  have h6 := to_0 hj.2.1 hn hS b3 hfs
  obtain ⟨gb, gb9⟩ := (h.s.B n' hn).al h0
  have gs := h.s.S s hs
  have c9 : (c 9 n').toInt = fr' := by rw [← gb.fir]; exact b3
  have c10 : (c 10 n').toInt = o := by rw [← gb.ord]; exact b1
  have c18 : c 18 s = 3 := by rw [← gs.sta]; exact hst
  have wfr : wt v fr' = 1 := by rw [wt_1 f3 fb hn, if_pos b3]
  have behind : c 9 n' - c 9 n' / (32 : Int32) * (32 : Int32) + (1 : Int32) <<< (c 10 n' &&& 31) = nI (fr' % 32 + 2 ^ o) := t_nI (by
    rw [t_add (t_rem (d := 32) c9 rfl (by decide)) (t_pow c10 (by omega)) (by omega) (by omega)]
    omega)
  -- it is passed
  have pass : ∀ (Pc : Prop), (Pc → xC xD j_G_lookAt [.ref 41, .int a1, .int x] c (sm_V (fun σ' => σ' = sm_set c 23 (upd (c 23) s (nI (fr' % 32 + 2 ^ o)))))) → (Pc → lkA a1 a2 x s v (upd v (2358 + 8 * s + 5) (nI (fr' % 32 + 2 ^ o)))) → Pc → ∃ v' c' N' r', xC xD j_G_lookAt [.ref 41, .int a1, .int x] c (sm_V (fun σ' => σ' = c')) ∧ tie g N' c' v' ∧ jj N' v' ∧ jx v' ∧ N ≤ N' ∧ N' ≤ N + 1 ∧ (∀ i, 2358 ≤ i → i < 2422 → i ≠ 2358 + 8 * s + 5 → i ≠ 2358 + 8 * s + 6 → v' i = v i) ∧ (v' (2358 + 8 * s + 5)).toInt = ((r' : Nat) : Int) ∧ r' ≤ 32 ∧ phi v' s r' < phi v s r ∧ ((v' (2358 + 8 * s + 6) = 0 ∧ lkA a1 a2 x s v v') ∨ ((v' (2358 + 8 * s + 6)).toInt = ((n' + 1 : Nat) : Int) ∧ lkB a1 a2 x v v')) := fun Pc q1 q2 q3 => by
    have iy : (nI (fr' % 32 + 2 ^ o)).toInt = ((fr' % 32 + 2 ^ o : Nat) : Int) := nI_toInt (by omega)
    have jw : jj N (upd v (2358 + 8 * s + 5) (nI (fr' % 32 + 2 ^ o))) := jj_at hs iy (by omega) hj
    have wte : ∀ f, f < 256 → wt (upd v (2358 + 8 * s + 5) (nI (fr' % 32 + 2 ^ o))) f = wt v f := fun f hf => wt_cg (u_ne (by omega)) (u_ne (by omega)) (fun b _ _ _ => u_ne (by omega)) h.s.O hf
    refine ⟨_, _, N, fr' % 32 + 2 ^ o, q1 q3, h.to (sim_rea _ h.s h.b hs) (fun k k1 k2 => s_ne (by omega)) (u_ne (by omega)) (fun i hi => u_ne (by omega)) jw.2.1.1, jw, hx.cg (fun b k _ _ => u_ne (by omega)) (fun s' hs' z => ⟨fun y => z (by rw [u_ne (by omega)]; exact y), u_ne (by omega)⟩) (u_ne (by omega)) (fun i i1 i2 => u_ne (by omega)), Nat.le_refl _, by omega, fun i i1 i2 i3 i4 => u_ne i3, by rw [u_at]; exact iy, by omega, ?_, Or.inl ⟨by rw [u_ne (by omega)]; exact hS, q2 q3⟩⟩
    exact phi_lt (f := fr') (fun f hf _ => Nat.le_of_eq (wte f hf)) hs (by omega) hfr hfs hrf (Or.inr ⟨by omega, by rw [wfr]; decide⟩)
  have run3 : ∀ σ : sm_S, σ 1 = v → xC xM j_M_of [.ref 0, .int x, .int 3] σ (sm_I (fun y σ' => y = v (786 + 16 * n' + 3) ∧ σ' = σ)) := fun σ e => by
    have := c_of (k := 3) (j := 3) hxn rfl (by omega) σ
    rw [e] at this
    exact this
  have runP : ∀ σ : sm_S, σ 1 = v → xC xM j_M_isPinned [.ref 0, .int x] σ (sm_I (fun y σ' => ((y = 0 ∧ v (786 + 16 * n' + 5) = 0) ∨ (y = 1 ∧ ¬ v (786 + 16 * n' + 5) = 0)) ∧ σ' = σ)) := fun σ e => by
    have := c_isPinned hxn hn σ
    rw [e] at this
    exact this
  have passR := r_pass (v := v) h1 hs hxn hn b1 ho b3 hal
  -- the start of lookAt
  have startC : ∀ {Q : Option Value → sm_S → Prop}, (vp_in x 96 ∧ (((c 11 n') = 1 → (vp_in a1 8 ∧ ∀ σ3, σ3 = sm_set c 23 (upd (c 23) s (nI (fr' % 32 + 2 ^ o))) → Q none σ3)) ∧ (¬ ((c 11 n') = 1) → (vp_in x 96 ∧ (((c 13 n') = 0 → (vp_in x 96 ∧ (((c 11 n') ≠ 2 → (vp_in x 96 ∧ (vp_in x 96 ∧ xC xD j_Y_bestPlace [.ref 0, .int (c 12 n'), .int (c 11 n'), .int (c 10 n'), .int 1] c (sm_ri False (fun x5 σ4 => ((x5 = (-1) → (((c 10 n') ≤ 0 → ((((-1) : Int32) ≠ (-1) → xC xD j_G_split [.ref 41, .int x, .int (-1)] σ4 (sm_rv False (fun σ6 => Q none σ6))) ∧ (¬ (((-1) : Int32) ≠ (-1)) → (vp_in a1 8 ∧ ∀ σ7, σ7 = sm_set σ4 23 (upd (σ4 23) s (nI (fr' % 32 + 2 ^ o))) → Q none σ7)))) ∧ (¬ ((c 10 n') ≤ 0) → xC xD j_B_leastNumber [.ref 8] σ4 (sm_ri False (fun x9 σ8 => ((x9 ≠ (-1) → xC xD j_G_split [.ref 41, .int x, .int x9] σ8 (sm_rv False (fun σ10 => Q none σ10))) ∧ (¬ (x9 ≠ (-1)) → (vp_in a1 8 ∧ ∀ σ11, σ11 = sm_set σ8 23 (upd (σ8 23) s (nI (fr' % 32 + 2 ^ o))) → Q none σ11)))))))) ∧ (¬ (x5 = (-1)) → (vp_in a1 8 ∧ ∀ σ12, σ12 = sm_set σ4 23 (upd (σ4 23) s (nI (fr' % 32 + 2 ^ o))) → (vp_in a1 8 ∧ ∀ σ13, σ13 = sm_set σ12 24 (upd (σ12 24) s x) → (vp_in x 96 ∧ ∀ σ14, σ14 = sm_set σ13 14 (upd (σ13 14) n' x5) → xC xD j_F_hold [.ref 1, .int x, .int x5, .int ((1 : Int32) <<< (c 10 n' &&& 31))] σ14 (sm_rv False (fun σ15 => Q none σ15)))))))))))) ∧ (¬ ((c 11 n') ≠ 2) → xC xD j_Y_noteDrop [.ref 0, .int x] c (sm_rv False (fun σ16 => xC xD j_Y_remove [.ref 0, .int x] σ16 (sm_rv False (fun σ17 => Q none σ17)))))))) ∧ (¬ ((c 13 n') = 0) → (vp_in a1 8 ∧ ∀ σ18, σ18 = sm_set c 23 (upd (c 23) s (nI (fr' % 32 + 2 ^ o))) → Q none σ18)))))) ) → xC xD j_G_lookAt [.ref 41, .int a1, .int x] c Q := fun {Q} hQ => by
    refine d_G_lookAt a1 x c Q ⟨t_vp hxn hn, t_vp hxn hn, by decide, (c_size hxn hn c).int ?_⟩
    rintro y σ1 ⟨ey, es⟩
    rw [ey, es, t_nat hxn, t_nat h1, behind]
    exact hQ
  have vx := t_vp hxn hn
  have va := t_vp h1 hs
  by_cases k1 : v (786 + 16 * n' + 3) = 1
  · refine pass True (fun _ => startC ⟨vx, fun _ => ⟨va, fun σ3 e3 => ⟨rfl, e3⟩⟩, fun q => absurd (by rw [← gb.kin]; exact k1) q⟩) (fun _ => ?_) trivial
    intro x' hx' σ v4 v5 Q e hQ
    refine w_M_looks_20 a1 a2 x v4 v5 σ Q ⟨fun z => absurd z xm, fun _ => (run3 σ e).int ?_⟩
    rintro y σ1 ⟨ey, es⟩
    rw [ey, es, k1]
    refine ⟨fun _ => (passR σ e).void ?_, fun q => absurd rfl q⟩
    rintro _ rfl
    exact lk_next h2 hs hx' _ s_at v4 v5 hQ
  by_cases kp : ¬ v (786 + 16 * n' + 5) = 0
  · refine pass True (fun _ => startC ⟨vx, fun q => absurd (gb.kin.trans q) k1, fun _ => ⟨vx, fun q => absurd (gb.pin.trans q) kp, fun _ => ⟨va, fun σ3 e3 => ⟨rfl, e3⟩⟩⟩⟩) (fun _ => ?_) trivial
    intro x' hx' σ v4 v5 Q e hQ
    refine w_M_looks_20 a1 a2 x v4 v5 σ Q ⟨fun z => absurd z xm, fun _ => (run3 σ e).int ?_⟩
    rintro y σ1 ⟨ey, es⟩
    rw [ey, es]
    refine ⟨fun q => absurd q k1, fun _ => (runP σ e).int ?_⟩
    rintro y2 σ2 ⟨ey2, es2⟩
    rw [es2]
    refine ⟨fun q => ?_, fun _ => (passR σ e).void ?_⟩
    · rcases ey2 with ⟨-, z⟩ | ⟨z, -⟩
      · exact absurd z kp
      · rw [z] at q; exact absurd q (by decide)
    · rintro _ rfl
      exact lk_next h2 hs hx' _ s_at v4 v5 hQ
  have kp : v (786 + 16 * n' + 5) = 0 := Classical.not_not.mp kp
  -- up to the kind
  have upto : ∀ (σ : sm_S) (v4 v5 : Value) (Q : Option Value → sm_S → Prop), σ 1 = v → xC xM j_M_of [.ref 0, .int x, .int 3] σ (sm_ri False (fun x9 σ8 => ((x9 ≠ 2 → xC xM j_M_of [.ref 0, .int x, .int 4] σ8 (sm_ri False (fun x11 σ10 => xC xM j_M_of [.ref 0, .int x, .int 3] σ10 (sm_ri False (fun x13 σ12 => xC xM j_M_of [.ref 0, .int x, .int 2] σ12 (sm_ri False (fun x15 σ14 => xC xM j_M_bestPlace [.ref 0, .int x11, .int x13, .int x15, .int 1] σ14 (sm_ri False (fun x17 σ16 => ((x17 = (-1) → xC xM j_M_of [.ref 0, .int x, .int 2] σ16 (sm_ri False (fun x19 σ18 => ((x19 ≤ 0 → xC xM j_M_isPassed [.ref 0, .int a1, .int x] σ18 (sm_rv False (fun σ20 => (vp_in (a2 + 5) 2662 ∧ xC xM j_M_firstBlock [.ref 0, .int a1, .int (σ20 1 ((a2 + 5)).toNatClampNeg)] σ20 (sm_ri False (fun x22 σ21 => xE xM m_M_looks 20 [.ref 0, .int a1, .int a2, .int x22, .int x17, v5] [] σ21 Q)))))) ∧ (¬ (x19 ≤ 0) → xC xM j_M_freeNumber [.ref 0] σ18 (sm_ri False (fun x24 σ23 => ((x24 = (-1) → xC xM j_M_isPassed [.ref 0, .int a1, .int x] σ23 (sm_rv False (fun σ25 => (vp_in (a2 + 5) 2662 ∧ xC xM j_M_firstBlock [.ref 0, .int a1, .int (σ25 1 ((a2 + 5)).toNatClampNeg)] σ25 (sm_ri False (fun x27 σ26 => xE xM m_M_looks 20 [.ref 0, .int a1, .int a2, .int x27, .int x17, v5] [] σ26 Q)))))) ∧ (¬ (x24 = (-1)) → xC xM j_M_splits [.ref 0, .int x] σ23 (sm_rv False (fun σ28 => (vp_in (a2 + 5) 2662 ∧ xC xM j_M_firstBlock [.ref 0, .int a1, .int (σ28 1 ((a2 + 5)).toNatClampNeg)] σ28 (sm_ri False (fun x30 σ29 => xE xM m_M_looks 20 [.ref 0, .int a1, .int a2, .int x30, .int x17, v5] [] σ29 Q)))))))))))))) ∧ (¬ (x17 = (-1)) → xC xM j_M_lay [.ref 0, .int x, .int 6, .int (x17 + 1)] σ16 (sm_rv False (fun σ31 => xC xM j_M_lay [.ref 0, .int x, .int 7, .int 0] σ31 (sm_rv False (fun σ32 => xE xM m_M_looks 123 [.ref 0, .int a1, .int a2, .int x, .int x17, .int 0] [] σ32 Q))))))))))))))) ∧ (¬ (x9 ≠ 2) → xC xM j_M_drops [.ref 0, .int x] σ8 (sm_rv False (fun σ33 => (vp_in (a2 + 5) 2662 ∧ xC xM j_M_firstBlock [.ref 0, .int a1, .int (σ33 1 ((a2 + 5)).toNatClampNeg)] σ33 (sm_ri False (fun x35 σ34 => xE xM m_M_looks 20 [.ref 0, .int a1, .int a2, .int x35, v4, v5] [] σ34 Q))))))))) → xE xM m_M_looks 20 [.ref 0, .int a1, .int a2, .int x, v4, v5] [] σ Q := fun σ v4 v5 Q e hQ => by
    refine w_M_looks_20 a1 a2 x v4 v5 σ Q ⟨fun z => absurd z xm, fun _ => (run3 σ e).int ?_⟩
    rintro y σ1 ⟨ey, es⟩
    rw [ey, es]
    refine ⟨fun q => absurd q k1, fun _ => (runP σ e).int ?_⟩
    rintro y2 σ2 ⟨ey2, es2⟩
    rw [es2]
    refine ⟨fun _ => hQ, fun q => ?_⟩
    rcases ey2 with ⟨z, -⟩ | ⟨-, z⟩
    · exact absurd z q
    · exact absurd kp z
  have cp : c 13 n' = 0 := by rw [← gb.pin]; exact kp
  have ck1 : c 11 n' ≠ 1 := fun q => k1 (gb.kin.trans q)
  by_cases k2 : v (786 + 16 * n' + 3) = 2
  · obtain ⟨v', c1, c', rr, rc1, rc2, t', j', x', sp, q0, qB, wle, fr2, f1, f2, wl⟩ := p_drop h hj hx (by omega) hxn hn h0 h6
    have e2 : fr2 = fr' := by omega
    subst e2
    have s5 : v' (2358 + 8 * s + 5) = v (2358 + 8 * s + 5) := sp _ (by omega) (by omega)
    refine ⟨v', c', N + 1, r, startC ⟨vx, fun q => absurd q ck1, fun _ => ⟨vx, fun _ => ⟨vx, fun q => absurd (gb.kin.symm.trans k2) q, fun _ => rc1.void ?_⟩, fun q => absurd cp q⟩⟩, t', j', x', by omega, by omega, fun i i1 i2 _ _ => sp i (by omega) i2, by rw [s5]; exact hr, by omega, phi_lt (f := fr2) (fun f hf _ => wle f hf) hs (Nat.le_refl r) hfr hfs hrf (Or.inl wl), Or.inl ⟨by rw [sp _ (by omega) (by omega)]; exact hS, ?_⟩⟩
    · rintro _ rfl
      refine rc2.void ?_
      rintro _ rfl
      exact ⟨rfl, rfl⟩
    · intro x2 hx2 σ v4 v5 Q e hQ
      refine upto σ v4 v5 Q e ((run3 σ e).int ?_)
      rintro y σ1 ⟨ey, es⟩
      rw [ey, es, k2]
      refine ⟨fun q => absurd rfl q, fun _ => (rr σ e).void ?_⟩
      rintro _ rfl
      exact lk_next h2 hs hx2 _ s_at v4 v5 hQ
  have k0 : v (786 + 16 * n' + 3) = 0 := by
    rcases hx.2.1 n' hn h0 with q | q | q
    · exact q
    · exact absurd q k1
    · exact absurd q k2
  have ck2 : c 11 n' ≠ 2 := fun q => k2 (gb.kin.trans q)
  obtain ⟨y, ry, rcy, hBP⟩ := p_best (a1 := c 12 n') (a2 := c 11 n') (a3 := c 10 n') (a4 := 1) h.s hx (by rw [← gb.own]; exact b6) b6' c10 ho
  -- up to the place
  have upto2 : ∀ (σ : sm_S) (v4 v5 : Value) (Q : Option Value → sm_S → Prop), σ 1 = v → ((y = (-1) → (((c 10 n') ≤ 0 → xC xM j_M_isPassed [.ref 0, .int a1, .int x] σ (sm_rv False (fun σ20 => (vp_in (a2 + 5) 2662 ∧ xC xM j_M_firstBlock [.ref 0, .int a1, .int (σ20 1 ((a2 + 5)).toNatClampNeg)] σ20 (sm_ri False (fun x22 σ21 => xE xM m_M_looks 20 [.ref 0, .int a1, .int a2, .int x22, .int y, v5] [] σ21 Q)))))) ∧ (¬ ((c 10 n') ≤ 0) → xC xM j_M_freeNumber [.ref 0] σ (sm_ri False (fun x24 σ23 => ((x24 = (-1) → xC xM j_M_isPassed [.ref 0, .int a1, .int x] σ23 (sm_rv False (fun σ25 => (vp_in (a2 + 5) 2662 ∧ xC xM j_M_firstBlock [.ref 0, .int a1, .int (σ25 1 ((a2 + 5)).toNatClampNeg)] σ25 (sm_ri False (fun x27 σ26 => xE xM m_M_looks 20 [.ref 0, .int a1, .int a2, .int x27, .int y, v5] [] σ26 Q)))))) ∧ (¬ (x24 = (-1)) → xC xM j_M_splits [.ref 0, .int x] σ23 (sm_rv False (fun σ28 => (vp_in (a2 + 5) 2662 ∧ xC xM j_M_firstBlock [.ref 0, .int a1, .int (σ28 1 ((a2 + 5)).toNatClampNeg)] σ28 (sm_ri False (fun x30 σ29 => xE xM m_M_looks 20 [.ref 0, .int a1, .int a2, .int x30, .int y, v5] [] σ29 Q)))))))))))) ∧ (¬ (y = (-1)) → xC xM j_M_lay [.ref 0, .int x, .int 6, .int (y + 1)] σ (sm_rv False (fun σ31 => xC xM j_M_lay [.ref 0, .int x, .int 7, .int 0] σ31 (sm_rv False (fun σ32 => xE xM m_M_looks 123 [.ref 0, .int a1, .int a2, .int x, .int y, .int 0] [] σ32 Q)))))) → xE xM m_M_looks 20 [.ref 0, .int a1, .int a2, .int x, v4, v5] [] σ Q := fun σ v4 v5 Q e hQ => by
    refine upto σ v4 v5 Q e ((run3 σ e).int ?_)
    rintro y1 σ1 ⟨ey1, es1⟩
    rw [ey1, es1]
    refine ⟨fun _ => (c_of (k := 4) (j := 4) hxn rfl (by omega) σ).int ?_, fun q => absurd k2 q⟩
    rintro y2 σ2 ⟨ey2, es2⟩
    rw [ey2, es2, e, gb.own]
    refine (run3 σ e).int ?_
    rintro y3 σ3 ⟨ey3, es3⟩
    rw [ey3, es3, gb.kin]
    refine (c_of (k := 2) (j := 2) hxn rfl (by omega) σ).int ?_
    rintro y4 σ4 ⟨ey4, es4⟩
    rw [ey4, es4, e, gb.ord]
    refine (ry σ e).int ?_
    rintro y5 σ5 ⟨ey5, es5⟩
    have es5' : σ5 = σ := by rw [es5, ← e, s_id]
    rw [ey5, es5']
    refine ⟨fun z => (c_of (k := 2) (j := 2) hxn rfl (by omega) σ).int ?_, hQ.2⟩
    rintro y6 σ6 ⟨ey6, es6⟩
    rw [ey6, es6, e, gb.ord]
    exact hQ.1 z
  -- up to the place, in the class
  have upC : ∀ {Q : Option Value → sm_S → Prop}, ((y = (-1) → (((c 10 n') ≤ 0 → ((((-1) : Int32) ≠ (-1) → xC xD j_G_split [.ref 41, .int x, .int (-1)] c (sm_rv False (fun σ6 => Q none σ6))) ∧ (¬ (((-1) : Int32) ≠ (-1)) → (vp_in a1 8 ∧ ∀ σ7, σ7 = sm_set c 23 (upd (c 23) s (nI (fr' % 32 + 2 ^ o))) → Q none σ7)))) ∧ (¬ ((c 10 n') ≤ 0) → xC xD j_B_leastNumber [.ref 8] c (sm_ri False (fun x9 σ8 => ((x9 ≠ (-1) → xC xD j_G_split [.ref 41, .int x, .int x9] σ8 (sm_rv False (fun σ10 => Q none σ10))) ∧ (¬ (x9 ≠ (-1)) → (vp_in a1 8 ∧ ∀ σ11, σ11 = sm_set σ8 23 (upd (σ8 23) s (nI (fr' % 32 + 2 ^ o))) → Q none σ11)))))))) ∧ (¬ (y = (-1)) → (vp_in a1 8 ∧ ∀ σ12, σ12 = sm_set c 23 (upd (c 23) s (nI (fr' % 32 + 2 ^ o))) → (vp_in a1 8 ∧ ∀ σ13, σ13 = sm_set σ12 24 (upd (σ12 24) s x) → (vp_in x 96 ∧ ∀ σ14, σ14 = sm_set σ13 14 (upd (σ13 14) n' y) → xC xD j_F_hold [.ref 1, .int x, .int y, .int ((1 : Int32) <<< (c 10 n' &&& 31))] σ14 (sm_rv False (fun σ15 => Q none σ15)))))))  → xC xD j_G_lookAt [.ref 41, .int a1, .int x] c Q := fun {Q} hQ => by
    refine startC ⟨vx, fun q => absurd q ck1, fun _ => ⟨vx, fun _ => ⟨vx, fun _ => ⟨vx, vx, rcy.int ?_⟩, fun q => absurd ck2 q⟩, fun q => absurd cp q⟩⟩
    rintro y1 σ1 ⟨ey1, es1⟩
    rw [ey1, es1]
    exact hQ
  by_cases ym : y = -1
  · by_cases oz : c 10 n' ≤ 0
    · refine pass True (fun _ => upC ⟨fun _ => ⟨fun _ => ⟨fun q => absurd rfl q, fun _ => ⟨va, fun σ3 e3 => ⟨rfl, e3⟩⟩⟩, fun q => absurd oz q⟩, fun q => absurd ym q⟩) (fun _ => ?_) trivial
      intro x2 hx2 σ v4 v5 Q e hQ
      refine upto2 σ v4 v5 Q e ⟨fun _ => ⟨fun _ => (passR σ e).void ?_, fun q => absurd oz q⟩, fun q => absurd ym q⟩
      rintro _ rfl
      exact lk_next h2 hs hx2 _ s_at _ v5 hQ
    · obtain ⟨m, rm, rcm, hm⟩ := p_num h.s
      by_cases mm : m = -1
      · refine pass True (fun _ => upC ⟨fun _ => ⟨fun q => absurd q oz, fun _ => rcm.int ?_⟩, fun q => absurd ym q⟩) (fun _ => ?_) trivial
        · rintro y1 σ1 ⟨ey1, es1⟩
          rw [ey1, es1]
          exact ⟨fun q => absurd mm q, fun _ => ⟨va, fun σ3 e3 => ⟨rfl, e3⟩⟩⟩
        · intro x2 hx2 σ v4 v5 Q e hQ
          refine upto2 σ v4 v5 Q e ⟨fun _ => ⟨fun q => absurd q oz, fun _ => (rm σ e).int ?_⟩, fun q => absurd ym q⟩
          rintro y1 σ1 ⟨ey1, es1⟩
          have es1' : σ1 = σ := by rw [es1, ← e, s_id]
          rw [ey1, es1']
          refine ⟨fun _ => (passR σ e).void ?_, fun q => absurd mm q⟩
          rintro _ rfl
          exact lk_next h2 hs hx2 _ s_at _ v5 hQ
      · rcases hm with ⟨z, -⟩ | ⟨m', m1, m2, m0⟩
        · exact absurd z mm
        · obtain ⟨o', ho'⟩ : ∃ o', o = o' + 1 := by
            rw [t_le, c10] at oz
            have oz : ¬ (o : Int) ≤ 0 := oz
            exact ⟨o - 1, by omega⟩
          subst ho'
          obtain ⟨v', c', rr, rc, t', j', x', sp, wle, wl, wb⟩ := p_split h hj hx (by omega) hxn hn h0 h6 k2 b1 b3 m2 m1 m0 rm
          have pw : 2 ^ (o' + 1) = 2 ^ o' + 2 ^ o' := by rw [Nat.pow_succ]; omega
          have hp' := t_pw (k := o') (by omega)
          refine ⟨v', c', N + 1, r, upC ⟨fun _ => ⟨fun q => absurd q oz, fun _ => rcm.int ?_⟩, fun q => absurd ym q⟩, t', j', x', by omega, by omega, fun i i1 i2 _ _ => sp i i1 i2, by rw [sp _ (by omega) (by omega)]; exact hr, by omega, phi_lt (f := fr' + 2 ^ o') (fun f hf _ => wle f hf) hs (Nat.le_refl r) wb (by omega) (by omega) (Or.inl wl), Or.inl ⟨by rw [sp _ (by omega) (by omega)]; exact hS, ?_⟩⟩
          · rintro y1 σ1 ⟨ey1, es1⟩
            rw [ey1, es1]
            refine ⟨fun _ => rc.void ?_, fun q => absurd mm q⟩
            rintro _ rfl
            exact ⟨rfl, rfl⟩
          · intro x2 hx2 σ v4 v5 Q e hQ
            refine upto2 σ v4 v5 Q e ⟨fun _ => ⟨fun q => absurd q oz, fun _ => (rm σ e).int ?_⟩, fun q => absurd ym q⟩
            rintro y1 σ1 ⟨ey1, es1⟩
            have es1' : σ1 = σ := by rw [es1, ← e, s_id]
            rw [ey1, es1']
            refine ⟨fun q => absurd q mm, fun _ => (rr σ e).void ?_⟩
            rintro _ rfl
            exact lk_next h2 hs hx2 _ s_at _ v5 hQ
  · rcases hBP with ⟨z, -⟩ | ⟨to, hy, ⟨hto, halt, -, hon, hfree⟩, -⟩
    · exact absurd z ym
    · have hlt := al_le ho hto halt
      have on1 : v (2358 + 8 * (to / 32) + 0) = 1 := by
        rcases hon with z | z
        · exact absurd z (by decide)
        · exact z
      have hne : to / 32 ≠ s := fun z => by
        rw [z, hst] at on1
        exact absurd on1 (by decide)
      have hfr1 : ∀ f, to ≤ f → f < to + 2 ^ o → v (18 + 3 * f) = 1 := fun f f1 f2 => by
        have := hfree (f - to) (by omega)
        rw [al_pow halt, show to + (f - to) = f by omega] at this
        exact this
      have h7 := (hx.1 n' hn h0).1 h6
      have s1 := sim_rea (nI (fr' % 32 + 2 ^ o)) h.s h.b hs
      have bk1 : ∀ b, b < 96 → bk_ok (upd v (2358 + 8 * s + 5) (nI (fr' % 32 + 2 ^ o))) b := fun b hb => bk_cong (fun k _ _ _ _ => u_ne (by omega)) (h.b b hb)
      have s2 := sim_lea x s1 bk1 hs (by rw [s_ne (by decide)]; exact c18)
      have bk2 : ∀ b, b < 96 → bk_ok (upd (upd v (2358 + 8 * s + 5) (nI (fr' % 32 + 2 ^ o))) (2358 + 8 * s + 6) (x + 1)) b := fun b hb => bk_cong (fun k _ _ _ _ => u_ne (by omega)) (bk1 b hb)
      have u2 : ∀ i, i < 2358 → upd (upd v (2358 + 8 * s + 5) (nI (fr' % 32 + 2 ^ o))) (2358 + 8 * s + 6) (x + 1) i = v i := fun i hi => by rw [u_ne (by omega), u_ne (by omega)]
      have s3 := sim_hold (bI := x) (y := y) s2 bk2 hn (by rw [u2 _ (by omega)]; exact h0) (by rw [u2 _ (by omega)]; exact b3) (by rw [u2 _ (by omega)]; exact b1) (by rw [u2 _ (by omega)]; exact k0) (by rw [u2 _ (by omega)]; exact h6) (by rw [u2 _ (by omega)]; exact h7) ho hto halt (fun f f1 f2 => by rw [u2 _ (by omega)]; exact hfr1 f f1 f2) hxn hy
      have hx1 : (x + 1).toInt = ((n' + 1 : Nat) : Int) := by
        rw [t_add hxn (y := 1) rfl (by omega) (by omega)]
        omega
      have hy1 : (y + 1).toInt = ((to + 1 : Nat) : Int) := by
        rw [t_add hy (y := 1) rfl (by omega) (by omega)]
        omega
      have iy : (nI (fr' % 32 + 2 ^ o)).toInt = ((fr' % 32 + 2 ^ o : Nat) : Int) := nI_toInt (by omega)
      have eRow : hdF (upd (upd v (2358 + 8 * s + 5) (nI (fr' % 32 + 2 ^ o))) (2358 + 8 * s + 6) (x + 1)) n' to o (x + 1) (y + 1) = upd (upd (hsF (upd (upd v (786 + 16 * n' + 6) (y + 1)) (786 + 16 * n' + 7) 0) to (2 ^ o) 4 (x + 1)) (2358 + 8 * s + 6) (x + 1)) (2358 + 8 * s + 5) (nI (fr' % 32 + 2 ^ o)) := by
        unfold hdF
        rw [u_com (a := 2358 + 8 * s + 5) (b := 2358 + 8 * s + 6) (by omega), u_com (a := 2358 + 8 * s + 5) (b := 786 + 16 * n' + 6) (by omega), u_com (a := 2358 + 8 * s + 6) (b := 786 + 16 * n' + 6) (by omega), u_com (a := 2358 + 8 * s + 5) (b := 786 + 16 * n' + 7) (by omega), u_com (a := 2358 + 8 * s + 6) (b := 786 + 16 * n' + 7) (by omega), hsF_u (by omega), hsF_u (by omega)]
      have old : ∀ i, (i < 18 + 3 * to ∨ 18 + 3 * (to + 2 ^ o) ≤ i) → i ≠ 786 + 16 * n' + 6 → i ≠ 786 + 16 * n' + 7 → i ≠ 2358 + 8 * s + 5 → i ≠ 2358 + 8 * s + 6 → hdF (upd (upd v (2358 + 8 * s + 5) (nI (fr' % 32 + 2 ^ o))) (2358 + 8 * s + 6) (x + 1)) n' to o (x + 1) (y + 1) i = v i := fun i i1 i2 i3 i4 i5 => by rw [hdF_o i1 i2 i3, u_ne i5, u_ne i4]
      have r6 : hdF (upd (upd v (2358 + 8 * s + 5) (nI (fr' % 32 + 2 ^ o))) (2358 + 8 * s + 6) (x + 1)) n' to o (x + 1) (y + 1) (786 + 16 * n' + 6) = y + 1 := by
        unfold hdF
        rw [hsF_out (by omega), u_ne (by omega), u_at]
      have r7 : hdF (upd (upd v (2358 + 8 * s + 5) (nI (fr' % 32 + 2 ^ o))) (2358 + 8 * s + 6) (x + 1)) n' to o (x + 1) (y + 1) (786 + 16 * n' + 7) = 0 := by
        unfold hdF
        rw [hsF_out (by omega), u_at]
      have rS5 : hdF (upd (upd v (2358 + 8 * s + 5) (nI (fr' % 32 + 2 ^ o))) (2358 + 8 * s + 6) (x + 1)) n' to o (x + 1) (y + 1) (2358 + 8 * s + 5) = nI (fr' % 32 + 2 ^ o) := by
        rw [hdF_o (by omega) (by omega) (by omega), u_ne (by omega), u_at]
      have rS6 : hdF (upd (upd v (2358 + 8 * s + 5) (nI (fr' % 32 + 2 ^ o))) (2358 + 8 * s + 6) (x + 1)) n' to o (x + 1) (y + 1) (2358 + 8 * s + 6) = x + 1 := by
        rw [hdF_o (by omega) (by omega) (by omega), u_at]
      have rF : ∀ f, to ≤ f → f < to + 2 ^ o → hdF (upd (upd v (2358 + 8 * s + 5) (nI (fr' % 32 + 2 ^ o))) (2358 + 8 * s + 6) (x + 1)) n' to o (x + 1) (y + 1) (18 + 3 * f) = 4 ∧ hdF (upd (upd v (2358 + 8 * s + 5) (nI (fr' % 32 + 2 ^ o))) (2358 + 8 * s + 6) (x + 1)) n' to o (x + 1) (y + 1) (18 + 3 * f + 1) = x + 1 := fun f f1 f2 => by
        unfold hdF
        obtain ⟨z1, z2, -⟩ := hsF_in (v := upd (upd (upd (upd v (2358 + 8 * s + 5) (nI (fr' % 32 + 2 ^ o))) (2358 + 8 * s + 6) (x + 1)) (786 + 16 * n' + 6) (y + 1)) (786 + 16 * n' + 7) 0) (s := 4) (x := x + 1) f1 f2
        exact ⟨z1, z2⟩
      have jw0 : jj N (upd v (2358 + 8 * s + 5) (nI (fr' % 32 + 2 ^ o))) := jj_at hs iy (by omega) hj
      have jw : jj N (hdF (upd (upd v (2358 + 8 * s + 5) (nI (fr' % 32 + 2 ^ o))) (2358 + 8 * s + 6) (x + 1)) n' to o (x + 1) (y + 1)) := by
        refine ⟨fr_mono (fun f hf => ?_) (fun b k hb hk => ?_) (fun f hf z => ?_) hj.1, jr_leave hn hs jw0.2.1 (by rw [u_ne (by omega)]; exact h0) (by rw [u_ne (by omega)]; exact b3) hfs (by rw [u_ne (by omega)]; exact hst) (by rw [u_ne (by omega)]; exact hS) (by rw [u_ne (by omega)]; exact b1) hto halt (by rw [r6]; exact hy1) r7 (by rw [rS6]; exact hx1) (fun i i1 i2 i3 i4 i5 => ?_), ?_⟩
        · by_cases z : to ≤ f ∧ f < to + 2 ^ o
          · rw [(rF f z.1 z.2).2, hx1]
            omega
          · rw [old _ (by omega) (by omega) (by omega) (by omega) (by omega)]
            exact hj.1.1 f hf
        · exact old _ (by omega) (by omega) (by omega) (by omega) (by omega)
        · by_cases y2 : to ≤ f ∧ f < to + 2 ^ o
          · rw [(rF f y2.1 y2.2).1] at z
            exact absurd z (by decide)
          · rw [old _ (by omega) (by omega) (by omega) (by omega) (by omega)] at z
            exact ⟨z, old _ (by omega) (by omega) (by omega) (by omega) (by omega)⟩
        · rw [hdF_o (by omega) i3 i4, u_ne i5]
        · rw [old _ (by omega) (by omega) (by omega) (by omega) (by omega)]
          exact hj.2.2
      have wte : ∀ f, f < 256 → wt (hdF (upd (upd v (2358 + 8 * s + 5) (nI (fr' % 32 + 2 ^ o))) (2358 + 8 * s + 6) (x + 1)) n' to o (x + 1) (y + 1)) f ≤ wt v f := fun f hf => by
        by_cases z : to ≤ f ∧ f < to + 2 ^ o
        · rw [wt_0 (by rw [(rF f z.1 z.2).1]; decide)]
          exact Nat.zero_le _
        · exact Nat.le_of_eq (wt_cg (old _ (by omega) (by omega) (by omega) (by omega) (by omega)) (old _ (by omega) (by omega) (by omega) (by omega) (by omega)) (fun b _ _ _ => old _ (by omega) (by omega) (by omega) (by omega) (by omega)) h.s.O hf)
      refine ⟨_, _, N, fr' % 32 + 2 ^ o, upC ⟨fun q => absurd q ym, fun _ => ⟨va, fun σ12 e12 => ⟨va, fun σ13 e13 => ⟨vx, fun σ14 e14 => ?_⟩⟩⟩⟩, h.to s3 (fun k q1 q2 => ?_) (old 5 (by omega) (by omega) (by omega) (by omega) (by omega)) (fun i hi => old i (by omega) (by omega) (by omega) (by omega) (by omega)) jw.2.1.1, jw, ?_, Nat.le_refl _, by omega, fun i i1 i2 i3 i4 => old i (by omega) (by omega) (by omega) i3 i4, by rw [rS5]; exact iy, by omega, phi_lt (f := fr') (fun f hf _ => wte f hf) hs (by omega) hfr hfs hrf (Or.inr ⟨by omega, by rw [wfr]; decide⟩), Or.inr ⟨by rw [rS6]; exact hx1, ?_⟩⟩
      · refine (e_hold2 x hy (t_pow c10 (by omega)) ho hlt σ14).void ?_
        rintro _ rfl
        refine ⟨rfl, ?_⟩
        rw [e14, e13, e12]
      · rw [gvC_o (by omega), s_ne (by omega), s_ne (by omega), s_ne (by omega)]
      · refine hx.re (n := n') (fun b k q1 q2 q3 => old _ (by omega) (by omega) (by omega) (by omega) (by omega)) (fun _ => ⟨fun z => ?_, fun to2 fr2 o2 y1 y2 y3 => ?_⟩) (fun _ => ?_) (fun s' hs' z => ⟨fun y2 => z ((old _ (by omega) (by omega) (by omega) (by omega) (by omega)).trans y2), old _ (by omega) (by omega) (by omega) (by omega) (by omega)⟩) (old _ (by omega) (by omega) (by omega) (by omega) (by omega)) (fun i i1 i2 => old _ (by omega) (by omega) (by omega) (by omega) (by omega))
        · exact r7
        · rw [r6] at y1
          rw [old _ (by omega) (by omega) (by omega) (by omega) (by omega)] at y2
          rw [r7]
          have q1 : to2 = to := by omega
          have q2 : fr2 = fr' := by omega
          subst q1 q2
          exact ⟨Int.natCast_nonneg _, by omega⟩
        · rw [old _ (by omega) (by omega) (by omega) (by omega) (by omega)]
          exact hx.2.1 n' hn h0
      · intro σ v4 v5 Q e hQ
        refine upto2 σ v4 v5 Q e ⟨fun q => absurd q ym, fun _ => (c_lay (k := 6) (j := 6) hxn rfl (by omega) _ σ).void ?_⟩
        rintro _ rfl
        refine (c_lay (k := 7) (j := 7) hxn rfl (by omega) _ _).void ?_
        rintro _ rfl
        rw [s_at, s_ss, e]
        refine l_hold2 (w := upd (upd v (786 + 16 * n' + 6) (y + 1)) (786 + 16 * n' + 7) 0) h1 hs h2 hxn hn hy ho hlt (by rw [u_ne (by omega), u_ne (by omega)]; exact b1) (by rw [u_ne (by omega), u_ne (by omega)]; exact b3) hal (2 ^ o) 0 0 _ (by rw [s_at, hsF_0]) rfl (by omega) ?_
        rw [s_ss, ← eRow]
        exact hQ
end
section
/-! ===== the simulation: a pass up to the next block that is on its way ===== -/
theorem c24_m1 {c : sm_S} {v : Nat → Int32} {s : Nat} (h : sim0 c v) (hs : s < 8) (h6 : v (2358 + 8 * s + 6) = 0) : c 24 s = -1 := by
  have z := (h.S s hs).lea
  rw [h6] at z
  have z2 : c 24 s = (c 24 s + 1) - 1 := by rw [Int32.add_sub_cancel]
  rw [z2, ← z]
  rfl
theorem p_looks {g : Prop} {s : Nat} {a1 a2 : Int32} (h1 : a1.toInt = s) (hs : s < 8) (h2 : a2.toInt = ((2358 + 8 * s : Nat) : Int)) : ∀ (m N r : Nat) (c : sm_S) (v : Nat → Int32) (x : Int32), tie g N c v → jj N v → jx v → v (2358 + 8 * s + 0) = 3 → v (2358 + 8 * s + 6) = 0 → (v (2358 + 8 * s + 5)).toInt = r → phi v s r ≤ m → N + m < 1999999999 → fst v s r x → xC xD j_G_blockFrom [.ref 41, .int a1, .int (c 23 s)] c (sm_I (fun y σ' => y = x ∧ σ' = c)) →
    ∃ (v' : Nat → Int32) (c' : sm_S) (N' d r' : Nat) (y : Int32), (∀ (σ : sm_S) (v4 v5 : Value) (Q : Option Value → sm_S → Prop), σ 1 = v → Q (some (.int y)) (sm_set σ 1 v') → xE xM m_M_looks 20 [.ref 0, .int a1, .int a2, .int x, v4, v5] [] σ Q) ∧
      (∀ (k : Nat) (a3 l : Int32) (v4 v5 : Value) (Q : Option Value → sm_S → Prop), a3.toInt = k → k + d < 1000 → (∀ (b3 : Int32) (u4 u5 : Value), b3.toInt = ((k + d : Nat) : Int) → xE xD m_G_moveOn 38 [.ref 41, .int a1, .int l, .int b3, u4, u5] [] c' Q) → xE xD m_G_moveOn 38 [.ref 41, .int a1, .int l, .int a3, v4, v5] [] c Q) ∧
      tie g N' c' v' ∧ jj N' v' ∧ jx v' ∧ N' ≤ N + d ∧ (∀ i, 2358 ≤ i → i < 2422 → i ≠ 2358 + 8 * s + 5 → i ≠ 2358 + 8 * s + 6 → v' i = v i) ∧ (v' (2358 + 8 * s + 5)).toInt = ((r' : Nat) : Int) ∧ phi v' s r' + d ≤ phi v s r ∧
      ((y = 1 ∧ 0 < d ∧ v' (2358 + 8 * s + 6) ≠ 0) ∨ (y = 0 ∧ v' (2358 + 8 * s + 6) = 0 ∧ fst v' s r' (-1))) := by
  intro m
  induction m with
  | zero =>
    intro N r c v x h hj hx hst hS hr hm hN hf hb
    by_cases xm : x = -1
    · subst xm
      refine ⟨v, c, N, 0, r, 0, fun σ v4 v5 Q e hQ => ?_, fun k a3 l v4 v5 Q q1 q2 q3 => q3 a3 v4 v5 (by rw [q1]; rfl), h, hj, hx, by omega, fun i _ _ _ _ => rfl, hr, by omega, Or.inr ⟨rfl, hS, hf⟩⟩
      rw [← e, s_id] at hQ
      exact w_M_looks_20 a1 a2 (-1) v4 v5 σ Q ⟨fun _ => ⟨Or.inl rfl, hQ⟩, fun q => absurd rfl q⟩
    · rcases hf with ⟨z, -⟩ | ⟨n, fr, hn, hxn, z⟩
      · exact absurd z xm
      · obtain ⟨_, _, _, _, _, _, _, _, _, _, _, _, _, q, -⟩ := p_look h hj hx (by omega) h1 hs h2 hst hS hr hn hxn (Or.inr ⟨n, fr, hn, hxn, z⟩)
        omega
  | succ m ih =>
    intro N r c v x h hj hx hst hS hr hm hN hf hb
    by_cases xm : x = -1
    · subst xm
      refine ⟨v, c, N, 0, r, 0, fun σ v4 v5 Q e hQ => ?_, fun k a3 l v4 v5 Q q1 q2 q3 => q3 a3 v4 v5 (by rw [q1]; rfl), h, hj, hx, by omega, fun i _ _ _ _ => rfl, hr, by omega, Or.inr ⟨rfl, hS, hf⟩⟩
      rw [← e, s_id] at hQ
      exact w_M_looks_20 a1 a2 (-1) v4 v5 σ Q ⟨fun _ => ⟨Or.inl rfl, hQ⟩, fun q => absurd rfl q⟩
    · have hf0 := hf
      rcases hf with ⟨z, -⟩ | ⟨n, fr, hn, hxn, -⟩
      · exact absurd z xm
      · obtain ⟨v1, c1, N1, r1, rc, t1, j1, x1, n1, n2, sp, e5, r32, pl, fin⟩ := p_look h hj hx (by omega) h1 hs h2 hst hS hr hn hxn hf0
        have step : ∀ (k : Nat) (a3 l : Int32) (v4 v5 : Value) (Q : Option Value → sm_S → Prop), a3.toInt = k → k < 1000 → (∀ (b3 : Int32) (u4 u5 : Value), b3.toInt = ((k + 1 : Nat) : Int) → xE xD m_G_moveOn 38 [.ref 41, .int a1, .int l, .int b3, u4, u5] [] c1 Q) → xE xD m_G_moveOn 38 [.ref 41, .int a1, .int l, .int a3, v4, v5] [] c Q := fun k a3 l v4 v5 Q q1 q2 q3 => by
          have q1' : (a3 + 1).toInt = ((k + 1 : Nat) : Int) := by
            rw [t_add q1 (y := 1) rfl (by omega) (by omega)]
            omega
          have c24 := c24_m1 h.s hs hS
          refine d_G_moveOn_38 a1 l a3 v4 v5 c Q ⟨fun z => ?_, fun _ => ⟨t_vp h1 hs, fun z => ?_, fun _ => ⟨t_vp h1 hs, ?_⟩⟩⟩
          · rw [t_le, q1] at z
            have z : (1000 : Int) ≤ k := z
            omega
          · rw [t_nat h1] at z
            exact absurd c24 z
          · rw [t_nat h1]
            refine hb.int ?_
            rintro y σ1 ⟨ey, es⟩
            rw [ey, es]
            refine ⟨fun _ => rc.void ?_, fun z => absurd xm z⟩
            rintro _ rfl
            exact q3 (a3 + 1) _ _ q1'
        rcases fin with ⟨f6, fA⟩ | ⟨f6, fB⟩
        · have st1 : v1 (2358 + 8 * s + 0) = 3 := by rw [sp _ (by omega) (by omega) (by omega) (by omega)]; exact hst
          have c23 : c1 23 s = v1 (2358 + 8 * s + 5) := ((t1.s.S s hs).rea (by rw [← (t1.s.S s hs).sta]; exact st1)).symm
          obtain ⟨x2, rx2, rcx2, hf2⟩ := p_first (a1 := a1) (a2 := v1 (2358 + 8 * s + 5)) t1.s h1 hs e5 r32
          obtain ⟨v', c', N', d, r', y, qr, qc, t', j', x', n', sp', e5', pl', fin'⟩ := ih N1 r1 c1 v1 x2 t1 j1 x1 st1 f6 e5 (by omega) (by omega) hf2 (by rw [c23]; exact rcx2)
          refine ⟨v', c', N', d + 1, r', y, fun σ v4 v5 Q e hQ => ?_, fun k a3 l v4 v5 Q q1 q2 q3 => ?_, t', j', x', by omega, fun i i1 i2 i3 i4 => (sp' i i1 i2 i3 i4).trans (sp i i1 i2 i3 i4), e5', by omega, ?_⟩
          · refine fA x2 rx2 σ v4 v5 Q e (fun u4 u5 => qr _ u4 u5 Q s_at ?_)
            rw [s_ss]
            exact hQ
          · refine step k a3 l v4 v5 Q q1 (by omega) (fun b3 u4 u5 q4 => qc (k + 1) b3 l u4 u5 Q q4 (by omega) (fun b4 w4 w5 q5 => q3 b4 w4 w5 ?_))
            rw [q5]
            omega
          · rcases fin' with ⟨z1, z2, z3⟩ | z
            · exact Or.inl ⟨z1, by omega, z3⟩
            · exact Or.inr z
        · refine ⟨v1, c1, N1, 1, r1, 1, fun σ v4 v5 Q e hQ => fB σ v4 v5 Q e hQ, fun k a3 l v4 v5 Q q1 q2 q3 => step k a3 l v4 v5 Q q1 (by omega) q3, t1, j1, x1, by omega, sp, e5, by omega, Or.inl ⟨rfl, by decide, fun z => ?_⟩⟩
          rw [z] at f6
          have f6 : (0 : Int) = _ := f6
          omega
end
section
/-! ===== the simulation: a pass ends ===== -/
/-- how many frames of span s have the state a -/
def cnS (v : Nat → Int32) (s : Nat) (a : Int32) : Nat := sumN (fun i => if v (18 + 3 * (32 * s + i)) = a then 1 else 0) 32
theorem sumN_z {F : Nat → Nat} : ∀ {n : Nat}, sumN F n = 0 ↔ ∀ i, i < n → F i = 0
  | 0 => ⟨fun _ i hi => absurd hi (Nat.not_lt_zero i), fun _ => rfl⟩
  | n + 1 => by
    have := sumN_z (F := F) (n := n)
    show sumN F n + F n = 0 ↔ _
    refine ⟨fun q i hi => ?_, fun q => ?_⟩
    · by_cases e : i = n
      · subst e; omega
      · exact this.mp (by omega) i (by omega)
    · have a := this.mpr (fun i hi => q i (by omega))
      have b := q n (by omega)
      omega
theorem l_manyIn2 {a1 a2 : Int32} {s : Nat} (h1 : a1.toInt = s) (hs : s < 8) (σ : sm_S) : ∀ (d k : Nat) (a3 a4 : Int32), a4.toInt = ((32 * s + k : Nat) : Int) → k + d = 32 → a3.toInt = ((sumN (fun i => if σ 1 (18 + 3 * (32 * s + i)) = a2 then 1 else 0) k : Nat) : Int) → xE xM m_M_manyIn 8 [.ref 0, .int a1, .int a2, .int a3, .int a4] [] σ (sm_I (fun x σ' => x.toInt = ((cnS (σ 1) s a2 : Nat) : Int) ∧ σ' = σ)) := by
  have h32 : (32 * a1 + 32).toInt = ((32 * s + 32 : Nat) : Int) := by
    have e := t_ix (c := 0) (m := 32) (C := 0) (M := 32) (k := 32) (j := 32) rfl rfl h1 rfl (by omega)
    rw [Int32.zero_add] at e
    rw [e]
    omega
  have bd : ∀ k, sumN (fun i => if σ 1 (18 + 3 * (32 * s + i)) = a2 then 1 else 0) k ≤ 1 * k := fun k => sumN_bd (fun i => by split <;> omega)
  intro d
  induction d with
  | zero =>
    intro k a3 a4 h4 hk h3
    have hk : k = 32 := by omega
    subst hk
    exact w_M_manyIn_8 a1 a2 a3 a4 σ _ ⟨fun _ => ⟨_, rfl, h3, rfl⟩, fun h => absurd (by rw [t_le, h32, h4]; omega) h⟩
  | succ d ih =>
    intro k a3 a4 h4 hk h3
    have h4' : (a4 + 1).toInt = ((32 * s + (k + 1) : Nat) : Int) := by
      rw [t_add h4 (y := 1) rfl (by omega) (by omega)]
      omega
    have b := bd k
    refine w_M_manyIn_8 a1 a2 a3 a4 σ _ ⟨fun h => ?_, fun _ => (c_stateOf h4 (by omega) σ).int ?_⟩
    · rw [t_le, h32, h4] at h
      omega
    · rintro y σ1 ⟨ey, es⟩
      rw [ey, es]
      refine ⟨fun q => ih (k + 1) a3 (a4 + 1) h4' (by omega) ?_, fun q => ih (k + 1) (a3 + 1) (a4 + 1) h4' (by omega) ?_⟩
      · rw [h3]
        show _ = ((sumN (fun i => if σ 1 (18 + 3 * (32 * s + i)) = a2 then 1 else 0) k + (if σ 1 (18 + 3 * (32 * s + k)) = a2 then 1 else 0) : Nat) : Int)
        rw [if_neg q]
        rfl
      · rw [t_add h3 (y := 1) rfl (by omega) (by omega)]
        show _ = ((sumN (fun i => if σ 1 (18 + 3 * (32 * s + i)) = a2 then 1 else 0) k + (if σ 1 (18 + 3 * (32 * s + k)) = a2 then 1 else 0) : Nat) : Int)
        rw [if_pos (Classical.not_not.mp q)]
        rfl
theorem c_manyIn2 {a1 : Int32} {s : Nat} (h1 : a1.toInt = s) (hs : s < 8) (a2 : Int32) (σ : sm_S) : xC xM j_M_manyIn [.ref 0, .int a1, .int a2] σ (sm_I (fun x σ' => x.toInt = ((cnS (σ 1) s a2 : Nat) : Int) ∧ σ' = σ)) := by
  refine w_M_manyIn a1 a2 σ _ (l_manyIn2 h1 hs σ 32 0 0 (32 * a1) ?_ rfl rfl)
  have e := t_ix (c := 0) (m := 32) (C := 0) (M := 32) (k := 0) (j := 0) rfl rfl h1 rfl (by omega)
  rw [Int32.zero_add, Int32.add_zero] at e
  rw [e]
  omega
theorem cnS_le (v : Nat → Int32) (s : Nat) (a : Int32) : cnS v s a ≤ 32 := by
  have := sumN_bd (F := fun i => if v (18 + 3 * (32 * s + i)) = a then 1 else 0) (K := 1) (n := 32) (fun i => by split <;> omega)
  unfold cnS
  omega
theorem cnS_z {v : Nat → Int32} {s : Nat} {a : Int32} : cnS v s a = 0 ↔ ∀ f, f / 32 = s → v (18 + 3 * f) ≠ a := by
  unfold cnS
  rw [sumN_z]
  refine ⟨fun q f hf z => ?_, fun q i hi => ?_⟩
  · have := q (f % 32) (Nat.mod_lt _ (by decide))
    rw [show 32 * s + f % 32 = f by omega, if_pos z] at this
    exact absurd this (by decide)
  · show (if v (18 + 3 * (32 * s + i)) = a then 1 else 0) = 0
    rw [if_neg (q _ (by omega))]
theorem whyE {c : sm_S} {v : Nat → Int32} {a1 : Int32} {s : Nat} (h : sim0 c v) (h1 : a1.toInt = s) (hs : s < 8) : ∃ w : Int32, rdI j_M_whyOf [.ref 0, .int a1] v w v ∧ xC xD j_G_whyFails [.ref 41, .int a1] c (sm_I (fun y σ' => y = w ∧ σ' = c)) := by
  obtain ⟨x, rx, rcx, hf⟩ := p_first (a2 := 0) h h1 hs (r := 0) rfl (by omega)
  by_cases xm : x = -1
  · subst xm
    refine ⟨2, fun σ e => ?_, ?_⟩
    · refine w_M_whyOf a1 σ _ ((rx σ e).int ?_)
      rintro y σ1 ⟨ey, es⟩
      rw [ey, es]
      exact ⟨fun q => absurd rfl q, fun _ => ⟨_, rfl, rfl, rfl⟩⟩
    · refine d_G_whyFails a1 c _ (rcx.int ?_)
      rintro y σ1 ⟨ey, es⟩
      rw [ey, es]
      exact ⟨fun q => absurd rfl q, fun _ => ⟨_, rfl, rfl, rfl⟩⟩
  · rcases hf with ⟨z, -⟩ | ⟨n, fr, hn, hxn, -, -, -, h0, -⟩
    · exact absurd z xm
    · obtain ⟨gb, -⟩ := (h.B n hn).al h0
      refine ⟨if v (786 + 16 * n + 3) = 1 then 0 else if v (786 + 16 * n + 5) = 0 then 2 else 1, fun σ e => ?_, ?_⟩
      · refine w_M_whyOf a1 σ _ ((rx σ e).int ?_)
        rintro y σ1 ⟨ey, es⟩
        have es' : σ1 = σ := by rw [es, ← e, s_id]
        rw [ey, es']
        refine ⟨fun _ => (c_of (k := 3) (j := 3) hxn rfl (by omega) σ).int ?_, fun q => absurd xm q⟩
        rintro y2 σ2 ⟨ey2, es2⟩
        rw [ey2, es2, e]
        refine ⟨fun q => (c_isPinned hxn hn σ).int ?_, fun q => ⟨_, rfl, by rw [if_pos (Classical.not_not.mp q)], by rw [← e, s_id]⟩⟩
        rintro y3 σ3 ⟨ey3, es3⟩
        rw [e] at ey3
        rw [es3]
        refine ⟨fun z => ⟨_, rfl, ?_, by rw [← e, s_id]⟩, fun z => ⟨_, rfl, ?_, by rw [← e, s_id]⟩⟩
        · rcases ey3 with ⟨-, w⟩ | ⟨w, -⟩
          · rw [if_neg q, if_pos w]
          · rw [w] at z; exact absurd z (by decide)
        · rcases ey3 with ⟨w, -⟩ | ⟨-, w⟩
          · exact absurd w z
          · rw [if_neg q, if_neg w]
      · refine d_G_whyFails a1 c _ (rcx.int ?_)
        rintro y σ1 ⟨ey, es⟩
        rw [ey, es, t_nat hxn, ← gb.kin, ← gb.pin]
        refine ⟨fun _ => ⟨t_vp hxn hn, fun q => ⟨t_vp hxn hn, fun z => ⟨_, rfl, ?_, rfl⟩, fun z => ⟨_, rfl, ?_, rfl⟩⟩, fun q => ⟨_, rfl, ?_, rfl⟩⟩, fun q => absurd xm q⟩
        · rw [if_neg q, if_pos z]
        · rw [if_neg q, if_neg z]
        · rw [if_pos (Classical.not_not.mp q)]
/-- a span is off -/
def ofF (v : Nat → Int32) (s : Nat) : Nat → Int32 := mpF (fun _ => 0) (upd (upd (upd (upd v (2358 + 8 * s + 0) 0) (2358 + 8 * s + 1) 0) (2358 + 8 * s + 2) 0) (2358 + 8 * s + 3) 0) (32 * s) 32
def ofC (c : sm_S) (s : Nat) : sm_S := egC (sm_set (sm_set (sm_set c 2 (upd (c 2) s 0)) 3 (upd (c 3) s 0)) 19 (upd (c 19) s (-1))) s 0
theorem ofF_o {v : Nat → Int32} {s i : Nat} (h1 : i < 18 + 3 * (32 * s) ∨ 18 + 3 * (32 * s + 32) ≤ i ∨ (i - 18) % 3 ≠ 0) (h2 : i < 2358 + 8 * s ∨ 2358 + 8 * s + 3 < i) : ofF v s i = v i := by
  unfold ofF
  rw [mpF_out h1, u_ne (by omega), u_ne (by omega), u_ne (by omega), u_ne (by omega)]
theorem ofF_at {v : Nat → Int32} {s k : Nat} (hs : s < 8) (hk : k < 4) : ofF v s (2358 + 8 * s + k) = 0 := by
  unfold ofF
  rw [mpF_out (by omega)]
  rcases (show k = 0 ∨ k = 1 ∨ k = 2 ∨ k = 3 by omega) with q | q | q | q <;> subst q
  · rw [u_ne (by omega), u_ne (by omega), u_ne (by omega), u_at]
  · rw [u_ne (by omega), u_ne (by omega), u_at]
  · rw [u_ne (by omega), u_at]
  · rw [u_at]
theorem ofC_o {c : sm_S} {s k : Nat} (h : k < 2 ∨ (3 < k ∧ k < 18) ∨ 24 < k) : ofC c s k = c k := by
  unfold ofC
  rw [egC_o (by omega), s_ne (by omega), s_ne (by omega), s_ne (by omega)]
theorem sim_off {c : sm_S} {v : Nat → Int32} {s : Nat} (h : sim0 c v) (hk : ∀ b, b < 96 → bk_ok v b) (hs : s < 8) (h4 : v (2358 + 8 * s + 4) = 0) (h6 : v (2358 + 8 * s + 6) = 0) (hf : ∀ f, f / 32 = s → v (18 + 3 * f) ≠ 3 ∧ v (18 + 3 * f) ≠ 4) : sim0 (ofC c s) (ofF v s) := by
  have gs := h.S s hs
  have in1 : ∀ f, f < 256 → f / 32 = s → ofF v s (18 + 3 * f) = 0 := fun f hf e => by
    unfold ofF
    exact mpF_in (by omega) (by omega)
  have out0 : ∀ f, f < 256 → f / 32 ≠ s → ofF v s (18 + 3 * f) = v (18 + 3 * f) := fun f hf e => ofF_o (by omega) (by omega)
  have o1 : ∀ f, f < 256 → ofF v s (18 + 3 * f + 1) = v (18 + 3 * f + 1) := fun f hf => ofF_o (by omega) (by omega)
  have o2 : ∀ f, f < 256 → ofF v s (18 + 3 * f + 2) = v (18 + 3 * f + 2) := fun f hf => ofF_o (by omega) (by omega)
  have c2 : ofC c s 2 = upd (c 2) s 0 := rfl
  have c3 : ofC c s 3 = upd (c 3) s 0 := rfl
  have c18 : ofC c s 18 = upd (c 18) s 0 := rfl
  have c19 : ofC c s 19 = upd (c 19) s (-1) := rfl
  have c20 : ofC c s 20 = upd (c 20) s 0 := rfl
  have c21 : ofC c s 21 = upd (c 21) s 0 := rfl
  have c22 : ofC c s 22 = upd (c 22) s 0 := rfl
  have c23 : ofC c s 23 = upd (c 23) s 0 := rfl
  have c24 : ofC c s 24 = upd (c 24) s (-1) := rfl
  have c25 : ofC c s 25 = c 25 := rfl
  refine h.fs (fun f hf2 => ?_) (fun t ht => ?_) ?_ (fun k hk => ofC_o (by omega)) (fun i hi => ofF_o (by omega) (by omega))
  · have g := h.F f hf2
    by_cases e : f / 32 = s
    · have h34 := hf f e
      refine ⟨by rw [in1 f hf2 e]; decide, ?_, ?_, ?_, ?_, ?_, ?_⟩
      · rw [in1 f hf2 e, c2, e, u_at]
        exact ⟨fun z => absurd z bit_0, fun z => absurd z (by decide)⟩
      · rw [in1 f hf2 e, c3, e, u_at]
        exact ⟨fun z => absurd z bit_0, fun z => absurd z (by decide)⟩
      · rw [in1 f hf2 e, ofC_o (by omega), g.tak]
        exact ⟨fun z => absurd z h34.1, fun z => absurd z (by decide)⟩
      · rw [in1 f hf2 e, ofC_o (by omega), g.hel]
        exact ⟨fun z => absurd z h34.2, fun z => absurd z (by decide)⟩
      · rw [o1 f hf2, ofC_o (by omega)]; exact g.blk
      · rw [o2 f hf2, ofC_o (by omega)]; exact g.val
    · exact g.cg (by rw [c2, u_ne e]) (by rw [c3, u_ne e]) (by rw [ofC_o (by omega)]) (by rw [ofC_o (by omega)]) (by rw [ofC_o (by omega)]) (by rw [ofC_o (by omega)]) (out0 f hf2 e) (o1 f hf2) (o2 f hf2)
  · by_cases e : t = s
    · subst e
      have ek : ∀ k, 4 ≤ k → k < 8 → ofF v t (2358 + 8 * t + k) = v (2358 + 8 * t + k) := fun k k1 k2 => ofF_o (by omega) (by omega)
      refine ⟨?_, ?_, ?_, ?_, ?_, ?_, ?_, ?_, ?_, ?_, ?_⟩
      · rw [ofF_at hs (by decide), c18, u_at]
      · rw [c19, u_at]; exact fun _ => rfl
      · rw [c18, u_at]; exact fun q => absurd rfl q
      · rw [ofF_at hs (by decide), c20, u_at]
      · rw [ofF_at hs (by decide), c21, u_at]
      · rw [ek 4 (by decide) (by decide), c22, u_at]; exact h4
      · rw [c22, u_at]; decide
      · rw [c18, u_at]; exact fun q => absurd q (by decide)
      · rw [ek 6 (by decide) (by decide), c24, u_at, h6]; rfl
      · rw [ek 7 (by decide) (by decide), c25]; exact gs.why
      · rw [c20, c21, c22, c24, u_at, u_at, u_at, u_at]; exact fun _ => ⟨rfl, rfl, rfl, rfl⟩
    · refine (h.S t ht).cg (fun k h1 h2 => ?_) (fun k hk => ofF_o (by omega) (by omega))
      rcases (show k = 18 ∨ k = 19 ∨ k = 20 ∨ k = 21 ∨ k = 22 ∨ k = 23 ∨ k = 24 ∨ k = 25 by omega) with q | q | q | q | q | q | q | q <;> subst q
      · rw [c18, u_ne e]
      · rw [c19, u_ne e]
      · rw [c20, u_ne e]
      · rw [c21, u_ne e]
      · rw [c22, u_ne e]
      · rw [c23, u_ne e]
      · rw [c24, u_ne e]
      · rw [c25]
  · refine h.O.st hk (fun f hf2 => ?_) o1 (fun b k h1 h2 => ofF_o (by omega) (by omega)) (fun f hf2 => ?_)
    · by_cases e : f / 32 = s
      · rw [in1 f hf2 e]
        exact Or.inr ⟨hf f e, by decide, by decide⟩
      · exact Or.inl (out0 f hf2 e)
    · by_cases e : f / 32 = s
      · rw [in1 f hf2 e, e, ofF_at hs (by decide)]
      · rw [out0 f hf2 e, ofF_o (i := 2358 + 8 * (f / 32) + 0) (by omega) (by omega)]
        exact h.O.of f hf2
end
section
/-! ===== the simulation: endPass | isOver ===== -/
theorem r_set0 (v : Nat → Int32) (σ : sm_S) (e : σ 1 = v) : xC xM j_M_settingOf [.ref 0, .int 0] σ (sm_I (fun x σ' => x = v 0 + 4 ∧ σ' = σ)) := by
  refine w_M_settingOf 0 σ _ ⟨t_vp (n := 0) rfl (by omega), w_M_firstOf 0 σ _ ⟨fun q => absurd rfl q, fun _ => ?_⟩⟩
  exact ⟨_, rfl, by rw [← e]; rfl, rfl⟩
theorem r_set1 (v : Nat → Int32) (σ : sm_S) (e : σ 1 = v) : xC xM j_M_settingOf [.ref 0, .int 1] σ (sm_I (fun x σ' => x = v 1 + 3 ∧ σ' = σ)) := by
  refine w_M_settingOf 1 σ _ ⟨t_vp (n := 1) rfl (by omega), w_M_firstOf 1 σ _ ⟨fun _ => ⟨fun q => absurd rfl q, fun _ => ?_⟩, fun q => absurd (by decide) q⟩⟩
  exact ⟨_, rfl, by rw [← e]; rfl, rfl⟩
theorem r_set2 (v : Nat → Int32) (σ : sm_S) (e : σ 1 = v) : xC xM j_M_settingOf [.ref 0, .int 2] σ (sm_I (fun x σ' => x = v 2 + 150 ∧ σ' = σ)) := by
  refine w_M_settingOf 2 σ _ ⟨t_vp (n := 2) rfl (by omega), w_M_firstOf 2 σ _ ⟨fun _ => ⟨fun _ => ⟨fun q => absurd rfl q, fun _ => ?_⟩, fun q => absurd (by decide) q⟩, fun q => absurd (by decide) q⟩⟩
  exact ⟨_, rfl, by rw [← e]; rfl, rfl⟩
theorem r_set3 (v : Nat → Int32) (σ : sm_S) (e : σ 1 = v) : xC xM j_M_settingOf [.ref 0, .int 3] σ (sm_I (fun x σ' => x = v 3 + 2 ∧ σ' = σ)) := by
  refine w_M_settingOf 3 σ _ ⟨t_vp (n := 3) rfl (by omega), w_M_firstOf 3 σ _ ⟨fun _ => ⟨fun _ => ⟨fun _ => ?_, fun q => absurd (by decide) q⟩, fun q => absurd (by decide) q⟩, fun q => absurd (by decide) q⟩⟩
  exact ⟨_, rfl, by rw [← e]; rfl, rfl⟩
theorem jx_fl {v : Nat → Int32} {N s : Nat} {a1 w : Int32} (hx : jx v) (hs : s < 8) (h0 : v (2358 + 8 * s + 0) ≠ 0) : jx (flF v N s a1 w) := by
  have e : ∀ i, i < 2422 → i ≠ 5 → i ≠ 14 → flF v N s a1 w i = upd (opnF v s) (2358 + 8 * s + 7) (w + 1) i := fun i i1 i2 i3 => by
    unfold flF
    rw [wrF_lo i1 i2]
    exact u_ne (by omega)
  refine hx.cg (fun b k hb hk => ?_) (fun s' hs' z => ?_) ?_ (fun i i1 i2 => by rw [e _ (by omega) (by omega) (by omega), u_ne (by omega), opnF_old (by omega) (by omega) (by omega) (by omega) (by omega)])
  · rw [e _ (by omega) (by omega) (by omega), u_ne (by omega), opnF_old (by omega) (by omega) (by omega) (by omega) (by omega)]
  · rw [e _ (by omega) (by omega) (by omega), u_ne (by omega)] at z
    rw [e _ (by omega) (by omega) (by omega), u_ne (by omega), opnF_old (i := 2358 + 8 * s' + 1) (by omega) (by omega) (by omega) (by omega) (by omega)]
    refine ⟨?_, rfl⟩
    by_cases q : s' = s
    · rw [q]; exact h0
    · rw [opnF_old (by omega) (by omega) (by omega) (by omega) (by omega)] at z
      exact z
  · rw [e _ (by omega) (by omega) (by omega), u_ne (by omega), opnF_old (by omega) (by omega) (by omega) (by omega) (by omega)]
/-- the next pass -/
def nxF (v : Nat → Int32) (s : Nat) : Nat → Int32 := upd (upd (upd v (2358 + 8 * s + 3) (v (2358 + 8 * s + 3) + 1)) (2358 + 8 * s + 4) (v 3 + 2)) (2358 + 8 * s + 5) 0
def nxC (c : sm_S) (s : Nat) : sm_S := sm_set (sm_set (sm_set c 21 (upd (c 21) s (c 21 s + 1))) 22 (upd (c 22) s (c 39 3))) 23 (upd (c 23) s 0)
theorem nxF_o {v : Nat → Int32} {s i : Nat} (h : i < 2358 + 8 * s + 3 ∨ 2358 + 8 * s + 5 < i) : nxF v s i = v i := by
  unfold nxF
  rw [u_ne (by omega), u_ne (by omega), u_ne (by omega)]
theorem sim_nxt {c : sm_S} {v : Nat → Int32} {s : Nat} (h : sim0 c v) (hk : ∀ b, b < 96 → bk_ok v b) (hx : jx v) (hs : s < 8) (h3 : c 18 s = 3) : sim0 (nxC c s) (nxF v s) := by
  have gs := h.S s hs
  have r3 : nxF v s (2358 + 8 * s + 3) = v (2358 + 8 * s + 3) + 1 := by
    unfold nxF
    rw [u_ne (by omega), u_ne (by omega), u_at]
  have r4 : nxF v s (2358 + 8 * s + 4) = v 3 + 2 := by
    unfold nxF
    rw [u_ne (by omega), u_at]
  have r5 : nxF v s (2358 + 8 * s + 5) = 0 := u_at
  have c21 : nxC c s 21 = upd (c 21) s (c 21 s + 1) := rfl
  have c22 : nxC c s 22 = upd (c 22) s (c 39 3) := rfl
  have c23 : nxC c s 23 = upd (c 23) s 0 := rfl
  have co : ∀ k, k < 21 ∨ 23 < k → nxC c s k = c k := fun k hk => by
    unfold nxC
    rw [s_ne (by omega), s_ne (by omega), s_ne (by omega)]
  refine h.sv hk (fun t ht => ?_) (fun t ht => by rw [nxF_o (by omega)]) (fun k hk => co k (by omega)) (fun i hi => nxF_o (by omega))
  by_cases e : t = s
  · subst e
    have p3 : c 39 3 = v 3 + 2 := h.N.pau
    refine ⟨?_, ?_, ?_, ?_, ?_, ?_, ?_, ?_, ?_, ?_, ?_⟩
    · rw [nxF_o (by omega), co 18 (by decide)]; exact gs.sta
    · rw [co 18 (by decide), co 19 (by decide)]; exact gs.zof
    · rw [nxF_o (by omega), co 18 (by decide), co 19 (by decide)]; exact gs.zon
    · rw [nxF_o (by omega), co 20 (by decide)]; exact gs.par
    · rw [r3, c21, u_at, gs.pas]
    · rw [r4, c22, u_at, p3]
    · rw [c22, u_at, p3]; exact hx.2.2.2.2.1
    · rw [r5, c23, u_at]; exact fun _ => rfl
    · rw [nxF_o (by omega), co 24 (by decide)]; exact gs.lea
    · rw [nxF_o (by omega), co 25 (by decide)]; exact gs.why
    · rw [co 18 (by decide), h3]; exact fun z => absurd z (by decide)
  · refine (h.S t ht).cg (fun k k1 k2 => ?_) (fun k hk => nxF_o (by omega))
    rcases (show k = 21 ∨ k = 22 ∨ k = 23 ∨ (k < 21 ∨ 23 < k) by omega) with q | q | q | q
    · rw [q, c21, u_ne e]
    · rw [q, c22, u_ne e]
    · rw [q, c23, u_ne e]
    · rw [co k q]
theorem l_off2 {a1 a2 : Int32} {s : Nat} (h1 : a1.toInt = s) (hs : s < 8) (σ : sm_S) : ∀ (d k : Nat) (a3 : Int32), a3.toInt = ((32 * s + k : Nat) : Int) → k + d = 32 → xE xM m_M_isOver 84 [.ref 0, .int a1, .int a2, .int a3] [] (sm_set σ 1 (mpF (fun _ => 0) (σ 1) (32 * s) k)) (sm_V (fun σ' => σ' = sm_set σ 1 (cnF (mpF (fun _ => 0) (σ 1) (32 * s) 32) 6 1))) := by
  have h32 : (32 * a1 + 32).toInt = ((32 * s + 32 : Nat) : Int) := by
    have e := t_ix (c := 0) (m := 32) (C := 0) (M := 32) (k := 32) (j := 32) rfl rfl h1 rfl (by omega)
    rw [Int32.zero_add] at e
    rw [e]
    omega
  intro d
  induction d with
  | zero =>
    intro k a3 h3 hk
    have hk : k = 32 := by omega
    subst hk
    refine w_M_isOver_84 a1 a2 a3 _ _ ⟨fun _ => (c_counts (j := 6) rfl (by decide) 1 _).void ?_, fun h => absurd (by rw [t_le, h32, h3]; omega) h⟩
    rintro _ rfl
    refine ⟨rfl, ?_⟩
    rw [s_at, s_ss]
    rfl
  | succ d ih =>
    intro k a3 h3 hk
    have h3' : (a3 + 1).toInt = ((32 * s + (k + 1) : Nat) : Int) := by
      rw [t_add h3 (y := 1) rfl (by omega) (by omega)]
      omega
    refine w_M_isOver_84 a1 a2 a3 _ _ ⟨fun h => ?_, fun _ => (c_frameAt a3 _).int ?_⟩
    · rw [t_le, h32, h3] at h
      omega
    · rintro _ _ ⟨rfl, rfl⟩
      obtain ⟨p1, p2⟩ := ixF (k := 0) (j := 0) h3 rfl (by omega)
      refine ⟨p1, fun σ4 e4 => ?_⟩
      have e := mpF_s (fun _ => 0) (σ 1) (32 * s) k
      rw [p2, s_at, s_ss, Nat.add_zero, ← e] at e4
      rw [e4]
      exact ih (k + 1) (a3 + 1) h3' (by omega)
theorem tie_off {g : Prop} {N s : Nat} {c : sm_S} {v : Nat → Int32} (t : tie g N c v) (hs : s < 8) (s4 : sim0 (ofC c s) (ofF v s)) : ∀ M, jj M (ofF v s) → tie g M (ofC c s) (ofF v s) := fun M jm => by
  have t' := t.to s4 (fun k k1 k2 => ofC_o (by omega)) (ofF_o (by omega) (by omega)) (fun i hi => ofF_o (by omega) (by omega)) jm.2.1.1
  have nn := t'.n
  have mm := jm.2.2
  have : M = N := by omega
  rw [this]
  exact t'
theorem p_over {g : Prop} {N s : Nat} {c : sm_S} {v : Nat → Int32} {a1 : Int32} (h : tie g N c v) (hj : jj N v) (hx : jx v) (hN : N + 7 < 2000000000) (h1 : a1.toInt = s) (hs : s < 8) (hst : v (2358 + 8 * s + 0) = 3) (hS : v (2358 + 8 * s + 6) = 0) (h4 : v (2358 + 8 * s + 4) = 0) : ∃ v' c' N', rd j_M_isOver [.ref 0, .int a1] v v' ∧ xC xD j_G_endPass [.ref 41, .int a1] c (sm_V (fun σ' => σ' = c')) ∧ tie g N' c' v' ∧ jj N' v' ∧ jx v' ∧ N ≤ N' ∧ N' ≤ N + 7 := by
  have gs := h.s.S s hs
  have c18 : c 18 s = 3 := by rw [← gs.sta]; exact hst
  have va := t_vp h1 hs
  obtain ⟨p0, q0⟩ := ixS (k := 0) (j := 0) h1 rfl (by omega)
  obtain ⟨p1, q1⟩ := ixS (k := 1) (j := 1) h1 rfl (by omega)
  obtain ⟨p2, q2⟩ := ixS (k := 2) (j := 2) h1 rfl (by omega)
  obtain ⟨p3, q3⟩ := ixS (k := 3) (j := 3) h1 rfl (by omega)
  obtain ⟨p4, q4⟩ := ixS (k := 4) (j := 4) h1 rfl (by omega)
  obtain ⟨p5, q5⟩ := ixS (k := 5) (j := 5) h1 rfl (by omega)
  have t1 := h.cnt (k := 9) (by decide) 1
  have j1 : jj N (cnF v 9 1) := jj_cn hj (by decide)
  have e1 : ∀ i, i ≠ 16 → cnF v 9 1 i = v i := fun i hi => u_ne (by omega)
  have x1 : jx (cnF v 9 1) := hx.cg (fun b k _ _ => e1 _ (by omega)) (fun s' hs' z => ⟨fun y => z ((e1 _ (by omega)).trans y), e1 _ (by omega)⟩) (e1 0 (by omega)) (fun i i1 i2 => e1 i (by omega))
  have fin : ∀ v' c', rd j_M_isOver [.ref 0, .int a1] v v' → xC xD j_G_endPass [.ref 41, .int a1] c (sm_V (fun σ' => σ' = c')) → (∀ M, jj M v' → tie g M c' v') → jx v' → ∃ v' c' N', rd j_M_isOver [.ref 0, .int a1] v v' ∧ xC xD j_G_endPass [.ref 41, .int a1] c (sm_V (fun σ' => σ' = c')) ∧ tie g N' c' v' ∧ jj N' v' ∧ jx v' ∧ N ≤ N' ∧ N' ≤ N + 7 := fun v' c' r rc t x => by
    obtain ⟨w, N', ew, jw, k1, k2, -⟩ := r.det (c_isOver (N := N) h1 hs (by omega) (rz v) (by rw [rz_at]; exact hj) (by rw [rz_at]; exact hst) (by rw [rz_at]; exact hS))
    rw [rz_eq ew] at jw
    exact ⟨v', c', N', r, rc, t N' jw, jw, x, k1, k2⟩
  -- both counts
  have many : ∀ (σ : sm_S) (Q : Option Value → sm_S → Prop), σ 1 = v → (∀ (y5 y7 : Int32), y5.toInt = ((cnS (cnF v 9 1) s 3 : Nat) : Int) → y7.toInt = ((cnS (cnF v 9 1) s 4 : Nat) : Int) → (((y5 + y7) ≠ 0 → (vp_in (2358 + 8 * a1 + 3) 2662 ∧ xC xM j_M_settingOf [.ref 0, .int 1] (sm_set σ 1 (cnF v 9 1)) (sm_ri False (fun x9 σ8 => ((((cnF v 9 1) (2358 + 8 * s + 3)) < x9 → xC xM j_M_more [.ref 0, .int (2358 + 8 * a1 + 3), .int 1] σ8 (sm_rv False (fun σ10 => xC xM j_M_settingOf [.ref 0, .int 3] σ10 (sm_ri False (fun x12 σ11 => (vp_in (2358 + 8 * a1 + 4) 2662 ∧ ∀ σ13, σ13 = sm_set σ11 1 (upd (σ11 1) (2358 + 8 * s + 4) x12) → (vp_in (2358 + 8 * a1 + 5) 2662 ∧ ∀ σ14, σ14 = sm_set σ13 1 (upd (σ13 1) (2358 + 8 * s + 5) 0) → Q none σ14))))))) ∧ (¬ (((cnF v 9 1) (2358 + 8 * s + 3)) < x9) → xC xM j_M_whyOf [.ref 0, .int a1] σ8 (sm_ri False (fun x16 σ15 => xC xM j_M_fails [.ref 0, .int a1, .int x16] σ15 (sm_rv False (fun σ17 => Q none σ17)))))))))) ∧ (¬ ((y5 + y7) ≠ 0) → (vp_in (2358 + 8 * a1 + 3) 2662 ∧ xC xM j_M_writes [.ref 0, .int 1, .int a1, .int ((cnF v 9 1) (2358 + 8 * s + 3))] (sm_set σ 1 (cnF v 9 1)) (sm_rv False (fun σ18 => (vp_in (2358 + 8 * a1 + 0) 2662 ∧ ∀ σ19, σ19 = sm_set σ18 1 (upd (σ18 1) (2358 + 8 * s + 0) 0) → (vp_in (2358 + 8 * a1 + 1) 2662 ∧ ∀ σ20, σ20 = sm_set σ19 1 (upd (σ19 1) (2358 + 8 * s + 1) 0) → (vp_in (2358 + 8 * a1 + 2) 2662 ∧ ∀ σ21, σ21 = sm_set σ20 1 (upd (σ20 1) (2358 + 8 * s + 2) 0) → (vp_in (2358 + 8 * a1 + 3) 2662 ∧ ∀ σ22, σ22 = sm_set σ21 1 (upd (σ21 1) (2358 + 8 * s + 3) 0) → xE xM m_M_isOver 84 [.ref 0, .int a1, .int (2358 + 8 * a1), .int (32 * a1)] [] σ22 Q)))))))))) → xC xM j_M_isOver [.ref 0, .int a1] σ Q := fun σ Q e hQ => by
    refine w_M_isOver a1 σ Q ((c_spanAt a1 σ).int ?_)
    rintro _ σ ⟨rfl, rfl⟩
    refine (c_counts (j := 9) rfl (by decide) 1 _).void ?_
    rintro σ3 e3
    have e3' : σ3 = sm_set σ 1 (cnF v 9 1) := by
      rw [e3, e]
      rfl
    rw [e3']
    refine (c_manyIn2 h1 hs 3 _).int ?_
    rintro y5 σ4 ⟨ey5, es4⟩
    rw [es4]
    refine (c_manyIn2 h1 hs 4 _).int ?_
    rintro y7 σ6 ⟨ey7, es6⟩
    rw [es6, q0, q1, q2, q3, q4, q5, s_at]
    rw [s_at] at ey5 ey7
    exact hQ y5 y7 ey5 ey7
  have b3 := cnS_le (cnF v 9 1) s 3
  have b4 := cnS_le (cnF v 9 1) s 4
  have sum0 : ∀ y5 y7 : Int32, y5.toInt = ((cnS (cnF v 9 1) s 3 : Nat) : Int) → y7.toInt = ((cnS (cnF v 9 1) s 4 : Nat) : Int) → ((y5 + y7) = 0 ↔ cnS (cnF v 9 1) s 3 = 0 ∧ cnS (cnF v 9 1) s 4 = 0) := fun y5 y7 a b => by
    have := t_add a b (by omega) (by omega)
    refine ⟨fun q => ?_, fun q => t_inj ?_⟩
    · rw [q] at this
      have this : (0 : Int) = _ := this
      omega
    · rw [this]
      show _ = (0 : Int)
      omega
  have bits : ∀ K a, (∀ f, f < 256 → (bit (c K (f / 32)) (f % 32) ↔ v (18 + 3 * f) = a)) → (c K s = 0 ↔ cnS (cnF v 9 1) s a = 0) := fun K a hb => by
    rw [cnS_z]
    refine ⟨fun q f hf z => ?_, fun q => Classical.byContradiction (fun z => ?_)⟩
    · rw [e1 _ (by omega)] at z
      have := (hb f (by omega)).mpr z
      rw [hf, q] at this
      exact bit_0 this
    · obtain ⟨i, hi, hb2⟩ := bit_ne.mp z
      have := (hb (32 * s + i) (by omega)).mp (by rw [show (32 * s + i) / 32 = s by omega, show (32 * s + i) % 32 = i by omega]; exact hb2)
      exact q (32 * s + i) (by omega) (by rw [e1 _ (by omega)]; exact this)
  have z4 := bits 4 3 (fun f hf => (h.s.F f hf).tak)
  have z5 := bits 5 4 (fun f hf => (h.s.F f hf).hel)
  have e3p : cnF v 9 1 (2358 + 8 * s + 3) = c 21 s := by rw [e1 _ (by omega)]; exact gs.pas
  have tr : c 39 1 = v 1 + 3 := h.s.N.tri
  by_cases em : cnS (cnF v 9 1) s 3 = 0 ∧ cnS (cnF v 9 1) s 4 = 0
  · -- it is off
    obtain ⟨nl, hnl, h5l, t2⟩ := t1.log (by omega) 1 a1 (c 21 s)
    have t3 := t2.cnt (k := 6) (by decide) 1
    have ez : ∀ i, i < 2422 → i ≠ 5 → i ≠ 13 → i ≠ 16 → cnF (wrF (cnF v 9 1) N 1 a1 (c 21 s)) 6 1 i = v i := fun i i1 i2 i3 i4 => by
      unfold cnF
      rw [u_ne (by omega), wrF_lo i1 i2, u_ne (by omega)]
    have s4 := sim_off t3.s t3.b hs (by rw [ez _ (by omega) (by omega) (by omega) (by omega)]; exact h4) (by rw [ez _ (by omega) (by omega) (by omega) (by omega)]; exact hS) (fun f hf => by
      rw [ez _ (by omega) (by omega) (by omega) (by omega), ← e1 (18 + 3 * f) (by omega)]
      exact ⟨cnS_z.mp em.1 f hf, cnS_z.mp em.2 f hf⟩)
    have eV : cnF (ofF (wrF (cnF v 9 1) N 1 a1 (c 21 s)) s) 6 1 = ofF (cnF (wrF (cnF v 9 1) N 1 a1 (c 21 s)) 6 1) s := by
      funext i
      have k13 : ofF (wrF (cnF v 9 1) N 1 a1 (c 21 s)) s 13 = wrF (cnF v 9 1) N 1 a1 (c 21 s) 13 := ofF_o (by omega) (by omega)
      unfold cnF at k13 ⊢
      rw [show 7 + 6 = 13 from rfl, k13]
      by_cases e : i = 13
      · rw [e, u_at, ofF_o (by omega) (by omega), u_at]
      · rw [u_ne e]
        unfold ofF mpF
        by_cases q : (18 + 3 * (32 * s) ≤ i ∧ i < 18 + 3 * (32 * s + 32)) ∧ (i - 18) % 3 = 0
        · rw [if_pos q, if_pos q]
        · rw [if_neg q, if_neg q]
          by_cases a3 : i = 2358 + 8 * s + 3
          · rw [a3, u_at, u_at]
          · rw [u_ne a3, u_ne a3]
            by_cases a2 : i = 2358 + 8 * s + 2
            · rw [a2, u_at, u_at]
            · rw [u_ne a2, u_ne a2]
              by_cases b1 : i = 2358 + 8 * s + 1
              · rw [b1, u_at, u_at]
              · rw [u_ne b1, u_ne b1]
                by_cases b0 : i = 2358 + 8 * s + 0
                · rw [b0, u_at, u_at]
                · rw [u_ne b0, u_ne b0, u_ne e]
    refine fin (ofF (cnF (wrF (cnF v 9 1) N 1 a1 (c 21 s)) 6 1) s) _ (fun σ e => many σ _ e (fun y5 y7 a b => ⟨fun q => absurd ((sum0 y5 y7 a b).mpr em) q, fun _ => ⟨p3, ?_⟩⟩)) ?_ (tie_off t3 hs s4) ?_
    · rw [e3p]
      refine (c_writes2 (n := N) 1 a1 _ _ (by rw [s_at]; exact t1.n)).void ?_
      rintro σ18 e18
      rw [s_at, s_ss] at e18
      refine ⟨p0, fun σ19 e19 => ⟨p1, fun σ20 e20 => ⟨p2, fun σ21 e21 => ⟨p3, fun σ22 e22 => ?_⟩⟩⟩⟩
      rw [e18, s_at, s_ss] at e19
      rw [e19, s_at, s_ss] at e20
      rw [e20, s_at, s_ss] at e21
      rw [e21, s_at, s_ss] at e22
      have h32 : (32 * a1).toInt = ((32 * s + 0 : Nat) : Int) := by
        have e := t_ix (c := 0) (m := 32) (C := 0) (M := 32) (k := 0) (j := 0) rfl rfl h1 rfl (by omega)
        rw [Int32.zero_add, Int32.add_zero] at e
        rw [e]
        omega
      have := l_off2 (a2 := 2358 + 8 * a1) h1 hs σ22 32 0 (32 * a1) h32 rfl
      rw [mpF_0, s_id] at this
      refine this.mono ?_
      rintro r σ' ⟨hr, hs'⟩
      refine ⟨hr, ?_⟩
      rw [hs', e22, s_at, s_ss, ← eV]
      rfl
    · refine d_G_endPass a1 c _ ⟨t_vp (n := 9) rfl (by omega), t_vp (n := 9) rfl (by omega), fun σ1 e1' => ?_⟩
      have f1 : σ1 = sm_set c 40 (upd (c 40) 9 (c 40 9 + 1)) := e1'
      have k4 : σ1 4 = c 4 := by rw [f1, s_ne (by decide)]
      have k5 : σ1 5 = c 5 := by rw [f1, s_ne (by decide)]
      rw [t_nat h1, k4, k5]
      refine ⟨va, fun q => absurd (z4.mpr em.1) q, fun _ => ⟨va, fun q => absurd (z5.mpr em.2) q, fun _ => ?_⟩⟩
      refine d_G_turnOff a1 σ1 _ ⟨t_vp (n := 6) rfl (by omega), t_vp (n := 6) rfl (by omega), fun σ2 e2 => ⟨va, ?_⟩⟩
      have f2 : σ2 = sm_set σ1 40 (upd (σ1 40) 6 (σ1 40 6 + 1)) := e2
      have k21 : σ2 21 = c 21 := by rw [f2, s_ne (by decide), f1, s_ne (by decide)]
      have k34 : (σ2 34 5).toInt = nl := by
        rw [f2, s_ne (by decide), f1]
        exact h5l
      rw [t_nat h1, k21]
      refine (e_add2 _ _ _ _ σ2 k34 hnl).void ?_
      rintro σ3 e3
      refine ⟨va, fun σ4 e4 => ⟨va, fun σ5 e5 => ⟨va, fun σ6 e6 => ?_⟩⟩⟩
      refine (e_endGoing2 h1 hs 0 σ6).void ?_
      rintro σ7 e7
      refine ⟨rfl, ?_⟩
      have f3 : σ3 = sm_set (laC (sm_set c 40 (upd (c 40) 9 (c 40 9 + 1))) nl (sm_set c 40 (upd (c 40) 9 (c 40 9 + 1)) 0 7) 1 a1 (c 21 s)) 40 (upd (laC (sm_set c 40 (upd (c 40) 9 (c 40 9 + 1))) nl (sm_set c 40 (upd (c 40) 9 (c 40 9 + 1)) 0 7) 1 a1 (c 21 s) 40) 6 (laC (sm_set c 40 (upd (c 40) 9 (c 40 9 + 1))) nl (sm_set c 40 (upd (c 40) 9 (c 40 9 + 1)) 0 7) 1 a1 (c 21 s) 40 6 + 1)) := by
        rw [e3, f2, laC_s (by omega), f1]
        rfl
      rw [e7, e6, e5, e4, f3]
      rfl
    · refine hx.cg (fun b k hb hk => ?_) (fun s' hs' z => ?_) ?_ (fun i i1 i2 => by rw [ofF_o (by omega) (by omega), ez _ (by omega) (by omega) (by omega) (by omega)])
      · rw [ofF_o (by omega) (by omega), ez _ (by omega) (by omega) (by omega) (by omega)]
      · by_cases q : s' = s
        · rw [q, ofF_at hs (by decide)] at z
          exact absurd rfl z
        · rw [ofF_o (by omega) (by omega), ez _ (by omega) (by omega) (by omega) (by omega)] at z
          exact ⟨z, by rw [ofF_o (by omega) (by omega), ez _ (by omega) (by omega) (by omega) (by omega)]⟩
      · rw [ofF_o (by omega) (by omega), ez _ (by omega) (by omega) (by omega) (by omega)]
  · -- it stays
    have cN : ¬ (c 4 s = 0 ∧ c 5 s = 0) := fun q => em ⟨z4.mp q.1, z5.mp q.2⟩
    -- the class comes to the same place
    have upC : ∀ {Q : Option Value → sm_S → Prop}, (((c 21 s) < (c 39 1) → (∀ σ4, σ4 = sm_set (nxC c s) 40 (upd (c 40) 9 (c 40 9 + 1)) → Q none σ4)) ∧ (¬ ((c 21 s) < (c 39 1)) → xC xD j_G_whyFails [.ref 41, .int a1] (sm_set c 40 (upd (c 40) 9 (c 40 9 + 1))) (sm_ri False (fun x6 σ5 => xC xD j_G_fail [.ref 41, .int a1, .int x6] σ5 (sm_rv False (fun σ7 => Q none σ7)))))) → xC xD j_G_endPass [.ref 41, .int a1] c Q := fun {Q} hQ => by
      refine d_G_endPass a1 c _ ⟨t_vp (n := 9) rfl (by omega), t_vp (n := 9) rfl (by omega), fun σ1 e1' => ?_⟩
      have f1 : σ1 = sm_set c 40 (upd (c 40) 9 (c 40 9 + 1)) := e1'
      have k4 : σ1 4 = c 4 := by rw [f1, s_ne (by decide)]
      have k5 : σ1 5 = c 5 := by rw [f1, s_ne (by decide)]
      have k21 : σ1 21 = c 21 := by rw [f1, s_ne (by decide)]
      have k39 : σ1 39 = c 39 := by rw [f1, s_ne (by decide)]
      have n1 : ((1 : Int32)).toNatClampNeg = 1 := rfl
      have n3 : ((3 : Int32)).toNatClampNeg = 3 := rfl
      rw [t_nat h1, k4, k5, k21, k39, n1]
      have fin2 : vp_in a1 8 ∧ (vp_in (1 : Int32) 4 ∧ (((c 21 s) < (c 39 1) → (vp_in a1 8 ∧ (vp_in a1 8 ∧ ∀ σ2, σ2 = sm_set σ1 21 (upd (c 21) s ((c 21 s) + 1)) → (vp_in (3 : Int32) 4 ∧ (vp_in a1 8 ∧ ∀ σ3, σ3 = sm_set σ2 22 (upd (σ2 22) s (σ2 39 ((3 : Int32)).toNatClampNeg)) → (vp_in a1 8 ∧ ∀ σ4, σ4 = sm_set σ3 23 (upd (σ3 23) s 0) → Q none σ4)))))) ∧ (¬ ((c 21 s) < (c 39 1)) → xC xD j_G_whyFails [.ref 41, .int a1] σ1 (sm_ri False (fun x6 σ5 => xC xD j_G_fail [.ref 41, .int a1, .int x6] σ5 (sm_rv False (fun σ7 => Q none σ7))))))) := by
        refine ⟨va, t_vp (n := 1) rfl (by omega), fun q => ⟨va, va, fun σ2 e2 => ⟨t_vp (n := 3) rfl (by omega), va, fun σ3 e3 => ⟨va, fun σ4 e4 => hQ.1 q σ4 ?_⟩⟩⟩, fun q => by rw [f1]; exact hQ.2 q⟩
        rw [n3] at e3
        have g2 : σ2 22 = c 22 := by rw [e2, s_ne (by decide), f1, s_ne (by decide)]
        have g39 : σ2 39 = c 39 := by rw [e2, s_ne (by decide), k39]
        have g3 : σ3 23 = c 23 := by rw [e3, s_ne (by decide), e2, s_ne (by decide), f1, s_ne (by decide)]
        rw [e4, g3, e3, g2, g39, e2, f1]
        unfold nxC
        rw [s_com (show 40 ≠ 21 by decide), s_com (show 40 ≠ 22 by decide), s_com (show 40 ≠ 23 by decide)]
      refine ⟨va, fun _ => fin2, fun q => ⟨va, fun _ => fin2, fun q2 => absurd ⟨Classical.not_not.mp q, Classical.not_not.mp q2⟩ cN⟩⟩
    have sumN0 : ∀ y5 y7 : Int32, y5.toInt = ((cnS (cnF v 9 1) s 3 : Nat) : Int) → y7.toInt = ((cnS (cnF v 9 1) s 4 : Nat) : Int) → (y5 + y7) ≠ 0 := fun y5 y7 a b q => em ((sum0 y5 y7 a b).mp q)
    by_cases lt : c 21 s < c 39 1
    · have s4 := sim_nxt t1.s t1.b x1 hs (by rw [s_ne (by decide)]; exact c18)
      have eC : nxC (sm_set c 40 (upd (c 40) 9 (c 40 9 + 1))) s = sm_set (nxC c s) 40 (upd (c 40) 9 (c 40 9 + 1)) := by
        unfold nxC
        rw [s_ne (show 21 ≠ 40 by decide), s_ne (show 22 ≠ 40 by decide), s_ne (show 23 ≠ 40 by decide), s_ne (show 39 ≠ 40 by decide), s_com (show 40 ≠ 21 by decide), s_com (show 40 ≠ 22 by decide), s_com (show 40 ≠ 23 by decide)]
      rw [eC] at s4
      refine fin (nxF (cnF v 9 1) s) _ (fun σ e => many σ _ e (fun y5 y7 a b => ⟨fun _ => ⟨p3, (r_set1 (cnF v 9 1) _ s_at).int ?_⟩, fun q => absurd (sumN0 y5 y7 a b) q⟩)) (upC ⟨fun _ σ4 e4 => ⟨rfl, e4⟩, fun q => absurd lt q⟩) (fun M jm => ?_) ?_
      · rintro y9 σ8 ⟨ey9, es8⟩
        rw [ey9, es8, e3p, e1 1 (by decide), ← tr]
        refine ⟨fun _ => ?_, fun q => absurd lt q⟩
        have ik : (2358 + 8 * a1 + 3).toInt = ((2358 + 8 * s + 3 : Nat) : Int) := t_ix (c := 2358) (m := 8) (C := 2358) (M := 8) (k := 3) (j := 3) rfl rfl h1 rfl (by omega)
        refine (c_more ik (by omega) 1 _).void ?_
        rintro σ10 e10
        rw [s_at, s_ss] at e10
        refine (r_set3 (upd (cnF v 9 1) (2358 + 8 * s + 3) (cnF v 9 1 (2358 + 8 * s + 3) + 1)) σ10 (by rw [e10, s_at])).int ?_
        rintro y12 σ11 ⟨ey12, es11⟩
        rw [ey12, es11]
        refine ⟨p4, fun σ13 e13 => ⟨p5, fun σ14 e14 => ⟨rfl, ?_⟩⟩⟩
        rw [u_ne (show (3 : Nat) ≠ 2358 + 8 * s + 3 by omega)] at e13
        rw [e14, e13, s_at, s_ss, e10, s_at, s_ss]
        rfl
      · have t := t1.to (c' := sm_set (nxC c s) 40 (upd (c 40) 9 (c 40 9 + 1))) s4 (fun k k1 k2 => by
          rw [s_ne (by omega), s_ne (by omega)]
          unfold nxC
          rw [s_ne (by omega), s_ne (by omega), s_ne (by omega)]) (nxF_o (by omega)) (fun i hi => nxF_o (by omega)) jm.2.1.1
        have nn := t.n
        have mm := jm.2.2
        have : M = N := by omega
        rw [this]
        exact t
      · refine x1.cg (fun b k hb hk => nxF_o (by omega)) (fun s' hs' z => ⟨fun y => z ((nxF_o (by omega)).trans y), nxF_o (by omega)⟩) (nxF_o (by omega)) (fun i i1 i2 => nxF_o (by omega))
    · obtain ⟨w, rw1, rcw⟩ := whyE t1.s h1 hs
      obtain ⟨c', rc', t', j', -, -⟩ := p_fail w t1 j1 (by omega) h1 hs (by rw [e1 _ (by omega)]; exact hS) (by rw [s_ne (by decide), c18]; decide)
      refine ⟨_, c', N + 1, fun σ e => many σ _ e (fun y5 y7 a b => ⟨fun _ => ⟨p3, (r_set1 (cnF v 9 1) _ s_at).int ?_⟩, fun q => absurd (sumN0 y5 y7 a b) q⟩), upC ⟨fun q => absurd q lt, fun _ => rcw.int ?_⟩, t', j', jx_fl x1 hs (by rw [e1 _ (by omega), hst]; decide), by omega, by omega⟩
      · rintro y9 σ8 ⟨ey9, es8⟩
        rw [ey9, es8, e3p, e1 1 (by decide), ← tr]
        refine ⟨fun q => absurd q lt, fun _ => (rw1 _ s_at).int ?_⟩
        rintro y16 σ15 ⟨ey16, es15⟩
        rw [ey16, es15, s_ss]
        refine (r_fails (w := w) h1 hs (r_stays0 h1 hs (by rw [e1 _ (by omega)]; exact hS)) t1.n _ s_at).void ?_
        rintro _ rfl
        exact ⟨rfl, by rw [s_ss]⟩
      · rintro y6 σ5 ⟨ey6, es5⟩
        rw [ey6, es5]
        refine rc'.void ?_
        rintro _ rfl
        exact ⟨rfl, rfl⟩
end
section
/-! ===== the simulation: moveOn | moves ===== -/
/-- both from the head of the loop: the reference from moves_32, the class from moveOn_38, to the same end -/
def mvT (g : Prop) (N k : Nat) (B : Nat) (a1 a2 l : Int32) (c : sm_S) (v : Nat → Int32) : Prop := ∃ (v' : Nat → Int32) (c' : sm_S) (N' : Nat), (∀ σ : sm_S, σ 1 = v → xE xM m_M_moves 32 [.ref 0, .int a1, .int a2, .int l] [] σ (sm_V (fun σ' => σ' = sm_set σ 1 v'))) ∧ (∀ (a3 : Int32) (v4 v5 : Value), a3.toInt = k → xE xD m_G_moveOn 38 [.ref 41, .int a1, .int l, .int a3, v4, v5] [] c (sm_V (fun σ' => σ' = c'))) ∧ tie g N' c' v' ∧ jj N' v' ∧ jx v' ∧ N' ≤ N + B
/-- the same where a block is on its way: the reference from copies -/
def mvK (g : Prop) (N k : Nat) (B : Nat) (a1 a2 l : Int32) (c : sm_S) (v : Nat → Int32) : Prop := ∃ (v' : Nat → Int32) (c' : sm_S) (N' : Nat), (∀ (σ : sm_S) (Q : Option Value → sm_S → Prop), σ 1 = v → Q none (sm_set σ 1 v') → xC xM j_M_copies [.ref 0, .int a1, .int l] σ (sm_ri False (fun x7 σ6 => (vp_in (a2 + 6) 2662 ∧ (((σ6 1 ((a2 + 6)).toNatClampNeg) ≤ 0 → xE xM m_M_moves 32 [.ref 0, .int a1, .int a2, .int x7] [] σ6 Q) ∧ (¬ ((σ6 1 ((a2 + 6)).toNatClampNeg) ≤ 0) → Q none σ6)))))) ∧ (∀ (a3 : Int32) (v4 v5 : Value), a3.toInt = k → xE xD m_G_moveOn 38 [.ref 41, .int a1, .int l, .int a3, v4, v5] [] c (sm_V (fun σ' => σ' = c'))) ∧ tie g N' c' v' ∧ jj N' v' ∧ jx v' ∧ N' ≤ N + B
theorem le0 {x : Int32} : x ≤ 0 ↔ x.toInt ≤ 0 := t_le
theorem mv_K {g : Prop} {s : Nat} {a1 a2 : Int32} (h1 : a1.toInt = s) (hs : s < 8) (h2 : a2.toInt = ((2358 + 8 * s : Nat) : Int)) {N k B r l0 : Nat} {c : sm_S} {v : Nat → Int32} {l : Int32} (h : tie g N c v) (hj : jj N v) (hx : jx v) (hst : v (2358 + 8 * s + 0) = 3) (h4 : v (2358 + 8 * s + 4) = 0) (h6 : v (2358 + 8 * s + 6) ≠ 0) (hr : (v (2358 + 8 * s + 5)).toInt = r) (hl : l.toInt = l0) (hN : N + 7 < 2000000000) (hk : k < 999) (ih : ∀ (N1 l1 : Nat) (c1 : sm_S) (v1 : Nat → Int32) (x : Int32), tie g N1 c1 v1 → jj N1 v1 → jx v1 → v1 (2358 + 8 * s + 0) = 3 → v1 (2358 + 8 * s + 4) = 0 → v1 (2358 + 8 * s + 6) = 0 → (v1 (2358 + 8 * s + 5)).toInt = r → phi v1 s r ≤ phi v s r → x.toInt = l1 → N1 ≤ N + 7 → mvT g N1 (k + 1) B a1 a2 x c1 v1) : mvK g N k (B + 7) a1 a2 l c v := by
  obtain ⟨p6, q6⟩ := ix5 h2 hs (k := 6) (j := 6) rfl (by decide)
  obtain ⟨n, o, fr, to, hn, e6, -⟩ := way_of hj hs h6
  have gs := h.s.S s hs
  have c24 : (c 24 s).toInt = n := m1_add (by rw [← gs.lea]; exact e6) (by omega)
  obtain ⟨K, v1, c1, hK, rcp, t1, j1, x1, vs, we, o1, c10, ho1, fin⟩ := p_copy (a1 := a1) (a2 := l) (a3 := c 24 s) h hj hx h1 hs c24 e6 hl
  have s6 : v1 (2358 + 8 * s + 6) = v (2358 + 8 * s + 6) := vs _ (by omega)
  have lng : ((1 : Int32) <<< (c1 10 n &&& 31)).toInt = ((2 ^ o1 : Nat) : Int) := t_pow c10 (by omega)
  rcases fin with ⟨f1, f2⟩ | ⟨f1, f2⟩
  · refine ⟨v1, c1, N, fun σ Q e hQ => (f2 σ e).int ?_, fun a3 v4 v5 q => ?_, t1, j1, x1, by omega⟩
    · rintro x7 σ6 ⟨-, es⟩
      refine ⟨p6, fun z => ?_, fun _ => by rw [es]; exact hQ⟩
      rw [q6, es, s_at, s6, le0, e6] at z
      omega
    · refine d_G_moveOn_38 a1 l a3 v4 v5 c _ ⟨fun z => ?_, fun _ => ⟨t_vp h1 hs, fun _ => ?_, fun z => ?_⟩⟩
      · rw [t_le, q] at z
        have z : (1000 : Int) ≤ k := z
        omega
      · rw [t_nat h1]
        refine rcp.int ?_
        rintro y σ1 ⟨ey, es⟩
        rw [es]
        refine ⟨t_vp c24 hn, (c_size c24 hn c1).int ?_⟩
        rintro y2 σ2 ⟨ey2, es2⟩
        rw [ey2, es2, t_nat c24]
        refine ⟨fun z => ?_, fun _ => ⟨rfl, rfl⟩⟩
        rw [t_le, lng] at z
        omega
      · rw [t_nat h1] at z
        exact absurd (ne_m1 c24) z
  · obtain ⟨v2, c2, N2, ra, rca, t2, j2, x2, n2, vs2, z6, we2⟩ := p_arrive (a1 := a1) (a2 := c 24 s) t1 j1 x1 hN h1 hs c24 (by rw [s6]; exact e6)
    have iK : (nI K).toInt = K := nI_toInt (by have := t_bd l; omega)
    have hl1 : (l - nI K).toInt = ((l0 - K : Nat) : Int) := by
      have := t_bd l
      rw [t_sub hl iK (by omega) (by omega)]
      omega
    have v2s : ∀ i, 2358 ≤ i → i < 2422 → i ≠ 2358 + 8 * s + 6 → v2 i = v i := fun i i1 i2 i3 => (vs2 i i1 i2 i3).trans (vs i (by omega))
    obtain ⟨v', c', N', qr, qc, t', j', x', n'⟩ := ih N2 (l0 - K) c2 v2 (l - nI K) t2 j2 x2 (by rw [v2s _ (by omega) (by omega) (by omega)]; exact hst) (by rw [v2s _ (by omega) (by omega) (by omega)]; exact h4) z6 (by rw [v2s _ (by omega) (by omega) (by omega)]; exact hr) (phi_mono (fun f hf hfs => by rw [← we f hf]; exact we2 f hf hfs) hs (Nat.le_refl r)) hl1 n2
    refine ⟨v', c', N', fun σ Q e hQ => (f2 v2 ra σ e).int ?_, fun a3 v4 v5 q => ?_, t', j', x', by omega⟩
    · rintro x7 σ6 ⟨ex, es⟩
      refine ⟨p6, fun _ => ?_, fun z => ?_⟩
      · rw [ex, es]
        refine (qr _ s_at).mono ?_
        rintro r0 σ0 ⟨hr0, hs0⟩
        rw [hr0, hs0, s_ss]
        exact hQ
      · rw [q6, es, s_at, z6] at z
        exact absurd (by decide) z
    · have q' : (a3 + 1).toInt = ((k + 1 : Nat) : Int) := by
        rw [t_add q (y := 1) rfl (by omega) (by omega)]
        omega
      refine d_G_moveOn_38 a1 l a3 v4 v5 c _ ⟨fun z => ?_, fun _ => ⟨t_vp h1 hs, fun _ => ?_, fun z => ?_⟩⟩
      · rw [t_le, q] at z
        have z : (1000 : Int) ≤ k := z
        omega
      · rw [t_nat h1]
        refine rcp.int ?_
        rintro y σ1 ⟨ey, es⟩
        rw [es, ey]
        refine ⟨t_vp c24 hn, (c_size c24 hn c1).int ?_⟩
        rintro y2 σ2 ⟨ey2, es2⟩
        rw [ey2, es2, t_nat c24]
        refine ⟨fun _ => rca.void ?_, fun z => absurd ?_ z⟩
        · rintro _ rfl
          exact qc (a3 + 1) _ _ q'
        · rw [t_le, lng, f1]
          omega
      · rw [t_nat h1] at z
        exact absurd (ne_m1 c24) z
theorem mv_all {g : Prop} {s : Nat} {a1 a2 : Int32} (h1 : a1.toInt = s) (hs : s < 8) (h2 : a2.toInt = ((2358 + 8 * s : Nat) : Int)) : ∀ (m N k r l0 : Nat) (c : sm_S) (v : Nat → Int32) (l : Int32), tie g N c v → jj N v → jx v → v (2358 + 8 * s + 0) = 3 → v (2358 + 8 * s + 4) = 0 → (v (2358 + 8 * s + 5)).toInt = r → l.toInt = l0 → N + 8 * m + 100 < 1999999000 → k + m < 998 →
    (v (2358 + 8 * s + 6) = 0 → 2 * phi v s r ≤ m → mvT g N k (8 * m + 8) a1 a2 l c v) ∧ (v (2358 + 8 * s + 6) ≠ 0 → 2 * phi v s r + 1 ≤ m → mvK g N k (8 * m + 8) a1 a2 l c v) := by
  obtain ⟨p6, q6⟩ := ix5 h2 hs (k := 6) (j := 6) rfl (by decide)
  intro m
  induction m using Nat.strongRecOn with
  | ind m ih =>
    intro N k r l0 c v l h hj hx hst h4 hr hl hN hk
    refine ⟨fun h6 hm => ?_, fun h6 hm => ?_⟩
    · have gs := h.s.S s hs
      have c23 : c 23 s = v (2358 + 8 * s + 5) := (gs.rea (by rw [← gs.sta]; exact hst)).symm
      obtain ⟨_, _, r2, _, _, _, _, _, _, z5, z6, -⟩ := hj.2.1.2.2.1 s hs
      obtain ⟨x, rx, rcx, hf⟩ := p_first (a1 := a1) (a2 := v (2358 + 8 * s + 5)) h.s h1 hs hr (by omega)
      obtain ⟨v1, c1, N1, d, r1, y, qr, qc, t1, j1, x1, n1, sp, e5, pl, fin⟩ := p_looks (g := g) h1 hs h2 (phi v s r) N r c v x h hj hx hst h6 hr (Nat.le_refl _) (by omega) hf (by rw [c23]; exact rcx)
      have st1 : v1 (2358 + 8 * s + 0) = 3 := by rw [sp _ (by omega) (by omega) (by omega) (by omega)]; exact hst
      have h41 : v1 (2358 + 8 * s + 4) = 0 := by rw [sp _ (by omega) (by omega) (by omega) (by omega)]; exact h4
      have runL : ∀ (σ : sm_S) (Q : Option Value → sm_S → Prop), σ 1 = v → Q (some (.int y)) (sm_set σ 1 v1) → xC xM j_M_looks [.ref 0, .int a1] σ Q := fun σ Q e hQ => by
        obtain ⟨p5, q5⟩ := ixS (k := 5) (j := 5) h1 rfl (by omega)
        have ea : a2 = 2358 + 8 * a1 := t_inj (by
          have e := t_ix (c := 2358) (m := 8) (C := 2358) (M := 8) (k := 0) (j := 0) rfl rfl h1 rfl (by omega)
          rw [Int32.add_zero] at e
          rw [e, h2]
          omega)
        refine w_M_looks a1 σ Q ((c_spanAt a1 σ).int ?_)
        rintro _ σ ⟨rfl, rfl⟩
        refine ⟨p5, ?_⟩
        rw [q5, e]
        refine (rx σ e).int ?_
        rintro y1 σ1 ⟨ey1, es1⟩
        have es1' : σ1 = σ := by rw [es1, ← e, s_id]
        rw [ey1, es1', ← ea]
        exact qr σ .null .null Q e hQ
      have n0 : ¬ (0 : Int32) < v (2358 + 8 * s + 6) := by rw [h6]; decide
      rcases fin with ⟨f1, f2, f3⟩ | ⟨f1, f2, f3⟩
      · obtain ⟨v', c', N', kr, kc, t', j', x', n'⟩ := (ih (m - 2 * d + 1) (by omega) N1 (k + d) r1 l0 c1 v1 l t1 j1 x1 st1 h41 e5 hl (by omega) (by omega)).2 f3 (by omega)
        refine ⟨v', c', N', fun σ e => ?_, fun a3 v4 v5 q => ?_, t', j', x', by omega⟩
        · refine w_M_moves_32 a1 a2 l σ _ ⟨p6, ?_⟩
          rw [q6, e]
          refine ⟨fun z => absurd z n0, fun _ => runL σ _ e ?_⟩
          refine ⟨fun z => ?_, fun _ => ?_⟩
          · rw [f1] at z
            exact absurd z (by decide)
          · have := kr (sm_set σ 1 v1) (sm_V (fun σ' => σ' = sm_set σ 1 v')) s_at ⟨rfl, by rw [s_ss]⟩
            rw [q6] at this
            exact this
        · exact qc k a3 l v4 v5 _ q (by omega) (fun b3 u4 u5 q3 => kc b3 u4 u5 q3)
      · obtain ⟨v', c', N', ro, rco, t', j', x', n', n''⟩ := p_over (a1 := a1) t1 j1 x1 (by omega) h1 hs st1 f2 h41
        have gs1 := t1.s.S s hs
        have c231 : c1 23 s = v1 (2358 + 8 * s + 5) := (gs1.rea (by rw [← gs1.sta]; exact st1)).symm
        obtain ⟨_, _, r3, _, _, _, _, _, _, w5, w6, -⟩ := j1.2.1.2.2.1 s hs
        obtain ⟨x2, -, rcx2, hf2⟩ := p_first (a1 := a1) (a2 := v1 (2358 + 8 * s + 5)) t1.s h1 hs e5 (by omega)
        have ex2 : x2 = -1 := fst_un hf2 f3
        refine ⟨v', c', N', fun σ e => ?_, fun a3 v4 v5 q => ?_, t', j', x', by omega⟩
        · refine w_M_moves_32 a1 a2 l σ _ ⟨p6, ?_⟩
          rw [q6, e]
          refine ⟨fun z => absurd z n0, fun _ => runL σ _ e ?_⟩
          refine ⟨fun _ => (ro _ s_at).void ?_, fun z => absurd f1 z⟩
          rintro _ rfl
          exact ⟨rfl, by rw [s_ss]⟩
        · refine qc k a3 l v4 v5 _ q (by omega) (fun b3 u4 u5 q3 => ?_)
          refine d_G_moveOn_38 a1 l b3 u4 u5 c1 _ ⟨fun z => ?_, fun _ => ⟨t_vp h1 hs, fun z => ?_, fun _ => ⟨t_vp h1 hs, ?_⟩⟩⟩
          · rw [t_le, q3] at z
            have z : (1000 : Int) ≤ ((k + d : Nat) : Int) := z
            omega
          · rw [t_nat h1] at z
            exact absurd (c24_m1 t1.s hs f2) z
          · rw [t_nat h1, c231]
            refine rcx2.int ?_
            rintro y1 σ1 ⟨ey1, es1⟩
            rw [ey1, es1]
            refine ⟨fun z => absurd ex2 z, fun _ => rco.void ?_⟩
            rintro _ rfl
            exact ⟨rfl, rfl⟩
    · have := mv_K (g := g) (B := 8 * m) h1 hs h2 (k := k) h hj hx hst h4 h6 hr hl (by omega) (by omega) (fun N1 l1 c1 v1 x t1 j1 x1 st1 h41 h61 hr1 pl hx1 n1 => by
        obtain ⟨v', c', N', a, b, t', j', x', n'⟩ := (ih (m - 1) (by omega) N1 (k + 1) r l1 c1 v1 x t1 j1 x1 st1 h41 hr1 hx1 (by omega) (by omega)).1 h61 (by omega)
        exact ⟨v', c', N', a, b, t', j', x', by omega⟩)
      obtain ⟨v', c', N', a, b, t', j', x', n'⟩ := this
      exact ⟨v', c', N', a, b, t', j', x', by omega⟩
theorem sim_pau {c : sm_S} {v : Nat → Int32} {s : Nat} (x : Int32) (h : sim0 c v) (hk : ∀ b, b < 96 → bk_ok v b) (hs : s < 8) (h3 : c 18 s = 3) (hx : 0 ≤ x.toInt) : sim0 (sm_set c 22 (upd (c 22) s x)) (upd v (2358 + 8 * s + 4) x) := by
  refine h.sv hk (fun t ht => ?_) (fun t ht => by rw [u_ne (by omega)]) (fun k hk => s_ne (by omega)) (fun i hi => u_ne (by omega))
  have g := h.S t ht
  have ev : ∀ k, k < 8 → k ≠ 4 → upd v (2358 + 8 * s + 4) x (2358 + 8 * t + k) = v (2358 + 8 * t + k) := fun k h1 h2 => u_ne (by omega)
  refine ⟨by rw [ev 0 (by decide) (by decide), s_ne (by decide)]; exact g.sta, by rw [s_ne (show 18 ≠ 22 by decide), s_ne (show 19 ≠ 22 by decide)]; exact g.zof, by rw [s_ne (show 18 ≠ 22 by decide), s_ne (show 19 ≠ 22 by decide), ev 1 (by decide) (by decide)]; exact g.zon, by rw [ev 2 (by decide) (by decide), s_ne (by decide)]; exact g.par, by rw [ev 3 (by decide) (by decide), s_ne (by decide)]; exact g.pas, ?_, ?_, by rw [s_ne (show 18 ≠ 22 by decide), s_ne (show 23 ≠ 22 by decide), ev 5 (by decide) (by decide)]; exact g.rea, by rw [ev 6 (by decide) (by decide), s_ne (by decide)]; exact g.lea, by rw [ev 7 (by decide) (by decide), s_ne (by decide)]; exact g.why, ?_⟩
  · rw [s_at]
    by_cases q : t = s
    · subst q
      rw [u_at, u_at]
    · rw [u_ne q, u_ne (by omega)]
      exact g.pau
  · rw [s_at]
    by_cases q : t = s
    · subst q
      rw [u_at]
      exact hx
    · rw [u_ne q]
      exact g.pag
  · rw [s_ne (show 18 ≠ 22 by decide), s_ne (show 20 ≠ 22 by decide), s_ne (show 21 ≠ 22 by decide), s_at, s_ne (show 24 ≠ 22 by decide)]
    by_cases q : t = s
    · subst q
      rw [h3]
      exact fun z => absurd z (by decide)
    · rw [u_ne q]
      exact g.off
/-- moveOn | moves -/
theorem p_moves {g : Prop} {N s : Nat} {c : sm_S} {v : Nat → Int32} {a1 : Int32} (h : tie g N c v) (hj : jj N v) (hx : jx v) (hN : N + 2000 < 1999990000) (h1 : a1.toInt = s) (hs : s < 8) (hst : v (2358 + 8 * s + 0) = 3) : ∃ v' c' N', rd j_M_moves [.ref 0, .int a1] v v' ∧ xC xD j_G_moveOn [.ref 41, .int a1] c (sm_V (fun σ' => σ' = c')) ∧ tie g N' c' v' ∧ jj N' v' ∧ jx v' ∧ N' ≤ N + 1100 := by
  have gs := h.s.S s hs
  have c18 : c 18 s = 3 := by rw [← gs.sta]; exact hst
  obtain ⟨p4, q4⟩ := ixS (k := 4) (j := 4) h1 rfl (by omega)
  have h2 : (2358 + 8 * a1).toInt = ((2358 + 8 * s : Nat) : Int) := by
    have e := t_ix (c := 2358) (m := 8) (C := 2358) (M := 8) (k := 0) (j := 0) rfl rfl h1 rfl (by omega)
    rw [Int32.add_zero] at e
    exact e
  by_cases pz : v (2358 + 8 * s + 4) ≤ 0
  · have h4 : v (2358 + 8 * s + 4) = 0 := by
      have a := gs.pag
      rw [← gs.pau] at a
      rw [le0] at pz
      exact t_inj (by show _ = (0 : Int); omega)
    obtain ⟨_, _, r, _, _, _, _, _, _, z5, z6, -⟩ := hj.2.1.2.2.1 s hs
    have rate : c 39 0 = v 0 + 4 := h.s.N.rat
    obtain ⟨l0, hl0⟩ := t_of (x := v 0 + 4) hx.2.2.2.1
    obtain ⟨hT, hK⟩ := mv_all (g := g) h1 hs h2 129 N 0 r l0 c v (v 0 + 4) h hj hx hst h4 z5 hl0 (by omega) (by omega)
    have pl := phi_le v s r
    have body : mvT g N 0 1100 a1 (2358 + 8 * a1) (v 0 + 4) c v := by
      by_cases h6 : v (2358 + 8 * s + 6) = 0
      · obtain ⟨v', c', N', a, b, t', j', x', n'⟩ := hT h6 (by omega)
        exact ⟨v', c', N', a, b, t', j', x', by omega⟩
      · obtain ⟨v', c', N', a, b, t', j', x', n'⟩ := hK h6 (by omega)
        refine ⟨v', c', N', fun σ e => ?_, b, t', j', x', by omega⟩
        obtain ⟨p6, q6⟩ := ix5 h2 hs (k := 6) (j := 6) rfl (by decide)
        obtain ⟨n, _, _, _, _, e6, -⟩ := way_of hj hs h6
        refine w_M_moves_32 a1 _ _ σ _ ⟨p6, ?_⟩
        rw [q6, e]
        refine ⟨fun _ => ?_, fun z => absurd ?_ z⟩
        · have := a σ (sm_V (fun σ' => σ' = sm_set σ 1 v')) e ⟨rfl, rfl⟩
          rw [q6] at this
          exact this
        · rw [t_lt, e6]
          show (0 : Int) < _
          omega
    obtain ⟨v', c', N', a, b, t', j', x', n'⟩ := body
    refine ⟨v', c', N', fun σ e => ?_, ?_, t', j', x', n'⟩
    · refine w_M_moves a1 σ _ ((c_spanAt a1 σ).int ?_)
      rintro _ σ ⟨rfl, rfl⟩
      refine ⟨p4, ?_⟩
      rw [q4, e]
      refine ⟨fun _ => (r_set0 v σ e).int ?_, fun z => absurd pz z⟩
      rintro y σ1 ⟨ey, es⟩
      rw [ey, es]
      exact a σ e
    · refine d_G_moveOn a1 c _ ⟨t_vp h1 hs, fun _ => ⟨t_vp (n := 0) rfl (by omega), ?_⟩, fun z => absurd ?_ z⟩
      · show xE xD m_G_moveOn 38 [.ref 41, .int a1, .int (c 39 0), .int 0, .null, .null] [] c _
        rw [rate]
        exact b 0 .null .null rfl
      · rw [t_nat h1, ← gs.pau]
        exact pz
  · have ev : v (2358 + 8 * s + 4) + (-1) = c 22 s - 1 := by
      rw [gs.pau, Int32.sub_eq_add_neg]
    have nn : 0 ≤ (c 22 s - 1).toInt := by
      have a := t_bd (c 22 s)
      rw [gs.pau, le0] at pz
      rw [t_sub (x := (c 22 s).toInt) rfl (y := 1) rfl (by omega) (by omega)]
      omega
    have jw : jj N (upd v (2358 + 8 * s + 4) (c 22 s - 1)) := ⟨fr_cong (fun i h1 h2 => u_ne (by omega)) (fun n k h1 h2 => u_ne (by omega)) hj.1, jr_cong (ceq_upd (Or.inr (Or.inr (Or.inr (Or.inr ⟨s, hs, by omega⟩))))) hj.2.1, by rw [u_ne (by omega)]; exact hj.2.2⟩
    refine ⟨_, _, N, fun σ e => ?_, ?_, h.to (sim_pau (c 22 s - 1) h.s h.b hs c18 nn) (fun k k1 k2 => s_ne (by omega)) (u_ne (by omega)) (fun i hi => u_ne (by omega)) jw.2.1.1, jw, hx.cg (fun b k _ _ => u_ne (by omega)) (fun s' hs' z => ⟨fun y => z (by rw [u_ne (by omega)]; exact y), u_ne (by omega)⟩) (u_ne (by omega)) (fun i i1 i2 => u_ne (by omega)), by omega⟩
    · refine w_M_moves a1 σ _ ((c_spanAt a1 σ).int ?_)
      rintro _ σ ⟨rfl, rfl⟩
      refine ⟨p4, ?_⟩
      rw [q4, e]
      have ik : (2358 + 8 * a1 + 4).toInt = ((2358 + 8 * s + 4 : Nat) : Int) := t_ix (c := 2358) (m := 8) (C := 2358) (M := 8) (k := 4) (j := 4) rfl rfl h1 rfl (by omega)
      refine ⟨fun z => absurd z pz, fun _ => (c_more ik (by omega) (-1) σ).void ?_⟩
      rintro _ rfl
      exact ⟨rfl, by rw [e, ev]⟩
    · refine d_G_moveOn a1 c _ ⟨t_vp h1 hs, fun z => ?_, fun _ => ⟨t_vp h1 hs, t_vp h1 hs, fun σ1 e1 => ⟨rfl, ?_⟩⟩⟩
      · rw [t_nat h1, ← gs.pau] at z
        exact absurd z pz
      · rw [t_nat h1] at e1
        exact e1
end
