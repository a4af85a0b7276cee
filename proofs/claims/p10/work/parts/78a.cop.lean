/-! ===== the simulation: copySome | copies ===== -/
theorem sim_cop {c : sm_S} {v : Nat → Int32} {b : Nat} (x : Int32) (h : sim0 c v) (hk : ∀ b, b < 96 → bk_ok v b) (hb : b < 96) : sim0 (sm_set c 15 (upd (c 15) b x)) (upd v (786 + 16 * b + 7) x) := by
  refine h.bv hk (fun b' hb' => ?_) (h.N.cg (s_ne (by decide)) (s_ne (by decide)) (by rw [s_ne (by decide)]) (by rw [s_ne (by decide)]) (fun i hi _ => u_ne (by omega))) (fun k h1 h2 h3 => s_ne (by omega)) (fun i h1 h2 h3 => u_ne (by omega)) (fun b' k h1 h2 h3 => u_ne (by omega))
  by_cases q : b' = b
  · subst q
    have e : ∀ k, k < 9 → k ≠ 7 → upd v (786 + 16 * b' + 7) x (786 + 16 * b' + k) = v (786 + 16 * b' + k) := fun k _ hk => u_ne (by omega)
    rcases h.B b' hb' with ⟨g1, g2⟩ | ⟨g1, g2, g⟩
    · exact Or.inl ⟨by rw [s_ne (by decide)]; exact g1, by rw [e 0 (by decide) (by decide)]; exact g2⟩
    · exact Or.inr ⟨by rw [s_ne (by decide)]; exact g1, by rw [e 0 (by decide) (by decide)]; exact g2, ⟨by rw [e 1 (by decide) (by decide), s_ne (by decide)]; exact g.fir, by rw [e 2 (by decide) (by decide), s_ne (by decide)]; exact g.ord, by rw [e 3 (by decide) (by decide), s_ne (by decide)]; exact g.kin, by rw [e 4 (by decide) (by decide), s_ne (by decide)]; exact g.own, by rw [e 5 (by decide) (by decide), s_ne (by decide)]; exact g.pin, by rw [e 6 (by decide) (by decide), s_ne (by decide)]; exact g.tgt, by rw [u_at, s_at, u_at], by rw [e 8 (by decide) (by decide), s_ne (by decide)]; exact g.use⟩⟩
  · exact (h.B b' hb').cg (by rw [s_ne (by decide)]) (by rw [s_ne (by decide)]) (by rw [s_ne (by decide)]) (by rw [s_ne (by decide)]) (by rw [s_ne (by decide)]) (by rw [s_ne (by decide)]) (by rw [s_at, u_ne q]) (by rw [s_ne (by decide)]) (fun k hk => u_ne (by omega))
/-- k values from A to B -/
def vcF (v : Nat → Int32) (A B k : Nat) : Nat → Int32 := fun i => if (18 + 3 * B ≤ i ∧ i < 18 + 3 * (B + k)) ∧ (i - 18) % 3 = 2 then v (i - 3 * B + 3 * A) else v i
theorem vcF_0 (v : Nat → Int32) (A B : Nat) : vcF v A B 0 = v := by
  funext i
  exact if_neg (by omega)
theorem vcF_out {v : Nat → Int32} {A B k i : Nat} (h : i < 18 + 3 * B ∨ 18 + 3 * (B + k) ≤ i ∨ (i - 18) % 3 ≠ 2) : vcF v A B k i = v i := if_neg (by omega)
theorem vcF_in {v : Nat → Int32} {A B k f : Nat} (h1 : B ≤ f) (h2 : f < B + k) : vcF v A B k (18 + 3 * f + 2) = v (18 + 3 * (A + (f - B)) + 2) := by
  unfold vcF
  rw [if_pos (by omega)]
  exact congrArg v (by omega)
theorem vcF_s (v : Nat → Int32) (A B k : Nat) : vcF v A B (k + 1) = upd (vcF v A B k) (18 + 3 * (B + k) + 2) (v (18 + 3 * (A + k) + 2)) := by
  funext i
  by_cases e : i = 18 + 3 * (B + k) + 2
  · rw [e, u_at, vcF_in (by omega) (by omega)]
    exact congrArg v (by omega)
  · rw [u_ne e]
    unfold vcF
    by_cases d : (18 + 3 * B ≤ i ∧ i < 18 + 3 * (B + k)) ∧ (i - 18) % 3 = 2
    · rw [if_pos d, if_pos (by omega)]
    · rw [if_neg d, if_neg (by omega)]
def cpF (v : Nat → Int32) (n A B a k : Nat) : Nat → Int32 := upd (upd (vcF v A B k) (786 + 16 * n + 7) (nI (a + k))) 10 (v 10 + nI k)
theorem cpF_o {v : Nat → Int32} {n A B a k i : Nat} (h1 : i < 18 + 3 * B ∨ 18 + 3 * (B + k) ≤ i ∨ (i - 18) % 3 ≠ 2) (h2 : i ≠ 786 + 16 * n + 7) (h3 : i ≠ 10) : cpF v n A B a k i = v i := by
  unfold cpF
  rw [u_ne h3, u_ne h2, vcF_out h1]
theorem nI_s {k : Nat} (h : k < 2000000000) : nI k + 1 = nI (k + 1) := t_inj (by
  rw [t_add (nI_toInt (by omega)) (y := 1) rfl (by omega) (by omega), nI_toInt (by omega)]
  omega)
theorem cpF_s {v : Nat → Int32} {n A B a k : Nat} (hn : n < 96) (hk : a + k < 2000) (hB : B + k < 256) : upd (upd (upd (cpF v n A B a k) (18 + 3 * (B + k) + 2) (v (18 + 3 * (A + k) + 2))) (786 + 16 * n + 7) (nI (a + k) + 1)) 10 (cpF v n A B a k 10 + 1) = cpF v n A B a (k + 1) := by
  have e10 : cpF v n A B a k 10 + 1 = v 10 + nI (k + 1) := by
    unfold cpF
    rw [u_at, Int32.add_assoc, nI_s (by omega)]
  rw [e10, nI_s (by omega)]
  unfold cpF
  rw [vcF_s, show a + k + 1 = a + (k + 1) by omega]
  funext i
  by_cases e : i = 10
  · rw [e, u_at, u_at]
  · rw [u_ne e, u_ne e]
    by_cases e2 : i = 786 + 16 * n + 7
    · rw [e2, u_at, u_at]
    · rw [u_ne e2, u_ne e2]
      by_cases e3 : i = 18 + 3 * (B + k) + 2
      · rw [e3, u_at, u_at]
      · rw [u_ne e3, u_ne e3, u_ne e, u_ne e2]
theorem l_copies2 {a1 a2 a3 : Int32} {n o fr to a l K : Nat} {v v' : Nat → Int32} (h3 : a3.toInt = n) (hn : n < 96) (ho : o ≤ 4) (hle : fr + 2 ^ o ≤ 256) (hlt : to + 2 ^ o ≤ 256) (hd : to + 2 ^ o ≤ fr ∨ fr + 2 ^ o ≤ to) (e1 : (v (786 + 16 * n + 1)).toInt = fr) (e2 : (v (786 + 16 * n + 2)).toInt = o) (e6 : (v (786 + 16 * n + 6)).toInt = ((to + 1 : Nat) : Int)) (hl2 : l < 2147483648) (hK1 : K ≤ l) (hK2 : a + K ≤ 2 ^ o) (hK3 : K = l ∨ a + K = 2 ^ o) (hv' : (a + K ≠ 2 ^ o ∧ v' = cpF v n (fr + a) (to + a) a K) ∨ (a + K = 2 ^ o ∧ rd j_M_arrives [.ref 0, .int a1, .int a3] (cpF v n (fr + a) (to + a) a K) v')) : ∀ (d k : Nat) (a4 : Int32) (v5 : Value) (σ : sm_S), σ 1 = cpF v n (fr + a) (to + a) a k → a4.toInt = ((l - k : Nat) : Int) → k + d = K → xE xM m_M_copies 19 [.ref 0, .int a1, .int a2, .int a3, .int a4, v5] [] σ (sm_I (fun y σ' => y.toInt = ((l - K : Nat) : Int) ∧ σ' = sm_set σ 1 v')) := by
  have hp := t_pw (k := o) (by omega)
  have c7 : ∀ k, cpF v n (fr + a) (to + a) a k (786 + 16 * n + 7) = nI (a + k) := fun k => by
    unfold cpF
    rw [u_ne (by omega), u_at]
  intro d
  induction d with
  | zero =>
    intro k a4 v5 σ hσ h4 hk
    have hk : k = K := by omega
    subst hk
    have i7 : (nI (a + k)).toInt = ((a + k : Nat) : Int) := nI_toInt (by omega)
    have lng : ((1 : Int32) <<< (σ 1 (786 + 16 * n + 2) &&& 31)).toInt = ((2 ^ o : Nat) : Int) := t_pow (by rw [hσ, cpF_o (by omega) (by omega) (by omega)]; exact e2) (by omega)
    have fin : (σ 1 (786 + 16 * n + 7) ≠ (1 : Int32) <<< (σ 1 (786 + 16 * n + 2) &&& 31) → sm_I (fun y σ' => y.toInt = ((l - k : Nat) : Int) ∧ σ' = sm_set σ 1 v') (some (.int a4)) σ) ∧ (¬ (σ 1 (786 + 16 * n + 7) ≠ (1 : Int32) <<< (σ 1 (786 + 16 * n + 2) &&& 31)) → xC xM j_M_arrives [.ref 0, .int a1, .int a3] σ (sm_rv False (fun σ5 => sm_I (fun y σ' => y.toInt = ((l - k : Nat) : Int) ∧ σ' = sm_set σ 1 v') (some (.int a4)) σ5))) := by
      refine ⟨fun q => ?_, fun q => ?_⟩
      · rcases hv' with ⟨z, hv'⟩ | ⟨z, hv'⟩
        · exact ⟨a4, rfl, h4, by rw [hv', ← hσ, s_id]⟩
        · refine absurd (t_inj ?_) q
          rw [lng, hσ, c7, i7, z]
      · have q := congrArg Int32.toInt (Classical.not_not.mp q)
        rw [lng, hσ, c7, i7] at q
        rcases hv' with ⟨z, hv'⟩ | ⟨z, hv'⟩
        · omega
        · refine (hv' σ hσ).void ?_
          rintro _ rfl
          exact ⟨a4, rfl, h4, rfl⟩
    refine w_M_copies_19 a1 a2 a3 a4 v5 σ _ ⟨fun _ => (c_of (k := 7) (j := 7) h3 rfl (by omega) σ).int ?_, fun q => (c_of (k := 7) (j := 7) h3 rfl (by omega) σ).int ?_⟩
    · rintro _ σ2 ⟨rfl, hs2⟩
      rw [hs2]
      refine (c_longOf h3 hn σ).int ?_
      rintro _ σ3 ⟨rfl, hs3⟩
      rw [hs3]
      exact fin
    · rintro _ σ2 ⟨rfl, hs2⟩
      rw [hs2]
      refine (c_longOf h3 hn σ).int ?_
      rintro _ σ3 ⟨rfl, hs3⟩
      rw [hs3]
      refine ⟨fun _ => (c_of (k := 7) (j := 7) h3 rfl (by omega) σ).int ?_, fun z => absurd ?_ z⟩
      · rintro _ σ4 ⟨rfl, hs4⟩
        rw [hs4]
        refine (c_longOf h3 hn σ).int ?_
        rintro _ σ5 ⟨rfl, hs5⟩
        rw [hs5]
        exact fin
      · rw [t_le, lng, hσ, c7, i7]
        rw [t_le, h4] at q
        have q : ¬ ((l - k : Nat) : Int) ≤ 0 := q
        omega
  | succ d ih =>
    intro k a4 v5 σ hσ h4 hk
    have i7 : (nI (a + k)).toInt = ((a + k : Nat) : Int) := nI_toInt (by omega)
    have lng : ((1 : Int32) <<< (σ 1 (786 + 16 * n + 2) &&& 31)).toInt = ((2 ^ o : Nat) : Int) := t_pow (by rw [hσ, cpF_o (by omega) (by omega) (by omega)]; exact e2) (by omega)
    refine w_M_copies_19 a1 a2 a3 a4 v5 σ _ ⟨fun q => ?_, fun q => (c_of (k := 7) (j := 7) h3 rfl (by omega) σ).int ?_⟩
    · rw [t_le, h4] at q
      have q : ((l - k : Nat) : Int) ≤ 0 := q
      omega
    · rintro _ σ2 ⟨rfl, hs2⟩
      rw [hs2]
      refine (c_longOf h3 hn σ).int ?_
      rintro _ σ3 ⟨rfl, hs3⟩
      rw [hs3]
      refine ⟨fun z => ?_, fun _ => (c_of (k := 7) (j := 7) h3 rfl (by omega) σ).int ?_⟩
      · rw [t_le, lng, hσ, c7, i7] at z
        omega
      · rintro _ σ4 ⟨rfl, hs4⟩
        rw [hs4]
        refine (c_of (k := 6) (j := 6) h3 rfl (by omega) σ).int ?_
        rintro _ σ5 ⟨rfl, hs5⟩
        rw [hs5]
        refine (c_frameOf h3 hn σ).int ?_
        rintro _ σ6 ⟨rfl, hs6⟩
        rw [hs6, hσ, c7, cpF_o (i := 786 + 16 * n + 6) (by omega) (by omega) (by omega), cpF_o (i := 786 + 16 * n + 1) (by omega) (by omega) (by omega)]
        have hA : (v (786 + 16 * n + 1) + nI (a + k)).toInt = ((fr + a + k : Nat) : Int) := by
          rw [t_add e1 i7 (by omega) (by omega)]
          omega
        have hB : (v (786 + 16 * n + 6) - 1 + nI (a + k)).toInt = ((to + a + k : Nat) : Int) := by
          rw [t_add (t_m1 e6 (by omega)) i7 (by omega) (by omega)]
          omega
        refine (c_valueOf hA (by omega) σ).int ?_
        rintro _ σ7 ⟨rfl, hs7⟩
        rw [hs7, hσ, cpF_o (i := 18 + 3 * (fr + a + k) + 2) (by omega) (by omega) (by omega)]
        refine (c_lays hB (by omega) _ σ).void ?_
        rintro _ rfl
        refine (c_lay (k := 7) (j := 7) h3 rfl (by omega) _ _).void ?_
        rintro _ rfl
        refine (c_counts (j := 3) rfl (by decide) 1 _).void ?_
        rintro _ rfl
        have h4' : (a4 - 1).toInt = ((l - (k + 1) : Nat) : Int) := by
          rw [t_sub h4 (y := 1) rfl (by omega) (by omega)]
          omega
        have key := cpF_s (v := v) (n := n) (A := fr + a) (B := to + a) (a := a) (k := k) hn (by omega) (by omega)
        rw [s_at, s_ss, s_at, s_ss, hσ]
        have e10 : upd (upd (cpF v n (fr + a) (to + a) a k) (18 + 3 * (to + a + k) + 2) (v (18 + 3 * (fr + a + k) + 2))) (786 + 16 * n + 7) (nI (a + k) + 1) (7 + 3) = cpF v n (fr + a) (to + a) a k 10 := by
          rw [u_ne (by omega), u_ne (by omega)]
        rw [e10, show 7 + 3 = 10 from rfl, key]
        have := ih (k + 1) (a4 - 1) (.int (nI (a + k))) (sm_set σ 1 (cpF v n (fr + a) (to + a) a (k + 1))) s_at h4' (by omega)
        rw [s_ss] at this
        exact this
def cpC (c : sm_S) (n A B K : Nat) (x : Int32) : sm_S := sm_set (sm_set (sm_set c 7 (cvF (c 7) A B K)) 15 (upd (c 15) n (c 15 n + x))) 40 (upd (c 40) 3 (c 40 3 + x))
theorem p_copy {g : Prop} {N s n l : Nat} {c : sm_S} {v : Nat → Int32} {a1 a2 a3 : Int32} (h : tie g N c v) (hj : jj N v) (hx : jx v) (h1 : a1.toInt = s) (hs : s < 8) (h3 : a3.toInt = n) (h6 : (v (2358 + 8 * s + 6)).toInt = ((n + 1 : Nat) : Int)) (h2 : a2.toInt = l) : ∃ K v1 c1, K ≤ l ∧ xC xD j_G_copySome [.ref 41, .int a3, .int a2] c (sm_I (fun y σ' => y = nI K ∧ σ' = c1)) ∧ tie g N c1 v1 ∧ jj N v1 ∧ jx v1 ∧ (∀ i, 2322 ≤ i → v1 i = v i) ∧ (∀ f, f < 256 → wt v1 f = wt v f) ∧ ∃ o : Nat, (c1 10 n).toInt = o ∧ o ≤ 4 ∧ ((((c1 15 n).toInt < ((2 ^ o : Nat) : Int)) ∧ rdI j_M_copies [.ref 0, .int a1, .int a2] v (a2 - nI K) v1) ∨ ((c1 15 n).toInt = ((2 ^ o : Nat) : Int) ∧ ∀ v', rd j_M_arrives [.ref 0, .int a1, .int a3] v1 v' → rdI j_M_copies [.ref 0, .int a1, .int a2] v (a2 - nI K) v')) := by
  have n6 : v (2358 + 8 * s + 6) ≠ 0 := fun z => by
    rw [z] at h6
    have h6 : (0 : Int) = ((n + 1 : Nat) : Int) := h6
    omega
  obtain ⟨n', o, fr, to, hn, e6, h0, e2, ho, e1, hfr, hal, hfs, et, hto, halt, hst⟩ := way_of hj hs n6
  have en : n' = n := by omega
  subst en
  have hle := al_le ho hfr hal
  have hlt := al_le ho hto halt
  obtain ⟨gb, -⟩ := (h.s.B n' hn).al h0
  obtain ⟨hcp, hne⟩ := (hx.1 n' hn h0).2 to fr o et e1 e2
  obtain ⟨a, ha⟩ := t_of (x := v (786 + 16 * n' + 7)) (by obtain ⟨_, _, _, _, _, _, _, _, _, z⟩ := hj.2.1.1 n' hn; exact z)
  rw [ha] at hcp
  have ha1 := t_al (k := o) (by omega) hal
  have ha2 := t_al (k := o) (by omega) halt
  have hp := t_pw (k := o) (by omega)
  have dd : to + 2 ^ o ≤ fr ∨ fr + 2 ^ o ≤ to := by omega
  have hb := t_bd a2
  have hl2 : l < 2147483648 := by omega
  obtain ⟨K, hK⟩ : ∃ K, K = min l (2 ^ o - a) := ⟨_, rfl⟩
  have hK1 : K ≤ l := by omega
  have hK2 : a + K ≤ 2 ^ o := by omega
  have hK3 : K = l ∨ a + K = 2 ^ o := by omega
  have c14 : (c 14 n').toInt = to := m1_add (by rw [← gb.tgt]; exact et) (by omega)
  have c9 : (c 9 n').toInt = fr := by rw [← gb.fir]; exact e1
  have c10 : (c 10 n').toInt = o := by rw [← gb.ord]; exact e2
  have c15 : (c 15 n').toInt = a := by rw [← gb.cop]; exact ha
  have iK : (nI K).toInt = K := nI_toInt (by omega)
  have c15n : c 15 n' + nI K = nI (a + K) := t_inj (by
    rw [t_add c15 iK (by omega) (by omega), nI_toInt (by omega)]
    omega)
  have co : ∀ i, (i < 18 + 3 * (to + a) ∨ 18 + 3 * (to + a + K) ≤ i ∨ (i - 18) % 3 ≠ 2) → i ≠ 786 + 16 * n' + 7 → i ≠ 10 → cpF v n' (fr + a) (to + a) a K i = v i := fun i q1 q2 q3 => cpF_o q1 q2 q3
  have s1 : sim0 (sm_set c 7 (cvF (c 7) (fr + a) (to + a) K)) (vcF v (fr + a) (to + a) K) := by
    refine h.s.fv h.b (fun f hf => ?_) (fun k hk => s_ne (by omega)) (fun i hi => vcF_out (by omega)) (fun i q1 q2 q3 => vcF_out (by omega))
    have gf := h.s.F f hf
    have z0 : vcF v (fr + a) (to + a) K (18 + 3 * f) = v (18 + 3 * f) := vcF_out (by omega)
    have z1 : vcF v (fr + a) (to + a) K (18 + 3 * f + 1) = v (18 + 3 * f + 1) := vcF_out (by omega)
    refine ⟨by rw [z0]; exact gf.rng, by rw [z0, s_ne (by decide)]; exact gf.fre, by rw [z0, s_ne (by decide)]; exact gf.apa, by rw [z0, s_ne (by decide)]; exact gf.tak, by rw [z0, s_ne (by decide)]; exact gf.hel, by rw [z1, s_ne (by decide)]; exact gf.blk, ?_⟩
    rw [s_at]
    unfold cvF
    by_cases q : to + a ≤ f ∧ f < to + a + K
    · rw [if_pos q, vcF_in q.1 q.2]
      exact (h.s.F (fr + a + (f - (to + a))) (by omega)).val
    · rw [if_neg q, vcF_out (by omega)]
      exact gf.val
  have bk1 : ∀ b, b < 96 → bk_ok (vcF v (fr + a) (to + a) K) b := fun b hb => bk_cong (fun k k1 _ _ _ => vcF_out (by omega)) (h.b b hb)
  have s2 := sim_cop (nI (a + K)) s1 bk1 hn
  have jjc : jj N (upd v (786 + 16 * n' + 7) (nI (a + K))) := jj_copied hn (by rw [nI_toInt (by omega)]; omega) hj
  have jjv : jj N (cpF v n' (fr + a) (to + a) a K) := by
    have ez : ∀ i, (i < 18 ∧ i ≠ 10) ∨ (18 ≤ i ∧ i < 786 ∧ i % 3 ≠ 2) ∨ 786 ≤ i → cpF v n' (fr + a) (to + a) a K i = upd v (786 + 16 * n' + 7) (nI (a + K)) i := fun i hi => by
      by_cases q : i = 786 + 16 * n' + 7
      · unfold cpF
        rw [u_ne (by omega), q, u_at, u_at]
      · rw [co i (by omega) q (by omega), u_ne q]
    refine ⟨fr_mono (fun f hf => ?_) (fun m k m1 m2 => ez _ (by omega)) (fun f hf q => ?_) jjc.1, jr_cong (ceq.of (fun i i1 i2 => ez i (by omega))) jjc.2.1, ?_⟩
    · rw [co _ (by omega) (by omega) (by omega)]; exact hj.1.1 f hf
    · rw [co _ (by omega) (by omega) (by omega)] at q
      rw [u_ne (by omega), u_ne (by omega), co _ (by omega) (by omega) (by omega)]
      exact ⟨q, rfl⟩
    · rw [co _ (by omega) (by omega) (by omega)]; exact hj.2.2
  have bk2 : ∀ b, b < 96 → bk_ok (upd (vcF v (fr + a) (to + a) K) (786 + 16 * n' + 7) (nI (a + K))) b := fun b hb => by
    refine bk_cong (fun k k1 _ _ _ => ?_) (jjv.2.1.1 b hb)
    unfold cpF
    rw [u_ne (show 786 + 16 * b + k ≠ 10 by omega)]
  have s3 := sim_cnt (k := 3) (nI K) s2 bk2 (by decide)
  have eV : cnF (upd (vcF v (fr + a) (to + a) K) (786 + 16 * n' + 7) (nI (a + K))) 3 (nI K) = cpF v n' (fr + a) (to + a) a K := by
    unfold cnF cpF
    rw [show 7 + 3 = 10 from rfl, u_ne (show (10 : Nat) ≠ 786 + 16 * n' + 7 by omega), vcF_out (by omega)]
  rw [eV] at s3
  have eC : sm_set (sm_set (sm_set c 7 (cvF (c 7) (fr + a) (to + a) K)) 15 (upd (sm_set c 7 (cvF (c 7) (fr + a) (to + a) K) 15) n' (nI (a + K)))) 40 (upd (sm_set (sm_set c 7 (cvF (c 7) (fr + a) (to + a) K)) 15 (upd (sm_set c 7 (cvF (c 7) (fr + a) (to + a) K) 15) n' (nI (a + K))) 40) 3 (sm_set (sm_set c 7 (cvF (c 7) (fr + a) (to + a) K)) 15 (upd (sm_set c 7 (cvF (c 7) (fr + a) (to + a) K) 15) n' (nI (a + K))) 40 3 + nI K)) = cpC c n' (fr + a) (to + a) K (nI K) := by
    unfold cpC
    rw [c15n]
    rfl
  rw [eC] at s3
  have t3 : tie g N (cpC c n' (fr + a) (to + a) K (nI K)) (cpF v n' (fr + a) (to + a) a K) := by
    refine h.to s3 (fun k k1 k2 => ?_) (co 5 (by omega) (by omega) (by omega)) (fun i hi => co i (by omega) (by omega) (by omega)) jjv.2.1.1
    unfold cpC
    rw [s_ne (by omega), s_ne (by omega), s_ne (by omega)]
  have k10 : (cpC c n' (fr + a) (to + a) K (nI K) 10 n').toInt = o := c10
  have k15 : (cpC c n' (fr + a) (to + a) K (nI K) 15 n').toInt = ((a + K : Nat) : Int) := by
    have : cpC c n' (fr + a) (to + a) K (nI K) 15 n' = nI (a + K) := by
      rw [← c15n]
      exact u_at
    rw [this, nI_toInt (by omega)]
  have lng : ((1 : Int32) <<< (c 10 n' &&& 31)).toInt = ((2 ^ o : Nat) : Int) := t_pow c10 (by omega)
  have sub : ((1 : Int32) <<< (c 10 n' &&& 31) - c 15 n').toInt = ((2 ^ o - a : Nat) : Int) := by
    rw [t_sub lng c15 (by omega) (by omega)]
    omega
  have many : (if (1 : Int32) <<< (c 10 n' &&& 31) - c 15 n' < a2 then (1 : Int32) <<< (c 10 n' &&& 31) - c 15 n' else a2) = nI K := by
    refine t_nI ?_
    by_cases q : (1 : Int32) <<< (c 10 n' &&& 31) - c 15 n' < a2
    · rw [if_pos q, sub]
      rw [t_lt, sub, h2] at q
      omega
    · rw [if_neg q, h2]
      rw [t_lt, sub, h2] at q
      omega
  have rr : ∀ v', ((a + K ≠ 2 ^ o ∧ v' = cpF v n' (fr + a) (to + a) a K) ∨ (a + K = 2 ^ o ∧ rd j_M_arrives [.ref 0, .int a1, .int a3] (cpF v n' (fr + a) (to + a) a K) v')) → rdI j_M_copies [.ref 0, .int a1, .int a2] v (a2 - nI K) v' := fun v' hv' σ e => by
    obtain ⟨p6, q6⟩ := ixS (k := 6) (j := 6) h1 rfl (by omega)
    refine w_M_copies a1 a2 σ _ ((c_spanAt a1 σ).int ?_)
    rintro _ σ ⟨rfl, rfl⟩
    refine ⟨p6, ?_⟩
    rw [q6, e]
    have ec : v (2358 + 8 * s + 6) - 1 = a3 := t_inj (by rw [t_m1 h6 (by omega), h3])
    rw [ec]
    have z0 : σ 1 = cpF v n' (fr + a) (to + a) a 0 := by
      rw [e]
      unfold cpF
      have : nI (a + 0) = vcF v (fr + a) (to + a) 0 (786 + 16 * n' + 7) := by
        rw [vcF_0, Nat.add_zero]
        exact (t_nI ha).symm
      rw [this, u_id, vcF_0]
      have : v 10 + nI 0 = v 10 := Int32.add_zero _
      rw [this, u_id]
    refine (l_copies2 (a1 := a1) (a2 := a2) h3 hn ho hle hlt dd e1 e2 et hl2 hK1 hK2 hK3 hv' K 0 a2 .null σ z0 (by rw [h2]; omega) (by omega)).mono ?_
    rintro r σ' ⟨y, rfl, y1, y2⟩
    refine ⟨y, rfl, t_inj ?_, y2⟩
    rw [y1, t_sub h2 iK (by omega) (by omega)]
    omega
  refine ⟨K, _, _, hK1, ?_, t3, jjv, ?_, fun i hi => co i (by omega) (by omega) (by omega), fun f hf => ?_, o, k10, ho, ?_⟩
  · refine d_G_copySome a3 a2 c _ ⟨t_vp h3 hn, t_vp h3 hn, t_vp h3 hn, t_vp h3 hn, (c_size h3 hn c).int ?_⟩
    rintro y1 σ1 ⟨ey1, es1⟩
    rw [ey1, es1, t_nat h3, many]
    have hA : (c 9 n' + c 15 n').toInt = ((fr + a : Nat) : Int) := by
      rw [t_add c9 c15 (by omega) (by omega)]
      omega
    have hB : (c 14 n' + c 15 n').toInt = ((to + a : Nat) : Int) := by
      rw [t_add c14 c15 (by omega) (by omega)]
      omega
    refine ⟨t_vp h3 hn, (e_copyValues2 hA hB iK (by omega) (by omega) (by omega) c).void ?_⟩
    rintro _ rfl
    refine ⟨t_vp h3 hn, t_vp h3 hn, fun σ4 e4 => ⟨t_vp (n := 3) rfl (by omega), t_vp (n := 3) rfl (by omega), fun σ5 e5 => ⟨_, rfl, rfl, ?_⟩⟩⟩
    rw [e5, e4]
    rfl
  · refine hx.re (n := n') (fun b k b1 b2 b3 => co _ (by omega) (by omega) (by omega)) (fun y0 => ⟨fun z => ?_, fun to2 fr2 o2 y1 y2 y3 => ?_⟩) (fun _ => by rw [co _ (by omega) (by omega) (by omega)]; exact hx.2.1 n' hn h0) (fun s' hs' z => ⟨fun y => z ((co (2358 + 8 * s' + 0) (by omega) (by omega) (by omega)).trans y), co (2358 + 8 * s' + 1) (by omega) (by omega) (by omega)⟩) (co 0 (by omega) (by omega) (by omega)) (fun i i1 i2 => co i (by omega) (by omega) (by omega))
    · rw [co _ (by omega) (by omega) (by omega)] at z
      rw [z] at et
      have et : (0 : Int) = _ := et
      omega
    · rw [co _ (by omega) (by omega) (by omega)] at y1 y2 y3
      have q1 : to2 = to := by omega
      have q2 : fr2 = fr := by omega
      have q3 : o2 = o := by omega
      subst q1 q2 q3
      have : cpF v n' (fr2 + a) (to2 + a) a K (786 + 16 * n' + 7) = nI (a + K) := by
        unfold cpF
        rw [u_ne (by omega), u_at]
      rw [this, nI_toInt (by omega)]
      exact ⟨by omega, hne⟩
  · exact wt_cg (co _ (by omega) (by omega) (by omega)) (co _ (by omega) (by omega) (by omega)) (fun b y1 y2 y3 => co _ (by omega) (by omega) (by omega)) h.s.O hf
  · rw [k15]
    by_cases q : a + K = 2 ^ o
    · exact Or.inr ⟨by omega, fun v' hv' => rr v' (Or.inr ⟨q, hv'⟩)⟩
    · exact Or.inl ⟨by omega, rr _ (Or.inl ⟨q, rfl⟩)⟩
