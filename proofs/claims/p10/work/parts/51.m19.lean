/-! ===== the model: the first block of a span; a block is passed; a part is shut ===== -/
theorem t_dec {x : Int32} {m : Nat} (h : x.toInt = m) : (x - 1).toInt = (m : Int) - 1 := by
  have := t_bd x
  exact t_sub h (y := 1) rfl (by omega) (by omega)
/-- of, also for the number -1 -/
theorem c_ofm {b k : Int32} {m j : Nat} (hb : b.toInt = (m : Int) - 1) (hm : m ≤ 96) (hk : k.toInt = j) (hj : j < 16) (σ : sm_S) : xC xM j_M_of [.ref 0, .int b, .int k] σ (sm_I (fun x σ' => x = σ 1 (770 + 16 * m + j) ∧ σ' = σ)) := by
  refine w_M_of b k σ _ ((c_blockAt b σ).int ?_)
  rintro _ _ ⟨rfl, rfl⟩
  have h0 : (16 * b).toInt = 16 * ((m : Int) - 1) := t_mul (x := 16) rfl hb (by omega) (by omega)
  have h1 := t_add (a := 786) (x := 786) rfl h0 (by omega) (by omega)
  have h2 := t_add h1 hk (by omega) (by omega)
  have h3 : (786 + 16 * b + k).toInt = ((770 + 16 * m + j : Nat) : Int) := by rw [h2]; omega
  rw [t_nat h3]
  exact ⟨t_vp h3 (by omega), _, rfl, rfl, rfl⟩
theorem c_frameOfm {b : Int32} {m : Nat} (hb : b.toInt = (m : Int) - 1) (hm : m ≤ 96) (σ : sm_S) : xC xM j_M_frameOf [.ref 0, .int b] σ (sm_I (fun x σ' => x = σ 1 (770 + 16 * m + 1) ∧ σ' = σ)) := by
  refine w_M_frameOf b σ _ ((c_ofm (k := 1) (j := 1) hb hm rfl (by omega) σ).int ?_)
  rintro _ _ ⟨rfl, rfl⟩
  exact ⟨_, rfl, rfl, rfl⟩
/-- none, or a block whose first frame is taken, in the span, from there on -/
def fbk (v : Nat → Int32) (s fm : Nat) (x : Int32) : Prop := x = -1 ∨ ∃ n fr : Nat, x.toInt = n ∧ n < 96 ∧ v (786 + 16 * n + 0) = 1 ∧ (v (786 + 16 * n + 1)).toInt = fr ∧ fr < 256 ∧ fr / 32 = s ∧ fm ≤ fr % 32 ∧ v (18 + 3 * fr) = 3 ∧ (v (18 + 3 * fr + 1)).toInt = ((n + 1 : Nat) : Int)
theorem l_firstBlock {a1 a2 : Int32} {s N fm : Nat} (h1 : a1.toInt = s) (hs : s < 8) (σ : sm_S) (hj : jj N (σ 1)) : ∀ (d k : Nat) (a3 : Int32) (v4 v5 : Value), a3.toInt = k → k + d = 32 → fm ≤ k →
    xE xM m_M_firstBlock 2 [.ref 0, .int a1, .int a2, .int a3, v4, v5] [] σ (sm_I (fun x σ' => fbk (σ 1) s fm x ∧ σ' = σ)) := by
  intro d
  induction d with
  | zero =>
    intro k a3 v4 v5 h3 hk hfm
    refine w_M_firstBlock_2 a1 a2 a3 v4 v5 σ _ ⟨fun _ => ⟨_, rfl, Or.inl rfl, rfl⟩, fun h => absurd ?_ h⟩
    rw [t_le, h3]
    show (32 : Int) ≤ _
    omega
  | succ d ih =>
    intro k a3 v4 v5 h3 hk hfm
    have h3' : (a3 + 1).toInt = ((k + 1 : Nat) : Int) := by
      rw [t_add h3 (y := 1) rfl (by omega) (by omega)]
      omega
    have hf : (32 * a1 + a3).toInt = ((32 * s + k : Nat) : Int) := by
      rw [t_add (t_32s h1 hs) h3 (by omega) (by omega)]
      omega
    refine w_M_firstBlock_2 a1 a2 a3 v4 v5 σ _ ⟨fun h => ?_, fun _ => (c_frameAt _ σ).int ?_⟩
    · rw [t_le, h3] at h
      have h : (32 : Int) ≤ k := h
      omega
    · rintro _ σ ⟨rfl, rfl⟩
      obtain ⟨p1, q1⟩ := ixF (k := 1) (j := 1) hf rfl (by omega)
      rw [q1]
      refine ⟨p1, (c_stateOf hf (by omega) _).int ?_⟩
      rintro x4 σ ⟨hx4, rfl⟩
      obtain ⟨g1, g2⟩ := hj.1.1 (32 * s + k) (by omega)
      obtain ⟨m, hm⟩ := t_of g1
      have hm96 : m ≤ 96 := by omega
      refine ⟨fun _ => ih (k + 1) _ _ _ h3' (by omega) (by omega), fun n3 => (c_frameOfm (t_dec hm) hm96 _).int ?_⟩
      have hst : σ 1 (18 + 3 * (32 * s + k)) = 3 := by rw [← hx4]; exact Classical.not_not.mp n3
      rintro x6 σ ⟨hx6, rfl⟩
      refine ⟨fun _ => ih (k + 1) _ _ _ h3' (by omega) (by omega), fun n6 => ⟨_, rfl, ?_, rfl⟩⟩
      have e6 : x6 = 32 * a1 + a3 := Classical.not_not.mp n6
      by_cases hm0 : m = 0
      · refine Or.inl (t_inj ?_)
        rw [t_dec hm, hm0]
        rfl
      · have hx6' : σ 1 (786 + 16 * (m - 1) + 1) = 32 * a1 + a3 := by
          rw [← e6, hx6]
          congr 1
          omega
        have hb : (σ 1 (18 + 3 * (32 * s + k) + 1)).toInt = ((m - 1 + 1 : Nat) : Int) := by rw [hm]; omega
        refine Or.inr ⟨m - 1, 32 * s + k, ?_, by omega, ?_, by rw [hx6']; exact hf, by omega, by omega, by omega, hst, hb⟩
        · rw [t_dec hm]; omega
        · exact (hj.1.2 (m - 1) (by omega)).resolve_right (fun z => z (32 * s + k) (by omega) (by rw [hx6']; exact hf) hst hb)
theorem c_firstBlock {a1 a2 : Int32} {s N fm : Nat} (h1 : a1.toInt = s) (hs : s < 8) (h2 : a2.toInt = fm) (hfm : fm ≤ 32) (σ : sm_S) (hj : jj N (σ 1)) : xC xM j_M_firstBlock [.ref 0, .int a1, .int a2] σ (sm_I (fun x σ' => fbk (σ 1) s fm x ∧ σ' = σ)) :=
  w_M_firstBlock a1 a2 σ _ (l_firstBlock h1 hs σ hj (32 - fm) fm a2 _ _ h2 (by omega) (Nat.le_refl fm))
theorem jj_at {v : Nat → Int32} {s N a : Nat} {y : Int32} (hs : s < 8) (hy : y.toInt = a) (ha : a ≤ 32) (hj : jj N v) : jj N (upd v (2358 + 8 * s + 5) y) := by
  refine ⟨fr_cong (fun i h1 h2 => u_ne (by omega)) (fun n k hn hk => u_ne (by omega)) hj.1, ?_, by rw [u_ne (by omega)]; exact hj.2.2⟩
  obtain ⟨st, pt, at', q, g1, g2, g3, g4, g5, g6, g7, g8, g9⟩ := hj.2.1.2.2.1 s hs
  obtain ⟨s2, f1, f2, f3⟩ := hj.2.1.2.2.2.2
  refine jr_span hs hj.2.1 (fun i _ _ h => u_ne (by omega)) (u_ne (by omega)) ⟨st, pt, a, q, ?_, g2, ?_, g4, g5, by rw [u_at]; exact hy, ha, ?_, ?_⟩ ⟨s2, f1, ?_, ?_⟩
  · rw [u_ne (by omega)]; exact g1
  · rw [u_ne (by omega)]; exact g3
  · rw [u_ne (by omega)]; exact g8
  · rcases g9 with g9 | ⟨b, c1, c2, c3, c4, fr, c5, c6⟩
    · exact Or.inl g9
    · refine Or.inr ⟨b, c1, c2, c3, ?_, fr, ?_, c6⟩ <;> rw [u_ne (by omega)] <;> assumption
  · rw [u_ne (by omega)]; exact f2
  · rw [u_ne (by omega)]; exact f3
theorem c_isPassed {a1 a2 : Int32} {s n o fr N : Nat} (h1 : a1.toInt = s) (hs : s < 8) (h2 : a2.toInt = n) (hn : n < 96) (σ : sm_S) (hj : jj N (σ 1)) (ho : (σ 1 (786 + 16 * n + 2)).toInt = o) (ho4 : o ≤ 4) (hfr : (σ 1 (786 + 16 * n + 1)).toInt = fr) (hal : fr % 2 ^ o = 0) : xC xM j_M_isPassed [.ref 0, .int a1, .int a2] σ (sm_V (fun σ' => ∃ y, σ' = sm_set σ 1 (upd (σ 1) (2358 + 8 * s + 5) y) ∧ y.toInt = ((fr % 32 + 2 ^ o : Nat) : Int) ∧ jj N (upd (σ 1) (2358 + 8 * s + 5) y))) := by
  have hpw := t_pw (k := o) (by omega)
  have ha := t_al (k := o) (by omega) hal
  refine w_M_isPassed a1 a2 σ _ ((c_spanAt a1 σ).int ?_)
  rintro _ σ ⟨rfl, rfl⟩
  refine (c_frameOf h2 hn _).int ?_
  rintro x4 σ ⟨hx4, rfl⟩
  refine ⟨by decide, (c_longOf h2 hn _).int ?_⟩
  rintro x6 σ ⟨hx6, rfl⟩
  obtain ⟨p5, q5⟩ := ixS (k := 5) (j := 5) h1 rfl (by omega)
  rw [q5]
  refine ⟨p5, fun σ7 e7 => ?_⟩
  have hr : (x4 - x4 / 32 * 32).toInt = ((fr % 32 : Nat) : Int) := t_rem (d := 32) (by rw [hx4]; exact hfr) rfl (by decide)
  have hy : (x4 - x4 / 32 * 32 + x6).toInt = ((fr % 32 + 2 ^ o : Nat) : Int) := by
    rw [t_add hr (y := ((2 ^ o : Nat) : Int)) (by rw [hx6]; exact t_pow ho (by omega)) (by omega) (by omega)]
    omega
  exact ⟨rfl, _, e7, hy, jj_at hs hy (by omega) hj⟩
/-- other spans' rows -/
def oth (s : Nat) (v v' : Nat → Int32) : Prop := ∀ i, 2358 ≤ i → i < 2422 → (i < 2358 + 8 * s ∨ 2358 + 8 * s + 8 ≤ i) → v' i = v i
theorem oth.rf {s : Nat} {v : Nat → Int32} : oth s v v := fun _ _ _ _ => rfl
theorem oth.tr {s : Nat} {a b c : Nat → Int32} (h1 : oth s a b) (h2 : oth s b c) : oth s a c := fun i g1 g2 g3 => (h2 i g1 g2 g3).trans (h1 i g1 g2 g3)
theorem l_shuts88 {a1 a2 a3 : Int32} {s f0 N pt : Nat} (hs : s < 8) (h2 : a2.toInt = ((2358 + 8 * s : Nat) : Int)) (h3 : a3.toInt = f0) (hf0 : f0 + 8 ≤ 256) (hpt : pt ≤ 3) : ∀ (d k : Nat) (a4 : Int32) (σ : sm_S), a4.toInt = ((f0 + k : Nat) : Int) → k + d = 8 → jj N (σ 1) → (σ 1 (2358 + 8 * s + 2)).toInt = pt → σ 1 (2358 + 8 * s) = 2 →
    xE xM m_M_shuts 88 [.ref 0, .int a1, .int a2, .int a3, .int a4] [] σ (sm_V (fun σ' => ∃ w, σ' = sm_set σ 1 w ∧ jj N w ∧ oth s (σ 1) w)) := by
  have hix : ∀ {k : Int32} {j : Nat}, k.toInt = j → j < 8 → (a2 + k).toInt = ((2358 + 8 * s + j : Nat) : Int) := by
    intro k j hk hj
    rw [t_add h2 hk (by omega) (by omega)]
    omega
  have h38 : (a3 + 8).toInt = ((f0 + 8 : Nat) : Int) := by
    rw [t_add h3 (y := 8) rfl (by omega) (by omega)]
    omega
  intro d
  induction d with
  | zero =>
    intro k a4 σ h4 hk hj hp hst
    refine w_M_shuts_88 a1 a2 a3 a4 σ _ ⟨fun _ => (c_more (hix (k := 2) (j := 2) rfl (by omega)) (by omega) 1 σ).void ?_, fun h => absurd (by rw [t_le, h38, h4]; omega) h⟩
    rintro _ rfl
    have i0 := hix (k := 0) (j := 0) rfl (by omega)
    have i2 := hix (k := 2) (j := 2) rfl (by omega)
    have i3 := hix (k := 3) (j := 3) rfl (by omega)
    have i5 := hix (k := 5) (j := 5) rfl (by omega)
    rw [t_nat i0, t_nat i2, t_nat i3, t_nat i5, s_at, u_at]
    have hp1 : (σ 1 (2358 + 8 * s + 2) + 1).toInt = ((pt + 1 : Nat) : Int) := by
      rw [t_add hp (y := 1) rfl (by omega) (by omega)]
      omega
    obtain ⟨st, pt2, at', q, g1, g2, g3, g4, g5, g6, g7, g8, g9⟩ := hj.2.1.2.2.1 s hs
    have hst2 : st = 2 := by
      rw [show σ 1 (2358 + 8 * s + 0) = 2 from hst] at g1
      have g1 : (2 : Int) = st := g1
      omega
    have hq : q = 0 := by
      rcases g9 with g9 | ⟨b, c1, c2, c3, -⟩
      · exact g9
      · omega
    obtain ⟨s2, f1, f2, f3⟩ := hj.2.1.2.2.2.2
    have hs2 : s2 ≠ s := fun z => by
      subst z
      rw [show σ 1 (2358 + 8 * s2 + 0) = 2 from hst] at f2
      exact absurd f2 (by decide)
    refine ⟨t_vp i2 (by omega), fun h4' => ⟨t_vp i0 (by omega), fun σ2 e2 => ⟨t_vp i3 (by omega), fun σ3 e3 => ⟨t_vp i5 (by omega), fun σ4 e4 => ?_⟩⟩⟩, fun h4' => ?_⟩
    · subst e4 e3 e2
      simp only [s_at, s_ss]
      rw [t_le, hp1] at h4'
      have h4' : (4 : Int) ≤ _ := h4'
      have hw0 : ∃ v, v = upd (upd (upd (upd (σ 1) (2358 + 8 * s + 2) (σ 1 (2358 + 8 * s + 2) + 1)) (2358 + 8 * s + 0) 3) (2358 + 8 * s + 3) 1) (2358 + 8 * s + 5) 0 := ⟨_, rfl⟩
      obtain ⟨v, hv⟩ := hw0
      rw [← hv]
      have hve : ∀ i, (i < 2358 + 8 * s ∨ 2358 + 8 * s + 6 ≤ i) → v i = σ 1 i := fun i hi => by rw [hv, u_ne (by omega), u_ne (by omega), u_ne (by omega), u_ne (by omega)]
      refine ⟨rfl, v, rfl, ⟨fr_cong (fun i _ _ => hve i (by omega)) (fun n k hn hk => hve _ (by omega)) hj.1, ?_, by rw [hve _ (by omega)]; exact hj.2.2⟩, fun i _ _ h => hve i (by omega)⟩
      refine jr_span hs hj.2.1 (fun i _ _ h => hve i (by omega)) (hve _ (by omega)) ⟨3, 4, 0, 0, ?_, by omega, ?_, by omega, fun z => by omega, ?_, by omega, ?_, Or.inl rfl⟩ ⟨s2, f1, ?_, ?_⟩
      · rw [hv, u_ne (by omega), u_ne (by omega), u_at]; rfl
      · rw [hv, u_ne (by omega), u_ne (by omega), u_ne (by omega), u_at, hp1]; omega
      · rw [hv, u_at]; rfl
      · rw [hve _ (by omega), g8, hq]
      · rw [hve _ (by omega)]; exact f2
      · rw [hve _ (by omega)]; exact f3
    · rw [t_le, hp1] at h4'
      have h4' : ¬ (4 : Int) ≤ _ := h4'
      have hve : ∀ i, i ≠ 2358 + 8 * s + 2 → upd (σ 1) (2358 + 8 * s + 2) (σ 1 (2358 + 8 * s + 2) + 1) i = σ 1 i := fun i hi => u_ne hi
      refine ⟨rfl, _, rfl, ⟨fr_cong (fun i _ _ => hve i (by omega)) (fun n k hn hk => hve _ (by omega)) hj.1, ?_, by rw [hve _ (by omega)]; exact hj.2.2⟩, fun i _ _ h => hve i (by omega)⟩
      refine jr_span hs hj.2.1 (fun i _ _ h => hve i (by omega)) (hve _ (by omega)) ⟨2, pt + 1, at', 0, ?_, by omega, ?_, by omega, fun z => by omega, ?_, g7, ?_, Or.inl rfl⟩ ⟨s2, f1, ?_, ?_⟩
      · rw [hve _ (by omega), show σ 1 (2358 + 8 * s + 0) = 2 from hst]; rfl
      · rw [u_at]; exact hp1
      · rw [hve _ (by omega)]; exact g6
      · rw [hve _ (by omega), g8, hq]
      · rw [hve _ (by omega)]; exact f2
      · rw [hve _ (by omega)]; exact f3
  | succ d ih =>
    intro k a4 σ h4 hk hj hp hst
    have h4' : (a4 + 1).toInt = ((f0 + (k + 1) : Nat) : Int) := by
      rw [t_add h4 (y := 1) rfl (by omega) (by omega)]
      omega
    refine w_M_shuts_88 a1 a2 a3 a4 σ _ ⟨fun h => ?_, fun _ => (c_isFree h4 (by omega) σ).int ?_⟩
    · rw [t_le, h38, h4] at h; omega
    · rintro x σ ⟨-, rfl⟩
      refine ⟨fun _ => ih (k + 1) _ _ h4' (by omega) hj hp hst, fun _ => (c_frameAt a4 _).int ?_⟩
      rintro _ σ ⟨rfl, rfl⟩
      obtain ⟨p1, q1⟩ := ixF (k := 0) (j := 0) h4 rfl (by omega)
      rw [q1]
      refine ⟨p1, fun σ1 e1 => ?_⟩
      subst e1
      have hj1 : jj N (upd (σ 1) (18 + 3 * (f0 + k) + 0) 2) := jj_fr (fr_st1 (f := f0 + k) rfl (by decide) (by omega) hj.1) (fr_upd (by omega) (by omega)) hj
      refine (ih (k + 1) (a4 + 1) _ h4' (by omega) (by rw [s_at]; exact hj1) (by rw [s_at, u_ne (by omega)]; exact hp) (by rw [s_at, u_ne (by omega)]; exact hst)).mono ?_
      rintro r σ' ⟨rfl, w, rfl, hw, ew⟩
      rw [s_at] at ew
      exact ⟨rfl, w, s_ss, hw, fun i g1 g2 g3 => by rw [ew i g1 g2 g3, u_ne (by omega)]⟩
theorem l_shuts26 {a1 a2 a3 : Int32} {s f0 N pt : Nat} (h1 : a1.toInt = s) (hs : s < 8) (hN : N < 2147460000) (h2 : a2.toInt = ((2358 + 8 * s : Nat) : Int)) (h3 : a3.toInt = f0) (hf0 : f0 + 8 ≤ 256) (hpt : pt ≤ 3) (σ : sm_S) (hj : jj N (σ 1)) (hp : (σ 1 (2358 + 8 * s + 2)).toInt = pt) (hst : σ 1 (2358 + 8 * s) = 2) : ∀ (d k : Nat) (a4 : Int32), a4.toInt = ((f0 + k : Nat) : Int) → k + d = 8 →
    xE xM m_M_shuts 26 [.ref 0, .int a1, .int a2, .int a3, .int a4] [] σ (sm_V (fun σ' => ∃ w N', σ' = sm_set σ 1 w ∧ jj N' w ∧ N ≤ N' ∧ N' ≤ N + 7 ∧ oth s (σ 1) w)) := by
  have h38 : (a3 + 8).toInt = ((f0 + 8 : Nat) : Int) := by
    rw [t_add h3 (y := 8) rfl (by omega) (by omega)]
    omega
  intro d
  induction d with
  | zero =>
    intro k a4 h4 hk
    refine w_M_shuts_26 a1 a2 a3 a4 σ _ ⟨fun _ => (l_shuts88 hs h2 h3 hf0 hpt 8 0 a3 σ (by rw [h3]; omega) rfl hj hp hst).mono ?_, fun h => absurd (by rw [t_le, h38, h4]; omega) h⟩
    rintro r σ' ⟨rfl, w, rfl, hw, ew⟩
    exact ⟨rfl, w, N, rfl, hw, Nat.le_refl N, by omega, ew⟩
  | succ d ih =>
    intro k a4 h4 hk
    have h4' : (a4 + 1).toInt = ((f0 + (k + 1) : Nat) : Int) := by
      rw [t_add h4 (y := 1) rfl (by omega) (by omega)]
      omega
    refine w_M_shuts_26 a1 a2 a3 a4 σ _ ⟨fun h => ?_, fun _ => (c_stateOf h4 (by omega) σ).int ?_⟩
    · rw [t_le, h38, h4] at h; omega
    · rintro x2 σ ⟨-, rfl⟩
      refine ⟨fun _ => ih (k + 1) _ h4' (by omega), fun _ => (c_frameAt a4 _).int ?_⟩
      rintro _ σ ⟨rfl, rfl⟩
      obtain ⟨p1, q1⟩ := ixF (k := 1) (j := 1) h4 rfl (by omega)
      rw [q1]
      obtain ⟨g1, g2⟩ := hj.1.1 (f0 + k) (by omega)
      obtain ⟨m, hm⟩ := t_of g1
      refine ⟨p1, (c_ofm (k := 3) (j := 3) (t_dec hm) (by omega) rfl (by omega) _).int ?_⟩
      rintro x6 σ ⟨-, rfl⟩
      refine ⟨fun _ => (c_fails h1 hs hN _ hj).void ?_, fun _ => ih (k + 1) _ h4' (by omega)⟩
      rintro _ ⟨w, N', rfl, hw, l1, l2, -, ew⟩
      exact ⟨rfl, w, N', rfl, hw, l1, l2, ew⟩
theorem c_shuts {a1 : Int32} {s N : Nat} (h1 : a1.toInt = s) (hs : s < 8) (hN : N < 2147460000) (σ : sm_S) (hj : jj N (σ 1)) (hst : σ 1 (2358 + 8 * s) = 2) : xC xM j_M_shuts [.ref 0, .int a1] σ (sm_V (fun σ' => ∃ w N', σ' = sm_set σ 1 w ∧ jj N' w ∧ N ≤ N' ∧ N' ≤ N + 7 ∧ oth s (σ 1) w)) := by
  refine w_M_shuts a1 σ _ ((c_spanAt a1 σ).int ?_)
  rintro _ σ ⟨rfl, rfl⟩
  obtain ⟨p2, q2⟩ := ixS (k := 2) (j := 2) h1 rfl (by omega)
  rw [q2]
  obtain ⟨st, pt, at', q, g1, g2, g3, g4, g5, g6, g7, g8, g9⟩ := hj.2.1.2.2.1 s hs
  have hst2 : st = 2 := by
    rw [show σ 1 (2358 + 8 * s + 0) = 2 from hst] at g1
    have g1 : (2 : Int) = st := g1
    omega
  have hpt := g5 hst2
  have h8 : (8 * σ 1 (2358 + 8 * s + 2)).toInt = 8 * (pt : Int) := t_mul (x := 8) rfl g3 (by omega) (by omega)
  have hf : (32 * a1 + 8 * σ 1 (2358 + 8 * s + 2)).toInt = ((32 * s + 8 * pt : Nat) : Int) := by
    rw [t_add (t_32s h1 hs) h8 (by omega) (by omega)]
    omega
  have h2 : (2358 + 8 * a1).toInt = ((2358 + 8 * s : Nat) : Int) := by
    rw [t_add (a := 2358) (x := 2358) rfl (t_mul (x := 8) rfl h1 (by omega) (by omega)) (by omega) (by omega)]
    omega
  exact ⟨p2, l_shuts26 h1 hs hN h2 hf (by omega) hpt _ hj g3 hst 8 0 _ (by rw [hf]; omega) rfl⟩
