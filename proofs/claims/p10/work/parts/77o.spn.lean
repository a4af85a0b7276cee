/-! ===== the simulation: a span comes, a span begins to go ===== -/
/-- a state for n frames from fr on -/
def fsF (v : Nat → Int32) (fr n : Nat) (x : Int32) : Nat → Int32 := fun i => if (18 + 3 * fr ≤ i ∧ i < 18 + 3 * (fr + n)) ∧ (i - 18) % 3 = 0 then x else v i
theorem fsF_0 (v : Nat → Int32) (fr : Nat) (x : Int32) : fsF v fr 0 x = v := by
  funext i
  exact if_neg (by omega)
theorem fsF_out {v : Nat → Int32} {fr n i : Nat} {x : Int32} (h : i < 18 + 3 * fr ∨ 18 + 3 * (fr + n) ≤ i ∨ (i - 18) % 3 ≠ 0) : fsF v fr n x i = v i := if_neg (by omega)
theorem fsF_in {v : Nat → Int32} {fr n f : Nat} {x : Int32} (h1 : fr ≤ f) (h2 : f < fr + n) : fsF v fr n x (18 + 3 * f) = x := if_pos (by omega)
theorem fsF_s (v : Nat → Int32) (fr n : Nat) (x : Int32) : fsF v fr (n + 1) x = upd (fsF v fr n x) (18 + 3 * (fr + n)) x := by
  funext i
  by_cases c : i = 18 + 3 * (fr + n)
  · rw [c, u_at]
    exact if_pos (by omega)
  · rw [u_ne c]
    unfold fsF
    by_cases d : (18 + 3 * fr ≤ i ∧ i < 18 + 3 * (fr + n)) ∧ (i - 18) % 3 = 0
    · rw [if_pos d, if_pos (by omega)]
    · rw [if_neg d, if_neg (by omega)]
theorem l_comesOn2 {a1 a2 : Int32} {s N : Nat} (h1 : a1.toInt = s) (hs : s < 8) (σ : sm_S) (h5 : (σ 1 5).toInt = N) : ∀ (d k : Nat) (a3 : Int32), a3.toInt = ((32 * s + k : Nat) : Int) → k + d = 32 → xE xM m_M_comesOn 31 [.ref 0, .int a1, .int a2, .int a3] [] (sm_set σ 1 (fsF (σ 1) (32 * s) k 1)) (sm_I (fun x σ' => x = a2 ∧ σ' = sm_set σ 1 (wrF (fsF (σ 1) (32 * s) 32 1) N 3 a1 a2))) := by
  have h32 : (32 * a1 + 32).toInt = ((32 * s + 32 : Nat) : Int) := by
    have e := t_ix (c := 0) (m := 32) (C := 0) (M := 32) (k := 32) (j := 32) rfl rfl h1 rfl (by omega)
    rw [Int32.zero_add] at e
    rw [e]
    omega
  intro d
  induction d with
  | zero =>
    intro k a3 h3 hk
    have hk : k = 32 := by omega
    subst hk
    refine w_M_comesOn_31 a1 a2 a3 _ _ ⟨fun _ => (c_writes2 3 a1 a2 _ (n := N) ?_).void ?_, fun h => absurd (by rw [t_le, h32, h3]; omega) h⟩
    · rw [s_at, fsF_out (by omega)]
      exact h5
    · rintro _ rfl
      exact ⟨_, rfl, rfl, by rw [s_at, s_ss]⟩
  | succ d ih =>
    intro k a3 h3 hk
    have h3' : (a3 + 1).toInt = ((32 * s + (k + 1) : Nat) : Int) := by
      rw [t_add h3 (y := 1) rfl (by omega) (by omega)]
      omega
    refine w_M_comesOn_31 a1 a2 a3 _ _ ⟨fun h => ?_, fun _ => (c_frameAt a3 _).int ?_⟩
    · rw [t_le, h32, h3] at h
      omega
    · rintro _ _ ⟨rfl, rfl⟩
      obtain ⟨p1, p2⟩ := ixF (k := 0) (j := 0) h3 rfl (by omega)
      refine ⟨p1, fun σ4 e4 => ?_⟩
      rw [p2, s_at, s_ss, Nat.add_zero, ← fsF_s] at e4
      rw [e4]
      exact ih (k + 1) (a3 + 1) h3' (by omega)
/-- a span is on, in a zone -/
def opF (v : Nat → Int32) (s : Nat) (z : Int32) : Nat → Int32 := fsF (upd (upd v (2358 + 8 * s + 0) 1) (2358 + 8 * s + 1) z) (32 * s) 32 1
theorem c_comesOn2 {a1 : Int32} {s N : Nat} (h1 : a1.toInt = s) (hs : s < 8) (a2 : Int32) (σ : sm_S) (h5 : (σ 1 5).toInt = N) : xC xM j_M_comesOn [.ref 0, .int a1, .int a2] σ (sm_I (fun x σ' => x = a2 ∧ σ' = sm_set σ 1 (wrF (opF (σ 1) s a2) N 3 a1 a2))) := by
  obtain ⟨p1, p2⟩ := ixS (k := 0) (j := 0) h1 rfl (by omega)
  obtain ⟨p3, p4⟩ := ixS (k := 1) (j := 1) h1 rfl (by omega)
  have h32 : (32 * a1).toInt = ((32 * s + 0 : Nat) : Int) := by
    have e := t_ix (c := 0) (m := 32) (C := 0) (M := 32) (k := 0) (j := 0) rfl rfl h1 rfl (by omega)
    rw [Int32.zero_add, Int32.add_zero] at e
    rw [e]
    omega
  refine w_M_comesOn a1 a2 σ _ ((c_spanAt a1 σ).int ?_)
  rintro _ σ ⟨rfl, rfl⟩
  refine ⟨p1, fun σ3 e3 => (c_spanAt a1 σ3).int ?_⟩
  rintro _ _ ⟨rfl, rfl⟩
  refine ⟨p3, fun σ6 e6 => ?_⟩
  rw [p2] at e3
  rw [p4, e3, s_at, s_ss] at e6
  have := l_comesOn2 (a2 := a2) h1 hs (sm_set σ 1 (upd (upd (σ 1) (2358 + 8 * s + 0) 1) (2358 + 8 * s + 1) a2)) (N := N) (by rw [s_at, u_ne (by omega), u_ne (by omega)]; exact h5) 32 0 (32 * a1) h32 rfl
  rw [fsF_0, s_at, s_ss, s_ss] at this
  rw [e6]
  exact this
def opC (c : sm_S) (s : Nat) (z : Int32) : sm_S := sm_set (sm_set (sm_set c 18 (upd (c 18) s 1)) 19 (upd (c 19) s z)) 2 (upd (c 2) s (-1))
theorem e_open2 {a1 : Int32} {s n : Nat} (h1 : a1.toInt = s) (hs : s < 8) (a2 : Int32) (σ : sm_S) (h5 : (σ 34 5).toInt = n) (hn : n < 60) : xC xD j_Y_open [.ref 0, .int a1, .int a2] σ (sm_V (fun σ' => σ' = laC (opC σ s a2) n (σ 0 7) 3 a1 a2)) := by
  have v := t_vp h1 hs
  refine d_Y_open a1 a2 σ _ ?_
  rw [t_nat h1]
  refine ⟨v, fun σ1 e1 => ⟨v, fun σ2 e2 => ⟨v, fun σ3 e3 => ?_⟩⟩⟩
  have e : σ3 = opC σ s a2 := by
    rw [e3, e2, e1]
    rfl
  rw [e]
  refine (e_add2 _ _ _ _ (opC σ s a2) h5 hn).void ?_
  rintro _ rfl
  exact ⟨rfl, rfl⟩
theorem sim_on {c : sm_S} {v : Nat → Int32} {s : Nat} (z : Int32) (h : sim0 c v) (hk : ∀ b, b < 96 → bk_ok v b) (hs : s < 8) (h0 : c 18 s = 0) : sim0 (opC c s z) (opF v s z) := by
  have gs := h.S s hs
  have v0 : v (2358 + 8 * s + 0) = 0 := by rw [gs.sta]; exact h0
  have z0 : ∀ f, f < 256 → f / 32 = s → v (18 + 3 * f) = 0 := fun f hf e => (h.O.of f hf).mpr (by rw [e]; exact v0)
  have c2 : opC c s z 2 = upd (c 2) s (-1) := rfl
  have c18 : opC c s z 18 = upd (c 18) s 1 := rfl
  have c19 : opC c s z 19 = upd (c 19) s z := rfl
  have co : ∀ k, k ≠ 2 → k ≠ 18 → k ≠ 19 → opC c s z k = c k := fun k h1 h2 h3 => by
    unfold opC
    rw [s_ne h1, s_ne h3, s_ne h2]
  have old : ∀ i, (i < 18 + 3 * (32 * s) ∨ 18 + 3 * (32 * s + 32) ≤ i ∨ (i - 18) % 3 ≠ 0) → i ≠ 2358 + 8 * s + 0 → i ≠ 2358 + 8 * s + 1 → opF v s z i = v i := fun i h1 h2 h3 => by
    unfold opF
    rw [fsF_out h1, u_ne h3, u_ne h2]
  have in1 : ∀ f, f < 256 → f / 32 = s → opF v s z (18 + 3 * f) = 1 := fun f hf e => fsF_in (by omega) (by omega)
  have out0 : ∀ f, f < 256 → f / 32 ≠ s → opF v s z (18 + 3 * f) = v (18 + 3 * f) := fun f hf e => old _ (by omega) (by omega) (by omega)
  have o1 : ∀ f, f < 256 → opF v s z (18 + 3 * f + 1) = v (18 + 3 * f + 1) := fun f hf => old _ (by omega) (by omega) (by omega)
  have o2 : ∀ f, f < 256 → opF v s z (18 + 3 * f + 2) = v (18 + 3 * f + 2) := fun f hf => old _ (by omega) (by omega) (by omega)
  have oB : ∀ b k, b < 96 → k < 16 → opF v s z (786 + 16 * b + k) = v (786 + 16 * b + k) := fun b k h1 h2 => old _ (by omega) (by omega) (by omega)
  have os0 : opF v s z (2358 + 8 * s + 0) = 1 := by
    unfold opF
    rw [fsF_out (by omega), u_ne (by omega), u_at]
  have os1 : opF v s z (2358 + 8 * s + 1) = z := by
    unfold opF
    rw [fsF_out (by omega), u_at]
  refine ⟨fun f hf => ?_, fun b hb => ?_, fun t ht => ?_, fun t ht => ?_, ?_, ?_, ?_⟩
  · have g := h.F f hf
    by_cases e : f / 32 = s
    · have z := z0 f hf e
      have n3 : ¬ bit (c 3 (f / 32)) (f % 32) := fun q => by rw [g.apa, z] at q; exact absurd q (by decide)
      have n4 : ¬ bit (c 4 (f / 32)) (f % 32) := fun q => by rw [g.tak, z] at q; exact absurd q (by decide)
      have n5 : ¬ bit (c 5 (f / 32)) (f % 32) := fun q => by rw [g.hel, z] at q; exact absurd q (by decide)
      refine ⟨?_, ?_, ?_, ?_, ?_, ?_, ?_⟩
      · rw [in1 f hf e]; decide
      · rw [in1 f hf e, c2, e, u_at]
        exact ⟨fun _ => rfl, fun _ => bit_m1 (Nat.mod_lt _ (by decide))⟩
      · rw [in1 f hf e, co 3 (by decide) (by decide) (by decide)]
        exact ⟨fun q => absurd q n3, fun q => absurd q (by decide)⟩
      · rw [in1 f hf e, co 4 (by decide) (by decide) (by decide)]
        exact ⟨fun q => absurd q n4, fun q => absurd q (by decide)⟩
      · rw [in1 f hf e, co 5 (by decide) (by decide) (by decide)]
        exact ⟨fun q => absurd q n5, fun q => absurd q (by decide)⟩
      · rw [o1 f hf, co 6 (by decide) (by decide) (by decide)]
        exact g.blk
      · rw [o2 f hf, co 7 (by decide) (by decide) (by decide)]
        exact g.val
    · exact g.cg (by rw [c2, u_ne e]) (by rw [co 3 (by decide) (by decide) (by decide)]) (by rw [co 4 (by decide) (by decide) (by decide)]) (by rw [co 5 (by decide) (by decide) (by decide)]) (by rw [co 6 (by decide) (by decide) (by decide)]) (by rw [co 7 (by decide) (by decide) (by decide)]) (out0 f hf e) (o1 f hf) (o2 f hf)
  · exact (h.B b hb).cg (by rw [co 9 (by decide) (by decide) (by decide)]) (by rw [co 10 (by decide) (by decide) (by decide)]) (by rw [co 11 (by decide) (by decide) (by decide)]) (by rw [co 12 (by decide) (by decide) (by decide)]) (by rw [co 13 (by decide) (by decide) (by decide)]) (by rw [co 14 (by decide) (by decide) (by decide)]) (by rw [co 15 (by decide) (by decide) (by decide)]) (by rw [co 16 (by decide) (by decide) (by decide)]) (fun k hk => oB b k hb (by omega))
  · by_cases e : t = s
    · subst e
      have ev : ∀ k, 2 ≤ k → k < 8 → opF v t z (2358 + 8 * t + k) = v (2358 + 8 * t + k) := fun k h1 h2 => old _ (by omega) (by omega) (by omega)
      have ck : ∀ k, 20 ≤ k → opC c t z k = c k := fun k h1 => co k (by omega) (by omega) (by omega)
      refine ⟨?_, ?_, ?_, ?_, ?_, ?_, ?_, ?_, ?_, ?_, ?_⟩
      · rw [os0, c18, u_at]
      · rw [c18, u_at]; exact fun q => absurd q (by decide)
      · rw [os1, c19, u_at]; exact fun _ => rfl
      · rw [ev 2 (by decide) (by decide), ck 20 (by decide)]; exact gs.par
      · rw [ev 3 (by decide) (by decide), ck 21 (by decide)]; exact gs.pas
      · rw [ev 4 (by decide) (by decide), ck 22 (by decide)]; exact gs.pau
      · rw [ck 22 (by decide)]; exact gs.pag
      · rw [c18, u_at]; exact fun q => absurd q (by decide)
      · rw [ev 6 (by decide) (by decide), ck 24 (by decide)]; exact gs.lea
      · rw [ev 7 (by decide) (by decide), ck 25 (by decide)]; exact gs.why
      · rw [ck 20 (by decide), ck 21 (by decide), ck 22 (by decide), ck 24 (by decide)]
        exact fun _ => gs.off (Or.inl h0)
    · refine (h.S t ht).cg (fun k h1 h2 => ?_) (fun k hk => old _ (by omega) (by omega) (by omega))
      by_cases q : k = 18
      · rw [q, c18, u_ne e]
      · by_cases q2 : k = 19
        · rw [q2, c19, u_ne e]
        · rw [co k (by omega) q q2]
  · exact (h.T t ht).cg (fun k h1 h2 => by rw [co k (by omega) (by omega) (by omega)]) (fun k hk => old _ (by omega) (by omega) (by omega))
  · obtain ⟨L, hL⟩ := h.Q
    exact ⟨L, hL.cg (by rw [co 26 (by decide) (by decide) (by decide)]) (co 28 (by decide) (by decide) (by decide)) (co 33 (by decide) (by decide) (by decide)) (fun b k h1 h2 h3 => oB b k h1 h3)⟩
  · exact h.N.cg (co 39 (by decide) (by decide) (by decide)) (co 40 (by decide) (by decide) (by decide)) (by rw [co 0 (by decide) (by decide) (by decide)]) (by rw [co 8 (by decide) (by decide) (by decide)]) (fun i hi _ => old i (by omega) (by omega) (by omega))
  · have st : ∀ f, f < 256 → (v (18 + 3 * f) = 3 ∨ v (18 + 3 * f) = 4) → f / 32 ≠ s := fun f hf q e => by
      rw [z0 f hf e] at q
      exact absurd q (by decide)
    refine ⟨fun b fr o hb g0 g1 g2 j hj => ?_, fun b t o hb g0 g6 g2 => ?_, fun f hf g3 => ?_, fun f hf g4 => ?_, fun f hf g3 g4 => ?_, fun f hf => ?_⟩
    · rw [oB b 0 hb (by decide)] at g0
      rw [oB b 1 hb (by decide)] at g1
      rw [oB b 2 hb (by decide)] at g2
      have hx := h.O.hs b fr o hb g0 g1 g2 j hj
      obtain ⟨o2, fr2, p1, p2, p3, p4, p5, -⟩ := hk b hb
      have e1 : o2 = o := by omega
      have e2 : fr2 = fr := by omega
      subst e1 e2
      have hl := al_le p2 p4 p5
      rw [out0 _ (by omega) (st _ (by omega) (Or.inl hx.1)), o1 _ (by omega)]
      exact hx
    · rw [oB b 0 hb (by decide)] at g0
      rw [oB b 6 hb (by decide)] at g6
      rw [oB b 2 hb (by decide)] at g2
      obtain ⟨hx1, hx2⟩ := h.O.hd b t o hb g0 g6 g2
      have hl := bk_to (hk b hb) g6 g2
      refine ⟨by rw [oB b 3 hb (by decide)]; exact hx1, fun j hj => ?_⟩
      have hx := hx2 j hj
      rw [out0 _ (by omega) (st _ (by omega) (Or.inr hx.1)), o1 _ (by omega)]
      exact hx
    · have e : f / 32 ≠ s := fun e => by
        rw [in1 f hf e] at g3
        exact absurd g3 (by decide)
      rw [out0 f hf e] at g3
      obtain ⟨b, fr, o, p1, p2, p3, p4, p5, p6, p7⟩ := h.O.tk f hf g3
      exact ⟨b, fr, o, p1, by rw [o1 f hf]; exact p2, by rw [oB b 0 p1 (by decide)]; exact p3, by rw [oB b 1 p1 (by decide)]; exact p4, by rw [oB b 2 p1 (by decide)]; exact p5, p6, p7⟩
    · have e : f / 32 ≠ s := fun e => by
        rw [in1 f hf e] at g4
        exact absurd g4 (by decide)
      rw [out0 f hf e] at g4
      obtain ⟨b, t, o, p1, p2, p3, p4, p5, p6, p7⟩ := h.O.hl f hf g4
      exact ⟨b, t, o, p1, by rw [o1 f hf]; exact p2, by rw [oB b 0 p1 (by decide)]; exact p3, by rw [oB b 6 p1 (by decide)]; exact p4, by rw [oB b 2 p1 (by decide)]; exact p5, p6, p7⟩
    · rw [o1 f hf]
      by_cases e : f / 32 = s
      · have q := z0 f hf e
        exact h.O.no f hf (by rw [q]; decide) (by rw [q]; decide)
      · rw [out0 f hf e] at g3 g4
        exact h.O.no f hf g3 g4
    · by_cases e : f / 32 = s
      · rw [in1 f hf e, e, os0]
      · rw [out0 f hf e, old (2358 + 8 * (f / 32) + 0) (by omega) (by omega) (by omega)]
        exact h.O.of f hf
