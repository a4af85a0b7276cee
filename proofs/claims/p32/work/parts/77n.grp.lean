section
/-! ===== the simulation: what a task wanted is done ===== -/
theorem u_com {f : Nat → Int32} {a b : Nat} {x y : Int32} (h : a ≠ b) : upd (upd f a x) b y = upd (upd f b y) a x := by
  funext i
  by_cases e : i = b
  · rw [e, u_at, u_ne (by omega), u_at]
  · rw [u_ne e]
    by_cases e2 : i = a
    · rw [e2, u_at, u_at]
    · rw [u_ne e2, u_ne e2, u_ne e]
theorem c_uses2 {b : Int32} {n : Nat} (hb : b.toInt = n) (hn : n < 96) (σ : sm_S) : xC xM j_M_uses [.ref 0, .int b] σ (sm_V (fun σ' => σ' = sm_set σ 1 (usF (σ 1) n))) := by
  refine w_M_uses b σ _ ((c_more (k := 6) (j := 6) rfl (by decide) 1 σ).void ?_)
  rintro _ rfl
  refine ⟨t_vp (n := 6) rfl (by omega), ?_⟩
  refine (c_lay (k := 8) (j := 8) hb rfl (by omega) _ _).void ?_
  rintro _ rfl
  refine ⟨rfl, ?_⟩
  have e : ((6 : Int32)).toNatClampNeg = 6 := rfl
  rw [e, s_ss, s_at, u_at]
  rfl
/-- task t at block n whose first frame is fr: what it wants, where, with what -/
def doF (v : Nat → Int32) (t n fr i : Nat) (tI what x : Int32) : Nat → Int32 := if what = 2 then upd v (786 + 16 * n + 5) (v (786 + 16 * n + 5) ||| ((1 : Int32) <<< (tI &&& 31))) else if what = 0 then upd (usF v n) (2322 + 6 * t + 5) (v (18 + 3 * (fr + i) + 2)) else upd (usF v n) (18 + 3 * (fr + i) + 2) x
theorem usF_o {v : Nat → Int32} {n i : Nat} (h1 : i ≠ 6) (h2 : i ≠ 786 + 16 * n + 8) : usF v n i = v i := by
  unfold usF
  rw [u_ne h2, u_ne h1]
theorem c_does2 {t b i : Int32} {n m a fr : Nat} (ht : t.toInt = m) (hm : m < 6) (hb : b.toInt = n) (hn : n < 96) (hi : i.toInt = a) (what x : Int32) (σ : sm_S) (hfr : (σ 1 (786 + 16 * n + 1)).toInt = fr) (h : fr + a < 256) : xC xM j_M_does [.ref 0, .int t, .int b, .int what, .int i, .int x] σ (sm_V (fun σ' => σ' = sm_set σ 1 (doF (σ 1) m n fr a t what x))) := by
  refine w_M_does t b what i x σ _ ⟨fun h2 => (c_uses2 hb hn σ).void ?_, fun h2 => (c_of (k := 5) (j := 5) hb rfl (by omega) σ).int ?_⟩
  · rintro _ rfl
    have hf1 : (usF (σ 1) n (786 + 16 * n + 1)).toInt = fr := by rw [usF_o (by omega) (by omega)]; exact hfr
    have q : (usF (σ 1) n (786 + 16 * n + 1) + i).toInt = ((fr + a : Nat) : Int) := by
      rw [t_add hf1 hi (by omega) (by omega)]
      omega
    refine ⟨fun h0 => (c_frameOf hb hn _).int ?_, fun h0 => (c_taskAt t _).int ?_⟩
    · rintro _ _ ⟨rfl, rfl⟩
      rw [s_at]
      refine (c_lays q (by omega) x _).void ?_
      rintro _ rfl
      refine ⟨rfl, ?_⟩
      unfold doF
      rw [if_neg h2, if_neg h0, s_at, s_ss]
    · rintro _ _ ⟨rfl, rfl⟩
      refine (c_frameOf hb hn _).int ?_
      rintro _ _ ⟨rfl, rfl⟩
      rw [s_at]
      refine (c_valueOf q (by omega) _).int ?_
      rintro _ _ ⟨rfl, rfl⟩
      obtain ⟨p1, p2⟩ := ixT (k := 5) (j := 5) ht rfl (by omega)
      refine ⟨p1, fun σ1 e1 => ⟨rfl, ?_⟩⟩
      rw [p2, s_at, s_ss, usF_o (by omega) (by omega)] at e1
      unfold doF
      rw [if_neg h2, if_pos (Classical.not_not.mp h0)]
      exact e1
  · rintro _ _ ⟨rfl, rfl⟩
    refine (c_lay (k := 5) (j := 5) hb rfl (by omega) _ _).void ?_
    rintro _ rfl
    refine ⟨rfl, ?_⟩
    unfold doF
    rw [if_pos (Classical.not_not.mp h2)]
def doC (c : sm_S) (t n f : Nat) (tI what x : Int32) : sm_S := if what = 2 then sm_set c 13 (upd (c 13) n (c 13 n ||| ((1 : Int32) <<< (tI &&& 31)))) else if what = 0 then usC (sm_set c 29 (upd (c 29) t (c 7 f))) n else usC (sm_set c 7 (upd (c 7) f x)) n
theorem e_fulfil2 {t b : Int32} {n m a fr : Nat} (ht : t.toInt = m) (hm : m < 6) (hb : b.toInt = n) (hn : n < 96) (σ : sm_S) (hw : σ 30 m ≠ 2 → (σ 31 m).toInt = a ∧ (σ 9 n).toInt = fr ∧ fr + a < 256) : xC xD j_Y_fulfil [.ref 0, .int t, .int b] σ (sm_V (fun σ' => σ' = doC σ m n (fr + a) t (σ 30 m) (σ 32 m))) := by
  have v1 := t_vp ht hm
  have v2 := t_vp hb hn
  refine d_Y_fulfil t b σ _ ?_
  rw [t_nat ht, t_nat hb]
  refine ⟨v1, fun h2 => ?_, fun h2 => ⟨v2, v2, fun σ7 e7 => ⟨rfl, ?_⟩⟩⟩
  · obtain ⟨g1, g2, g3⟩ := hw h2
    have q : (σ 9 n + σ 31 m).toInt = ((fr + a : Nat) : Int) := by
      rw [t_add g2 g1 (by omega) (by omega)]
      omega
    have vq := t_vp (N := 256) q g3
    rw [t_nat q]
    refine ⟨v2, v1, v1, fun h0 => ⟨v1, vq, fun σ1 e1 σ2 e2 => ⟨v2, fun σ3 e3 => ⟨rfl, ?_⟩⟩⟩, fun h0 => ⟨vq, v1, fun σ4 e4 σ5 e5 => ⟨v2, fun σ6 e6 => ⟨rfl, ?_⟩⟩⟩⟩
    · unfold doC
      rw [if_neg h2, if_neg h0, e3, e2, e1]
      rfl
    · unfold doC
      rw [if_neg h2, if_pos (Classical.not_not.mp h0), e6, e5, e4]
      rfl
  · unfold doC
    rw [if_pos (Classical.not_not.mp h2), e7]
theorem sim_does {c : sm_S} {v : Nat → Int32} {t n fr a : Nat} {tI what x : Int32} (h : sim0 c v) (hk : ∀ b, b < 96 → bk_ok v b) (ht : t < 6) (hn : n < 96) (hf : fr + a < 256) (hp : v (786 + 16 * n + 5) = c 13 n) : sim0 (doC c t n (fr + a) tI what x) (doF v t n fr a tI what x) := by
  have us : ∀ b, b < 96 → ∀ w : Nat → Int32, (∀ i, 786 ≤ i → i < 2322 → w i = v i) → bk_ok w b := fun b hb w hw => bk_cong (fun k h1 _ _ _ => hw _ (by omega) (by omega)) (hk b hb)
  unfold doC doF
  by_cases h2 : what = 2
  · rw [if_pos h2, if_pos h2, hp]
    exact sim_pin _ h hk hn
  · rw [if_neg h2, if_neg h2]
    by_cases h0 : what = 0
    · rw [if_pos h0, if_pos h0, (h.F (fr + a) hf).val]
      have := sim_use (sim_read (c 7 (fr + a)) h hk ht) (fun b hb => us b hb _ (fun i h1 h2 => u_ne (by omega))) hn
      have e : usF (upd v (2322 + 6 * t + 5) (c 7 (fr + a))) n = upd (usF v n) (2322 + 6 * t + 5) (c 7 (fr + a)) := by
        unfold usF
        rw [u_ne (show (6 : Nat) ≠ 2322 + 6 * t + 5 by omega), u_com (a := 2322 + 6 * t + 5) (b := 6) (by omega), u_com (a := 2322 + 6 * t + 5) (b := 786 + 16 * n + 8) (by omega)]
      rw [e] at this
      exact this
    · rw [if_neg h0, if_neg h0]
      have := sim_use (sim_val x h hk hf) (fun b hb => us b hb _ (fun i h1 h2 => u_ne (by omega))) hn
      have e : usF (upd v (18 + 3 * (fr + a) + 2) x) n = upd (usF v n) (18 + 3 * (fr + a) + 2) x := by
        unfold usF
        rw [u_ne (show (6 : Nat) ≠ 18 + 3 * (fr + a) + 2 by omega), u_com (a := 18 + 3 * (fr + a) + 2) (b := 6) (by omega), u_com (a := 18 + 3 * (fr + a) + 2) (b := 786 + 16 * n + 8) (by omega)]
      rw [e] at this
      exact this
end
section
/-! ===== the simulation: a span comes, a span begins to go ===== -/
/-- a state for n frames from fr on -/
def fsF (v : Nat → Int32) (fr n : Nat) (x : Int32) : Nat → Int32 := fun i => if (18 + 3 * fr ≤ i ∧ i < 18 + 3 * (fr + n)) ∧ (i - 18) % 3 = 0 then x else v i
theorem fsF_0 (v : Nat → Int32) (fr : Nat) (x : Int32) : fsF v fr 0 x = v := by
  funext i
  exact if_neg (by omega)
theorem fsF_out {v : Nat → Int32} {fr n i : Nat} {x : Int32} (h : i < 18 + 3 * fr ∨ 18 + 3 * (fr + n) ≤ i ∨ (i - 18) % 3 ≠ 0) : fsF v fr n x i = v i := if_neg (by omega)
theorem fsF_in {v : Nat → Int32} {fr n f : Nat} {x : Int32} (h1 : fr ≤ f) (h2 : f < fr + n) : fsF v fr n x (18 + 3 * f) = x := if_pos (by omega)
theorem fsF_s (v : Nat → Int32) (fr n : Nat) (x : Int32) : fsF v fr (n + 1) x = upd (fsF v fr n x) (18 + 3 * (fr + n)) x := by
  funext i
  by_cases c : i = 18 + 3 * (fr + n)
  · rw [c, u_at]
    exact if_pos (by omega)
  · rw [u_ne c]
    unfold fsF
    by_cases d : (18 + 3 * fr ≤ i ∧ i < 18 + 3 * (fr + n)) ∧ (i - 18) % 3 = 0
    · rw [if_pos d, if_pos (by omega)]
    · rw [if_neg d, if_neg (by omega)]
theorem l_comesOn2 {a1 a2 : Int32} {s N : Nat} (h1 : a1.toInt = s) (hs : s < 8) (σ : sm_S) (h5 : (σ 1 5).toInt = N) : ∀ (d k : Nat) (a3 : Int32), a3.toInt = ((32 * s + k : Nat) : Int) → k + d = 32 → xE xM m_M_comesOn 31 [.ref 0, .int a1, .int a2, .int a3] [] (sm_set σ 1 (fsF (σ 1) (32 * s) k 1)) (sm_I (fun x σ' => x = a2 ∧ σ' = sm_set σ 1 (wrF (fsF (σ 1) (32 * s) 32 1) N 3 a1 a2))) := by
  have h32 : (32 * a1 + 32).toInt = ((32 * s + 32 : Nat) : Int) := by
    have e := t_ix (c := 0) (m := 32) (C := 0) (M := 32) (k := 32) (j := 32) rfl rfl h1 rfl (by omega)
    rw [Int32.zero_add] at e
    rw [e]
    omega
  intro d
  induction d with
  | zero =>
    intro k a3 h3 hk
    have hk : k = 32 := by omega
    subst hk
    refine w_M_comesOn_31 a1 a2 a3 _ _ ⟨fun _ => (c_writes2 3 a1 a2 _ (n := N) ?_).void ?_, fun h => absurd (by rw [t_le, h32, h3]; omega) h⟩
    · rw [s_at, fsF_out (by omega)]
      exact h5
    · rintro _ rfl
      exact ⟨_, rfl, rfl, by rw [s_at, s_ss]⟩
  | succ d ih =>
    intro k a3 h3 hk
    have h3' : (a3 + 1).toInt = ((32 * s + (k + 1) : Nat) : Int) := by
      rw [t_add h3 (y := 1) rfl (by omega) (by omega)]
      omega
    refine w_M_comesOn_31 a1 a2 a3 _ _ ⟨fun h => ?_, fun _ => (c_frameAt a3 _).int ?_⟩
    · rw [t_le, h32, h3] at h
      omega
    · rintro _ _ ⟨rfl, rfl⟩
      obtain ⟨p1, p2⟩ := ixF (k := 0) (j := 0) h3 rfl (by omega)
      refine ⟨p1, fun σ4 e4 => ?_⟩
      rw [p2, s_at, s_ss, Nat.add_zero, ← fsF_s] at e4
      rw [e4]
      exact ih (k + 1) (a3 + 1) h3' (by omega)
/-- a span is on, in a zone -/
def opF (v : Nat → Int32) (s : Nat) (z : Int32) : Nat → Int32 := fsF (upd (upd v (2358 + 8 * s + 0) 1) (2358 + 8 * s + 1) z) (32 * s) 32 1
theorem c_comesOn2 {a1 : Int32} {s N : Nat} (h1 : a1.toInt = s) (hs : s < 8) (a2 : Int32) (σ : sm_S) (h5 : (σ 1 5).toInt = N) : xC xM j_M_comesOn [.ref 0, .int a1, .int a2] σ (sm_I (fun x σ' => x = a2 ∧ σ' = sm_set σ 1 (wrF (opF (σ 1) s a2) N 3 a1 a2))) := by
  obtain ⟨p1, p2⟩ := ixS (k := 0) (j := 0) h1 rfl (by omega)
  obtain ⟨p3, p4⟩ := ixS (k := 1) (j := 1) h1 rfl (by omega)
  have h32 : (32 * a1).toInt = ((32 * s + 0 : Nat) : Int) := by
    have e := t_ix (c := 0) (m := 32) (C := 0) (M := 32) (k := 0) (j := 0) rfl rfl h1 rfl (by omega)
    rw [Int32.zero_add, Int32.add_zero] at e
    rw [e]
    omega
  refine w_M_comesOn a1 a2 σ _ ((c_spanAt a1 σ).int ?_)
  rintro _ σ ⟨rfl, rfl⟩
  refine ⟨p1, fun σ3 e3 => (c_spanAt a1 σ3).int ?_⟩
  rintro _ _ ⟨rfl, rfl⟩
  refine ⟨p3, fun σ6 e6 => ?_⟩
  rw [p2] at e3
  rw [p4, e3, s_at, s_ss] at e6
  have := l_comesOn2 (a2 := a2) h1 hs (sm_set σ 1 (upd (upd (σ 1) (2358 + 8 * s + 0) 1) (2358 + 8 * s + 1) a2)) (N := N) (by rw [s_at, u_ne (by omega), u_ne (by omega)]; exact h5) 32 0 (32 * a1) h32 rfl
  rw [fsF_0, s_at, s_ss, s_ss] at this
  rw [e6]
  exact this
def opC (c : sm_S) (s : Nat) (z : Int32) : sm_S := sm_set (sm_set (sm_set c 18 (upd (c 18) s 1)) 19 (upd (c 19) s z)) 2 (upd (c 2) s (-1))
theorem e_open2 {a1 : Int32} {s n : Nat} (h1 : a1.toInt = s) (hs : s < 8) (a2 : Int32) (σ : sm_S) (h5 : (σ 34 5).toInt = n) (hn : n < 60) : xC xD j_Y_open [.ref 0, .int a1, .int a2] σ (sm_V (fun σ' => σ' = laC (opC σ s a2) n (σ 0 7) 3 a1 a2)) := by
  have v := t_vp h1 hs
  refine d_Y_open a1 a2 σ _ ?_
  rw [t_nat h1]
  refine ⟨v, fun σ1 e1 => ⟨v, fun σ2 e2 => ⟨v, fun σ3 e3 => ?_⟩⟩⟩
  have e : σ3 = opC σ s a2 := by
    rw [e3, e2, e1]
    rfl
  rw [e]
  refine (e_add2 _ _ _ _ (opC σ s a2) h5 hn).void ?_
  rintro _ rfl
  exact ⟨rfl, rfl⟩
theorem sim_on {c : sm_S} {v : Nat → Int32} {s : Nat} (z : Int32) (h : sim0 c v) (hk : ∀ b, b < 96 → bk_ok v b) (hs : s < 8) (h0 : c 18 s = 0) : sim0 (opC c s z) (opF v s z) := by
  have gs := h.S s hs
  have v0 : v (2358 + 8 * s + 0) = 0 := by rw [gs.sta]; exact h0
  have z0 : ∀ f, f < 256 → f / 32 = s → v (18 + 3 * f) = 0 := fun f hf e => (h.O.of f hf).mpr (by rw [e]; exact v0)
  have c2 : opC c s z 2 = upd (c 2) s (-1) := rfl
  have c18 : opC c s z 18 = upd (c 18) s 1 := rfl
  have c19 : opC c s z 19 = upd (c 19) s z := rfl
  have co : ∀ k, k ≠ 2 → k ≠ 18 → k ≠ 19 → opC c s z k = c k := fun k h1 h2 h3 => by
    unfold opC
    rw [s_ne h1, s_ne h3, s_ne h2]
  have old : ∀ i, (i < 18 + 3 * (32 * s) ∨ 18 + 3 * (32 * s + 32) ≤ i ∨ (i - 18) % 3 ≠ 0) → i ≠ 2358 + 8 * s + 0 → i ≠ 2358 + 8 * s + 1 → opF v s z i = v i := fun i h1 h2 h3 => by
    unfold opF
    rw [fsF_out h1, u_ne h3, u_ne h2]
  have in1 : ∀ f, f < 256 → f / 32 = s → opF v s z (18 + 3 * f) = 1 := fun f hf e => fsF_in (by omega) (by omega)
  have out0 : ∀ f, f < 256 → f / 32 ≠ s → opF v s z (18 + 3 * f) = v (18 + 3 * f) := fun f hf e => old _ (by omega) (by omega) (by omega)
  have o1 : ∀ f, f < 256 → opF v s z (18 + 3 * f + 1) = v (18 + 3 * f + 1) := fun f hf => old _ (by omega) (by omega) (by omega)
  have o2 : ∀ f, f < 256 → opF v s z (18 + 3 * f + 2) = v (18 + 3 * f + 2) := fun f hf => old _ (by omega) (by omega) (by omega)
  have oB : ∀ b k, b < 96 → k < 16 → opF v s z (786 + 16 * b + k) = v (786 + 16 * b + k) := fun b k h1 h2 => old _ (by omega) (by omega) (by omega)
  have os0 : opF v s z (2358 + 8 * s + 0) = 1 := by
    unfold opF
    rw [fsF_out (by omega), u_ne (by omega), u_at]
  have os1 : opF v s z (2358 + 8 * s + 1) = z := by
    unfold opF
    rw [fsF_out (by omega), u_at]
  refine ⟨fun f hf => ?_, fun b hb => ?_, fun t ht => ?_, fun t ht => ?_, ?_, ?_, ?_⟩
  · have g := h.F f hf
    by_cases e : f / 32 = s
    · have z := z0 f hf e
      have n3 : ¬ bit (c 3 (f / 32)) (f % 32) := fun q => by rw [g.apa, z] at q; exact absurd q (by decide)
      have n4 : ¬ bit (c 4 (f / 32)) (f % 32) := fun q => by rw [g.tak, z] at q; exact absurd q (by decide)
      have n5 : ¬ bit (c 5 (f / 32)) (f % 32) := fun q => by rw [g.hel, z] at q; exact absurd q (by decide)
      refine ⟨?_, ?_, ?_, ?_, ?_, ?_, ?_⟩
      · rw [in1 f hf e]; decide
      · rw [in1 f hf e, c2, e, u_at]
        exact ⟨fun _ => rfl, fun _ => bit_m1 (Nat.mod_lt _ (by decide))⟩
      · rw [in1 f hf e, co 3 (by decide) (by decide) (by decide)]
        exact ⟨fun q => absurd q n3, fun q => absurd q (by decide)⟩
      · rw [in1 f hf e, co 4 (by decide) (by decide) (by decide)]
        exact ⟨fun q => absurd q n4, fun q => absurd q (by decide)⟩
      · rw [in1 f hf e, co 5 (by decide) (by decide) (by decide)]
        exact ⟨fun q => absurd q n5, fun q => absurd q (by decide)⟩
      · rw [o1 f hf, co 6 (by decide) (by decide) (by decide)]
        exact g.blk
      · rw [o2 f hf, co 7 (by decide) (by decide) (by decide)]
        exact g.val
    · exact g.cg (by rw [c2, u_ne e]) (by rw [co 3 (by decide) (by decide) (by decide)]) (by rw [co 4 (by decide) (by decide) (by decide)]) (by rw [co 5 (by decide) (by decide) (by decide)]) (by rw [co 6 (by decide) (by decide) (by decide)]) (by rw [co 7 (by decide) (by decide) (by decide)]) (out0 f hf e) (o1 f hf) (o2 f hf)
  · exact (h.B b hb).cg (by rw [co 9 (by decide) (by decide) (by decide)]) (by rw [co 10 (by decide) (by decide) (by decide)]) (by rw [co 11 (by decide) (by decide) (by decide)]) (by rw [co 12 (by decide) (by decide) (by decide)]) (by rw [co 13 (by decide) (by decide) (by decide)]) (by rw [co 14 (by decide) (by decide) (by decide)]) (by rw [co 15 (by decide) (by decide) (by decide)]) (by rw [co 16 (by decide) (by decide) (by decide)]) (fun k hk => oB b k hb (by omega))
  · by_cases e : t = s
    · subst e
      have ev : ∀ k, 2 ≤ k → k < 8 → opF v t z (2358 + 8 * t + k) = v (2358 + 8 * t + k) := fun k h1 h2 => old _ (by omega) (by omega) (by omega)
      have ck : ∀ k, 20 ≤ k → opC c t z k = c k := fun k h1 => co k (by omega) (by omega) (by omega)
      refine ⟨?_, ?_, ?_, ?_, ?_, ?_, ?_, ?_, ?_, ?_, ?_⟩
      · rw [os0, c18, u_at]
      · rw [c18, u_at]; exact fun q => absurd q (by decide)
      · rw [os1, c19, u_at]; exact fun _ => rfl
      · rw [ev 2 (by decide) (by decide), ck 20 (by decide)]; exact gs.par
      · rw [ev 3 (by decide) (by decide), ck 21 (by decide)]; exact gs.pas
      · rw [ev 4 (by decide) (by decide), ck 22 (by decide)]; exact gs.pau
      · rw [ck 22 (by decide)]; exact gs.pag
      · rw [c18, u_at]; exact fun q => absurd q (by decide)
      · rw [ev 6 (by decide) (by decide), ck 24 (by decide)]; exact gs.lea
      · rw [ev 7 (by decide) (by decide), ck 25 (by decide)]; exact gs.why
      · rw [ck 20 (by decide), ck 21 (by decide), ck 22 (by decide), ck 24 (by decide)]
        exact fun _ => gs.off (Or.inl h0)
    · refine (h.S t ht).cg (fun k h1 h2 => ?_) (fun k hk => old _ (by omega) (by omega) (by omega))
      by_cases q : k = 18
      · rw [q, c18, u_ne e]
      · by_cases q2 : k = 19
        · rw [q2, c19, u_ne e]
        · rw [co k (by omega) q q2]
  · exact (h.T t ht).cg (fun k h1 h2 => by rw [co k (by omega) (by omega) (by omega)]) (fun k hk => old _ (by omega) (by omega) (by omega))
  · obtain ⟨L, hL⟩ := h.Q
    exact ⟨L, hL.cg (by rw [co 26 (by decide) (by decide) (by decide)]) (co 28 (by decide) (by decide) (by decide)) (co 33 (by decide) (by decide) (by decide)) (fun b k h1 h2 h3 => oB b k h1 h3)⟩
  · exact h.N.cg (co 39 (by decide) (by decide) (by decide)) (co 40 (by decide) (by decide) (by decide)) (by rw [co 0 (by decide) (by decide) (by decide)]) (by rw [co 8 (by decide) (by decide) (by decide)]) (fun i hi _ => old i (by omega) (by omega) (by omega))
  · have st : ∀ f, f < 256 → (v (18 + 3 * f) = 3 ∨ v (18 + 3 * f) = 4) → f / 32 ≠ s := fun f hf q e => by
      rw [z0 f hf e] at q
      exact absurd q (by decide)
    refine ⟨fun b fr o hb g0 g1 g2 j hj => ?_, fun b t o hb g0 g6 g2 => ?_, fun f hf g3 => ?_, fun f hf g4 => ?_, fun f hf g3 g4 => ?_, fun f hf => ?_⟩
    · rw [oB b 0 hb (by decide)] at g0
      rw [oB b 1 hb (by decide)] at g1
      rw [oB b 2 hb (by decide)] at g2
      have hx := h.O.hs b fr o hb g0 g1 g2 j hj
      obtain ⟨o2, fr2, p1, p2, p3, p4, p5, -⟩ := hk b hb
      have e1 : o2 = o := by omega
      have e2 : fr2 = fr := by omega
      subst e1 e2
      have hl := al_le p2 p4 p5
      rw [out0 _ (by omega) (st _ (by omega) (Or.inl hx.1)), o1 _ (by omega)]
      exact hx
    · rw [oB b 0 hb (by decide)] at g0
      rw [oB b 6 hb (by decide)] at g6
      rw [oB b 2 hb (by decide)] at g2
      obtain ⟨hx1, hx2⟩ := h.O.hd b t o hb g0 g6 g2
      have hl := bk_to (hk b hb) g6 g2
      refine ⟨by rw [oB b 3 hb (by decide)]; exact hx1, fun j hj => ?_⟩
      have hx := hx2 j hj
      rw [out0 _ (by omega) (st _ (by omega) (Or.inr hx.1)), o1 _ (by omega)]
      exact hx
    · have e : f / 32 ≠ s := fun e => by
        rw [in1 f hf e] at g3
        exact absurd g3 (by decide)
      rw [out0 f hf e] at g3
      obtain ⟨b, fr, o, p1, p2, p3, p4, p5, p6, p7⟩ := h.O.tk f hf g3
      exact ⟨b, fr, o, p1, by rw [o1 f hf]; exact p2, by rw [oB b 0 p1 (by decide)]; exact p3, by rw [oB b 1 p1 (by decide)]; exact p4, by rw [oB b 2 p1 (by decide)]; exact p5, p6, p7⟩
    · have e : f / 32 ≠ s := fun e => by
        rw [in1 f hf e] at g4
        exact absurd g4 (by decide)
      rw [out0 f hf e] at g4
      obtain ⟨b, t, o, p1, p2, p3, p4, p5, p6, p7⟩ := h.O.hl f hf g4
      exact ⟨b, t, o, p1, by rw [o1 f hf]; exact p2, by rw [oB b 0 p1 (by decide)]; exact p3, by rw [oB b 6 p1 (by decide)]; exact p4, by rw [oB b 2 p1 (by decide)]; exact p5, p6, p7⟩
    · rw [o1 f hf]
      by_cases e : f / 32 = s
      · have q := z0 f hf e
        exact h.O.no f hf (by rw [q]; decide) (by rw [q]; decide)
      · rw [out0 f hf e] at g3 g4
        exact h.O.no f hf g3 g4
    · by_cases e : f / 32 = s
      · rw [in1 f hf e, e, os0]
      · rw [out0 f hf e, old (2358 + 8 * (f / 32) + 0) (by omega) (by omega) (by omega)]
        exact h.O.of f hf
end
section
/-! ===== the simulation: a span begins to go ===== -/
/-- spans' rows alone; none is off that wasn't, none on that was off -/
theorem sim0.sv {c c' : sm_S} {v v' : Nat → Int32} (h : sim0 c v) (hk : ∀ b, b < 96 → bk_ok v b) (S' : ∀ s, s < 8 → sS c' v' s) (hz : ∀ s, s < 8 → (v' (2358 + 8 * s + 0) = 0 ↔ v (2358 + 8 * s + 0) = 0)) (hc : ∀ k, k < 18 ∨ 25 < k → c' k = c k) (hv : ∀ i, i < 2358 → v' i = v i) : sim0 c' v' := by
  refine ⟨fun f hf => ?_, fun b hb => ?_, S', fun t ht => ?_, ?_, ?_, ?_⟩
  · exact (h.F f hf).cg (by rw [hc 2 (by omega)]) (by rw [hc 3 (by omega)]) (by rw [hc 4 (by omega)]) (by rw [hc 5 (by omega)]) (by rw [hc 6 (by omega)]) (by rw [hc 7 (by omega)]) (hv _ (by omega)) (hv _ (by omega)) (hv _ (by omega))
  · exact (h.B b hb).cg (by rw [hc 9 (by omega)]) (by rw [hc 10 (by omega)]) (by rw [hc 11 (by omega)]) (by rw [hc 12 (by omega)]) (by rw [hc 13 (by omega)]) (by rw [hc 14 (by omega)]) (by rw [hc 15 (by omega)]) (by rw [hc 16 (by omega)]) (fun k hk => hv _ (by omega))
  · exact (h.T t ht).cg (fun k h1 h2 => by rw [hc k (by omega)]) (fun k hk => hv _ (by omega))
  · obtain ⟨L, hL⟩ := h.Q
    exact ⟨L, hL.cg (by rw [hc 26 (by omega)]) (hc 28 (by omega)) (hc 33 (by omega)) (fun b k h1 h2 h3 => hv _ (by omega))⟩
  · exact h.N.cg (hc 39 (by omega)) (hc 40 (by omega)) (by rw [hc 0 (by omega)]) (by rw [hc 8 (by omega)]) (fun i hi _ => hv i (by omega))
  · have g := h.O
    have e0 : ∀ f, f < 256 → v' (18 + 3 * f) = v (18 + 3 * f) := fun f hf => hv _ (by omega)
    refine ⟨fun b fr o b1 b2 b3 b4 j hj => ?_, fun b t o b1 b2 b3 b4 => ?_, fun f hf h3 => ?_, fun f hf h4 => ?_, fun f hf h3 h4 => ?_, fun f hf => ?_⟩
    · rw [hv _ (by omega)] at b2 b3 b4
      have hx := g.hs b fr o b1 b2 b3 b4 j hj
      obtain ⟨o2, fr2, p1, p2, p3, p4, p5, -⟩ := hk b b1
      have q1 : o2 = o := by omega
      have q2 : fr2 = fr := by omega
      subst q1 q2
      have hl := al_le p2 p4 p5
      rw [hv _ (by omega), hv _ (by omega)]
      exact hx
    · rw [hv _ (by omega)] at b2 b3 b4
      obtain ⟨k1, k2⟩ := g.hd b t o b1 b2 b3 b4
      have hl := bk_to (hk b b1) b3 b4
      refine ⟨by rw [hv _ (by omega)]; exact k1, fun j hj => ?_⟩
      rw [hv _ (by omega), hv _ (by omega)]
      exact k2 j hj
    · rw [e0 f hf] at h3
      obtain ⟨b, fr, o, p1, p2, p3, p4, p5, p6, p7⟩ := g.tk f hf h3
      exact ⟨b, fr, o, p1, by rw [hv _ (by omega)]; exact p2, by rw [hv _ (by omega)]; exact p3, by rw [hv _ (by omega)]; exact p4, by rw [hv _ (by omega)]; exact p5, p6, p7⟩
    · rw [e0 f hf] at h4
      obtain ⟨b, fr, o, p1, p2, p3, p4, p5, p6, p7⟩ := g.hl f hf h4
      exact ⟨b, fr, o, p1, by rw [hv _ (by omega)]; exact p2, by rw [hv _ (by omega)]; exact p3, by rw [hv _ (by omega)]; exact p4, by rw [hv _ (by omega)]; exact p5, p6, p7⟩
    · rw [e0 f hf] at h3 h4
      rw [hv _ (by omega)]
      exact g.no f hf h3 h4
    · rw [e0 f hf, hz (f / 32) (by omega)]
      exact g.of f hf
def bgF (v : Nat → Int32) (s : Nat) : Nat → Int32 := upd (upd (upd (upd (upd (upd v (2358 + 8 * s + 0) 2) (2358 + 8 * s + 2) 0) (2358 + 8 * s + 3) 0) (2358 + 8 * s + 4) 0) (2358 + 8 * s + 5) 0) (2358 + 8 * s + 6) 0
theorem c_beginsToGo2 {a1 : Int32} {s N : Nat} (h1 : a1.toInt = s) (hs : s < 8) (σ : sm_S) (h5 : (σ 1 5).toInt = N) : xC xM j_M_beginsToGo [.ref 0, .int a1] σ (sm_V (fun σ' => σ' = sm_set σ 1 (wrF (bgF (σ 1) s) N 0 a1 (a1 - a1 / (2 : Int32) * (2 : Int32))))) := by
  obtain ⟨p0, q0⟩ := ixS (k := 0) (j := 0) h1 rfl (by omega)
  obtain ⟨p2, q2⟩ := ixS (k := 2) (j := 2) h1 rfl (by omega)
  obtain ⟨p3, q3⟩ := ixS (k := 3) (j := 3) h1 rfl (by omega)
  obtain ⟨p4, q4⟩ := ixS (k := 4) (j := 4) h1 rfl (by omega)
  obtain ⟨p5, q5⟩ := ixS (k := 5) (j := 5) h1 rfl (by omega)
  obtain ⟨p6, q6⟩ := ixS (k := 6) (j := 6) h1 rfl (by omega)
  refine w_M_beginsToGo a1 σ _ ((c_spanAt a1 σ).int ?_)
  rintro _ σ ⟨rfl, rfl⟩
  refine ⟨p0, fun σ3 e3 => ⟨p2, fun σ4 e4 => ⟨p3, fun σ5 e5 => ⟨p4, fun σ6 e6 => ⟨p5, fun σ7 e7 => ⟨p6, fun σ8 e8 => ⟨by decide, ?_⟩⟩⟩⟩⟩⟩⟩
  have e : σ8 = sm_set σ 1 (bgF (σ 1) s) := by
    rw [q0] at e3
    rw [q2, e3, s_at, s_ss] at e4
    rw [q3, e4, s_at, s_ss] at e5
    rw [q4, e5, s_at, s_ss] at e6
    rw [q5, e6, s_at, s_ss] at e7
    rw [q6, e7, s_at, s_ss] at e8
    exact e8
  rw [e]
  refine (c_writes2 (n := N) _ _ _ _ ?_).void ?_
  · rw [s_at]
    unfold bgF
    rw [u_ne (by omega), u_ne (by omega), u_ne (by omega), u_ne (by omega), u_ne (by omega), u_ne (by omega)]
    exact h5
  · rintro _ rfl
    exact ⟨rfl, by rw [s_at, s_ss]⟩
theorem e_Gbegin2 {a1 : Int32} {s n : Nat} (h1 : a1.toInt = s) (hs : s < 8) (σ : sm_S) (h5 : (σ 34 5).toInt = n) (hn : n < 60) : xC xD j_G_begin [.ref 41, .int a1] σ (sm_V (fun σ' => σ' = laC (sm_set σ 18 (upd (σ 18) s 2)) n (σ 0 7) 0 a1 (a1 - a1 / (2 : Int32) * (2 : Int32)))) := by
  refine d_G_begin a1 σ _ ?_
  rw [t_nat h1]
  refine ⟨t_vp h1 hs, fun σ1 e1 => ⟨by decide, ?_⟩⟩
  rw [e1]
  refine (e_add2 _ _ _ _ _ (by rw [s_ne (by decide)]; exact h5) hn).void ?_
  rintro _ rfl
  exact ⟨rfl, rfl⟩
theorem sim_beg {c : sm_S} {v : Nat → Int32} {s : Nat} (h : sim0 c v) (hk : ∀ b, b < 96 → bk_ok v b) (hs : s < 8) (h1 : c 18 s = 1) : sim0 (sm_set c 18 (upd (c 18) s 2)) (bgF v s) := by
  have gs := h.S s hs
  obtain ⟨k20, k21, k22, k24⟩ := gs.off (Or.inr h1)
  have old : ∀ i, i ≠ 2358 + 8 * s + 0 → i ≠ 2358 + 8 * s + 2 → i ≠ 2358 + 8 * s + 3 → i ≠ 2358 + 8 * s + 4 → i ≠ 2358 + 8 * s + 5 → i ≠ 2358 + 8 * s + 6 → bgF v s i = v i := fun i a b d e f g => by
    unfold bgF
    rw [u_ne g, u_ne f, u_ne e, u_ne d, u_ne b, u_ne a]
  have b0 : bgF v s (2358 + 8 * s + 0) = 2 := by
    unfold bgF
    rw [u_ne (by omega), u_ne (by omega), u_ne (by omega), u_ne (by omega), u_ne (by omega), u_at]
  have b2 : bgF v s (2358 + 8 * s + 2) = 0 := by
    unfold bgF
    rw [u_ne (by omega), u_ne (by omega), u_ne (by omega), u_ne (by omega), u_at]
  have b3 : bgF v s (2358 + 8 * s + 3) = 0 := by
    unfold bgF
    rw [u_ne (by omega), u_ne (by omega), u_ne (by omega), u_at]
  have b4 : bgF v s (2358 + 8 * s + 4) = 0 := by
    unfold bgF
    rw [u_ne (by omega), u_ne (by omega), u_at]
  have b6 : bgF v s (2358 + 8 * s + 6) = 0 := u_at
  have b1 : bgF v s (2358 + 8 * s + 1) = v (2358 + 8 * s + 1) := old _ (by omega) (by omega) (by omega) (by omega) (by omega) (by omega)
  have b7 : bgF v s (2358 + 8 * s + 7) = v (2358 + 8 * s + 7) := old _ (by omega) (by omega) (by omega) (by omega) (by omega) (by omega)
  refine h.sv hk (fun t ht => ?_) (fun t ht => ?_) (fun k hk => s_ne (by omega)) (fun i hi => old i (by omega) (by omega) (by omega) (by omega) (by omega) (by omega))
  · by_cases e : t = s
    · subst e
      refine ⟨?_, ?_, ?_, ?_, ?_, ?_, ?_, ?_, ?_, ?_, ?_⟩
      · rw [b0, s_at, u_at]
      · rw [s_at, u_at]; exact fun q => absurd q (by decide)
      · rw [b1, s_ne (show (19 : Nat) ≠ 18 by decide)]; exact fun _ => gs.zon (by rw [h1]; decide)
      · rw [b2, s_ne (by decide)]; exact k20.symm
      · rw [b3, s_ne (by decide)]; exact k21.symm
      · rw [b4, s_ne (by decide)]; exact k22.symm
      · rw [s_ne (by decide)]; exact gs.pag
      · rw [s_at, u_at]; exact fun q => absurd q (by decide)
      · rw [b6, s_ne (by decide), k24]; rfl
      · rw [b7, s_ne (by decide)]; exact gs.why
      · rw [s_at, u_at]; exact fun q => absurd q (by decide)
    · refine (h.S t ht).cg (fun k h1 h2 => ?_) (fun k hk => old _ (by omega) (by omega) (by omega) (by omega) (by omega) (by omega))
      by_cases q : k = 18
      · rw [q, s_at, u_ne e]
      · rw [s_ne q]
  · by_cases e : t = s
    · subst e
      rw [b0, gs.sta, h1]
      decide
    · rw [old _ (by omega) (by omega) (by omega) (by omega) (by omega) (by omega)]
end
section
/-! ===== the simulation: with the log and the invariant; a span fails ===== -/
/-- g: the log is tied too; N: the lines of it -/
def tie (g : Prop) (N : Nat) (c : sm_S) (v : Nat → Int32) : Prop := sim0 c v ∧ (g → sL c v) ∧ kl c ∧ (∀ b, b < 96 → bk_ok v b) ∧ (v 5).toInt = N
theorem tie.s {g : Prop} {N : Nat} {c : sm_S} {v : Nat → Int32} (h : tie g N c v) : sim0 c v := h.1
theorem tie.l {g : Prop} {N : Nat} {c : sm_S} {v : Nat → Int32} (h : tie g N c v) : g → sL c v := h.2.1
theorem tie.k {g : Prop} {N : Nat} {c : sm_S} {v : Nat → Int32} (h : tie g N c v) : kl c := h.2.2.1
theorem tie.b {g : Prop} {N : Nat} {c : sm_S} {v : Nat → Int32} (h : tie g N c v) : ∀ b, b < 96 → bk_ok v b := h.2.2.2.1
theorem tie.n {g : Prop} {N : Nat} {c : sm_S} {v : Nat → Int32} (h : tie g N c v) : (v 5).toInt = N := h.2.2.2.2
theorem sL.cg {c c' : sm_S} {v v' : Nat → Int32} (h : sL c v) (hc : ∀ k, 34 ≤ k → k ≤ 38 → c' k = c k) (h5 : v' 5 = v 5) (hv : ∀ i, 2422 ≤ i → v' i = v i) : sL c' v' := by
  refine ⟨by rw [hc 34 (by decide) (by decide), h5]; exact h.lns, by rw [hc 34 (by decide) (by decide), h5]; exact h.nxt, fun k hk => ?_⟩
  rw [hc 35 (by decide) (by decide), hc 36 (by decide) (by decide), hc 37 (by decide) (by decide), hc 38 (by decide) (by decide), hv _ (by omega), hv _ (by omega), hv _ (by omega), hv _ (by omega)]
  exact h.ent k hk
/-- a step that leaves the log alone -/
theorem tie.to {g : Prop} {N : Nat} {c c' : sm_S} {v v' : Nat → Int32} (h : tie g N c v) (s : sim0 c' v') (hc : ∀ k, 34 ≤ k → k ≤ 38 → c' k = c k) (h5 : v' 5 = v 5) (hv : ∀ i, 2422 ≤ i → v' i = v i) (b : ∀ b, b < 96 → bk_ok v' b) : tie g N c' v' :=
  ⟨s, fun q => (h.l q).cg hc h5 hv, by unfold kl; rw [hc 34 (by decide) (by decide)]; exact h.k, b, by rw [h5]; exact h.n⟩
theorem jj_wr {N : Nat} {v : Nat → Int32} {a b c : Int32} (h : jj N v) (hN : N < 2000000000) : jj (N + 1) (wrF v N a b c) := by
  have e : ∀ i, i < 2422 → i ≠ 5 → wrF v N a b c i = v i := fun i h1 h2 => wrF_lo h1 h2
  refine ⟨fr_cong (fun i h1 h2 => e i (by omega) (by omega)) (fun n k h1 h2 => e _ (by omega) (by omega)) h.1, jr_cong (ceq.of (fun i h1 h2 => e i h2 (by omega))) h.2.1, ?_⟩
  show (v 5 + 1).toInt = _
  rw [t_add h.2.2 (y := 1) rfl (by omega) (by omega)]
  omega
/-- a line on both sides -/
theorem tie.log {g : Prop} {N : Nat} {c : sm_S} {v : Nat → Int32} (h : tie g N c v) (hN : N < 2000000000) (a2 a3 a4 : Int32) : ∃ n : Nat, n < 60 ∧ (c 34 5).toInt = n ∧ tie g (N + 1) (laC c n (c 0 7) a2 a3 a4) (wrF v N a2 a3 a4) := by
  obtain ⟨n, hn, h5⟩ := h.k
  refine ⟨n, hn, h5, sim_log0 h.s h.b, fun q => ?_, ?_, fun b hb => bk_cong (fun k h1 _ _ _ => wrF_lo (by omega) (by omega)) (h.b b hb), ?_⟩
  · have l := h.l q
    obtain ⟨m, m1, m2⟩ := l.nxt
    have e := h.n
    have e1 : m = N := by omega
    subst e1
    have e2 : n = m % 60 := by omega
    subst e2
    exact sL_log l m1 hN h.s.N.tic
  · by_cases q : n + 1 < 60
    · refine ⟨n + 1, q, ?_⟩
      show (upd (upd (c 34) 5 (if n + 1 < 60 then nI (n + 1) else 0)) 4 (c 34 4 + 1) 5).toInt = _
      rw [u_ne (by decide), u_at, if_pos q]
      exact nI_toInt (by omega)
    · refine ⟨0, by decide, ?_⟩
      show (upd (upd (c 34) 5 (if n + 1 < 60 then nI (n + 1) else 0)) 4 (c 34 4 + 1) 5).toInt = _
      rw [u_ne (by decide), u_at, if_neg q]
      rfl
  · show (v 5 + 1).toInt = _
    rw [t_add h.n (y := 1) rfl (by omega) (by omega)]
    omega
theorem jj_cn {N k : Nat} {v : Nat → Int32} {x : Int32} (h : jj N v) (hk : k < 11) : jj N (cnF v k x) := by
  have e : ∀ i, i ≠ 7 + k → cnF v k x i = v i := fun i h1 => u_ne h1
  refine ⟨fr_cong (fun i h1 h2 => e i (by omega)) (fun n k h1 h2 => e _ (by omega)) h.1, jr_cong (ceq.of (fun i h1 h2 => e i (by omega))) h.2.1, ?_⟩
  rw [e 5 (by omega)]
  exact h.2.2
theorem tie.cnt {g : Prop} {N k : Nat} {c : sm_S} {v : Nat → Int32} (h : tie g N c v) (hk : k < 11) (x : Int32) : tie g N (sm_set c 40 (upd (c 40) k (c 40 k + x))) (cnF v k x) :=
  h.to (sim_cnt x h.s h.b hk) (fun j h1 h2 => s_ne (by omega)) (u_ne (by omega)) (fun i hi => u_ne (by omega)) (fun b hb => bk_cong (fun k h1 _ _ _ => u_ne (by omega)) (h.b b hb))
/-- what a run of the reference makes of the row -/
def rd (j : Nat) (as : List Value) (v v' : Nat → Int32) : Prop := ∀ σ : sm_S, σ 1 = v → xC xM j as σ (sm_V (fun σ' => σ' = sm_set σ 1 v'))
def rdI (j : Nat) (as : List Value) (v : Nat → Int32) (x : Int32) (v' : Nat → Int32) : Prop := ∀ σ : sm_S, σ 1 = v → xC xM j as σ (sm_I (fun y σ' => y = x ∧ σ' = sm_set σ 1 v'))
def rz (v : Nat → Int32) : sm_S := sm_set (fun _ _ => 0) 1 v
theorem rd.det {j : Nat} {as : List Value} {v v' : Nat → Int32} {Q : sm_S → Prop} (h : rd j as v v') (h2 : xC xM j as (rz v) (sm_V Q)) : Q (sm_set (rz v) 1 v') := by
  obtain ⟨M, -, n, r, σ', -, ⟨h3, h4⟩, h5, h6⟩ := (h (rz v) s_at).and h2
  rw [← h4]
  exact h6
theorem rdI.det {j : Nat} {as : List Value} {v v' : Nat → Int32} {x : Int32} {Q : Int32 → sm_S → Prop} (h : rdI j as v x v') (h2 : xC xM j as (rz v) (sm_I Q)) : Q x (sm_set (rz v) 1 v') := by
  obtain ⟨M, -, n, r, σ', -, ⟨y, h3, h4, h5⟩, z, h6, h7⟩ := (h (rz v) s_at).and h2
  rw [h3] at h6
  cases h6
  rw [← h4, ← h5]
  exact h7
theorem rz_eq {v v' w : Nat → Int32} (h : sm_set (rz v) 1 v' = sm_set (rz v) 1 w) : w = v' := by
  have := congrFun h 1
  rw [s_at, s_at] at this
  exact this.symm
theorem rz_at (v : Nat → Int32) : rz v 1 = v := s_at
/-- states of frames that no block has, and spans -/
theorem own.st {v v' : Nat → Int32} (g : own v) (hk : ∀ b, b < 96 → bk_ok v b) (e0 : ∀ f, f < 256 → v' (18 + 3 * f) = v (18 + 3 * f) ∨ ((v (18 + 3 * f) ≠ 3 ∧ v (18 + 3 * f) ≠ 4) ∧ v' (18 + 3 * f) ≠ 3 ∧ v' (18 + 3 * f) ≠ 4)) (e1 : ∀ f, f < 256 → v' (18 + 3 * f + 1) = v (18 + 3 * f + 1)) (eb : ∀ b k, b < 96 → k < 16 → v' (786 + 16 * b + k) = v (786 + 16 * b + k)) (hof : ∀ f, f < 256 → (v' (18 + 3 * f) = 0 ↔ v' (2358 + 8 * (f / 32) + 0) = 0)) : own v' := by
  have s3 : ∀ f, f < 256 → v (18 + 3 * f) = 3 → v' (18 + 3 * f) = 3 := fun f hf q => by
    rcases e0 f hf with e | ⟨e, -⟩
    · rw [e]; exact q
    · exact absurd q e.1
  have s4 : ∀ f, f < 256 → v (18 + 3 * f) = 4 → v' (18 + 3 * f) = 4 := fun f hf q => by
    rcases e0 f hf with e | ⟨e, -⟩
    · rw [e]; exact q
    · exact absurd q e.2
  have r3 : ∀ f, f < 256 → v' (18 + 3 * f) = 3 → v (18 + 3 * f) = 3 := fun f hf q => by
    rcases e0 f hf with e | ⟨-, e⟩
    · rw [← e]; exact q
    · exact absurd q e.1
  have r4 : ∀ f, f < 256 → v' (18 + 3 * f) = 4 → v (18 + 3 * f) = 4 := fun f hf q => by
    rcases e0 f hf with e | ⟨-, e⟩
    · rw [← e]; exact q
    · exact absurd q e.2
  refine ⟨fun b fr o b1 b2 b3 b4 j hj => ?_, fun b t o b1 b2 b3 b4 => ?_, fun f hf h3 => ?_, fun f hf h4 => ?_, fun f hf h3 h4 => ?_, hof⟩
  · rw [eb b 0 b1 (by decide)] at b2
    rw [eb b 1 b1 (by decide)] at b3
    rw [eb b 2 b1 (by decide)] at b4
    have hx := g.hs b fr o b1 b2 b3 b4 j hj
    obtain ⟨o', fr', p1, p2, p3, p4, p5, -⟩ := hk b b1
    have q1 : o' = o := by omega
    have q2 : fr' = fr := by omega
    subst q1 q2
    have hl := al_le p2 p4 p5
    exact ⟨s3 _ (by omega) hx.1, by rw [e1 _ (by omega)]; exact hx.2⟩
  · rw [eb b 0 b1 (by decide)] at b2
    rw [eb b 6 b1 (by decide)] at b3
    rw [eb b 2 b1 (by decide)] at b4
    obtain ⟨k1, k2⟩ := g.hd b t o b1 b2 b3 b4
    have hl := bk_to (hk b b1) b3 b4
    exact ⟨by rw [eb b 3 b1 (by decide)]; exact k1, fun j hj => ⟨s4 _ (by omega) (k2 j hj).1, by rw [e1 _ (by omega)]; exact (k2 j hj).2⟩⟩
  · obtain ⟨b, fr, o, p1, p2, p3, p4, p5, p6⟩ := g.tk f hf (r3 f hf h3)
    exact ⟨b, fr, o, p1, by rw [e1 f hf]; exact p2, by rw [eb b 0 p1 (by decide)]; exact p3, by rw [eb b 1 p1 (by decide)]; exact p4, by rw [eb b 2 p1 (by decide)]; exact p5, p6⟩
  · obtain ⟨b, fr, o, p1, p2, p3, p4, p5, p6⟩ := g.hl f hf (r4 f hf h4)
    exact ⟨b, fr, o, p1, by rw [e1 f hf]; exact p2, by rw [eb b 0 p1 (by decide)]; exact p3, by rw [eb b 6 p1 (by decide)]; exact p4, by rw [eb b 2 p1 (by decide)]; exact p5, p6⟩
  · rw [e1 f hf]
    exact g.no f hf (fun q => h3 (s3 f hf q)) (fun q => h4 (s4 f hf q))
/-- frames' states and spans -/
theorem sim0.fs {c c' : sm_S} {v v' : Nat → Int32} (h : sim0 c v) (F' : ∀ f, f < 256 → sF c' v' f) (S' : ∀ s, s < 8 → sS c' v' s) (O' : own v') (hc : ∀ k, (8 ≤ k ∧ k < 18) ∨ 25 < k ∨ k = 0 → c' k = c k) (hv : ∀ i, i < 18 ∨ (786 ≤ i ∧ i < 2358) → v' i = v i) : sim0 c' v' := by
  refine ⟨F', fun b hb => ?_, S', fun t ht => ?_, ?_, ?_, O'⟩
  · exact (h.B b hb).cg (by rw [hc 9 (by omega)]) (by rw [hc 10 (by omega)]) (by rw [hc 11 (by omega)]) (by rw [hc 12 (by omega)]) (by rw [hc 13 (by omega)]) (by rw [hc 14 (by omega)]) (by rw [hc 15 (by omega)]) (by rw [hc 16 (by omega)]) (fun k hk => hv _ (by omega))
  · exact (h.T t ht).cg (fun k h1 h2 => by rw [hc k (by omega)]) (fun k hk => hv _ (by omega))
  · obtain ⟨L, hL⟩ := h.Q
    exact ⟨L, hL.cg (by rw [hc 26 (by omega)]) (hc 28 (by omega)) (hc 33 (by omega)) (fun b k h1 h2 h3 => hv _ (by omega))⟩
  · exact h.N.cg (hc 39 (by omega)) (hc 40 (by omega)) (by rw [hc 0 (by omega)]) (by rw [hc 8 (by omega)]) (fun i hi _ => hv i (by omega))
/-- p for the states of n frames from fr on -/
def mpF (p : Int32 → Int32) (v : Nat → Int32) (fr n : Nat) : Nat → Int32 := fun i => if (18 + 3 * fr ≤ i ∧ i < 18 + 3 * (fr + n)) ∧ (i - 18) % 3 = 0 then p (v i) else v i
theorem mpF_0 (p : Int32 → Int32) (v : Nat → Int32) (fr : Nat) : mpF p v fr 0 = v := by
  funext i
  exact if_neg (by omega)
theorem mpF_out {p : Int32 → Int32} {v : Nat → Int32} {fr n i : Nat} (h : i < 18 + 3 * fr ∨ 18 + 3 * (fr + n) ≤ i ∨ (i - 18) % 3 ≠ 0) : mpF p v fr n i = v i := if_neg (by omega)
theorem mpF_in {p : Int32 → Int32} {v : Nat → Int32} {fr n f : Nat} (h1 : fr ≤ f) (h2 : f < fr + n) : mpF p v fr n (18 + 3 * f) = p (v (18 + 3 * f)) := if_pos (by omega)
theorem mpF_s (p : Int32 → Int32) (v : Nat → Int32) (fr n : Nat) : mpF p v fr (n + 1) = upd (mpF p v fr n) (18 + 3 * (fr + n)) (p (v (18 + 3 * (fr + n)))) := by
  funext i
  by_cases c : i = 18 + 3 * (fr + n)
  · rw [c, u_at]
    exact if_pos (by omega)
  · rw [u_ne c]
    unfold mpF
    by_cases d : (18 + 3 * fr ≤ i ∧ i < 18 + 3 * (fr + n)) ∧ (i - 18) % 3 = 0
    · rw [if_pos d, if_pos (by omega)]
    · rw [if_neg d, if_neg (by omega)]
theorem u_id {f : Nat → Int32} {k : Nat} : upd f k (f k) = f := by
  funext i
  by_cases e : i = k
  · rw [e, u_at]
  · rw [u_ne e]
theorem mpF_k {p : Int32 → Int32} {v : Nat → Int32} {fr n : Nat} (h : p (v (18 + 3 * (fr + n))) = v (18 + 3 * (fr + n))) : mpF p v fr (n + 1) = mpF p v fr n := by
  rw [mpF_s, h]
  have e : mpF p v fr n (18 + 3 * (fr + n)) = v (18 + 3 * (fr + n)) := mpF_out (by omega)
  rw [← e]
  exact u_id
def pO (x : Int32) : Int32 := if x = 2 then 1 else x
theorem l_opens2 {a1 a2 : Int32} {s : Nat} (h1 : a1.toInt = s) (hs : s < 8) (σ : sm_S) : ∀ (d k : Nat) (a3 : Int32), a3.toInt = ((32 * s + k : Nat) : Int) → k + d = 32 → xE xM m_M_opens 47 [.ref 0, .int a1, .int a2, .int a3] [] (sm_set σ 1 (mpF pO (σ 1) (32 * s) k)) (sm_V (fun σ' => σ' = sm_set σ 1 (mpF pO (σ 1) (32 * s) 32))) := by
  have h32 : (32 * a1 + 32).toInt = ((32 * s + 32 : Nat) : Int) := by
    have e := t_ix (c := 0) (m := 32) (C := 0) (M := 32) (k := 32) (j := 32) rfl rfl h1 rfl (by omega)
    rw [Int32.zero_add] at e
    rw [e]
    omega
  intro d
  induction d with
  | zero =>
    intro k a3 h3 hk
    have hk : k = 32 := by omega
    subst hk
    exact w_M_opens_47 a1 a2 a3 _ _ ⟨fun _ => ⟨rfl, rfl⟩, fun h => absurd (by rw [t_le, h32, h3]; omega) h⟩
  | succ d ih =>
    intro k a3 h3 hk
    have h3' : (a3 + 1).toInt = ((32 * s + (k + 1) : Nat) : Int) := by
      rw [t_add h3 (y := 1) rfl (by omega) (by omega)]
      omega
    refine w_M_opens_47 a1 a2 a3 _ _ ⟨fun h => ?_, fun _ => (c_stateOf h3 (by omega) _).int ?_⟩
    · rw [t_le, h32, h3] at h
      omega
    · rintro _ _ ⟨rfl, rfl⟩
      rw [s_at, mpF_out (by omega)]
      refine ⟨fun q => ?_, fun q => (c_frameAt a3 _).int ?_⟩
      · have := ih (k + 1) (a3 + 1) h3' (by omega)
        rw [mpF_k (p := pO) (show pO (σ 1 (18 + 3 * (32 * s + k))) = σ 1 (18 + 3 * (32 * s + k)) from if_neg q)] at this
        exact this
      · rintro _ _ ⟨rfl, rfl⟩
        obtain ⟨p1, p2⟩ := ixF (k := 0) (j := 0) h3 rfl (by omega)
        refine ⟨p1, fun σ4 e4 => ?_⟩
        have e := mpF_s pO (σ 1) (32 * s) k
        rw [show pO (σ 1 (18 + 3 * (32 * s + k))) = 1 from if_pos (Classical.not_not.mp q)] at e
        rw [p2, s_at, s_ss, Nat.add_zero, ← e] at e4
        rw [e4]
        exact ih (k + 1) (a3 + 1) h3' (by omega)
/-- a span is open again -/
def opnF (v : Nat → Int32) (s : Nat) : Nat → Int32 := mpF pO (upd (upd (upd (upd v (2358 + 8 * s + 0) 1) (2358 + 8 * s + 2) 0) (2358 + 8 * s + 3) 0) (2358 + 8 * s + 4) 0) (32 * s) 32
theorem c_opens2 {a1 : Int32} {s : Nat} (h1 : a1.toInt = s) (hs : s < 8) (σ : sm_S) : xC xM j_M_opens [.ref 0, .int a1] σ (sm_V (fun σ' => σ' = sm_set σ 1 (opnF (σ 1) s))) := by
  obtain ⟨p0, q0⟩ := ixS (k := 0) (j := 0) h1 rfl (by omega)
  obtain ⟨p2, q2⟩ := ixS (k := 2) (j := 2) h1 rfl (by omega)
  obtain ⟨p3, q3⟩ := ixS (k := 3) (j := 3) h1 rfl (by omega)
  obtain ⟨p4, q4⟩ := ixS (k := 4) (j := 4) h1 rfl (by omega)
  have h32 : (32 * a1).toInt = ((32 * s + 0 : Nat) : Int) := by
    have e := t_ix (c := 0) (m := 32) (C := 0) (M := 32) (k := 0) (j := 0) rfl rfl h1 rfl (by omega)
    rw [Int32.zero_add, Int32.add_zero] at e
    rw [e]
    omega
  refine w_M_opens a1 σ _ ((c_spanAt a1 σ).int ?_)
  rintro _ σ ⟨rfl, rfl⟩
  refine ⟨p0, fun σ3 e3 => ⟨p2, fun σ4 e4 => ⟨p3, fun σ5 e5 => ⟨p4, fun σ6 e6 => ?_⟩⟩⟩⟩
  rw [q0] at e3
  rw [q2, e3, s_at, s_ss] at e4
  rw [q3, e4, s_at, s_ss] at e5
  rw [q4, e5, s_at, s_ss] at e6
  have := l_opens2 (a2 := 2358 + 8 * a1) h1 hs (sm_set σ 1 (upd (upd (upd (upd (σ 1) (2358 + 8 * s + 0) 1) (2358 + 8 * s + 2) 0) (2358 + 8 * s + 3) 0) (2358 + 8 * s + 4) 0)) 32 0 (32 * a1) h32 rfl
  rw [mpF_0, s_at, s_ss, s_ss] at this
  rw [e6]
  exact this
/-- the span's way out is ended -/
def egC (c : sm_S) (s : Nat) (x : Int32) : sm_S := sm_set (sm_set (sm_set (sm_set (sm_set (sm_set c 18 (upd (c 18) s x)) 20 (upd (c 20) s 0)) 21 (upd (c 21) s 0)) 22 (upd (c 22) s 0)) 23 (upd (c 23) s 0)) 24 (upd (c 24) s (-1))
theorem e_endGoing2 {a1 : Int32} {s : Nat} (h1 : a1.toInt = s) (hs : s < 8) (a2 : Int32) (σ : sm_S) : xC xD j_S_endGoing [.ref 17, .int a1, .int a2] σ (sm_V (fun σ' => σ' = egC σ s a2)) := by
  have v := t_vp h1 hs
  refine d_S_endGoing a1 a2 σ _ ?_
  rw [t_nat h1]
  refine ⟨v, fun σ1 e1 => ⟨v, fun σ2 e2 => ⟨v, fun σ3 e3 => ⟨v, fun σ4 e4 => ⟨v, fun σ5 e5 => ⟨v, fun σ6 e6 => ⟨rfl, ?_⟩⟩⟩⟩⟩⟩⟩
  rw [e6, e5, e4, e3, e2, e1]
  rfl
theorem egC_o {c : sm_S} {s k : Nat} {x : Int32} (h : k < 18 ∨ k = 19 ∨ 24 < k) : egC c s x k = c k := by
  unfold egC
  rw [s_ne (by omega), s_ne (by omega), s_ne (by omega), s_ne (by omega), s_ne (by omega), s_ne (by omega)]
/-- what was apart is free, on the class's side; why -/
def flC (c : sm_S) (s : Nat) (why : Int32) : sm_S := sm_set (egC (sm_set (sm_set c 2 (upd (c 2) s (c 2 s ||| c 3 s))) 3 (upd (c 3) s 0)) s 1) 25 (upd (c 25) s why)
theorem e_fail2 {a1 : Int32} {s n : Nat} (h1 : a1.toInt = s) (hs : s < 8) (a2 : Int32) (σ : sm_S) (h5 : (σ 34 5).toInt = n) (hn : n < 60) : xC xD j_G_fail [.ref 41, .int a1, .int a2] σ (sm_V (fun σ' => σ' = laC (sm_set (flC σ s a2) 40 (upd (σ 40) 7 (σ 40 7 + 1))) n (σ 0 7) 2 a1 a2)) := by
  have v := t_vp h1 hs
  refine d_G_fail a1 a2 σ _ ?_
  rw [t_nat h1]
  refine ⟨v, v, v, fun σ1 e1 => ⟨v, fun σ2 e2 => (e_endGoing2 h1 hs 1 σ2).void ?_⟩⟩
  rintro _ rfl
  refine ⟨v, fun σ4 e4 => ⟨t_vp (n := 7) rfl (by omega), t_vp (n := 7) rfl (by omega), fun σ5 e5 => ?_⟩⟩
  have e : σ4 = flC σ s a2 := by
    rw [e4, e2, e1]
    rfl
  have e5' : σ5 = sm_set (flC σ s a2) 40 (upd (σ 40) 7 (σ 40 7 + 1)) := by
    rw [e5, e]
    rfl
  rw [e5']
  refine (e_add2 _ _ _ _ (sm_set (flC σ s a2) 40 (upd (σ 40) 7 (σ 40 7 + 1))) h5 hn).void ?_
  rintro _ rfl
  exact ⟨rfl, rfl⟩
end
section
/-! ===== the simulation: a span fails ===== -/
theorem flC_o {c : sm_S} {s k : Nat} {w : Int32} (h : k < 2 ∨ (3 < k ∧ k < 18) ∨ k = 19 ∨ 25 < k) : flC c s w k = c k := by
  unfold flC
  rw [s_ne (by omega), egC_o (by omega), s_ne (by omega), s_ne (by omega)]
theorem pO_z {x : Int32} : pO x = 0 ↔ x = 0 := by
  unfold pO
  by_cases q : x = 2
  · rw [if_pos q, q]; decide
  · rw [if_neg q]
theorem opnF_old {v : Nat → Int32} {s i : Nat} (h1 : i < 18 + 3 * (32 * s) ∨ 18 + 3 * (32 * s + 32) ≤ i ∨ (i - 18) % 3 ≠ 0) (h2 : i ≠ 2358 + 8 * s + 0) (h3 : i ≠ 2358 + 8 * s + 2) (h4 : i ≠ 2358 + 8 * s + 3) (h5 : i ≠ 2358 + 8 * s + 4) : opnF v s i = v i := by
  unfold opnF
  rw [mpF_out h1, u_ne h5, u_ne h4, u_ne h3, u_ne h2]
theorem opnF_at {v : Nat → Int32} {s : Nat} (hs : s < 8) : opnF v s (2358 + 8 * s + 0) = 1 ∧ opnF v s (2358 + 8 * s + 2) = 0 ∧ opnF v s (2358 + 8 * s + 3) = 0 ∧ opnF v s (2358 + 8 * s + 4) = 0 := by
  unfold opnF
  refine ⟨?_, ?_, ?_, ?_⟩
  · rw [mpF_out (by omega), u_ne (by omega), u_ne (by omega), u_ne (by omega), u_at]
  · rw [mpF_out (by omega), u_ne (by omega), u_ne (by omega), u_at]
  · rw [mpF_out (by omega), u_ne (by omega), u_at]
  · rw [mpF_out (by omega), u_at]
theorem sim_fail {c : sm_S} {v : Nat → Int32} {s : Nat} (w : Int32) (h : sim0 c v) (hk : ∀ b, b < 96 → bk_ok v b) (hs : s < 8) (h6 : v (2358 + 8 * s + 6) = 0) (hg : c 18 s ≠ 0) : sim0 (flC c s w) (upd (opnF v s) (2358 + 8 * s + 7) (w + 1)) := by
  have gs := h.S s hs
  have old : ∀ i, (i < 18 + 3 * (32 * s) ∨ 18 + 3 * (32 * s + 32) ≤ i ∨ (i - 18) % 3 ≠ 0) → i ≠ 2358 + 8 * s + 0 → i ≠ 2358 + 8 * s + 2 → i ≠ 2358 + 8 * s + 3 → i ≠ 2358 + 8 * s + 4 → i ≠ 2358 + 8 * s + 7 → upd (opnF v s) (2358 + 8 * s + 7) (w + 1) i = v i := fun i a b c d e f => by rw [u_ne f, opnF_old a b c d e]
  obtain ⟨a0, a2, a3, a4⟩ := opnF_at (v := v) hs
  have in1 : ∀ f, f < 256 → f / 32 = s → upd (opnF v s) (2358 + 8 * s + 7) (w + 1) (18 + 3 * f) = pO (v (18 + 3 * f)) := fun f hf e => by
    rw [u_ne (by omega)]
    unfold opnF
    rw [mpF_in (by omega) (by omega), u_ne (by omega), u_ne (by omega), u_ne (by omega), u_ne (by omega)]
  have out0 : ∀ f, f < 256 → f / 32 ≠ s → upd (opnF v s) (2358 + 8 * s + 7) (w + 1) (18 + 3 * f) = v (18 + 3 * f) := fun f hf e => old _ (by omega) (by omega) (by omega) (by omega) (by omega) (by omega)
  have o1 : ∀ f, f < 256 → upd (opnF v s) (2358 + 8 * s + 7) (w + 1) (18 + 3 * f + 1) = v (18 + 3 * f + 1) := fun f hf => old _ (by omega) (by omega) (by omega) (by omega) (by omega) (by omega)
  have o2 : ∀ f, f < 256 → upd (opnF v s) (2358 + 8 * s + 7) (w + 1) (18 + 3 * f + 2) = v (18 + 3 * f + 2) := fun f hf => old _ (by omega) (by omega) (by omega) (by omega) (by omega) (by omega)
  have c2 : flC c s w 2 = upd (c 2) s (c 2 s ||| c 3 s) := rfl
  have c3 : flC c s w 3 = upd (c 3) s 0 := rfl
  have c18 : flC c s w 18 = upd (c 18) s 1 := rfl
  have c19 : flC c s w 19 = c 19 := rfl
  have c20 : flC c s w 20 = upd (c 20) s 0 := rfl
  have c21 : flC c s w 21 = upd (c 21) s 0 := rfl
  have c22 : flC c s w 22 = upd (c 22) s 0 := rfl
  have c23 : flC c s w 23 = upd (c 23) s 0 := rfl
  have c24 : flC c s w 24 = upd (c 24) s (-1) := rfl
  have c25 : flC c s w 25 = upd (c 25) s w := rfl
  have v0 : v (2358 + 8 * s + 0) ≠ 0 := by rw [gs.sta]; exact hg
  refine h.fs (fun f hf => ?_) (fun t ht => ?_) ?_ (fun k hk => flC_o (by omega)) (fun i hi => old i (by omega) (by omega) (by omega) (by omega) (by omega) (by omega))
  · have g := h.F f hf
    by_cases e : f / 32 = s
    · have b2 := g.fre
      have b3 := g.apa
      rw [e] at b2 b3
      refine ⟨?_, ?_, ?_, ?_, ?_, ?_, ?_⟩
      · rw [in1 f hf e]
        unfold pO
        by_cases q : v (18 + 3 * f) = 2
        · rw [if_pos q]; decide
        · rw [if_neg q]; exact g.rng
      · rw [in1 f hf e, c2, e, u_at, bit_or, b2, b3]
        unfold pO
        by_cases q : v (18 + 3 * f) = 2
        · rw [if_pos q]
          exact ⟨fun _ => rfl, fun _ => Or.inr q⟩
        · rw [if_neg q]
          exact ⟨fun z => z.elim id (fun z => absurd z q), Or.inl⟩
      · rw [in1 f hf e, c3, e, u_at]
        refine ⟨fun z => absurd z bit_0, fun z => ?_⟩
        unfold pO at z
        by_cases q : v (18 + 3 * f) = 2
        · rw [if_pos q] at z; exact absurd z (by decide)
        · rw [if_neg q] at z; exact absurd z q
      · rw [in1 f hf e, flC_o (by omega)]
        unfold pO
        by_cases q : v (18 + 3 * f) = 2
        · rw [if_pos q, g.tak, q]; decide
        · rw [if_neg q]; exact g.tak
      · rw [in1 f hf e, flC_o (by omega)]
        unfold pO
        by_cases q : v (18 + 3 * f) = 2
        · rw [if_pos q, g.hel, q]; decide
        · rw [if_neg q]; exact g.hel
      · rw [o1 f hf, flC_o (by omega)]; exact g.blk
      · rw [o2 f hf, flC_o (by omega)]; exact g.val
    · exact g.cg (by rw [c2, u_ne e]) (by rw [c3, u_ne e]) (by rw [flC_o (by omega)]) (by rw [flC_o (by omega)]) (by rw [flC_o (by omega)]) (by rw [flC_o (by omega)]) (out0 f hf e) (o1 f hf) (o2 f hf)
  · by_cases e : t = s
    · subst e
      refine ⟨?_, ?_, ?_, ?_, ?_, ?_, ?_, ?_, ?_, ?_, ?_⟩
      · rw [u_ne (by omega), a0, c18, u_at]
      · rw [c18, u_at]; exact fun q => absurd q (by decide)
      · rw [old _ (by omega) (by omega) (by omega) (by omega) (by omega) (by omega), c19]; exact fun _ => gs.zon hg
      · rw [u_ne (by omega), a2, c20, u_at]
      · rw [u_ne (by omega), a3, c21, u_at]
      · rw [u_ne (by omega), a4, c22, u_at]
      · rw [c22, u_at]; decide
      · rw [c18, u_at]; exact fun q => absurd q (by decide)
      · rw [old _ (by omega) (by omega) (by omega) (by omega) (by omega) (by omega), h6, c24, u_at]; rfl
      · rw [u_at, c25, u_at]
      · rw [c20, c21, c22, c24, u_at, u_at, u_at, u_at]; exact fun _ => ⟨rfl, rfl, rfl, rfl⟩
    · refine (h.S t ht).cg (fun k h1 h2 => ?_) (fun k hk => old _ (by omega) (by omega) (by omega) (by omega) (by omega) (by omega))
      rcases (show k = 18 ∨ k = 19 ∨ k = 20 ∨ k = 21 ∨ k = 22 ∨ k = 23 ∨ k = 24 ∨ k = 25 by omega) with q | q | q | q | q | q | q | q <;> subst q
      · rw [c18, u_ne e]
      · rw [c19]
      · rw [c20, u_ne e]
      · rw [c21, u_ne e]
      · rw [c22, u_ne e]
      · rw [c23, u_ne e]
      · rw [c24, u_ne e]
      · rw [c25, u_ne e]
  · refine h.O.st hk (fun f hf => ?_) o1 (fun b k h1 h2 => old _ (by omega) (by omega) (by omega) (by omega) (by omega) (by omega)) (fun f hf => ?_)
    · by_cases e : f / 32 = s
      · rw [in1 f hf e]
        unfold pO
        by_cases q : v (18 + 3 * f) = 2
        · rw [if_pos q, q]; exact Or.inr (by decide)
        · rw [if_neg q]; exact Or.inl rfl
      · exact Or.inl (out0 f hf e)
    · by_cases e : f / 32 = s
      · rw [in1 f hf e, pO_z, h.O.of f hf, e, u_ne (by omega), a0]
        exact ⟨fun z => absurd z v0, fun z => absurd z (by decide)⟩
      · rw [out0 f hf e, old (2358 + 8 * (f / 32) + 0) (by omega) (by omega) (by omega) (by omega) (by omega) (by omega)]
        exact h.O.of f hf
/-- a span has failed, in the row -/
def flF (v : Nat → Int32) (N s : Nat) (a1 w : Int32) : Nat → Int32 := wrF (cnF (upd (opnF v s) (2358 + 8 * s + 7) (w + 1)) 7 1) N 2 a1 w
theorem r_fails {v v1 : Nat → Int32} {a1 w : Int32} {N s : Nat} (h1 : a1.toInt = s) (hs : s < 8) (h : rd j_M_staysBack [.ref 0, .int a1] v v1) (h5 : (v1 5).toInt = N) : rd j_M_fails [.ref 0, .int a1, .int w] v (flF v1 N s a1 w) := fun σ e => by
  obtain ⟨p7, q7⟩ := ixS (k := 7) (j := 7) h1 rfl (by omega)
  refine w_M_fails a1 w σ _ ((h σ e).void ?_)
  rintro _ rfl
  refine (c_opens2 h1 hs _).void ?_
  rintro _ rfl
  refine (c_spanAt a1 _).int ?_
  rintro _ _ ⟨rfl, rfl⟩
  refine ⟨p7, fun σ5 e5 => ?_⟩
  rw [q7, s_at, s_ss, s_at, s_ss] at e5
  rw [e5]
  refine (c_counts (j := 7) rfl (by decide) 1 _).void ?_
  rintro _ rfl
  refine (c_writes2 (n := N) 2 a1 w _ ?_).void ?_
  · rw [s_at, s_at, u_ne (by omega), u_ne (by omega), opnF_old (by omega) (by omega) (by omega) (by omega) (by omega)]
    exact h5
  · rintro _ rfl
    refine ⟨rfl, ?_⟩
    rw [s_at, s_ss, s_at, s_ss]
    rfl
theorem r_stays0 {v : Nat → Int32} {a1 : Int32} {s : Nat} (h1 : a1.toInt = s) (hs : s < 8) (h6 : v (2358 + 8 * s + 6) = 0) : rd j_M_staysBack [.ref 0, .int a1] v v := fun σ e => by
  obtain ⟨p6, q6⟩ := ixS (k := 6) (j := 6) h1 rfl (by omega)
  refine w_M_staysBack a1 σ _ ((c_spanAt a1 σ).int ?_)
  rintro _ σ ⟨rfl, rfl⟩
  refine ⟨p6, ?_⟩
  rw [q6, e, h6]
  exact ⟨fun q => absurd (by decide) q, fun _ => ⟨rfl, by rw [← e, s_id]⟩⟩
/-- fail | the end of fails, where nothing is on its way -/
theorem p_fail {g : Prop} {N s : Nat} {c : sm_S} {v : Nat → Int32} {a1 : Int32} (w : Int32) (h : tie g N c v) (hj : jj N v) (hN : N < 2000000000) (h1 : a1.toInt = s) (hs : s < 8) (h6 : v (2358 + 8 * s + 6) = 0) (hg : c 18 s ≠ 0) : ∃ c', xC xD j_G_fail [.ref 41, .int a1, .int w] c (sm_V (fun σ' => σ' = c')) ∧ tie g (N + 1) c' (flF v N s a1 w) ∧ jj (N + 1) (flF v N s a1 w) ∧ oth s v (flF v N s a1 w) ∧ flF v N s a1 w (2358 + 8 * s) = 1 := by
  have run0 : rd j_M_opens [.ref 0, .int a1] v (opnF v s) := fun σ e => by rw [← e]; exact c_opens2 h1 hs σ
  obtain ⟨w0, e0, j0, -, -⟩ := run0.det (c_opens h1 hs (rz v) (by rw [rz_at]; exact hj) (by rw [rz_at]; exact h6))
  have e0 := rz_eq e0
  subst e0
  have j1 : jj N (upd (opnF v s) (2358 + 8 * s + 7) (w + 1)) := ⟨fr_cong (fun i h1 h2 => u_ne (by omega)) (fun n k h1 h2 => u_ne (by omega)) j0.1, jr_cong (ceq_upd (Or.inr (Or.inr (Or.inr (Or.inr ⟨s, hs, by omega⟩))))) j0.2.1, by rw [u_ne (by omega)]; exact j0.2.2⟩
  have t1 : tie g N (flC c s w) (upd (opnF v s) (2358 + 8 * s + 7) (w + 1)) := h.to (sim_fail w h.s h.b hs h6 hg) (fun k h1 h2 => flC_o (by omega)) (by rw [u_ne (by omega), opnF_old (by omega) (by omega) (by omega) (by omega) (by omega)]) (fun i hi => by rw [u_ne (by omega), opnF_old (by omega) (by omega) (by omega) (by omega) (by omega)]) j1.2.1.1
  have t2 := t1.cnt (k := 7) (by decide) 1
  obtain ⟨n, hn, h5, t3⟩ := t2.log hN 2 a1 w
  refine ⟨_, e_fail2 h1 hs w c (n := n) h5 hn, t3, jj_wr (jj_cn j1 (by decide)) hN, fun i i1 i2 i3 => ?_, ?_⟩
  · unfold flF
    rw [wrF_lo (by omega) (by omega)]
    unfold cnF
    rw [u_ne (by omega), u_ne (by omega), opnF_old (by omega) (by omega) (by omega) (by omega) (by omega)]
  · unfold flF
    rw [wrF_lo (by omega) (by omega)]
    unfold cnF
    rw [u_ne (by omega), u_ne (by omega)]
    exact (opnF_at hs).1
end
section
/-! ===== the simulation: a task waits, or does it at once ===== -/
theorem lnC_s (c : sm_S) (L : Nat) : lnC c (L + 1) = lnC c L ++ [c 33 L] := by
  unfold lnC
  rw [List.range_succ, List.map_append]
  rfl
theorem lnV_s (v : Nat → Int32) (b m : Nat) : lnV v b (m + 1) = lnV v b m ++ [v (786 + 16 * b + (10 + m))] := by
  unfold lnV
  rw [List.range_succ, List.map_append]
  rfl
theorem lnC_mem {c : sm_S} {L : Nat} {x : Int32} (h : x ∈ lnC c L) : ∃ k, k < L ∧ c 33 k = x := by
  unfold lnC at h
  obtain ⟨k, h1, h2⟩ := List.mem_map.mp h
  exact ⟨k, List.mem_range.mp h1, h2⟩
theorem lnC_in {c : sm_S} {L k : Nat} (h : k < L) : c 33 k ∈ lnC c L := List.mem_map.mpr ⟨k, List.mem_range.mpr h, rfl⟩
theorem lnC_len (c : sm_S) (L : Nat) : (lnC c L).length = L := by
  unfold lnC
  rw [List.length_map, List.length_range]
theorem lnV_len (v : Nat → Int32) (b m : Nat) : (lnV v b m).length = m := by
  unfold lnV
  rw [List.length_map, List.length_range]
theorem sQ.m_le {c : sm_S} {v : Nat → Int32} {L b m : Nat} (q : sQ c v L) (hb : b < 96) (hm : (v (786 + 16 * b + 9)).toInt = m) : m ≤ L ∧ lnV v b m = (lnC c L).filter (fun t => decide ((c 28 t.toNatClampNeg).toInt = b)) := by
  obtain ⟨m', g1, g2⟩ := q.lin b hb
  have e : m' = m := by omega
  subst e
  refine ⟨?_, g2⟩
  have a := congrArg List.length g2
  rw [lnV_len] at a
  have := List.length_filter_le (fun t => decide ((c 28 t.toNatClampNeg).toInt = b)) (lnC c L)
  rw [lnC_len] at this
  omega
/-- whoever is in the line waits -/
theorem sQ.mem {c : sm_S} {v : Nat → Int32} {L : Nat} {x : Int32} (q : sQ c v L) (h : x ∈ lnC c L) : ∃ t : Nat, t < 6 ∧ x.toInt = t ∧ c 28 t ≠ -1 := by
  obtain ⟨k, h1, h2⟩ := lnC_mem h
  obtain ⟨t, g1, g2, g3⟩ := q.tsk k h1
  exact ⟨t, g1, by rw [← h2]; exact g2, g3⟩
theorem sQ.lt6 {c : sm_S} {v : Nat → Int32} {L t : Nat} (q : sQ c v L) (ht : t < 6) (hw : c 28 t = -1) : L < 6 := by
  have hp := php 6 (L + 1) (fun k => if k < L then (c 33 k).toNatClampNeg else t) (fun k hk => by
    show (if k < L then (c 33 k).toNatClampNeg else t) < 6
    split
    · next hlt =>
      obtain ⟨t2, g1, g2, -⟩ := q.tsk k hlt
      rw [t_nat g2]
      exact g1
    · exact ht) (fun k k2 hkk hk2 => by
    show (if k < L then (c 33 k).toNatClampNeg else t) ≠ (if k2 < L then (c 33 k2).toNatClampNeg else t)
    rw [if_pos (by omega)]
    obtain ⟨t1, g1, g2, g3⟩ := q.tsk k (by omega)
    rw [t_nat g2]
    split
    · next hlt =>
      obtain ⟨t2, f1, f2, -⟩ := q.tsk k2 hlt
      rw [t_nat f2]
      intro z
      have e : c 33 k = c 33 k2 := t_inj (by rw [g2, f2, z])
      have nd := q.nod
      unfold lnC at nd
      have := (List.nodup_iff_pairwise_ne.mp nd)
      rw [List.pairwise_iff_getElem] at this
      have u := this k k2 (by rw [List.length_map, List.length_range]; omega) (by rw [List.length_map, List.length_range]; omega) hkk
      rw [List.getElem_map, List.getElem_map, List.getElem_range, List.getElem_range] at u
      exact u e
    · intro z
      rw [z] at g3
      exact g3 hw)
  omega
theorem sQ_add {c c' : sm_S} {v v' : Nat → Int32} {L t n m : Nat} {tI bI : Int32} (q : sQ c v L) (ht : tI.toInt = t) (ht6 : t < 6) (hw : c 28 t = -1) (hbI : bI.toInt = n) (hm : (v (786 + 16 * n + 9)).toInt = m) (hn : n < 96) (c26 : c' 26 7 = c 26 7 + 1) (c28 : c' 28 = upd (c 28) t bI) (c33 : c' 33 = upd (c 33) L tI) (v9 : v' (786 + 16 * n + 9) = v (786 + 16 * n + 9) + 1) (vm : v' (786 + 16 * n + (10 + m)) = tI) (ve : ∀ b k, b < 96 → 9 ≤ k → k < 16 → (b ≠ n ∨ (k ≠ 9 ∧ k ≠ 10 + m)) → v' (786 + 16 * b + k) = v (786 + 16 * b + k)) : sQ c' v' (L + 1) := by
  have l6 := q.lt6 ht6 hw
  have hl : lnC c' L = lnC c L := lnC_cg (fun k hk => by rw [c33, u_ne (by omega)])
  have hls : lnC c' (L + 1) = lnC c L ++ [tI] := by rw [lnC_s, hl, c33, u_at]
  have nt : ∀ x, x ∈ lnC c L → x.toNatClampNeg ≠ t := fun x hx z => by
    obtain ⟨t2, g1, g2, g3⟩ := q.mem hx
    rw [t_nat g2] at z
    rw [z] at g3
    exact g3 hw
  have hbn : bI ≠ -1 := ne_m1 hbI
  refine ⟨?_, by omega, fun k hk => ?_, ?_, fun t2 h2 h3 => ?_, fun b hb => ?_⟩
  · rw [c26, t_add q.len (y := 1) rfl (by omega) (by omega)]
    omega
  · by_cases e : k = L
    · subst e
      exact ⟨t, ht6, by rw [c33, u_at]; exact ht, by rw [c28, u_at]; exact hbn⟩
    · obtain ⟨t2, g1, g2, g3⟩ := q.tsk k (by omega)
      refine ⟨t2, g1, by rw [c33, u_ne e]; exact g2, ?_⟩
      rw [c28, u_ne (fun z => by rw [z] at g3; exact g3 hw)]
      exact g3
  · rw [hls]
    refine List.nodup_append.mpr ⟨q.nod, List.nodup_cons.mpr ⟨List.not_mem_nil, List.nodup_nil⟩, fun x hx y hy => ?_⟩
    rw [List.mem_singleton] at hy
    subst hy
    intro z
    subst z
    exact nt x hx (t_nat ht)
  · by_cases e : t2 = t
    · subst e
      exact ⟨L, by omega, by rw [c33, u_at]; exact ht⟩
    · rw [c28, u_ne e] at h3
      obtain ⟨k, k1, k2⟩ := q.all t2 h2 h3
      exact ⟨k, by omega, by rw [c33, u_ne (by omega)]; exact k2⟩
  · have hf : (lnC c L).filter (fun t => decide ((c' 28 t.toNatClampNeg).toInt = b)) = (lnC c L).filter (fun t => decide ((c 28 t.toNatClampNeg).toInt = b)) := List.filter_congr (fun x hx => by rw [c28, u_ne (nt x hx)])
    obtain ⟨mb, g1, -⟩ := q.lin b hb
    obtain ⟨g3, g2⟩ := q.m_le hb g1
    rw [hls, List.filter_append, hf, ← g2]
    by_cases e : b = n
    · subst e
      have e2 : mb = m := by omega
      subst e2
      refine ⟨mb + 1, ?_, ?_⟩
      · rw [v9, t_add g1 (y := 1) rfl (by omega) (by omega)]
        omega
      · rw [lnV_s, vm, lnV_cg (fun k hk => ve b (10 + k) hb (by omega) (by omega) (Or.inr (by omega)))]
        congr 1
        have : decide ((c' 28 tI.toNatClampNeg).toInt = (b : Int)) = true := by
          rw [t_nat ht, c28, u_at]
          exact decide_eq_true hbI
        rw [List.filter_cons, this]
        rfl
    · refine ⟨mb, by rw [ve b 9 hb (by omega) (by omega) (Or.inl e)]; exact g1, ?_⟩
      have : decide ((c' 28 tI.toNatClampNeg).toInt = (b : Int)) = false := by
        rw [t_nat ht, c28, u_at]
        exact decide_eq_false (by omega)
      rw [List.filter_cons, this, lnV_cg (fun k hk => ve b (10 + k) hb (by omega) (by omega) (Or.inl e))]
      exact (List.append_nil _).symm
/-- tasks and lines -/
theorem sim0.tq {c c' : sm_S} {v v' : Nat → Int32} (h : sim0 c v) (hk : ∀ b, b < 96 → bk_ok v b) (T' : ∀ t, t < 6 → sT c' v' t) (Q' : ∃ L, sQ c' v' L) (hc : ∀ k, k < 26 ∨ 33 < k → c' k = c k) (hv : ∀ i, i < 786 ∨ (2358 ≤ i ∧ i < 2422) → v' i = v i) (hb : ∀ b k, b < 96 → k < 9 → v' (786 + 16 * b + k) = v (786 + 16 * b + k)) : sim0 c' v' := by
  refine ⟨fun f hf => ?_, fun b h1 => ?_, fun s hs => ?_, T', Q', ?_, ?_⟩
  · exact (h.F f hf).cg (by rw [hc 2 (by omega)]) (by rw [hc 3 (by omega)]) (by rw [hc 4 (by omega)]) (by rw [hc 5 (by omega)]) (by rw [hc 6 (by omega)]) (by rw [hc 7 (by omega)]) (hv _ (by omega)) (hv _ (by omega)) (hv _ (by omega))
  · exact (h.B b h1).cg (by rw [hc 9 (by omega)]) (by rw [hc 10 (by omega)]) (by rw [hc 11 (by omega)]) (by rw [hc 12 (by omega)]) (by rw [hc 13 (by omega)]) (by rw [hc 14 (by omega)]) (by rw [hc 15 (by omega)]) (by rw [hc 16 (by omega)]) (fun k h2 => hb b k h1 h2)
  · exact (h.S s hs).cg (fun k h1 h2 => by rw [hc k (by omega)]) (fun k hk => hv _ (by omega))
  · exact h.N.cg (hc 39 (by omega)) (hc 40 (by omega)) (by rw [hc 0 (by omega)]) (by rw [hc 8 (by omega)]) (fun i hi _ => hv i (by omega))
  · exact h.O.cg (fun i h1 h2 _ => hv i (by omega)) (fun b k h1 h2 => hb b k h1 (by omega)) (fun s hs => hv _ (by omega)) hk
/-- what a task wishes -/
def wsC (c : sm_S) (t : Nat) (x y z : Int32) : sm_S := sm_set (sm_set (sm_set c 30 (upd (c 30) t x)) 31 (upd (c 31) t y)) 32 (upd (c 32) t z)
theorem e_wants2 {a1 : Int32} {t : Nat} (h1 : a1.toInt = t) (ht : t < 6) (x y z : Int32) (σ : sm_S) : xC xD j_K_wants [.ref 26, .int a1, .int x, .int y, .int z] σ (sm_V (fun σ' => σ' = wsC σ t x y z)) := by
  have v := t_vp h1 ht
  refine d_K_wants a1 x y z σ _ ?_
  rw [t_nat h1]
  refine ⟨v, fun σ1 e1 => ⟨v, fun σ2 e2 => ⟨v, fun σ3 e3 => ⟨rfl, ?_⟩⟩⟩⟩
  rw [e3, e2, e1]
  rfl
def quC (c : sm_S) (t L : Nat) (tI bI : Int32) : sm_S := sm_set (sm_set (sm_set c 33 (upd (c 33) L tI)) 26 (upd (c 26) 7 (c 26 7 + 1))) 28 (upd (c 28) t bI)
theorem e_queue2 {a1 : Int32} {t L : Nat} (h1 : a1.toInt = t) (ht : t < 6) (a2 : Int32) (σ : sm_S) (hL : (σ 26 7).toInt = L) (h6 : L < 6) : xC xD j_K_queue [.ref 26, .int a1, .int a2] σ (sm_V (fun σ' => σ' = quC σ t L a1 a2)) := by
  refine d_K_queue a1 a2 σ _ ⟨fun q => ?_, fun _ => ?_⟩
  · rw [t_le, hL] at q
    have q : (6 : Int) ≤ L := q
    omega
  · rw [t_nat h1, t_nat hL]
    refine ⟨t_vp hL h6, fun σ1 e1 σ2 e2 => ⟨t_vp h1 ht, fun σ3 e3 => ⟨rfl, ?_⟩⟩⟩
    rw [e3, e2, e1]
    rfl
/-- task t waits for block n, in whose line are m -/
def wtF (v : Nat → Int32) (t n m : Nat) (tI bI what i x : Int32) : Nat → Int32 := upd (upd (upd (upd (upd (upd v (2322 + 6 * t + 1) (bI + 1)) (2322 + 6 * t + 2) what) (2322 + 6 * t + 3) i) (2322 + 6 * t + 4) x) (786 + 16 * n + (10 + m)) tI) (786 + 16 * n + 9) (v (786 + 16 * n + 9) + 1)
theorem wtF_o {v : Nat → Int32} {t n m j : Nat} {tI bI what i x : Int32} (h1 : j < 2322 + 6 * t + 1 ∨ 2322 + 6 * t + 4 < j) (h2 : j ≠ 786 + 16 * n + (10 + m)) (h3 : j ≠ 786 + 16 * n + 9) : wtF v t n m tI bI what i x j = v j := by
  unfold wtF
  rw [u_ne h3, u_ne h2, u_ne (by omega), u_ne (by omega), u_ne (by omega), u_ne (by omega)]
theorem sim_wait {c : sm_S} {v : Nat → Int32} {t n m L : Nat} {tI bI what i x : Int32} (h : sim0 c v) (hk : ∀ b, b < 96 → bk_ok v b) (ht : tI.toInt = t) (ht6 : t < 6) (hw : c 28 t = -1) (hbI : bI.toInt = n) (hn : n < 96) (hm : (v (786 + 16 * n + 9)).toInt = m) (hL : (c 26 7).toInt = L) : L < 6 ∧ m < 6 ∧ sim0 (quC (wsC c t what i x) t L tI bI) (wtF v t n m tI bI what i x) := by
  obtain ⟨L', q⟩ := h.Q
  have e : L' = L := by have := q.len; omega
  subst e
  have l6 := q.lt6 ht6 hw
  have hmL := (q.m_le hn hm).1
  refine ⟨l6, by omega, ?_⟩
  have co : ∀ k, k < 26 ∨ k = 27 ∨ k = 29 ∨ 33 < k → quC (wsC c t what i x) t L' tI bI k = c k := fun k hk => by
    unfold quC wsC
    rw [s_ne (by omega), s_ne (by omega), s_ne (by omega), s_ne (by omega), s_ne (by omega), s_ne (by omega)]
  have c26 : quC (wsC c t what i x) t L' tI bI 26 7 = c 26 7 + 1 := rfl
  have c28 : quC (wsC c t what i x) t L' tI bI 28 = upd (c 28) t bI := rfl
  have c33 : quC (wsC c t what i x) t L' tI bI 33 = upd (c 33) L' tI := rfl
  have c30 : quC (wsC c t what i x) t L' tI bI 30 = upd (c 30) t what := rfl
  have c31 : quC (wsC c t what i x) t L' tI bI 31 = upd (c 31) t i := rfl
  have c32 : quC (wsC c t what i x) t L' tI bI 32 = upd (c 32) t x := rfl
  refine h.tq hk (fun t2 h2 => ?_) ⟨L' + 1, sQ_add q ht ht6 hw hbI hm hn c26 c28 c33 u_at ?_ (fun b k h1 h2 h3 h4 => wtF_o (by omega) (by omega) (by omega))⟩ (fun k hk => co k (by omega)) (fun j hj => wtF_o (by omega) (by omega) (by omega)) (fun b k h1 h2 => wtF_o (by omega) (by omega) (by omega))
  · have g := h.T t2 h2
    by_cases e : t2 = t
    · subst e
      have r1 : wtF v t2 n m tI bI what i x (2322 + 6 * t2 + 1) = bI + 1 := by
        unfold wtF
        rw [u_ne (by omega), u_ne (by omega), u_ne (by omega), u_ne (by omega), u_ne (by omega), u_at]
      have r2 : wtF v t2 n m tI bI what i x (2322 + 6 * t2 + 2) = what := by
        unfold wtF
        rw [u_ne (by omega), u_ne (by omega), u_ne (by omega), u_ne (by omega), u_at]
      have r3 : wtF v t2 n m tI bI what i x (2322 + 6 * t2 + 3) = i := by
        unfold wtF
        rw [u_ne (by omega), u_ne (by omega), u_ne (by omega), u_at]
      have r4 : wtF v t2 n m tI bI what i x (2322 + 6 * t2 + 4) = x := by
        unfold wtF
        rw [u_ne (by omega), u_ne (by omega), u_at]
      refine ⟨?_, ?_, ?_, fun _ => ?_, fun _ => ?_, fun _ => ?_⟩
      · rw [wtF_o (by omega) (by omega) (by omega), co 27 (by omega)]; exact g.hom
      · rw [r1, c28, u_at]
      · rw [wtF_o (by omega) (by omega) (by omega), co 29 (by omega)]; exact g.rea
      · rw [r2, c30, u_at]
      · rw [r3, c31, u_at]
      · rw [r4, c32, u_at]
    · refine g.cg (fun k h1 h2 => ?_) (fun k hk => wtF_o (by omega) (by omega) (by omega))
      rcases (show k = 27 ∨ k = 28 ∨ k = 29 ∨ k = 30 ∨ k = 31 ∨ k = 32 by omega) with q | q | q | q | q | q <;> subst q
      · rw [co 27 (by omega)]
      · rw [c28, u_ne e]
      · rw [co 29 (by omega)]
      · rw [c30, u_ne e]
      · rw [c31, u_ne e]
      · rw [c32, u_ne e]
  · unfold wtF
    rw [u_ne (by omega), u_at]
end
section
/-! ===== the simulation: the line of a block is served ===== -/
theorem doC_s {c : sm_S} {t n f k : Nat} {tI what x : Int32} {w : Nat → Int32} (h : k ≠ 7 ∧ k ≠ 8 ∧ k ≠ 13 ∧ k ≠ 16 ∧ k ≠ 29) : doC (sm_set c k w) t n f tI what x = sm_set (doC c t n f tI what x) k w := by
  obtain ⟨h7, h8, h13, h16, h29⟩ := h
  have g7 : sm_set c k w 7 = c 7 := s_ne (Ne.symm h7)
  have g8 : sm_set c k w 8 = c 8 := s_ne (Ne.symm h8)
  have g13 : sm_set c k w 13 = c 13 := s_ne (Ne.symm h13)
  have g16 : sm_set c k w 16 = c 16 := s_ne (Ne.symm h16)
  have g29 : sm_set c k w 29 = c 29 := s_ne (Ne.symm h29)
  unfold doC usC
  by_cases e2 : what = 2
  · rw [if_pos e2, if_pos e2, g13, s_com h13]
  · rw [if_neg e2, if_neg e2]
    by_cases e0 : what = 0
    · rw [if_pos e0, if_pos e0, g29, g7, s_com h29, s_ne (Ne.symm h8), s_com h8, s_ne (Ne.symm h16), s_com h16]
    · rw [if_neg e0, if_neg e0, g7, s_com h7, s_ne (Ne.symm h8), s_com h8, s_ne (Ne.symm h16), s_com h16]
theorem laC_s {c : sm_S} {n k : Nat} {a1 a2 a3 a4 : Int32} {w : Nat → Int32} (h : k < 34 ∨ 38 < k) : laC (sm_set c k w) n a1 a2 a3 a4 = sm_set (laC c n a1 a2 a3 a4) k w := by
  unfold laC
  rw [s_ne (show 35 ≠ k by omega), s_ne (show 36 ≠ k by omega), s_ne (show 37 ≠ k by omega), s_ne (show 38 ≠ k by omega), s_ne (show 34 ≠ k by omega)]
  rw [s_com (show k ≠ 35 by omega), s_com (show k ≠ 36 by omega), s_com (show k ≠ 37 by omega), s_com (show k ≠ 38 by omega), s_com (show k ≠ 34 by omega)]
theorem doC_o {c : sm_S} {t n f k : Nat} {tI what x : Int32} (h : k ≠ 7 ∧ k ≠ 8 ∧ k ≠ 13 ∧ k ≠ 16 ∧ k ≠ 29) : doC c t n f tI what x k = c k := by
  unfold doC usC
  by_cases e2 : what = 2
  · rw [if_pos e2, s_ne (by omega)]
  · rw [if_neg e2]
    by_cases e0 : what = 0
    · rw [if_pos e0, s_ne (by omega), s_ne (by omega), s_ne (by omega)]
    · rw [if_neg e0, s_ne (by omega), s_ne (by omega), s_ne (by omega)]
/-- one of the line is served; all of a list -/
def sv1C (b : Int32) (n fr : Nat) (c : sm_S) (t : Int32) : sm_S := laC (doC c t.toNatClampNeg n (fr + (c 31 t.toNatClampNeg).toNatClampNeg) t (c 30 t.toNatClampNeg) (c 32 t.toNatClampNeg)) (c 34 5).toNatClampNeg (c 0 7) 8 t b
def svC (b : Int32) (n fr : Nat) (c : sm_S) (ts : List Int32) : sm_S := ts.foldl (sv1C b n fr) c
theorem sv1C_o {b : Int32} {n fr k : Nat} {c : sm_S} {t : Int32} (h : (k ≠ 7 ∧ k ≠ 8 ∧ k ≠ 13 ∧ k ≠ 16 ∧ k ≠ 29) ∧ (k < 34 ∨ 38 < k)) : sv1C b n fr c t k = c k := by
  unfold sv1C
  rw [laC_o h.2, doC_o h.1]
theorem svC_o {b : Int32} {n fr k : Nat} (h : (k ≠ 7 ∧ k ≠ 8 ∧ k ≠ 13 ∧ k ≠ 16 ∧ k ≠ 29) ∧ (k < 34 ∨ 38 < k)) : ∀ (ts : List Int32) (c : sm_S), svC b n fr c ts k = c k
  | [], c => rfl
  | t :: ts, c => by
    show svC b n fr (sv1C b n fr c t) ts k = c k
    rw [svC_o h ts, sv1C_o h]
theorem svC_s (b : Int32) (n fr : Nat) (c : sm_S) (ts : List Int32) (t : Int32) : svC b n fr c (ts ++ [t]) = sv1C b n fr (svC b n fr c ts) t := by
  unfold svC
  rw [List.foldl_append]
  rfl
def sv1V (b : Int32) (n fr : Nat) (v : Nat → Int32) (t : Int32) : Nat → Int32 := wrF (doF v t.toNatClampNeg n fr (v (2322 + 6 * t.toNatClampNeg + 3)).toNatClampNeg t (v (2322 + 6 * t.toNatClampNeg + 2)) (v (2322 + 6 * t.toNatClampNeg + 4))) (v 5).toNatClampNeg 8 t b
def svV (b : Int32) (n fr : Nat) (v : Nat → Int32) (ts : List Int32) : Nat → Int32 := ts.foldl (sv1V b n fr) v
theorem svV_s (b : Int32) (n fr : Nat) (v : Nat → Int32) (ts : List Int32) (t : Int32) : svV b n fr v (ts ++ [t]) = sv1V b n fr (svV b n fr v ts) t := by
  unfold svV
  rw [List.foldl_append]
  rfl
/-- what stands fast while a line is served: all but values, uses, pins, what was read, the log -/
def vfx (i : Nat) : Prop := (i < 5 ∨ (6 < i ∧ i < 18)) ∨ (18 ≤ i ∧ i < 786 ∧ i % 3 ≠ 2) ∨ (∃ b k, b < 96 ∧ k < 16 ∧ k ≠ 5 ∧ k ≠ 8 ∧ i = 786 + 16 * b + k) ∨ (∃ t k, t < 6 ∧ k < 5 ∧ i = 2322 + 6 * t + k) ∨ (2358 ≤ i ∧ i < 2422)
theorem doF_o {v : Nat → Int32} {t n fr a i : Nat} {tI what x : Int32} (hn : n < 96) (ht : t < 6) (hf : fr + a < 256) (h : vfx i ∨ i = 5 ∨ 2422 ≤ i) : doF v t n fr a tI what x i = v i := by
  have h1 : i ≠ 786 + 16 * n + 5 := by
    unfold vfx at h
    rcases h with (h | h | ⟨b, k, h⟩ | ⟨b, k, h⟩ | h) | h | h <;> omega
  have h2 : i ≠ 786 + 16 * n + 8 := by
    unfold vfx at h
    rcases h with (h | h | ⟨b, k, h⟩ | ⟨b, k, h⟩ | h) | h | h <;> omega
  have h3 : i ≠ 2322 + 6 * t + 5 := by
    unfold vfx at h
    rcases h with (h | h | ⟨b, k, h⟩ | ⟨b, k, h⟩ | h) | h | h <;> omega
  have h4 : i ≠ 18 + 3 * (fr + a) + 2 := by
    unfold vfx at h
    rcases h with (h | h | ⟨b, k, h⟩ | ⟨b, k, h⟩ | h) | h | h <;> omega
  have h6 : i ≠ 6 := by
    unfold vfx at h
    rcases h with (h | h | ⟨b, k, h⟩ | ⟨b, k, h⟩ | h) | h | h <;> omega
  unfold doF
  by_cases e2 : what = 2
  · rw [if_pos e2, u_ne h1]
  · rw [if_neg e2]
    by_cases e0 : what = 0
    · rw [if_pos e0, u_ne h3, usF_o h6 h2]
    · rw [if_neg e0, u_ne h4, usF_o h6 h2]
theorem vfx_lt {i : Nat} (h : vfx i) : i < 2422 ∧ i ≠ 5 := by
  unfold vfx at h
  rcases h with h | h | ⟨b, k, h⟩ | ⟨b, k, h⟩ | h <;> omega
/-- who is to be served, in the row v and the store c -/
def srvd (c : sm_S) (fr : Nat) (t : Int32) : Prop := ∃ m a : Nat, m < 6 ∧ t.toInt = m ∧ c 28 m ≠ -1 ∧ (c 31 m).toInt = a ∧ fr + a < 256
theorem tie_sv1 {g : Prop} {N n fr : Nat} {c : sm_S} {v : Nat → Int32} {b t : Int32} (h : tie g N c v) (hN : N < 2000000000) (hn : n < 96) (h0 : v (786 + 16 * n + 0) = 1) (ht : srvd c fr t) : tie g (N + 1) (sv1C b n fr c t) (sv1V b n fr v t) ∧ (∀ i, vfx i → sv1V b n fr v t i = v i) := by
  obtain ⟨m, a, hm, htm, hw, ha, hfa⟩ := ht
  have T := h.s.T m hm
  have e2 := T.wis hw
  have e3 := T.wat hw
  have e4 := T.wva hw
  have hp : v (786 + 16 * n + 5) = c 13 n := by
    rcases h.s.B n hn with ⟨-, q⟩ | ⟨-, -, q⟩
    · rw [q] at h0; exact absurd h0 (by decide)
    · exact q.pin
  have n5 : (v 5).toNatClampNeg = N := t_nat h.n
  have ea : (v (2322 + 6 * m + 3)).toNatClampNeg = a := by rw [e3]; exact t_nat ha
  have w : sv1V b n fr v t = wrF (doF v m n fr a t (c 30 m) (c 32 m)) N 8 t b := by
    unfold sv1V
    rw [t_nat htm, ea, e2, e4, n5]
  have fx : ∀ i, (vfx i ∨ i = 5 ∨ 2422 ≤ i) → doF v m n fr a t (c 30 m) (c 32 m) i = v i := fun i hi => doF_o hn hm hfa hi
  have t1 : tie g N (doC c m n (fr + a) t (c 30 m) (c 32 m)) (doF v m n fr a t (c 30 m) (c 32 m)) := h.to (sim_does h.s h.b hm hn hfa hp) (fun k h1 h2 => doC_o (by omega)) (fx 5 (Or.inr (Or.inl rfl))) (fun i hi => fx i (Or.inr (Or.inr hi))) (fun b' hb' => bk_cong (fun k h1 h2 h3 h4 => fx _ (Or.inl (Or.inr (Or.inr (Or.inl ⟨b', k, hb', h1, h3, h4, rfl⟩))))) (h.b b' hb'))
  obtain ⟨nl, hl, h5, t2⟩ := t1.log hN 8 t b
  have z : sv1C b n fr c t = laC (doC c m n (fr + a) t (c 30 m) (c 32 m)) nl (c 0 7) 8 t b := by
    unfold sv1C
    rw [doC_o (by omega)] at h5
    rw [t_nat htm, t_nat ha, t_nat h5]
  refine ⟨?_, fun i hi => ?_⟩
  · rw [z, w]
    rw [doC_o (by omega)] at t2
    exact t2
  · rw [w, wrF_lo (vfx_lt hi).1 (vfx_lt hi).2]
    exact fx i (Or.inl hi)
theorem tie_sv {g : Prop} {n fr : Nat} {b : Int32} (hn : n < 96) : ∀ (ts : List Int32) (N : Nat) (c : sm_S) (v : Nat → Int32), tie g N c v → N + ts.length < 2000000000 → v (786 + 16 * n + 0) = 1 → (∀ t, t ∈ ts → srvd c fr t) → tie g (N + ts.length) (svC b n fr c ts) (svV b n fr v ts) ∧ (∀ i, vfx i → svV b n fr v ts i = v i)
  | [], N, c, v, h, _, _, _ => ⟨h, fun _ _ => rfl⟩
  | t :: ts, N, c, v, h, hN, h0, hs => by
    rw [List.length_cons] at hN
    obtain ⟨t1, f1⟩ := tie_sv1 (b := b) h (by omega) hn h0 (hs t List.mem_cons_self)
    have f0 : vfx (786 + 16 * n + 0) := Or.inr (Or.inr (Or.inl ⟨n, 0, hn, by decide, by decide, by decide, rfl⟩))
    obtain ⟨t2, f2⟩ := tie_sv (b := b) hn ts (N + 1) _ _ t1 (by omega) (by rw [f1 _ f0]; exact h0) (fun t' ht' => by
      obtain ⟨m, a, q1, q2, q3, q4, q5⟩ := hs t' (List.mem_cons_of_mem _ ht')
      exact ⟨m, a, q1, q2, by rw [sv1C_o (by omega)]; exact q3, by rw [sv1C_o (by omega)]; exact q4, q5⟩)
    refine ⟨?_, fun i hi => ?_⟩
    · rw [List.length_cons, show N + (ts.length + 1) = N + 1 + ts.length by omega]
      exact t2
    · show svV b n fr (sv1V b n fr v t) ts i = v i
      rw [f2 i hi, f1 i hi]
/-- served: who waited waits no more -/
theorem sQ_srv {c c' : sm_S} {v v' : Nat → Int32} {L L' n : Nat} (q : sQ c v L) (c26 : (c' 26 7).toInt = L') (c28 : ∀ t, t < 6 → c' 28 t = if (c 28 t).toInt = n then -1 else c 28 t) (c33 : lnC c' L' = (lnC c L).filter (fun t => !decide ((c 28 t.toNatClampNeg).toInt = n))) (v9 : v' (786 + 16 * n + 9) = 0) (ve : ∀ b k, b < 96 → 9 ≤ k → k < 16 → b ≠ n → v' (786 + 16 * b + k) = v (786 + 16 * b + k)) : sQ c' v' L' := by
  have hlen : L' ≤ L := by
    have a := congrArg List.length c33
    rw [lnC_len] at a
    have := List.length_filter_le (fun t : Int32 => !decide ((c 28 t.toNatClampNeg).toInt = n)) (lnC c L)
    rw [lnC_len] at this
    omega
  have mem : ∀ x, x ∈ lnC c' L' → x ∈ lnC c L ∧ ¬ (c 28 x.toNatClampNeg).toInt = n := fun x hx => by
    rw [c33, List.mem_filter] at hx
    refine ⟨hx.1, fun z => ?_⟩
    have := hx.2
    rw [decide_eq_true z] at this
    exact absurd this (by decide)
  refine ⟨c26, Nat.le_trans hlen q.le6, fun k hk => ?_, ?_, fun t ht hw => ?_, fun b hb => ?_⟩
  · obtain ⟨m1, m2⟩ := mem _ (lnC_in hk)
    obtain ⟨t, g1, g2, g3⟩ := q.mem m1
    rw [t_nat g2] at m2
    exact ⟨t, g1, g2, by rw [c28 t g1, if_neg m2]; exact g3⟩
  · rw [c33]
    exact q.nod.filter _
  · rw [c28 t ht] at hw
    by_cases e : (c 28 t).toInt = n
    · rw [if_pos e] at hw; exact absurd rfl hw
    · rw [if_neg e] at hw
      obtain ⟨k, k1, k2⟩ := q.all t ht hw
      have : c 33 k ∈ lnC c' L' := by
        rw [c33, List.mem_filter]
        refine ⟨lnC_in k1, ?_⟩
        rw [t_nat k2, decide_eq_false e]
        rfl
      obtain ⟨j, j1, j2⟩ := lnC_mem this
      exact ⟨j, j1, by rw [j2]; exact k2⟩
  · obtain ⟨m, g1, -⟩ := q.lin b hb
    obtain ⟨g3, g2⟩ := q.m_le hb g1
    by_cases e : b = n
    · subst e
      refine ⟨0, by rw [v9]; rfl, ?_⟩
      rw [c33, List.filter_filter]
      symm
      rw [show lnV v' b 0 = [] from rfl]
      refine List.filter_eq_nil_iff.mpr (fun x hx z => ?_)
      obtain ⟨t, t1, t2, t3⟩ := q.mem hx
      rw [t_nat t2, c28 t t1] at z
      by_cases e2 : (c 28 t).toInt = (b : Int)
      · rw [decide_eq_true e2, Bool.not_true, Bool.and_false] at z
        exact absurd z (by decide)
      · rw [if_neg e2, decide_eq_false e2, Bool.false_and] at z
        exact absurd z (by decide)
    · refine ⟨m, by rw [ve b 9 hb (by omega) (by omega) e]; exact g1, ?_⟩
      have := q.le6
      rw [lnV_cg (fun k hk => ve b (10 + k) hb (by omega) (by omega) e), g2, c33, List.filter_filter]
      refine List.filter_congr (fun x hx => ?_)
      obtain ⟨t, t1, t2, t3⟩ := q.mem hx
      rw [t_nat t2, c28 t t1]
      by_cases e2 : (c 28 t).toInt = (n : Int)
      · rw [if_pos e2, decide_eq_true e2, Bool.not_true, Bool.and_false]
        exact decide_eq_false (by omega)
      · rw [if_neg e2, decide_eq_false e2, Bool.not_false, Bool.and_true]
end
section
/-! ===== the simulation: the line of a block is served, both runs ===== -/
def clr (w : Nat → Int32) (ts : List Int32) : Nat → Int32 := ts.foldl (fun w t => upd w t.toNatClampNeg (-1)) w
theorem clr_s (w : Nat → Int32) (ts : List Int32) (t : Int32) : clr w (ts ++ [t]) = upd (clr w ts) t.toNatClampNeg (-1) := by
  unfold clr
  rw [List.foldl_append]
  rfl
theorem clr_out {i : Nat} : ∀ (ts : List Int32) (w : Nat → Int32), (∀ x, x ∈ ts → x.toNatClampNeg ≠ i) → clr w ts i = w i
  | [], w, _ => rfl
  | t :: ts, w, h => by
    show clr (upd w t.toNatClampNeg (-1)) ts i = w i
    rw [clr_out ts _ (fun x hx => h x (List.mem_cons_of_mem _ hx)), u_ne (Ne.symm (h t List.mem_cons_self))]
theorem clr_in {i : Nat} : ∀ (ts : List Int32) (w : Nat → Int32), (w i = -1 ∨ ∃ x, x ∈ ts ∧ x.toNatClampNeg = i) → clr w ts i = -1
  | [], w, h => by
    rcases h with h | ⟨x, h, -⟩
    · exact h
    · exact absurd h List.not_mem_nil
  | t :: ts, w, h => by
    show clr (upd w t.toNatClampNeg (-1)) ts i = -1
    refine clr_in ts _ ?_
    by_cases e : i = t.toNatClampNeg
    · exact Or.inl (by rw [e, u_at])
    · rcases h with h | ⟨x, h1, h2⟩
      · exact Or.inl (by rw [u_ne e]; exact h)
      · rcases List.mem_cons.mp h1 with h1 | h1
        · subst h1
          exact absurd h2.symm e
        · exact Or.inr ⟨x, h1, h2⟩
def ovV (w : Nat → Int32) (ts : List Int32) : Nat → Int32 := ts.foldl (fun w t => upd w (2322 + 6 * t.toNatClampNeg + 1) 0) w
theorem ovV_s (w : Nat → Int32) (ts : List Int32) (t : Int32) : ovV w (ts ++ [t]) = upd (ovV w ts) (2322 + 6 * t.toNatClampNeg + 1) 0 := by
  unfold ovV
  rw [List.foldl_append]
  rfl
theorem ovV_out {i : Nat} : ∀ (ts : List Int32) (w : Nat → Int32), (∀ x, x ∈ ts → i ≠ 2322 + 6 * x.toNatClampNeg + 1) → ovV w ts i = w i
  | [], w, _ => rfl
  | t :: ts, w, h => by
    show ovV (upd w (2322 + 6 * t.toNatClampNeg + 1) 0) ts i = w i
    rw [ovV_out ts _ (fun x hx => h x (List.mem_cons_of_mem _ hx)), u_ne (h t List.mem_cons_self)]
theorem ovV_in {i : Nat} : ∀ (ts : List Int32) (w : Nat → Int32), (w i = 0 ∨ ∃ x, x ∈ ts ∧ i = 2322 + 6 * x.toNatClampNeg + 1) → ovV w ts i = 0
  | [], w, h => by
    rcases h with h | ⟨x, h, -⟩
    · exact h
    · exact absurd h List.not_mem_nil
  | t :: ts, w, h => by
    show ovV (upd w (2322 + 6 * t.toNatClampNeg + 1) 0) ts i = 0
    refine ovV_in ts _ ?_
    by_cases e : i = 2322 + 6 * t.toNatClampNeg + 1
    · exact Or.inl (by rw [e, u_at])
    · rcases h with h | ⟨x, h1, h2⟩
      · exact Or.inl (by rw [u_ne e]; exact h)
      · rcases List.mem_cons.mp h1 with h1 | h1
        · subst h1
          exact absurd h2 e
        · exact Or.inr ⟨x, h1, h2⟩
theorem doF_u {v : Nat → Int32} {t n fr a i : Nat} {tI what x y : Int32} (h5 : i ≠ 786 + 16 * n + 5) (h8 : i ≠ 786 + 16 * n + 8) (h6 : i ≠ 6) (ht : i ≠ 2322 + 6 * t + 5) (hf : i ≠ 18 + 3 * (fr + a) + 2) : doF (upd v i y) t n fr a tI what x = upd (doF v t n fr a tI what x) i y := by
  unfold doF usF
  by_cases e2 : what = 2
  · rw [if_pos e2, if_pos e2, u_ne (Ne.symm h5), u_com h5]
  · rw [if_neg e2, if_neg e2]
    by_cases e0 : what = 0
    · rw [if_pos e0, if_pos e0, u_ne (Ne.symm h6), u_com h6, u_com h8, u_ne (Ne.symm hf), u_com ht]
    · rw [if_neg e0, if_neg e0, u_ne (Ne.symm h6), u_com h6, u_com h8, u_com hf]
theorem wrF_u {v : Nat → Int32} {N i : Nat} {a b c y : Int32} (h : i < 2422) (h4 : i ≠ 4) (h5 : i ≠ 5) : wrF (upd v i y) N a b c = upd (wrF v N a b c) i y := by
  unfold wrF
  rw [u_ne (Ne.symm h4), u_ne (Ne.symm h5), u_com (show i ≠ 2422 + 4 * (N % 60) by omega), u_com (show i ≠ 2422 + 4 * (N % 60) + 1 by omega), u_com (show i ≠ 2422 + 4 * (N % 60) + 2 by omega), u_com (show i ≠ 2422 + 4 * (N % 60) + 3 by omega), u_com h5]
theorem sv1V_u {b t y : Int32} {n fr m a i : Nat} {v : Nat → Int32} (hn : n < 96) (ht : t.toInt = m) (hm : m < 6) (ha : (v (2322 + 6 * m + 3)).toInt = a) (hf : fr + a < 256) (hi : i = 786 + 16 * n + 9 ∨ ∃ k, i = 2322 + 6 * k + 1 ∧ k < 6) : sv1V b n fr (upd v i y) t = upd (sv1V b n fr v t) i y := by
  have hb : 786 ≤ i ∧ i < 2422 ∧ i ≠ 786 + 16 * n + 5 ∧ i ≠ 786 + 16 * n + 8 ∧ i ≠ 2322 + 6 * m + 5 ∧ i ≠ 2322 + 6 * m + 2 ∧ i ≠ 2322 + 6 * m + 3 ∧ i ≠ 2322 + 6 * m + 4 := by
    rcases hi with hi | ⟨k, hi, hk⟩ <;> omega
  obtain ⟨i1, i2, i3, i4, i5, i6, i7, i8⟩ := hb
  unfold sv1V
  rw [t_nat ht, u_ne (Ne.symm i6), u_ne (Ne.symm i7), u_ne (Ne.symm i8), u_ne (show 5 ≠ i by omega), t_nat ha, doF_u i3 i4 (by omega) i5 (by omega), wrF_u i2 (by omega) (by omega)]
theorem sv1V_ov {b t : Int32} {n fr m a : Nat} (hn : n < 96) (ht : t.toInt = m) (hm : m < 6) (hf : fr + a < 256) : ∀ (ts : List Int32) (v : Nat → Int32), (∀ x, x ∈ ts → ∃ k : Nat, x.toInt = k ∧ k < 6) → (v (2322 + 6 * m + 3)).toInt = a → sv1V b n fr (ovV v ts) t = ovV (sv1V b n fr v t) ts
  | [], v, _, _ => rfl
  | x :: ts, v, h, ha => by
    obtain ⟨k, k1, k2⟩ := h x List.mem_cons_self
    show sv1V b n fr (ovV (upd v (2322 + 6 * x.toNatClampNeg + 1) 0) ts) t = ovV (upd (sv1V b n fr v t) (2322 + 6 * x.toNatClampNeg + 1) 0) ts
    rw [t_nat k1, sv1V_ov hn ht hm hf ts _ (fun x hx => h x (List.mem_cons_of_mem _ hx)) (by rw [u_ne (by omega)]; exact ha), sv1V_u hn ht hm ha hf (Or.inr ⟨k, rfl, k2⟩)]
/-- the row when the list ts has been served, of the line of block n -/
def wkF (b : Int32) (n fr : Nat) (v : Nat → Int32) (ts : List Int32) : Nat → Int32 := ovV (upd (svV b n fr v ts) (786 + 16 * n + 9) 0) ts
theorem l_wakes2 {g : Prop} {N n fr L : Nat} {c : sm_S} {v : Nat → Int32} {b a2 : Int32} (h : tie g N c v) (hN : N + L < 2000000000) (hn : n < 96) (hb : b.toInt = n) (h2 : a2.toInt = L) (hL : L ≤ 6) (h0 : v (786 + 16 * n + 0) = 1) (hfr : (v (786 + 16 * n + 1)).toInt = fr) (hs : ∀ t, t ∈ lnV v n L → srvd c fr t) : ∀ (d k : Nat) (a3 : Int32) (v4 v5 : Value) (σ : sm_S), a3.toInt = k → k + d = L → σ 1 = wkF b n fr v (lnV v n k) → xE xM m_M_wakes 18 [.ref 0, .int b, .int a2, .int a3, v4, v5] [] σ (sm_V (fun σ' => σ' = sm_set σ 1 (wkF b n fr v (lnV v n L)))) := by
  have pre : ∀ k, k ≤ L → ∀ t, t ∈ lnV v n k → t ∈ lnV v n L := fun k hk t ht => by
    unfold lnV at ht ⊢
    obtain ⟨j, j1, j2⟩ := List.mem_map.mp ht
    exact List.mem_map.mpr ⟨j, List.mem_range.mpr (by have := List.mem_range.mp j1; omega), j2⟩
  intro d
  induction d with
  | zero =>
    intro k a3 v4 v5 σ h3 hk hσ
    have hk : k = L := by omega
    subst hk
    refine w_M_wakes_18 b a2 a3 v4 v5 σ _ ⟨fun _ => ⟨rfl, ?_⟩, fun q => absurd (by rw [t_le, h2, h3]; omega) q⟩
    rw [← hσ, s_id]
  | succ d ih =>
    intro k a3 v4 v5 σ h3 hk hσ
    have h3' : (a3 + 1).toInt = ((k + 1 : Nat) : Int) := by
      rw [t_add h3 (y := 1) rfl (by omega) (by omega)]
      omega
    have h10 : (10 + a3).toInt = ((10 + k : Nat) : Int) := by
      rw [t_add (x := 10) rfl h3 (by omega) (by omega)]
      omega
    have lk := lnV_len v n k
    obtain ⟨tk, fk⟩ := tie_sv (b := b) hn (lnV v n k) N c v h (by omega) h0 (fun t ht => hs t (pre k (by omega) t ht))
    have mem : v (786 + 16 * n + (10 + k)) ∈ lnV v n L := by
      unfold lnV
      exact List.mem_map.mpr ⟨k, List.mem_range.mpr (by omega), rfl⟩
    obtain ⟨m, a, hm, htm, hw, ha, hfa⟩ := hs _ mem
    have nov : ∀ i, (∀ q, q < 6 → i ≠ 2322 + 6 * q + 1) → i ≠ 786 + 16 * n + 9 → wkF b n fr v (lnV v n k) i = svV b n fr v (lnV v n k) i := fun i h1 h2 => by
      unfold wkF
      rw [ovV_out _ _ (fun x hx => ?_), u_ne h2]
      obtain ⟨m2, a2, q1, q2, -⟩ := hs x (pre k (by omega) x hx)
      rw [t_nat q2]
      exact h1 m2 q1
    have fxB : ∀ j, j < 16 → j ≠ 5 → j ≠ 8 → j ≠ 9 → wkF b n fr v (lnV v n k) (786 + 16 * n + j) = v (786 + 16 * n + j) := fun j j1 j2 j3 j4 => by
      rw [nov _ (fun q hq => by omega) (by omega)]
      exact fk _ (Or.inr (Or.inr (Or.inl ⟨n, j, hn, j1, j2, j3, rfl⟩)))
    have fxT : ∀ j, 2 ≤ j → j < 5 → svV b n fr v (lnV v n k) (2322 + 6 * m + j) = v (2322 + 6 * m + j) := fun j j1 j2 => fk _ (Or.inr (Or.inr (Or.inr (Or.inl ⟨m, j, hm, by omega, rfl⟩))))
    have T := h.s.T m hm
    have at3 : (v (2322 + 6 * m + 3)).toInt = a := by rw [T.wat hw]; exact ha
    refine w_M_wakes_18 b a2 a3 v4 v5 σ _ ⟨fun q => ?_, fun _ => (c_of hb h10 (by omega) σ).int ?_⟩
    · rw [t_le, h2, h3] at q
      omega
    · rintro _ σ ⟨rfl, rfl⟩
      rw [hσ, fxB (10 + k) (by omega) (by omega) (by omega) (by omega)]
      refine (c_taskAt _ σ).int ?_
      rintro _ σ ⟨rfl, rfl⟩
      obtain ⟨p1, q1⟩ := ixT (k := 1) (j := 1) htm rfl (by omega)
      obtain ⟨p2, q2⟩ := ixT (k := 2) (j := 2) htm rfl (by omega)
      obtain ⟨p3, q3⟩ := ixT (k := 3) (j := 3) htm rfl (by omega)
      obtain ⟨p4, q4⟩ := ixT (k := 4) (j := 4) htm rfl (by omega)
      refine ⟨p1, fun σ5 e5 => ?_⟩
      have tsn : lnV v n (k + 1) = lnV v n k ++ [v (786 + 16 * n + (10 + k))] := lnV_s v n k
      have row : upd (wkF b n fr v (lnV v n k)) (2322 + 6 * m + 1) 0 = ovV (upd (svV b n fr v (lnV v n k)) (786 + 16 * n + 9) 0) (lnV v n (k + 1)) := by
        rw [tsn, ovV_s, t_nat htm]
        rfl
      rw [q1, hσ, row] at e5
      have xs : ∀ x, x ∈ lnV v n (k + 1) → ∃ q : Nat, x.toInt = q ∧ q < 6 := fun x hx => by
        obtain ⟨m2, -, r1, r2, -⟩ := hs x (pre (k + 1) (by omega) x hx)
        exact ⟨m2, r2, r1⟩
      have out : ∀ i, (∀ q, q < 6 → i ≠ 2322 + 6 * q + 1) → i ≠ 786 + 16 * n + 9 → σ5 1 i = svV b n fr v (lnV v n k) i := fun i h1 h2 => by
        rw [e5, s_at, ovV_out _ _ (fun x hx => ?_), u_ne h2]
        obtain ⟨q, r1, r2⟩ := xs x hx
        rw [t_nat r1]
        exact h1 q r2
      rw [q2, q3, q4]
      refine ⟨p2, p3, p4, ?_⟩
      have o3 : σ5 1 (2322 + 6 * m + 3) = v (2322 + 6 * m + 3) := by rw [out _ (fun q hq => by omega) (by omega), fxT 3 (by omega) (by omega)]
      have o5 : σ5 1 5 = svV b n fr v (lnV v n k) 5 := out _ (fun q hq => by omega) (by omega)
      have s5 : (σ5 1 5).toInt = ((N + k : Nat) : Int) := by
        rw [o5, tk.n, lk]
      refine (c_does2 htm hm hb hn (a := a) (by rw [o3]; exact at3) _ _ σ5 (fr := fr) ?_ hfa).void ?_
      · rw [out _ (fun q hq => by omega) (by omega), fk _ (Or.inr (Or.inr (Or.inl ⟨n, 1, hn, by decide, by decide, by decide, rfl⟩)))]
        exact hfr
      · rintro _ rfl
        refine (c_writes2 (n := N + k) 8 _ b _ ?_).void ?_
        · rw [s_at, doF_o hn hm hfa (Or.inr (Or.inl rfl))]
          exact s5
        · rintro _ rfl
          have key : wrF (doF (σ5 1) m n fr a (v (786 + 16 * n + (10 + k))) (σ5 1 (2322 + 6 * m + 2)) (σ5 1 (2322 + 6 * m + 4))) (N + k) 8 (v (786 + 16 * n + (10 + k))) b = wkF b n fr v (lnV v n (k + 1)) := by
            have e1 : wrF (doF (σ5 1) m n fr a (v (786 + 16 * n + (10 + k))) (σ5 1 (2322 + 6 * m + 2)) (σ5 1 (2322 + 6 * m + 4))) (N + k) 8 (v (786 + 16 * n + (10 + k))) b = sv1V b n fr (σ5 1) (v (786 + 16 * n + (10 + k))) := by
              unfold sv1V
              rw [t_nat htm, o3, t_nat at3, t_nat s5]
            rw [e1, e5, s_at, sv1V_ov hn htm hm hfa _ _ xs (by rw [u_ne (by omega), fxT 3 (by omega) (by omega)]; exact at3), sv1V_u hn htm hm (a := a) (by rw [fxT 3 (by omega) (by omega)]; exact at3) hfa (Or.inl rfl), ← svV_s, ← tsn]
            rfl
          have := ih (k + 1) (a3 + 1) (.int (v (786 + 16 * n + (10 + k)))) (.int (2322 + 6 * v (786 + 16 * n + (10 + k)))) (sm_set σ 1 (wkF b n fr v (lnV v n (k + 1)))) h3' (by omega) s_at
          rw [s_ss] at this
          rw [s_at, s_ss, key, e5, s_ss]
          exact this
theorem r_wakes {g : Prop} {N n fr L : Nat} {c : sm_S} {v : Nat → Int32} {b : Int32} (h : tie g N c v) (hN : N + L < 2000000000) (hn : n < 96) (hb : b.toInt = n) (h9 : (v (786 + 16 * n + 9)).toInt = L) (hL : L ≤ 6) (h0 : v (786 + 16 * n + 0) = 1) (hfr : (v (786 + 16 * n + 1)).toInt = fr) (hs : ∀ t, t ∈ lnV v n L → srvd c fr t) : rd j_M_wakes [.ref 0, .int b] v (wkF b n fr v (lnV v n L)) := fun σ e => by
  refine w_M_wakes b σ _ ((c_of (k := 9) (j := 9) hb rfl (by omega) σ).int ?_)
  rintro _ σ ⟨rfl, rfl⟩
  rw [e]
  refine (c_lay (k := 9) (j := 9) hb rfl (by omega) 0 σ).void ?_
  rintro _ rfl
  have := l_wakes2 h hN hn hb (a2 := v (786 + 16 * n + 9)) h9 hL h0 hfr hs L 0 0 .null .null (sm_set σ 1 (upd (σ 1) (786 + 16 * n + 9) 0)) rfl (by omega) (by rw [s_at, e]; rfl)
  rw [s_ss] at this
  exact this
end
section
/-! ===== the simulation: the class serves its line ===== -/
theorem sv1C_s {b t : Int32} {n fr k : Nat} {c : sm_S} {w : Nat → Int32} (h : k = 26 ∨ k = 28 ∨ k = 33) : sv1C b n fr (sm_set c k w) t = sm_set (sv1C b n fr c t) k w := by
  unfold sv1C
  rw [s_ne (show 30 ≠ k by omega), s_ne (show 31 ≠ k by omega), s_ne (show 32 ≠ k by omega), s_ne (show 34 ≠ k by omega), s_ne (show 0 ≠ k by omega), doC_s (by omega), laC_s (by omega)]
theorem ln_nod {c : sm_S} {v : Nat → Int32} {L k : Nat} (q : sQ c v L) (hk : k < L) : ∀ x, x ∈ lnC c k → x.toNatClampNeg ≠ (c 33 k).toNatClampNeg := fun x hx z => by
  obtain ⟨j, j1, j2⟩ := lnC_mem hx
  obtain ⟨t1, g1, g2, -⟩ := q.tsk j (by omega)
  obtain ⟨t2, f1, f2, -⟩ := q.tsk k hk
  rw [← j2, t_nat g2, t_nat f2] at z
  have e : c 33 j = c 33 k := t_inj (by rw [g2, f2, z])
  have nd := q.nod
  unfold lnC at nd
  have := (List.nodup_iff_pairwise_ne.mp nd)
  rw [List.pairwise_iff_getElem] at this
  have u := this j k (by rw [List.length_map, List.length_range]; omega) (by rw [List.length_map, List.length_range]; omega) j1
  rw [List.getElem_map, List.getElem_map, List.getElem_range, List.getElem_range] at u
  exact u e
theorem kl_la {c : sm_S} {n : Nat} {a1 a2 a3 a4 : Int32} (hn : n < 60) : kl (laC c n a1 a2 a3 a4) := by
  have e : laC c n a1 a2 a3 a4 34 5 = if n + 1 < 60 then nI (n + 1) else 0 := rfl
  unfold kl
  rw [e]
  by_cases z : n + 1 < 60
  · rw [if_pos z]
    exact ⟨n + 1, z, nI_toInt (by omega)⟩
  · rw [if_neg z]
    exact ⟨0, by decide, rfl⟩
theorem l_serve2 {n fr L : Nat} {c : sm_S} {v : Nat → Int32} {b : Int32} (q : sQ c v L) (hn : n < 96) (hb : b.toInt = n) (hfr : (c 9 n).toInt = fr) (hkl : ∀ ts, kl (svC b n fr c ts)) (hs : ∀ t, t ∈ (lnC c L).filter (fun t => decide ((c 28 t.toNatClampNeg).toInt = n)) → srvd c fr t) : ∀ (d k l : Nat) (a2 a3 : Int32) (v4 : Value) (X : Nat → Int32), a3.toInt = k → k + d = L → a2.toInt = l → l ≤ k → (List.range l).map X = (lnC c k).filter (fun t => !decide ((c 28 t.toNatClampNeg).toInt = n)) → (∀ j, k ≤ j → X j = c 33 j) → xE xD m_Y_serveLine 4 [.ref 0, .int b, .int a2, .int a3, v4] [] (sm_set (sm_set (svC b n fr c ((lnC c k).filter (fun t => decide ((c 28 t.toNatClampNeg).toInt = n)))) 28 (clr (c 28) ((lnC c k).filter (fun t => decide ((c 28 t.toNatClampNeg).toInt = n))))) 33 X) (sm_V (fun σ' => ∃ (X' : Nat → Int32) (l' : Nat) (y : Int32), l' ≤ L ∧ y.toInt = l' ∧ σ' = sm_set (sm_set (sm_set (svC b n fr c ((lnC c L).filter (fun t => decide ((c 28 t.toNatClampNeg).toInt = n)))) 28 (clr (c 28) ((lnC c L).filter (fun t => decide ((c 28 t.toNatClampNeg).toInt = n))))) 33 X') 26 (upd (c 26) 7 y) ∧ (List.range l').map X' = (lnC c L).filter (fun t => !decide ((c 28 t.toNatClampNeg).toInt = n)))) := by
  intro d
  induction d with
  | zero =>
    intro k l a2 a3 v4 X h3 hk h2 hl hX hX2
    have hk : k = L := by omega
    subst hk
    have c26 : svC b n fr c ((lnC c k).filter (fun t => decide ((c 28 t.toNatClampNeg).toInt = n))) 26 = c 26 := svC_o (by omega) _ _
    refine d_Y_serveLine_4 b a2 a3 v4 _ _ ⟨fun _ σ1 e1 => ⟨rfl, X, l, a2, hl, h2, ?_, hX⟩, fun z => ?_⟩
    · rw [e1, s_ne (show 26 ≠ 33 by decide), s_ne (show 26 ≠ 28 by decide), c26]
    · rw [s_ne (show 26 ≠ 33 by decide), s_ne (show 26 ≠ 28 by decide), c26, t_le, q.len, h3] at z
      omega
  | succ d ih =>
    intro k l a2 a3 v4 X h3 hk h2 hl hX hX2
    have h6 := q.le6
    have c26 : svC b n fr c ((lnC c k).filter (fun t => decide ((c 28 t.toNatClampNeg).toInt = n))) 26 = c 26 := svC_o (by omega) _ _
    have h3' : (a3 + 1).toInt = ((k + 1 : Nat) : Int) := by
      rw [t_add h3 (y := 1) rfl (by omega) (by omega)]
      omega
    have h2' : (a2 + 1).toInt = ((l + 1 : Nat) : Int) := by
      rw [t_add h2 (y := 1) rfl (by omega) (by omega)]
      omega
    obtain ⟨t, ht6, ht, hw⟩ := q.tsk k (by omega)
    have Xk := hX2 k (Nat.le_refl k)
    have hnod := ln_nod q (show k < L by omega)
    have wk : clr (c 28) ((lnC c k).filter (fun t => decide ((c 28 t.toNatClampNeg).toInt = n))) t = c 28 t := clr_out _ _ (fun x hx => by
      have := hnod x (List.mem_filter.mp hx).1
      rw [t_nat ht] at this
      exact this)
    refine d_Y_serveLine_4 b a2 a3 v4 _ _ ⟨fun z => ?_, fun _ => ?_⟩
    · rw [s_ne (show 26 ≠ 33 by decide), s_ne (show 26 ≠ 28 by decide), c26, t_le, q.len, h3] at z
      omega
    · rw [t_nat h3, s_at, Xk, t_nat ht, s_ne (show 28 ≠ 33 by decide), s_at, wk, t_nat h2]
      refine ⟨t_vp h3 (by omega), t_vp ht ht6, fun z => ⟨t_vp h2 (by omega), fun σ2 e2 => ?_⟩, fun z => ?_⟩
      · have dn : decide ((c 28 (c 33 k).toNatClampNeg).toInt = (n : Int)) = false := by
          rw [t_nat ht]
          exact decide_eq_false (fun y => z (t_inj (by rw [y, hb])))
        have f1 : (lnC c (k + 1)).filter (fun t => decide ((c 28 t.toNatClampNeg).toInt = (n : Int))) = (lnC c k).filter (fun t => decide ((c 28 t.toNatClampNeg).toInt = (n : Int))) := by
          rw [lnC_s, List.filter_append, List.filter_cons, dn]
          exact List.append_nil _
        have f2 : (lnC c (k + 1)).filter (fun t => !decide ((c 28 t.toNatClampNeg).toInt = (n : Int))) = (lnC c k).filter (fun t => !decide ((c 28 t.toNatClampNeg).toInt = (n : Int))) ++ [c 33 k] := by
          rw [lnC_s, List.filter_append, List.filter_cons, dn]
          rfl
        have := ih (k + 1) (l + 1) (a2 + 1) (a3 + 1) (.int (c 33 k)) (upd X l (c 33 k)) h3' (by omega) h2' (by omega) (by
          rw [f2, ← hX, List.range_succ, List.map_append]
          congr 1
          · refine List.map_congr_left (fun x hx => ?_)
            have := List.mem_range.mp hx
            rw [u_ne (by omega)]
          · show [upd X l (c 33 k) l] = [c 33 k]
            rw [u_at]) (fun j hj => by rw [u_ne (by omega)]; exact hX2 j (by omega))
        rw [f1] at this
        rw [e2, s_ss]
        exact this
      · have z : c 28 t = b := Classical.not_not.mp z
        have dn : decide ((c 28 (c 33 k).toNatClampNeg).toInt = (n : Int)) = true := by
          rw [t_nat ht]
          exact decide_eq_true (by rw [z]; exact hb)
        have f1 : (lnC c (k + 1)).filter (fun t => decide ((c 28 t.toNatClampNeg).toInt = (n : Int))) = (lnC c k).filter (fun t => decide ((c 28 t.toNatClampNeg).toInt = (n : Int))) ++ [c 33 k] := by
          rw [lnC_s, List.filter_append, List.filter_cons, dn]
          rfl
        have f2 : (lnC c (k + 1)).filter (fun t => !decide ((c 28 t.toNatClampNeg).toInt = (n : Int))) = (lnC c k).filter (fun t => !decide ((c 28 t.toNatClampNeg).toInt = (n : Int))) := by
          rw [lnC_s, List.filter_append, List.filter_cons, dn]
          exact List.append_nil _
        have mem : c 33 k ∈ (lnC c L).filter (fun t => decide ((c 28 t.toNatClampNeg).toInt = (n : Int))) := List.mem_filter.mpr ⟨lnC_in (by omega), dn⟩
        obtain ⟨m, a, hm, hm2, -, ha, hfa⟩ := hs _ mem
        have emt : m = t := by omega
        subst emt
        have so : ∀ j, ((j ≠ 7 ∧ j ≠ 8 ∧ j ≠ 13 ∧ j ≠ 16 ∧ j ≠ 29) ∧ (j < 34 ∨ 38 < j)) ∧ j ≠ 28 ∧ j ≠ 33 → sm_set (sm_set (svC b n fr c ((lnC c k).filter (fun t => decide ((c 28 t.toNatClampNeg).toInt = (n : Int))))) 28 (clr (c 28) ((lnC c k).filter (fun t => decide ((c 28 t.toNatClampNeg).toInt = (n : Int)))))) 33 X j = c j := fun j hj => by
          rw [s_ne hj.2.2, s_ne hj.2.1, svC_o hj.1]
        refine (e_fulfil2 ht ht6 hb hn (a := a) (fr := fr) _ (fun _ => ?_)).void ?_
        · rw [so 31 (by omega), so 9 (by omega)]
          exact ⟨ha, hfr, hfa⟩
        · rintro _ rfl
          rw [so 30 (by omega), so 32 (by omega)]
          refine ⟨t_vp ht ht6, fun σ4 e4 => ?_⟩
          obtain ⟨nl, hl1, hl2⟩ := hkl ((lnC c k).filter (fun t => decide ((c 28 t.toNatClampNeg).toInt = (n : Int))))
          rw [doC_s (by omega), doC_s (by omega), s_ne (show 28 ≠ 33 by decide), s_at, s_com (show 33 ≠ 28 by decide), s_ss] at e4
          have o34 : σ4 34 = svC b n fr c ((lnC c k).filter (fun t => decide ((c 28 t.toNatClampNeg).toInt = (n : Int)))) 34 := by
            rw [e4, s_ne (show 34 ≠ 33 by decide), s_ne (show 34 ≠ 28 by decide), doC_o (by omega)]
          have o0 : σ4 0 = svC b n fr c ((lnC c k).filter (fun t => decide ((c 28 t.toNatClampNeg).toInt = (n : Int)))) 0 := by
            rw [e4, s_ne (show 0 ≠ 33 by decide), s_ne (show 0 ≠ 28 by decide), doC_o (by omega)]
          refine (e_add2 _ _ _ _ σ4 (n := nl) (by rw [o34]; exact hl2) hl1).void ?_
          rintro _ rfl
          have key : laC σ4 nl (σ4 0 7) 8 (c 33 k) b = sm_set (sm_set (svC b n fr c ((lnC c (k + 1)).filter (fun t => decide ((c 28 t.toNatClampNeg).toInt = (n : Int))))) 28 (clr (c 28) ((lnC c (k + 1)).filter (fun t => decide ((c 28 t.toNatClampNeg).toInt = (n : Int)))))) 33 X := by
            rw [f1, svC_s, clr_s, t_nat ht, o0, e4, laC_s (by omega), laC_s (by omega)]
            unfold sv1C
            rw [t_nat ht, svC_o (k := 31) (by omega), svC_o (k := 30) (by omega), svC_o (k := 32) (by omega), t_nat ha, t_nat hl2]
          rw [key]
          exact ih (k + 1) l a2 (a3 + 1) (.int (c 33 k)) X h3' (by omega) h2 (by omega) (by rw [f2]; exact hX) (fun j hj => hX2 j (by omega))
/-- serveLine | wakes -/
theorem p_serve {g : Prop} {N n fr L : Nat} {c : sm_S} {v : Nat → Int32} {b : Int32} (h : tie g N c v) (hN : N + 6 < 2000000000) (hn : n < 96) (hb : b.toInt = n) (h9 : (v (786 + 16 * n + 9)).toInt = L) (h0 : v (786 + 16 * n + 0) = 1) (hfr : (v (786 + 16 * n + 1)).toInt = fr) (hs : ∀ t, t ∈ lnV v n L → ∃ m a : Nat, m < 6 ∧ t.toInt = m ∧ (v (2322 + 6 * m + 3)).toInt = a ∧ fr + a < 256) : ∃ v' c', rd j_M_wakes [.ref 0, .int b] v v' ∧ xC xD j_Y_serveLine [.ref 0, .int b] c (sm_V (fun σ' => σ' = c')) ∧ tie g (N + L) c' v' ∧ L ≤ 6 ∧ (∀ i, vfx i → i < 786 ∨ 2358 ≤ i → v' i = v i) ∧ (∀ m k, m < 96 → k < 9 → k ≠ 5 → k ≠ 8 → v' (786 + 16 * m + k) = v (786 + 16 * m + k)) := by
  obtain ⟨L0, q⟩ := h.s.Q
  obtain ⟨hm1, hm2⟩ := q.m_le hn h9
  have h6 := q.le6
  have hs2 : ∀ t, t ∈ lnV v n L → srvd c fr t := fun t ht => by
    obtain ⟨m, a, r1, r2, r3, r4⟩ := hs t ht
    rw [hm2] at ht
    obtain ⟨k, k1, k2⟩ := lnC_mem (List.mem_filter.mp ht).1
    obtain ⟨t2, g1, g2, g3⟩ := q.tsk k k1
    rw [k2] at g2
    have e : t2 = m := by omega
    subst e
    exact ⟨t2, a, r1, r2, g3, by rw [← (h.s.T t2 g1).wat g3]; exact r3, r4⟩
  obtain ⟨tt, fx⟩ := tie_sv (b := b) hn (lnV v n L) N c v h (by rw [lnV_len]; omega) h0 hs2
  rw [lnV_len] at tt
  have c9 : (c 9 n).toInt = fr := by
    rcases h.s.B n hn with ⟨-, z⟩ | ⟨-, -, z⟩
    · rw [z] at h0; exact absurd h0 (by decide)
    · rw [← z.fir]; exact hfr
  have hkl : ∀ ts, kl (svC b n fr c ts) := fun ts => by
    have aux : ∀ (ts : List Int32) (c : sm_S), kl c → kl (svC b n fr c ts) := fun ts => by
      induction ts with
      | nil => exact fun c hc => hc
      | cons t ts ih =>
        intro c hc
        refine ih _ ?_
        obtain ⟨nl, l1, l2⟩ := hc
        unfold sv1C
        rw [t_nat l2]
        exact kl_la l1
    exact aux ts c h.k
  have ls := l_serve2 q hn hb c9 hkl (fun t ht => hs2 t (by rw [hm2]; exact ht)) L0 0 0 0 0 .null (c 33) rfl (by omega) rfl (Nat.le_refl 0) rfl (fun _ _ => rfl)
  have start : sm_set (sm_set (svC b n fr c ((lnC c 0).filter (fun t => decide ((c 28 t.toNatClampNeg).toInt = (n : Int))))) 28 (clr (c 28) ((lnC c 0).filter (fun t => decide ((c 28 t.toNatClampNeg).toInt = (n : Int)))))) 33 (c 33) = c := by
    show sm_set (sm_set c 28 (c 28)) 33 (c 33) = c
    rw [s_id, s_id]
  rw [start, ← hm2] at ls
  obtain ⟨nf, r, σ', run, hr, X', l', y, hl', hy, rfl, hX'⟩ := ls
  refine ⟨_, _, r_wakes h (by omega) hn hb h9 (by omega) h0 hfr hs2, d_Y_serveLine b c _ ⟨nf, r, _, run, hr, rfl⟩, ?_, by omega, fun i hi h2 => ?_, fun m k h1 h2 h3 h4 => ?_⟩
  · have xs : ∀ x, x ∈ lnV v n L → ∃ k : Nat, x.toInt = k ∧ k < 6 := fun x hx => by
      obtain ⟨m, -, r1, r2, -⟩ := hs2 x hx
      exact ⟨m, r2, r1⟩
    have vo : ∀ i, (∀ k, k < 6 → i ≠ 2322 + 6 * k + 1) → i ≠ 786 + 16 * n + 9 → wkF b n fr v (lnV v n L) i = svV b n fr v (lnV v n L) i := fun i h1 h2 => by
      unfold wkF
      rw [ovV_out _ _ (fun x hx => ?_), u_ne h2]
      obtain ⟨k, k1, k2⟩ := xs x hx
      rw [t_nat k1]
      exact h1 k k2
    have co : ∀ k, k ≠ 26 → k ≠ 28 → k ≠ 33 → sm_set (sm_set (sm_set (svC b n fr c (lnV v n L)) 28 (clr (c 28) (lnV v n L))) 33 X') 26 (upd (c 26) 7 y) k = svC b n fr c (lnV v n L) k := fun k h1 h2 h3 => by
      rw [s_ne h1, s_ne h3, s_ne h2]
    have k28 : sm_set (sm_set (sm_set (svC b n fr c (lnV v n L)) 28 (clr (c 28) (lnV v n L))) 33 X') 26 (upd (c 26) 7 y) 28 = clr (c 28) (lnV v n L) := rfl
    have k26 : sm_set (sm_set (sm_set (svC b n fr c (lnV v n L)) 28 (clr (c 28) (lnV v n L))) 33 X') 26 (upd (c 26) 7 y) 26 7 = y := rfl
    have k33 : sm_set (sm_set (sm_set (svC b n fr c (lnV v n L)) 28 (clr (c 28) (lnV v n L))) 33 X') 26 (upd (c 26) 7 y) 33 = X' := rfl
    have d28 : svC b n fr c (lnV v n L) 28 = c 28 := svC_o (by omega) _ _
    have d33 : svC b n fr c (lnV v n L) 33 = c 33 := svC_o (by omega) _ _
    have w28 : ∀ t, t < 6 → clr (c 28) (lnV v n L) t = if (c 28 t).toInt = (n : Int) then -1 else c 28 t := fun t ht => by
      by_cases e : (c 28 t).toInt = (n : Int)
      · rw [if_pos e]
        obtain ⟨k, k1, k2⟩ := q.all t ht (ne_m1 e)
        refine clr_in _ _ (Or.inr ⟨c 33 k, ?_, t_nat k2⟩)
        rw [hm2]
        refine List.mem_filter.mpr ⟨lnC_in k1, ?_⟩
        rw [t_nat k2]
        exact decide_eq_true e
      · rw [if_neg e]
        refine clr_out _ _ (fun x hx z => ?_)
        rw [hm2] at hx
        have := of_decide_eq_true (List.mem_filter.mp hx).2
        rw [z] at this
        exact e this
    obtain ⟨Ls, qs⟩ := tt.s.Q
    have eL : Ls = L0 := by
      have a := qs.len
      rw [svC_o (by omega)] at a
      have := q.len
      omega
    subst eL
    have bk : ∀ b', b' < 96 → bk_ok (wkF b n fr v (lnV v n L)) b' := fun b' hb' => by
      obtain ⟨o1, f1, z1, z2, z3, z4, z5, z6, z7, z8⟩ := tt.b b' hb'
      refine ⟨o1, f1, ?_, z2, ?_, z4, z5, ?_, ?_, ?_⟩ <;> rw [vo _ (fun k hk => by omega) (by omega)] <;> assumption
    refine tt.to (tt.s.tq tt.b (fun t ht => ?_) ⟨l', sQ_srv qs (n := n) (by rw [k26]; exact hy) (fun t ht => by rw [k28, w28 t ht, d28]) ?_ ?_ (fun b' k h1 h2 h3 h4 => vo _ (fun k hk => by omega) (by omega))⟩ (fun k hk => co k (by omega) (by omega) (by omega)) (fun i hi => vo i (fun k hk => by omega) (by omega)) (fun b' k h1 h2 => vo _ (fun k hk => by omega) (by omega))) (fun k h1 h2 => co k (by omega) (by omega) (by omega)) (vo 5 (fun k hk => by omega) (by omega)) (fun i hi => vo i (fun k hk => by omega) (by omega)) bk
    · have g := tt.s.T t ht
      have g2 := h.s.T t ht
      have fT : ∀ j, j < 5 → svV b n fr v (lnV v n L) (2322 + 6 * t + j) = v (2322 + 6 * t + j) := fun j hj => fx _ (Or.inr (Or.inr (Or.inr (Or.inl ⟨t, j, ht, hj, rfl⟩))))
      refine ⟨?_, ?_, ?_, fun z => ?_, fun z => ?_, fun z => ?_⟩
      · rw [vo _ (fun k hk => by omega) (by omega), co 27 (by decide) (by decide) (by decide)]; exact g.hom
      · rw [k28, w28 t ht]
        by_cases e : (c 28 t).toInt = (n : Int)
        · rw [if_pos e]
          obtain ⟨k, k1, k2⟩ := q.all t ht (ne_m1 e)
          have : wkF b n fr v (lnV v n L) (2322 + 6 * t + 1) = 0 := ovV_in _ _ (Or.inr ⟨c 33 k, by
            rw [hm2]
            refine List.mem_filter.mpr ⟨lnC_in k1, ?_⟩
            rw [t_nat k2]
            exact decide_eq_true e, by rw [t_nat k2]⟩)
          rw [this]
          rfl
        · rw [if_neg e]
          have : wkF b n fr v (lnV v n L) (2322 + 6 * t + 1) = svV b n fr v (lnV v n L) (2322 + 6 * t + 1) := by
            unfold wkF
            rw [ovV_out _ _ (fun x hx z => ?_), u_ne (by omega)]
            rw [hm2] at hx
            have := of_decide_eq_true (List.mem_filter.mp hx).2
            have ex : x.toNatClampNeg = t := by omega
            rw [ex] at this
            exact e this
          rw [this, fT 1 (by decide)]
          exact g2.wai
      · rw [vo _ (fun k hk => by omega) (by omega), co 29 (by decide) (by decide) (by decide)]; exact g.rea
      all_goals
        rw [k28, w28 t ht] at z
        have z2 : c 28 t ≠ -1 := fun y => by
          rw [y] at z
          rw [if_neg (show ¬ (-1 : Int32).toInt = (n : Int) from fun w => by have w : (-1 : Int) = n := w; omega)] at z
          exact z rfl
      · rw [vo _ (fun k hk => by omega) (by omega), co 30 (by decide) (by decide) (by decide)]; exact g.wis (by rw [d28]; exact z2)
      · rw [vo _ (fun k hk => by omega) (by omega), co 31 (by decide) (by decide) (by decide)]; exact g.wat (by rw [d28]; exact z2)
      · rw [vo _ (fun k hk => by omega) (by omega), co 32 (by decide) (by decide) (by decide)]; exact g.wva (by rw [d28]; exact z2)
    · rw [lnC_cg (c := c) (c' := svC b n fr c (lnV v n L)) (fun k _ => by rw [d33]), d28, ← hX']
      unfold lnC
      rw [k33]
    · unfold wkF
      exact (ovV_out _ _ (fun x hx => by obtain ⟨k, k1, k2⟩ := xs x hx; rw [t_nat k1]; omega)).trans u_at
  · unfold wkF
    rw [ovV_out _ _ (fun x hx => ?_), u_ne (by omega), fx i hi]
    obtain ⟨m, -, r1, r2, -⟩ := hs2 x hx
    rw [t_nat r2]
    omega
  · unfold wkF
    rw [ovV_out _ _ (fun x hx => ?_), u_ne (by omega), fx _ (Or.inr (Or.inr (Or.inl ⟨m, k, h1, by omega, h3, h4, rfl⟩)))]
    obtain ⟨m2, -, r1, r2, -⟩ := hs2 x hx
    rw [t_nat r2]
    omega
end
section
/-! ===== the simulation: whose the frames are, when blocks C and frames D change; what was held is let go ===== -/
theorem own.re {v v' : Nat → Int32} (C D : Nat → Prop) (g : own v) (hk : ∀ b, b < 96 → bk_ok v b) (eb : ∀ b k, b < 96 → ¬ C b → (k = 0 ∨ k = 1 ∨ k = 2 ∨ k = 3 ∨ k = 6) → v' (786 + 16 * b + k) = v (786 + 16 * b + k))
    (eo : ∀ f, f < 256 → ¬ D f → v' (18 + 3 * f) = v (18 + 3 * f) ∧ v' (18 + 3 * f + 1) = v (18 + 3 * f + 1))
    (ed : ∀ f, f < 256 → D f → (v (18 + 3 * f) ≠ 3 ∧ v (18 + 3 * f) ≠ 4) ∨ ∃ b, b < 96 ∧ C b ∧ (v (18 + 3 * f + 1)).toInt = ((b + 1 : Nat) : Int))
    (hs' : ∀ b fr o : Nat, b < 96 → C b → v' (786 + 16 * b + 0) = 1 → (v' (786 + 16 * b + 1)).toInt = fr → (v' (786 + 16 * b + 2)).toInt = o → ∀ j, j < 2 ^ o → v' (18 + 3 * (fr + j)) = 3 ∧ (v' (18 + 3 * (fr + j) + 1)).toInt = ((b + 1 : Nat) : Int))
    (hd' : ∀ b t o : Nat, b < 96 → C b → v' (786 + 16 * b + 0) = 1 → (v' (786 + 16 * b + 6)).toInt = ((t + 1 : Nat) : Int) → (v' (786 + 16 * b + 2)).toInt = o → v' (786 + 16 * b + 3) = 0 ∧ ∀ j, j < 2 ^ o → v' (18 + 3 * (t + j)) = 4 ∧ (v' (18 + 3 * (t + j) + 1)).toInt = ((b + 1 : Nat) : Int))
    (tk' : ∀ f b, f < 256 → b < 96 → C b → v' (18 + 3 * f) = 3 → (v' (18 + 3 * f + 1)).toInt = ((b + 1 : Nat) : Int) → v' (786 + 16 * b + 0) = 1 ∧ ∃ fr o : Nat, (v' (786 + 16 * b + 1)).toInt = fr ∧ (v' (786 + 16 * b + 2)).toInt = o ∧ fr ≤ f ∧ f < fr + 2 ^ o)
    (hl' : ∀ f b, f < 256 → b < 96 → C b → v' (18 + 3 * f) = 4 → (v' (18 + 3 * f + 1)).toInt = ((b + 1 : Nat) : Int) → v' (786 + 16 * b + 0) = 1 ∧ ∃ t o : Nat, (v' (786 + 16 * b + 6)).toInt = ((t + 1 : Nat) : Int) ∧ (v' (786 + 16 * b + 2)).toInt = o ∧ t ≤ f ∧ f < t + 2 ^ o)
    (dn : ∀ f, f < 256 → D f → (∃ b, b < 96 ∧ C b ∧ (v' (18 + 3 * f + 1)).toInt = ((b + 1 : Nat) : Int) ∧ (v' (18 + 3 * f) = 3 ∨ v' (18 + 3 * f) = 4)) ∨ (v' (18 + 3 * f) ≠ 3 ∧ v' (18 + 3 * f) ≠ 4 ∧ v' (18 + 3 * f + 1) = 0))
    (of' : ∀ f, f < 256 → (v' (18 + 3 * f) = 0 ↔ v' (2358 + 8 * (f / 32) + 0) = 0)) : own v' := by
  refine ⟨fun b fr o b1 b2 b3 b4 j hj => ?_, fun b t o b1 b2 b3 b4 => ?_, fun f hf h3 => ?_, fun f hf h4 => ?_, fun f hf h3 h4 => ?_, of'⟩
  · by_cases q : C b
    · exact hs' b fr o b1 q b2 b3 b4 j hj
    · rw [eb b 0 b1 q (by omega)] at b2
      rw [eb b 1 b1 q (by omega)] at b3
      rw [eb b 2 b1 q (by omega)] at b4
      have hx := g.hs b fr o b1 b2 b3 b4 j hj
      obtain ⟨o', fr', p1, p2, p3, p4, p5, -⟩ := hk b b1
      have q1 : o' = o := by omega
      have q2 : fr' = fr := by omega
      subst q1 q2
      have hl := al_le p2 p4 p5
      have nd : ¬ D (fr' + j) := fun z => by
        rcases ed _ (by omega) z with y | ⟨b', y1, y2, y3⟩
        · exact y.1 hx.1
        · rw [hx.2] at y3
          have : b' = b := by omega
          subst this
          exact q y2
      obtain ⟨e0, e1⟩ := eo _ (by omega) nd
      rw [e0, e1]
      exact hx
  · by_cases q : C b
    · exact hd' b t o b1 q b2 b3 b4
    · rw [eb b 0 b1 q (by omega)] at b2
      rw [eb b 6 b1 q (by omega)] at b3
      rw [eb b 2 b1 q (by omega)] at b4
      obtain ⟨k1, k2⟩ := g.hd b t o b1 b2 b3 b4
      have hl := bk_to (hk b b1) b3 b4
      refine ⟨by rw [eb b 3 b1 q (by omega)]; exact k1, fun j hj => ?_⟩
      have hx := k2 j hj
      have nd : ¬ D (t + j) := fun z => by
        rcases ed _ (by omega) z with y | ⟨b', y1, y2, y3⟩
        · exact y.2 hx.1
        · rw [hx.2] at y3
          have : b' = b := by omega
          subst this
          exact q y2
      obtain ⟨e0, e1⟩ := eo _ (by omega) nd
      rw [e0, e1]
      exact hx
  · have fin : ∀ b, b < 96 → C b → (v' (18 + 3 * f + 1)).toInt = ((b + 1 : Nat) : Int) → ∃ b fr o : Nat, b < 96 ∧ (v' (18 + 3 * f + 1)).toInt = ((b + 1 : Nat) : Int) ∧ v' (786 + 16 * b + 0) = 1 ∧ (v' (786 + 16 * b + 1)).toInt = fr ∧ (v' (786 + 16 * b + 2)).toInt = o ∧ fr ≤ f ∧ f < fr + 2 ^ o := fun b y1 y2 y3 => by
      obtain ⟨z1, fr, o, z2, z3, z4⟩ := tk' f b hf y1 y2 h3 y3
      exact ⟨b, fr, o, y1, y3, z1, z2, z3, z4⟩
    by_cases q : D f
    · rcases dn f hf q with ⟨b, y1, y2, y3, -⟩ | ⟨y, -⟩
      · exact fin b y1 y2 y3
      · exact absurd h3 y
    · obtain ⟨e0, e1⟩ := eo f hf q
      rw [e0] at h3
      obtain ⟨b, fr, o, p1, p2, p3, p4, p5, p6⟩ := g.tk f hf h3
      by_cases q2 : C b
      · exact fin b p1 q2 (by rw [e1]; exact p2)
      · exact ⟨b, fr, o, p1, by rw [e1]; exact p2, by rw [eb b 0 p1 q2 (by omega)]; exact p3, by rw [eb b 1 p1 q2 (by omega)]; exact p4, by rw [eb b 2 p1 q2 (by omega)]; exact p5, p6⟩
  · have fin : ∀ b, b < 96 → C b → (v' (18 + 3 * f + 1)).toInt = ((b + 1 : Nat) : Int) → ∃ b t o : Nat, b < 96 ∧ (v' (18 + 3 * f + 1)).toInt = ((b + 1 : Nat) : Int) ∧ v' (786 + 16 * b + 0) = 1 ∧ (v' (786 + 16 * b + 6)).toInt = ((t + 1 : Nat) : Int) ∧ (v' (786 + 16 * b + 2)).toInt = o ∧ t ≤ f ∧ f < t + 2 ^ o := fun b y1 y2 y3 => by
      obtain ⟨z1, t, o, z2, z3, z4⟩ := hl' f b hf y1 y2 h4 y3
      exact ⟨b, t, o, y1, y3, z1, z2, z3, z4⟩
    by_cases q : D f
    · rcases dn f hf q with ⟨b, y1, y2, y3, -⟩ | ⟨-, y, -⟩
      · exact fin b y1 y2 y3
      · exact absurd h4 y
    · obtain ⟨e0, e1⟩ := eo f hf q
      rw [e0] at h4
      obtain ⟨b, t, o, p1, p2, p3, p4, p5, p6⟩ := g.hl f hf h4
      by_cases q2 : C b
      · exact fin b p1 q2 (by rw [e1]; exact p2)
      · exact ⟨b, t, o, p1, by rw [e1]; exact p2, by rw [eb b 0 p1 q2 (by omega)]; exact p3, by rw [eb b 6 p1 q2 (by omega)]; exact p4, by rw [eb b 2 p1 q2 (by omega)]; exact p5, p6⟩
  · by_cases q : D f
    · rcases dn f hf q with ⟨b, y1, y2, y3, y4⟩ | ⟨-, -, y⟩
      · exact absurd y4 (fun z => z.elim h3 h4)
      · exact y
    · obtain ⟨e0, e1⟩ := eo f hf q
      rw [e0] at h3 h4
      rw [e1]
      exact g.no f hf h3 h4
/-- tasks, lines and numbers stand -/
theorem sim0.fb {c c' : sm_S} {v v' : Nat → Int32} (h : sim0 c v) (F' : ∀ f, f < 256 → sF c' v' f) (B' : ∀ b, b < 96 → sB c' v' b) (S' : ∀ s, s < 8 → sS c' v' s) (O' : own v') (hc : ∀ k, 25 < k ∨ k = 0 ∨ k = 8 → c' k = c k) (hv : ∀ i, i < 18 ∨ (2322 ≤ i ∧ i < 2358) → v' i = v i) (hb : ∀ b k, b < 96 → 9 ≤ k → k < 16 → v' (786 + 16 * b + k) = v (786 + 16 * b + k)) : sim0 c' v' := by
  refine ⟨F', B', S', fun t ht => ?_, ?_, ?_, O'⟩
  · exact (h.T t ht).cg (fun k h1 h2 => by rw [hc k (by omega)]) (fun k hk => hv _ (by omega))
  · obtain ⟨L, hL⟩ := h.Q
    exact ⟨L, hL.cg (by rw [hc 26 (by omega)]) (hc 28 (by omega)) (hc 33 (by omega)) hb⟩
  · exact h.N.cg (hc 39 (by omega)) (hc 40 (by omega)) (by rw [hc 0 (by omega)]) (by rw [hc 8 (by omega)]) (fun i hi _ => hv i (by omega))
def rlF (v : Nat → Int32) (n s to o : Nat) : Nat → Int32 := upd (upd (upd (lvF v to (2 ^ o)) (786 + 16 * n + 6) 0) (786 + 16 * n + 7) 0) (2358 + 8 * s + 6) 0
def ewC (c : sm_S) (n s : Nat) : sm_S := sm_set (sm_set (sm_set c 14 (upd (c 14) n (-1))) 15 (upd (c 15) n 0)) 24 (upd (c 24) s (-1))
theorem e_endWay2 {a1 a2 : Int32} {s n : Nat} (h1 : a1.toInt = s) (hs : s < 8) (h2 : a2.toInt = n) (hn : n < 96) (σ : sm_S) : xC xD j_G_endWay [.ref 41, .int a1, .int a2] σ (sm_V (fun σ' => σ' = ewC σ n s)) := by
  have v1 := t_vp h1 hs
  have v2 := t_vp h2 hn
  refine d_G_endWay a1 a2 σ _ ?_
  rw [t_nat h1, t_nat h2]
  refine ⟨v2, fun σ1 e1 => ⟨v2, fun σ2 e2 => ⟨v1, fun σ3 e3 => ⟨rfl, ?_⟩⟩⟩⟩
  rw [e3, e2, e1]
  rfl
theorem rlF_o {v : Nat → Int32} {n s to o i : Nat} (h1 : i < 18 + 3 * to ∨ 18 + 3 * (to + 2 ^ o) ≤ i) (h2 : i ≠ 786 + 16 * n + 6) (h3 : i ≠ 786 + 16 * n + 7) (h4 : i ≠ 2358 + 8 * s + 6) : rlF v n s to o i = v i := by
  unfold rlF
  rw [u_ne h4, u_ne h3, u_ne h2, lvF_out h1]
theorem sim_rel {c : sm_S} {v : Nat → Int32} {n s to o p : Nat} {sb : Int32} (h : sim0 c v) (hk : ∀ b, b < 96 → bk_ok v b) (hn : n < 96) (hs : s < 8) (h0 : v (786 + 16 * n + 0) = 1) (h6 : (v (786 + 16 * n + 6)).toInt = ((to + 1 : Nat) : Int)) (h2 : (v (786 + 16 * n + 2)).toInt = o) (ho : o ≤ 4) (hto : to < 256) (hal : to % 2 ^ o = 0) (hp : (v (2358 + 8 * (to / 32) + 2)).toInt = p) (hsb : ∀ i, i < 32 → (bit sb i ↔ i / 8 < p)) : sim0 (ewC (lgC c to o sb) n s) (rlF v n s to o) := by
  have hle := al_le ho hto hal
  obtain ⟨-, own4⟩ := h.O.hd n to o hn h0 h6 h2
  have in4 : ∀ f, to ≤ f → f < to + 2 ^ o → v (18 + 3 * f) = 4 ∧ (v (18 + 3 * f + 1)).toInt = ((n + 1 : Nat) : Int) := fun f a1 a2 => by
    have := own4 (f - to) (by omega)
    rw [show to + (f - to) = f by omega] at this
    exact this
  have lo : ∀ i, i < 786 → rlF v n s to o i = lvF v to (2 ^ o) i := fun i hi => by
    unfold rlF
    rw [u_ne (by omega), u_ne (by omega), u_ne (by omega)]
  have co : ∀ k, k ≠ 14 → k ≠ 15 → k ≠ 24 → ewC (lgC c to o sb) n s k = lgC c to o sb k := fun k h1 h2 h3 => by
    unfold ewC
    rw [s_ne h3, s_ne h2, s_ne h1]
  have c14 : ewC (lgC c to o sb) n s 14 = upd (c 14) n (-1) := rfl
  have c15 : ewC (lgC c to o sb) n s 15 = upd (c 15) n 0 := rfl
  have c24 : ewC (lgC c to o sb) n s 24 = upd (c 24) s (-1) := rfl
  have r6 : rlF v n s to o (786 + 16 * n + 6) = 0 := by
    unfold rlF
    rw [u_ne (by omega), u_ne (by omega), u_at]
  have r7 : rlF v n s to o (786 + 16 * n + 7) = 0 := by
    unfold rlF
    rw [u_ne (by omega), u_at]
  have rs : rlF v n s to o (2358 + 8 * s + 6) = 0 := u_at
  refine h.fb (fun f hf => ?_) (fun b hb => ?_) (fun t ht => ?_) ?_ (fun k hk => by rw [co k (by omega) (by omega) (by omega), lgC_o (by omega)]) (fun i hi => rlF_o (by omega) (by omega) (by omega) (by omega)) (fun b k h1 h2 h3 => rlF_o (by omega) (by omega) (by omega) (by omega))
  · have g := sF_lv (sb := sb) (h.F f hf) hf ho hto hal hp hsb (fun a1 a2 => Or.inr (in4 f a1 a2).1)
    exact g.cg (by rw [co 2 (by decide) (by decide) (by decide)]) (by rw [co 3 (by decide) (by decide) (by decide)]) (by rw [co 4 (by decide) (by decide) (by decide)]) (by rw [co 5 (by decide) (by decide) (by decide)]) (by rw [co 6 (by decide) (by decide) (by decide)]) (by rw [co 7 (by decide) (by decide) (by decide)]) (lo _ (by omega)) (lo _ (by omega)) (lo _ (by omega))
  · have cc : ∀ k, 9 ≤ k → k ≤ 16 → k ≠ 14 → k ≠ 15 → ewC (lgC c to o sb) n s k = c k := fun k h1 h2 h3 h4 => by rw [co k h3 h4 (by omega), lgC_o (by omega)]
    by_cases e : b = n
    · subst e
      have rk : ∀ k, k < 9 → k ≠ 6 → k ≠ 7 → rlF v b s to o (786 + 16 * b + k) = v (786 + 16 * b + k) := fun k h1 h2 h3 => rlF_o (by omega) (by omega) (by omega) (by omega)
      rcases h.B b hb with ⟨-, q⟩ | ⟨q1, q2, q⟩
      · rw [q] at h0; exact absurd h0 (by decide)
      · exact Or.inr ⟨by rw [cc 9 (by decide) (by decide) (by decide) (by decide)]; exact q1, by rw [rk 0 (by decide) (by decide) (by decide)]; exact q2, by rw [rk 1 (by decide) (by decide) (by decide), cc 9 (by decide) (by decide) (by decide) (by decide)]; exact q.fir, by rw [rk 2 (by decide) (by decide) (by decide), cc 10 (by decide) (by decide) (by decide) (by decide)]; exact q.ord, by rw [rk 3 (by decide) (by decide) (by decide), cc 11 (by decide) (by decide) (by decide) (by decide)]; exact q.kin, by rw [rk 4 (by decide) (by decide) (by decide), cc 12 (by decide) (by decide) (by decide) (by decide)]; exact q.own, by rw [rk 5 (by decide) (by decide) (by decide), cc 13 (by decide) (by decide) (by decide) (by decide)]; exact q.pin, by rw [r6, c14, u_at]; rfl, by rw [r7, c15, u_at], by rw [rk 8 (by decide) (by decide) (by decide), cc 16 (by decide) (by decide) (by decide) (by decide)]; exact q.use⟩
    · exact (h.B b hb).cg (by rw [cc 9 (by decide) (by decide) (by decide) (by decide)]) (by rw [cc 10 (by decide) (by decide) (by decide) (by decide)]) (by rw [cc 11 (by decide) (by decide) (by decide) (by decide)]) (by rw [cc 12 (by decide) (by decide) (by decide) (by decide)]) (by rw [cc 13 (by decide) (by decide) (by decide) (by decide)]) (by rw [c14, u_ne e]) (by rw [c15, u_ne e]) (by rw [cc 16 (by decide) (by decide) (by decide) (by decide)]) (fun k hk => rlF_o (by omega) (by omega) (by omega) (by omega))
  · have cc : ∀ k, 18 ≤ k → k ≤ 25 → k ≠ 24 → ewC (lgC c to o sb) n s k = c k := fun k h1 h2 h3 => by rw [co k (by omega) (by omega) h3, lgC_o (by omega)]
    by_cases e : t = s
    · subst e
      have g := h.S t ht
      have rk : ∀ k, k < 8 → k ≠ 6 → rlF v n t to o (2358 + 8 * t + k) = v (2358 + 8 * t + k) := fun k h1 h2 => rlF_o (by omega) (by omega) (by omega) (by omega)
      refine ⟨?_, ?_, ?_, ?_, ?_, ?_, ?_, ?_, ?_, ?_, ?_⟩
      · rw [rk 0 (by decide) (by decide), cc 18 (by decide) (by decide) (by decide)]; exact g.sta
      · rw [cc 18 (by decide) (by decide) (by decide), cc 19 (by decide) (by decide) (by decide)]; exact g.zof
      · rw [cc 18 (by decide) (by decide) (by decide), cc 19 (by decide) (by decide) (by decide), rk 1 (by decide) (by decide)]; exact g.zon
      · rw [rk 2 (by decide) (by decide), cc 20 (by decide) (by decide) (by decide)]; exact g.par
      · rw [rk 3 (by decide) (by decide), cc 21 (by decide) (by decide) (by decide)]; exact g.pas
      · rw [rk 4 (by decide) (by decide), cc 22 (by decide) (by decide) (by decide)]; exact g.pau
      · rw [cc 22 (by decide) (by decide) (by decide)]; exact g.pag
      · rw [cc 18 (by decide) (by decide) (by decide), cc 23 (by decide) (by decide) (by decide), rk 5 (by decide) (by decide)]; exact g.rea
      · rw [rs, c24, u_at]; rfl
      · rw [rk 7 (by decide) (by decide), cc 25 (by decide) (by decide) (by decide)]; exact g.why
      · rw [cc 18 (by decide) (by decide) (by decide), cc 20 (by decide) (by decide) (by decide), cc 21 (by decide) (by decide) (by decide), cc 22 (by decide) (by decide) (by decide), c24, u_at]
        exact fun z => ⟨(g.off z).1, (g.off z).2.1, (g.off z).2.2.1, rfl⟩
    · refine (h.S t ht).cg (fun k h1 h2 => ?_) (fun k hk => rlF_o (by omega) (by omega) (by omega) (by omega))
      by_cases z : k = 24
      · rw [z, c24, u_ne e]
      · rw [cc k h1 h2 z]
  · have out0 : ∀ f, f < 256 → ¬ (to ≤ f ∧ f < to + 2 ^ o) → rlF v n s to o (18 + 3 * f) = v (18 + 3 * f) ∧ rlF v n s to o (18 + 3 * f + 1) = v (18 + 3 * f + 1) := fun f a1 a2 => ⟨rlF_o (by omega) (by omega) (by omega) (by omega), rlF_o (by omega) (by omega) (by omega) (by omega)⟩
    have inn : ∀ f, f < 256 → (to ≤ f ∧ f < to + 2 ^ o) → rlF v n s to o (18 + 3 * f) = shV v f ∧ rlF v n s to o (18 + 3 * f + 1) = 0 := fun f a1 a2 => by
      rw [lo _ (by omega), lo _ (by omega)]
      exact ⟨(lvF_in a2.1 a2.2).1, (lvF_in a2.1 a2.2).2.1⟩
    have sh34 : ∀ f, shV v f ≠ 3 ∧ shV v f ≠ 4 ∧ shV v f ≠ 0 := fun f => by
      rcases shV_12 v f with q | q <;> rw [q] <;> decide
    have rb : ∀ k, k < 4 → rlF v n s to o (786 + 16 * n + k) = v (786 + 16 * n + k) := fun k h1 => rlF_o (by omega) (by omega) (by omega) (by omega)
    refine h.O.re (fun b => b = n) (fun f => to ≤ f ∧ f < to + 2 ^ o) hk (fun b k h1 h2 h3 => rlF_o (by omega) (by omega) (by omega) (by omega)) out0 (fun f hf z => Or.inr ⟨n, hn, rfl, (in4 f z.1 z.2).2⟩) (fun b fr o' hb z g0 g1 g2 j hj => ?_) (fun b t o' hb z g0 g6 g2 => ?_) (fun f b hf hb z g3 g1 => ?_) (fun f b hf hb z g4 g1 => ?_) (fun f hf z => Or.inr ⟨?_, ?_, ?_⟩) (fun f hf => ?_)
    · subst z
      rw [rb 1 (by decide)] at g1
      rw [rb 2 (by decide)] at g2
      have hx := h.O.hs b fr o' hb h0 g1 g2 j hj
      obtain ⟨o2, fr2, p1, p2, p3, p4, p5, -⟩ := hk b hb
      have e1 : o2 = o' := by omega
      have e2 : fr2 = fr := by omega
      subst e1 e2
      have hl := al_le p2 p4 p5
      have nd : ¬ (to ≤ fr2 + j ∧ fr2 + j < to + 2 ^ o) := fun z => by
        have := (in4 _ z.1 z.2).1
        rw [hx.1] at this
        exact absurd this (by decide)
      rw [(out0 _ (by omega) nd).1, (out0 _ (by omega) nd).2]
      exact hx
    · subst z
      rw [r6] at g6
      have g6 : (0 : Int) = _ := g6
      omega
    · subst z
      have nd : ¬ (to ≤ f ∧ f < to + 2 ^ o) := fun z => by
        rw [(inn f hf z).1] at g3
        exact (sh34 f).1 g3
      rw [(out0 f hf nd).1] at g3
      rw [(out0 f hf nd).2] at g1
      obtain ⟨b', fr, o', p1, p2, p3, p4, p5, p6⟩ := h.O.tk f hf g3
      have e : b' = b := by omega
      subst e
      exact ⟨by rw [rb 0 (by decide)]; exact p3, fr, o', by rw [rb 1 (by decide)]; exact p4, by rw [rb 2 (by decide)]; exact p5, p6⟩
    · subst z
      have nd : ¬ (to ≤ f ∧ f < to + 2 ^ o) := fun z => by
        rw [(inn f hf z).1] at g4
        exact (sh34 f).2.1 g4
      rw [(out0 f hf nd).1] at g4
      rw [(out0 f hf nd).2] at g1
      obtain ⟨b', t, o', p1, p2, p3, p4, p5, p6, p7⟩ := h.O.hl f hf g4
      have e : b' = b := by omega
      subst e
      have e2 : t = to := by omega
      have e3 : o' = o := by omega
      subst e2 e3
      exact absurd ⟨p6, p7⟩ nd
    · rw [(inn f hf z).1]; exact (sh34 f).1
    · rw [(inn f hf z).1]; exact (sh34 f).2.1
    · exact (inn f hf z).2
    · rw [rlF_o (i := 2358 + 8 * (f / 32) + 0) (by omega) (by omega) (by omega) (by omega)]
      by_cases z : to ≤ f ∧ f < to + 2 ^ o
      · rw [(inn f hf z).1, ← h.O.of f hf, (in4 f z.1 z.2).1]
        exact ⟨fun y => absurd y (sh34 f).2.2, fun y => absurd y (by decide)⟩
      · rw [(out0 f hf z).1]
        exact h.O.of f hf
end
section
/-! ===== the simulation: a span is given up ===== -/
theorem l_stays2 {a1 a2 a3 : Int32} {s n o to : Nat} {w v' : Nat → Int32} (h1 : a1.toInt = s) (hs : s < 8) (h2 : a2.toInt = n) (hn : n < 96) (h3 : a3.toInt = to) (ho : o ≤ 4) (hal : to + 2 ^ o ≤ 256) (ho2 : (w (786 + 16 * n + 2)).toInt = o) (hw : rd j_M_wakes [.ref 0, .int a2] (rlF w n s to o) v') : ∀ (d k : Nat) (a4 : Int32) (σ : sm_S), σ 1 = lvF w to k → a4.toInt = k → k + d = 2 ^ o → xE xM m_M_staysBack 35 [.ref 0, .int a1, .int a2, .int a3, .int a4] [] σ (sm_V (fun σ' => σ' = sm_set σ 1 v')) := by
  have hp := t_pw (k := o) (by omega)
  obtain ⟨p6, q6⟩ := ixS (k := 6) (j := 6) h1 rfl (by omega)
  intro d
  induction d with
  | zero =>
    intro k a4 σ hσ h4 hk
    refine w_M_staysBack_35 a1 a2 a3 a4 _ _ ((c_longOf h2 hn _).int ?_)
    rintro _ σ ⟨rfl, rfl⟩
    rw [hσ, lvF_out (by omega)]
    refine ⟨fun _ => (c_lay (k := 6) (j := 6) h2 rfl (by omega) 0 _).void ?_, fun h => absurd ?_ h⟩
    · rintro _ rfl
      refine (c_lay (k := 7) (j := 7) h2 rfl (by omega) 0 _).void ?_
      rintro _ rfl
      refine (c_spanAt a1 _).int ?_
      rintro _ _ ⟨rfl, rfl⟩
      refine ⟨p6, fun σ7 e7 => ?_⟩
      rw [q6, s_at, s_ss, s_at, s_ss, hσ, show k = 2 ^ o by omega] at e7
      have e8 : σ7 = sm_set σ 1 (rlF w n s to o) := e7
      refine (hw σ7 (by rw [e8, s_at])).void ?_
      rintro _ rfl
      exact ⟨rfl, by rw [e8, s_ss]⟩
    · rw [t_le, t_pow ho2 (by omega), h4]
      omega
  | succ d ih =>
    intro k a4 σ hσ h4 hk
    refine w_M_staysBack_35 a1 a2 a3 a4 _ _ ((c_longOf h2 hn _).int ?_)
    rintro _ σ ⟨rfl, rfl⟩
    rw [hσ, lvF_out (by omega)]
    have hf3 := t_add h3 h4 (by omega) (by omega)
    rw [← Int.natCast_add] at hf3
    refine ⟨fun h => ?_, fun _ => (c_leaves2 hf3 (by omega) _).void ?_⟩
    · rw [t_le, t_pow ho2 (by omega), h4] at h
      omega
    · rintro _ rfl
      have h4' : (a4 + 1).toInt = ((k + 1 : Nat) : Int) := by
        rw [t_add h4 (y := 1) rfl (by omega) (by omega)]
        omega
      rw [hσ, lvF_sh (by omega), ← lvF_s]
      have := ih (k + 1) (a4 + 1) (sm_set σ 1 (lvF w to (k + 1))) s_at h4' (by omega)
      rw [s_ss] at this
      exact this
/-- what the invariant says of a block on its way out of span s -/
theorem way_of {N s : Nat} {v : Nat → Int32} (hj : jj N v) (hs : s < 8) (h6 : v (2358 + 8 * s + 6) ≠ 0) : ∃ n o fr to : Nat, n < 96 ∧ (v (2358 + 8 * s + 6)).toInt = ((n + 1 : Nat) : Int) ∧ v (786 + 16 * n + 0) = 1 ∧ (v (786 + 16 * n + 2)).toInt = o ∧ o ≤ 4 ∧ (v (786 + 16 * n + 1)).toInt = fr ∧ fr < 256 ∧ fr % 2 ^ o = 0 ∧ fr / 32 = s ∧ (v (786 + 16 * n + 6)).toInt = ((to + 1 : Nat) : Int) ∧ to < 256 ∧ to % 2 ^ o = 0 ∧ v (2358 + 8 * s + 0) = 3 := by
  obtain ⟨st, pt, at', q, g1, g2, g3, g4, g5, g6, g7, g8, g9⟩ := hj.2.1.2.2.1 s hs
  rcases g9 with g9 | ⟨n, k1, k2, k3, k4, fr, k5, k6⟩
  · subst g9
    exact absurd (t_inj g8) h6
  · obtain ⟨o, fr', b1, b2, b3, b4, b5, -, ⟨q', b7, b8⟩, -⟩ := hj.2.1.1 n k1
    have e : fr' = fr := by omega
    subst e
    obtain ⟨w1, -⟩ := hj.2.1.2.2.2.1 n k1 k4
    rcases b8 with b8 | ⟨b8, b9, b10⟩
    · subst b8
      exact absurd (t_inj b7) k4
    · refine ⟨n, o, fr', q' - 1, k1, by rw [g8, k2], w1, b1, b2, b3, b4, b5, k6, ?_, by omega, b10, t_inj (by rw [g1, k3]; rfl)⟩
      rw [b7]
      omega
/-- who waits for it wants something in it -/
theorem line_of {N n o fr L : Nat} {v : Nat → Int32} (hj : jj N v) (hn : n < 96) (ho : (v (786 + 16 * n + 2)).toInt = o) (hle : fr + 2 ^ o ≤ 256) (h9 : (v (786 + 16 * n + 9)).toInt = L) : L ≤ 6 ∧ ∀ t, t ∈ lnV v n L → ∃ m a : Nat, m < 6 ∧ t.toInt = m ∧ (v (2322 + 6 * m + 3)).toInt = a ∧ fr + a < 256 := by
  obtain ⟨L', o', l1, l2, l3, -, l5, -⟩ := hj.2.1.2.1 n hn
  have e : L' = L := by omega
  have e2 : o' = o := by omega
  subst e e2
  refine ⟨l2, fun t ht => ?_⟩
  unfold lnV at ht
  obtain ⟨k, k1, rfl⟩ := List.mem_map.mp ht
  obtain ⟨m, a, r1, r2, r3, r4, r5⟩ := l5 k (List.mem_range.mp k1)
  exact ⟨m, a, r1, r2, r4, by omega⟩
theorem jj.L {N n : Nat} {v : Nat → Int32} (hj : jj N v) (hn : n < 96) : ∃ L : Nat, (v (786 + 16 * n + 9)).toInt = L := by
  obtain ⟨L, o, l1, -⟩ := hj.2.1.2.1 n hn
  exact ⟨L, l1⟩
theorem jj.pt {N s : Nat} {v : Nat → Int32} (hj : jj N v) (hs : s < 8) : ∃ p : Nat, (v (2358 + 8 * s + 2)).toInt = p ∧ p ≤ 4 := by
  obtain ⟨st, pt, at', q, g1, g2, g3, g4, -⟩ := hj.2.1.2.2.1 s hs
  exact ⟨pt, g3, g4⟩
theorem sB.al {c : sm_S} {v : Nat → Int32} {b : Nat} (h : sB c v b) (h0 : v (786 + 16 * b + 0) = 1) : sBl c v b ∧ c 9 b ≠ -1 := by
  rcases h with ⟨-, q⟩ | ⟨q1, -, q⟩
  · rw [q] at h0; exact absurd h0 (by decide)
  · exact ⟨q, q1⟩
theorem m1_add {x : Int32} {n : Nat} (h : (x + 1).toInt = ((n + 1 : Nat) : Int)) (hn : n < 2000000000) : x.toInt = n := by
  have e : x = (x + 1) - 1 := by rw [Int32.add_sub_cancel]
  rw [e, t_sub h (y := 1) rfl (by omega) (by omega)]
  omega
theorem t_m1 {x : Int32} {n : Nat} (h : x.toInt = ((n + 1 : Nat) : Int)) (hn : n < 2000000000) : (x - 1).toInt = n := by
  rw [t_sub h (y := 1) rfl (by omega) (by omega)]
  omega
theorem pick {SH : List sm_Sh} {j : Nat} {as : List Value} {σ : sm_S} {P : Int32 → Prop} (h : xC SH j as σ (sm_I (fun x σ' => P x ∧ σ' = σ))) : ∃ x, P x ∧ xC SH j as σ (sm_I (fun y σ' => y = x ∧ σ' = σ)) := by
  obtain ⟨M, hM, nf, r, σ', run, x, hr, hp, e⟩ := h
  exact ⟨x, hp, M, hM, nf, r, σ', run, x, hr, rfl, e⟩
theorem c_size {b : Int32} {n : Nat} (hb : b.toInt = n) (hn : n < 96) (σ : sm_S) : xC xD j_B_size [.ref 8, .int b] σ (sm_I (fun x σ' => x = (1 : Int32) <<< (σ 10 n &&& 31) ∧ σ' = σ)) := by
  refine d_B_size b σ _ ⟨t_vp hb hn, ?_⟩
  rw [t_nat hb]
  exact ⟨_, rfl, rfl, rfl⟩
/-- callOff | fails -/
theorem p_callOff {g : Prop} {N s : Nat} {c : sm_S} {v : Nat → Int32} {a1 : Int32} (h : tie g N c v) (hj : jj N v) (hN : N + 7 < 2000000000) (h1 : a1.toInt = s) (hs : s < 8) (hg : c 18 s ≠ 0) : ∃ v' c' N', rd j_M_fails [.ref 0, .int a1, .int 3] v v' ∧ xC xD j_G_callOff [.ref 41, .int a1] c (sm_V (fun σ' => σ' = c')) ∧ tie g N' c' v' ∧ jj N' v' ∧ N' ≤ N + 7 := by
  have gs := h.s.S s hs
  by_cases h6 : v (2358 + 8 * s + 6) = 0
  · obtain ⟨c', e1, t1, j1, -⟩ := p_fail 3 h hj (by omega) h1 hs h6 hg
    have c24 : c 24 s = -1 := by
      have z := gs.lea
      rw [h6] at z
      have z2 : c 24 s = (c 24 s + 1) - 1 := by rw [Int32.add_sub_cancel]
      rw [z2, ← z]
      rfl
    refine ⟨_, c', N + 1, r_fails h1 hs (r_stays0 h1 hs h6) h.n, ?_, t1, j1, by omega⟩
    refine d_G_callOff a1 c _ ⟨t_vp h1 hs, fun _ => e1.void ?_, fun q => absurd (by rw [t_nat h1]; exact c24) q⟩
    rintro _ rfl
    exact ⟨rfl, rfl⟩
  · obtain ⟨n, o, fr, to, hn, e6, h0, e2, ho, e1, hfr, hal, hfs, et, hto, halt, h3⟩ := way_of hj hs h6
    obtain ⟨L, h9⟩ := hj.L hn
    have hle := al_le ho hfr hal
    have hlt := al_le ho hto halt
    obtain ⟨hL6, hline⟩ := line_of hj hn e2 hle h9
    obtain ⟨p, hp, hp4⟩ := hj.pt (s := to / 32) (by omega)
    obtain ⟨gb, -⟩ := (h.s.B n hn).al h0
    have c24 : (c 24 s).toInt = n := m1_add (by rw [← gs.lea]; exact e6) (by omega)
    have c14 : (c 14 n).toInt = to := m1_add (by rw [← gb.tgt]; exact et) (by omega)
    have c10 : (c 10 n).toInt = o := by rw [← gb.ord]; exact e2
    have hpc : (c 20 (to / 32)).toInt = p := by rw [← (h.s.S (to / 32) (by omega)).par]; exact hp
    obtain ⟨x, hsb, sbr⟩ := pick (e_shutBits2 (a1 := c 14 n / (32 : Int32)) (n := to / 32) (t_div c14 (b := 32) rfl (by decide)) (by omega) c hpc hp4)
    have t1 : tie g N (ewC (lgC c to o x) n s) (rlF v n s to o) := by
      refine h.to (sim_rel h.s h.b hn hs h0 et e2 ho hto halt hp hsb) (fun k k1 k2 => ?_) (rlF_o (by omega) (by omega) (by omega) (by omega)) (fun i hi => rlF_o (by omega) (by omega) (by omega) (by omega)) (fun b hb => ?_)
      · unfold ewC
        rw [s_ne (by omega), s_ne (by omega), s_ne (by omega), lgC_o (by omega)]
      · obtain ⟨o1, f1, z1, z2, z3, z4, z5, ⟨w, z6, z6'⟩, ⟨q, z7, z7'⟩, z8⟩ := h.b b hb
        have rk : ∀ k, k < 16 → k ≠ 6 → k ≠ 7 → rlF v n s to o (786 + 16 * b + k) = v (786 + 16 * b + k) := fun k h1 h2 h3 => rlF_o (by omega) (by omega) (by omega) (by omega)
        by_cases e : b = n
        · subst e
          have r6 : rlF v b s to o (786 + 16 * b + 6) = 0 := by
            unfold rlF
            rw [u_ne (by omega), u_ne (by omega), u_at]
          have r7 : rlF v b s to o (786 + 16 * b + 7) = 0 := by
            unfold rlF
            rw [u_ne (by omega), u_at]
          exact ⟨o1, f1, by rw [rk 2 (by decide) (by decide) (by decide)]; exact z1, z2, by rw [rk 1 (by decide) (by decide) (by decide)]; exact z3, z4, z5, ⟨w, by rw [rk 4 (by decide) (by decide) (by decide)]; exact z6, z6'⟩, ⟨0, by rw [r6]; rfl, Or.inl rfl⟩, by rw [r7]; decide⟩
        · refine bk_cong (fun k k1 _ _ _ => rlF_o (by omega) (by omega) (by omega) (by omega)) (h.b b hb)
    have r9 : rlF v n s to o (786 + 16 * n + 9) = v (786 + 16 * n + 9) := rlF_o (by omega) (by omega) (by omega) (by omega)
    have lnE : lnV (rlF v n s to o) n L = lnV v n L := lnV_cg (fun k hk => rlF_o (by omega) (by omega) (by omega) (by omega))
    have hb24 := c24
    obtain ⟨v2, c2, rw2, rc2, t2, -, fx1, -⟩ := p_serve (b := c 24 s) (L := L) (fr := fr) t1 (by omega) hn c24 (by rw [r9]; exact h9) (by rw [rlF_o (by omega) (by omega) (by omega) (by omega)]; exact h0) (by rw [rlF_o (by omega) (by omega) (by omega) (by omega)]; exact e1) (fun t ht => by
      rw [lnE] at ht
      obtain ⟨m, a, r1, r2, r3, r4⟩ := hline t ht
      exact ⟨m, a, r1, r2, by rw [rlF_o (by omega) (by omega) (by omega) (by omega)]; exact r3, r4⟩)
    have rst : rd j_M_staysBack [.ref 0, .int a1] v v2 := fun σ e => by
      obtain ⟨p6, q6⟩ := ixS (k := 6) (j := 6) h1 rfl (by omega)
      refine w_M_staysBack a1 σ _ ((c_spanAt a1 σ).int ?_)
      rintro _ σ ⟨rfl, rfl⟩
      refine ⟨p6, ?_⟩
      rw [q6, e]
      have en : (v (2358 + 8 * s + 6) - 1).toInt = n := t_m1 e6 (by omega)
      have ecn : v (2358 + 8 * s + 6) - 1 = c 24 s := by
        rw [gs.lea, Int32.add_sub_cancel]
      refine ⟨fun _ => (c_of (k := 6) (j := 6) en rfl (by omega) σ).int ?_, fun q => absurd (ne_m1 en) q⟩
      rintro _ σ ⟨rfl, rfl⟩
      rw [e]
      have := l_stays2 h1 hs (a2 := v (2358 + 8 * s + 6) - 1) en hn (a3 := v (786 + 16 * n + 6) - 1) (t_m1 et (by omega)) ho hlt e2 (by rw [ecn]; exact rw2) (2 ^ o) 0 0 σ (by rw [lvF_0]; exact e) rfl (by omega)
      exact this
    obtain ⟨w, N', ew, jw, k1, k2, k3, k4⟩ := rst.det (c_staysBack (N := N) h1 hs (by omega) (rz v) (by rw [rz_at]; exact hj))
    rw [rz_eq ew] at jw k3
    have eN : N' = N + L := by have := t2.n; have := jw.2.2; omega
    subst eN
    have st2 : v2 (2358 + 8 * s + 0) = 3 := by
      rw [fx1 (2358 + 8 * s + 0) (Or.inr (Or.inr (Or.inr (Or.inr ⟨by omega, by omega⟩)))) (by omega), rlF_o (by omega) (by omega) (by omega) (by omega)]
      exact h3
    obtain ⟨c', ec', t3, j3, -⟩ := p_fail (a1 := a1) 3 t2 jw (by omega) h1 hs k3 (by rw [← (t2.s.S s hs).sta, st2]; decide)
    refine ⟨_, c', N + L + 1, r_fails h1 hs rst t2.n, ?_, t3, j3, by omega⟩
    refine d_G_callOff a1 c _ ⟨t_vp h1 hs, fun q => ?_, fun _ => ?_⟩
    · rw [t_nat h1] at q
      exact absurd q (ne_m1 c24)
    · rw [t_nat h1, t_nat c24]
      refine ⟨t_vp c24 hn, (c_size c24 hn c).int ?_⟩
      rintro y1 σ1 ⟨ey1, es1⟩
      rw [ey1, es1]
      refine ⟨by decide, ?_⟩
      refine sbr.int ?_
      rintro y2 σ2 ⟨ey2, es2⟩
      rw [ey2, es2]
      refine (e_letGo2 c14 (t_pow c10 (by omega)) ho hlt x c).void ?_
      rintro _ rfl
      refine (e_endWay2 h1 hs c24 hn _).void ?_
      rintro _ rfl
      refine rc2.void ?_
      rintro _ rfl
      refine ec'.void ?_
      rintro _ rfl
      exact ⟨rfl, rfl⟩
end
section
/-! ===== the simulation: a block arrives ===== -/
theorem sF_st {c : sm_S} {v : Nat → Int32} {fr o f : Nat} {x : Int32} (g : sF c v f) (ho : o ≤ 4) (hal : fr % 2 ^ o = 0) (hin : fr ≤ f → f < fr + 2 ^ o → v (18 + 3 * f) = 4 ∧ v (18 + 3 * f + 1) = x) : sF (stC c fr o) (hsF v fr (2 ^ o) 3 x) f := by
  have ha := t_al (k := o) (by omega) hal
  have hi : f % 32 < 32 := Nat.mod_lt _ (by decide)
  have hpf : fr % 32 < 32 := Nat.mod_lt _ (by decide)
  have c2 : stC c fr o 2 = c 2 := rfl
  have c3 : stC c fr o 3 = c 3 := rfl
  have c4 : stC c fr o 4 = upd (c 4) (fr / 32) (c 4 (fr / 32) ||| rgB (fr % 32) o) := rfl
  have c5 : stC c fr o 5 = upd (c 5) (fr / 32) (c 5 (fr / 32) &&& (rgB (fr % 32) o ^^^ (-1))) := rfl
  have c6 : stC c fr o 6 = c 6 := rfl
  have c7 : stC c fr o 7 = c 7 := rfl
  by_cases hr : fr ≤ f ∧ f < fr + 2 ^ o
  · have hs : f / 32 = fr / 32 := by omega
    obtain ⟨e0, e1, e2⟩ := hsF_in (v := v) (s := 3) (x := x) hr.1 hr.2
    have hrg : bit (rgB (fr % 32) o) (f % 32) := (rgB_iff ho hpf hi).mpr (by omega)
    obtain ⟨h1, h2⟩ := hin hr.1 hr.2
    refine ⟨?_, ?_, ?_, ?_, ?_, ?_, ?_⟩
    · rw [e0]; decide
    · rw [e0, c2, g.fre, h1]; decide
    · rw [e0, c3, g.apa, h1]; decide
    · rw [e0, c4, hs, u_at, bit_or]
      exact ⟨fun _ => rfl, fun _ => Or.inr hrg⟩
    · rw [e0, c5, hs, u_at, bit_and, bit_not hi]
      exact ⟨fun z => absurd hrg z.2, fun z => absurd z (by decide)⟩
    · rw [e1, c6, ← h2]; exact g.blk
    · rw [e2, c7]; exact g.val
  · have e0 : hsF v fr (2 ^ o) 3 x (18 + 3 * f) = v (18 + 3 * f) := hsF_out (by omega)
    have e1 : hsF v fr (2 ^ o) 3 x (18 + 3 * f + 1) = v (18 + 3 * f + 1) := hsF_out (by omega)
    have e2 : hsF v fr (2 ^ o) 3 x (18 + 3 * f + 2) = v (18 + 3 * f + 2) := hsF_out (by omega)
    by_cases hs : f / 32 = fr / 32
    · have hrg : ¬ bit (rgB (fr % 32) o) (f % 32) := fun z => by
        have := (rgB_iff ho hpf hi).mp z
        omega
      have k4 := g.tak
      have k5 := g.hel
      rw [hs] at k4 k5
      refine ⟨by rw [e0]; exact g.rng, by rw [e0, c2]; exact g.fre, by rw [e0, c3]; exact g.apa, ?_, ?_, by rw [e1, c6]; exact g.blk, by rw [e2, c7]; exact g.val⟩
      · rw [e0, c4, hs, u_at, bit_or, ← k4]
        exact ⟨fun z => z.elim id (fun z => absurd z hrg), Or.inl⟩
      · rw [e0, c5, hs, u_at, bit_and, bit_not hi, ← k5]
        exact ⟨fun z => z.1, fun z => ⟨z, hrg⟩⟩
    · exact g.cg (by rw [c2]) (by rw [c3]) (by rw [c4, u_ne hs]) (by rw [c5, u_ne hs]) (by rw [c6]) (by rw [c7]) e0 e1 e2
theorem stC_o {c : sm_S} {fr o k : Nat} (h : k ≠ 4 ∧ k ≠ 5) : stC c fr o k = c k := by
  unfold stC
  rw [s_ne h.1, s_ne h.2]
def arF (v : Nat → Int32) (n s fr to o : Nat) (x y : Int32) : Nat → Int32 := upd (upd (upd (upd (hsF (lvF v fr (2 ^ o)) to (2 ^ o) 3 x) (786 + 16 * n + 1) y) (786 + 16 * n + 6) 0) (786 + 16 * n + 7) 0) (2358 + 8 * s + 6) 0
theorem arF_o {v : Nat → Int32} {n s fr to o i : Nat} {x y : Int32} (h1 : i < 18 + 3 * fr ∨ 18 + 3 * (fr + 2 ^ o) ≤ i) (h2 : i < 18 + 3 * to ∨ 18 + 3 * (to + 2 ^ o) ≤ i) (h3 : i ≠ 786 + 16 * n + 1) (h4 : i ≠ 786 + 16 * n + 6) (h5 : i ≠ 786 + 16 * n + 7) (h6 : i ≠ 2358 + 8 * s + 6) : arF v n s fr to o x y i = v i := by
  unfold arF
  rw [u_ne h6, u_ne h5, u_ne h4, u_ne h3, hsF_out h2, lvF_out h1]
def arC (c : sm_S) (n s fr to o : Nat) (sb y : Int32) : sm_S := ewC (sm_set (stC (lgC c fr o sb) to o) 9 (upd (c 9) n y)) n s
theorem sim_arr {c : sm_S} {v : Nat → Int32} {n s fr to o p : Nat} {sb bI y : Int32} (h : sim0 c v) (hk : ∀ b, b < 96 → bk_ok v b) (hn : n < 96) (hs : s < 8) (h0 : v (786 + 16 * n + 0) = 1) (h1 : (v (786 + 16 * n + 1)).toInt = fr) (h6 : (v (786 + 16 * n + 6)).toInt = ((to + 1 : Nat) : Int)) (h2 : (v (786 + 16 * n + 2)).toInt = o) (ho : o ≤ 4) (hfr : fr < 256) (hal : fr % 2 ^ o = 0) (hto : to < 256) (halt : to % 2 ^ o = 0) (hp : (v (2358 + 8 * (fr / 32) + 2)).toInt = p) (hsb : ∀ i, i < 32 → (bit sb i ↔ i / 8 < p)) (hbI : bI.toInt = n) (hy : y.toInt = to) : sim0 (arC c n s fr to o sb y) (arF v n s fr to o (bI + 1) y) := by
  have hle := al_le ho hfr hal
  have hlt := al_le ho hto halt
  have hb1 : (bI + 1).toInt = ((n + 1 : Nat) : Int) := by
    rw [t_add hbI (y := 1) rfl (by omega) (by omega)]
    omega
  have own3 := h.O.hs n fr o hn h0 h1 h2
  obtain ⟨hkd, own4⟩ := h.O.hd n to o hn h0 h6 h2
  have in3 : ∀ f, fr ≤ f → f < fr + 2 ^ o → v (18 + 3 * f) = 3 ∧ (v (18 + 3 * f + 1)).toInt = ((n + 1 : Nat) : Int) := fun f a1 a2 => by
    have := own3 (f - fr) (by omega)
    rw [show fr + (f - fr) = f by omega] at this
    exact this
  have in4 : ∀ f, to ≤ f → f < to + 2 ^ o → v (18 + 3 * f) = 4 ∧ (v (18 + 3 * f + 1)).toInt = ((n + 1 : Nat) : Int) := fun f a1 a2 => by
    have := own4 (f - to) (by omega)
    rw [show to + (f - to) = f by omega] at this
    exact this
  have dis : ∀ f, fr ≤ f → f < fr + 2 ^ o → to ≤ f → f < to + 2 ^ o → False := fun f a1 a2 a3 a4 => by
    have z := (in3 f a1 a2).1
    rw [(in4 f a3 a4).1] at z
    exact absurd z (by decide)
  have lo : ∀ i, i < 786 → arF v n s fr to o (bI + 1) y i = hsF (lvF v fr (2 ^ o)) to (2 ^ o) 3 (bI + 1) i := fun i hi => by
    unfold arF
    rw [u_ne (by omega), u_ne (by omega), u_ne (by omega), u_ne (by omega)]
  have co : ∀ k, k ≠ 9 → k ≠ 14 → k ≠ 15 → k ≠ 24 → arC c n s fr to o sb y k = stC (lgC c fr o sb) to o k := fun k h1 h2 h3 h4 => by
    unfold arC ewC
    rw [s_ne h4, s_ne h3, s_ne h2, s_ne h1]
  have c9 : arC c n s fr to o sb y 9 = upd (c 9) n y := rfl
  have c14 : arC c n s fr to o sb y 14 = upd (c 14) n (-1) := rfl
  have c15 : arC c n s fr to o sb y 15 = upd (c 15) n 0 := rfl
  have c24 : arC c n s fr to o sb y 24 = upd (c 24) s (-1) := rfl
  have r1 : arF v n s fr to o (bI + 1) y (786 + 16 * n + 1) = y := by
    unfold arF
    rw [u_ne (by omega), u_ne (by omega), u_ne (by omega), u_at]
  have r6 : arF v n s fr to o (bI + 1) y (786 + 16 * n + 6) = 0 := by
    unfold arF
    rw [u_ne (by omega), u_ne (by omega), u_at]
  have r7 : arF v n s fr to o (bI + 1) y (786 + 16 * n + 7) = 0 := by
    unfold arF
    rw [u_ne (by omega), u_at]
  have rs : arF v n s fr to o (bI + 1) y (2358 + 8 * s + 6) = 0 := u_at
  have cc : ∀ k, 8 ≤ k → k ≠ 9 → k ≠ 14 → k ≠ 15 → k ≠ 24 → arC c n s fr to o sb y k = c k := fun k h1 h2 h3 h4 h5 => by rw [co k h2 h3 h4 h5, stC_o (by omega), lgC_o (by omega)]
  refine h.fb (fun f hf => ?_) (fun b hb => ?_) (fun t ht => ?_) ?_ (fun k hk => by rw [co k (by omega) (by omega) (by omega) (by omega), stC_o (by omega), lgC_o (by omega)]) (fun i hi => arF_o (by omega) (by omega) (by omega) (by omega) (by omega) (by omega)) (fun b k h1 h2 h3 => arF_o (by omega) (by omega) (by omega) (by omega) (by omega) (by omega))
  · have g := sF_lv (sb := sb) (h.F f hf) hf ho hfr hal hp hsb (fun a1 a2 => Or.inl (in3 f a1 a2).1)
    have g2 := sF_st (x := bI + 1) g ho halt (fun a1 a2 => by
      have nd : ¬ (fr ≤ f ∧ f < fr + 2 ^ o) := fun z => dis f z.1 z.2 a1 a2
      rw [lvF_out (by omega), lvF_out (by omega)]
      exact ⟨(in4 f a1 a2).1, t_inj (by rw [(in4 f a1 a2).2, hb1])⟩)
    exact g2.cg (by rw [co 2 (by decide) (by decide) (by decide) (by decide)]) (by rw [co 3 (by decide) (by decide) (by decide) (by decide)]) (by rw [co 4 (by decide) (by decide) (by decide) (by decide)]) (by rw [co 5 (by decide) (by decide) (by decide) (by decide)]) (by rw [co 6 (by decide) (by decide) (by decide) (by decide)]) (by rw [co 7 (by decide) (by decide) (by decide) (by decide)]) (lo _ (by omega)) (lo _ (by omega)) (lo _ (by omega))
  · by_cases e : b = n
    · subst e
      have rk : ∀ k, k < 9 → k ≠ 1 → k ≠ 6 → k ≠ 7 → arF v b s fr to o (bI + 1) y (786 + 16 * b + k) = v (786 + 16 * b + k) := fun k h1 h2 h3 h4 => arF_o (by omega) (by omega) (by omega) (by omega) (by omega) (by omega)
      obtain ⟨q, q1⟩ := (h.B b hb).al h0
      exact Or.inr ⟨by rw [c9, u_at]; exact ne_m1 hy, by rw [rk 0 (by decide) (by decide) (by decide) (by decide)]; exact h0, by rw [r1, c9, u_at], by rw [rk 2 (by decide) (by decide) (by decide) (by decide), cc 10 (by decide) (by decide) (by decide) (by decide) (by decide)]; exact q.ord, by rw [rk 3 (by decide) (by decide) (by decide) (by decide), cc 11 (by decide) (by decide) (by decide) (by decide) (by decide)]; exact q.kin, by rw [rk 4 (by decide) (by decide) (by decide) (by decide), cc 12 (by decide) (by decide) (by decide) (by decide) (by decide)]; exact q.own, by rw [rk 5 (by decide) (by decide) (by decide) (by decide), cc 13 (by decide) (by decide) (by decide) (by decide) (by decide)]; exact q.pin, by rw [r6, c14, u_at]; rfl, by rw [r7, c15, u_at], by rw [rk 8 (by decide) (by decide) (by decide) (by decide), cc 16 (by decide) (by decide) (by decide) (by decide) (by decide)]; exact q.use⟩
    · exact (h.B b hb).cg (by rw [c9, u_ne e]) (by rw [cc 10 (by decide) (by decide) (by decide) (by decide) (by decide)]) (by rw [cc 11 (by decide) (by decide) (by decide) (by decide) (by decide)]) (by rw [cc 12 (by decide) (by decide) (by decide) (by decide) (by decide)]) (by rw [cc 13 (by decide) (by decide) (by decide) (by decide) (by decide)]) (by rw [c14, u_ne e]) (by rw [c15, u_ne e]) (by rw [cc 16 (by decide) (by decide) (by decide) (by decide) (by decide)]) (fun k hk => arF_o (by omega) (by omega) (by omega) (by omega) (by omega) (by omega))
  · by_cases e : t = s
    · subst e
      have g := h.S t ht
      have rk : ∀ k, k < 8 → k ≠ 6 → arF v n t fr to o (bI + 1) y (2358 + 8 * t + k) = v (2358 + 8 * t + k) := fun k h1 h2 => arF_o (by omega) (by omega) (by omega) (by omega) (by omega) (by omega)
      have ck : ∀ k, 18 ≤ k → k ≤ 25 → k ≠ 24 → arC c n t fr to o sb y k = c k := fun k h1 h2 h3 => cc k (by omega) (by omega) (by omega) (by omega) h3
      refine ⟨?_, ?_, ?_, ?_, ?_, ?_, ?_, ?_, ?_, ?_, ?_⟩
      · rw [rk 0 (by decide) (by decide), ck 18 (by decide) (by decide) (by decide)]; exact g.sta
      · rw [ck 18 (by decide) (by decide) (by decide), ck 19 (by decide) (by decide) (by decide)]; exact g.zof
      · rw [ck 18 (by decide) (by decide) (by decide), ck 19 (by decide) (by decide) (by decide), rk 1 (by decide) (by decide)]; exact g.zon
      · rw [rk 2 (by decide) (by decide), ck 20 (by decide) (by decide) (by decide)]; exact g.par
      · rw [rk 3 (by decide) (by decide), ck 21 (by decide) (by decide) (by decide)]; exact g.pas
      · rw [rk 4 (by decide) (by decide), ck 22 (by decide) (by decide) (by decide)]; exact g.pau
      · rw [ck 22 (by decide) (by decide) (by decide)]; exact g.pag
      · rw [ck 18 (by decide) (by decide) (by decide), ck 23 (by decide) (by decide) (by decide), rk 5 (by decide) (by decide)]; exact g.rea
      · rw [rs, c24, u_at]; rfl
      · rw [rk 7 (by decide) (by decide), ck 25 (by decide) (by decide) (by decide)]; exact g.why
      · rw [ck 18 (by decide) (by decide) (by decide), ck 20 (by decide) (by decide) (by decide), ck 21 (by decide) (by decide) (by decide), ck 22 (by decide) (by decide) (by decide), c24, u_at]
        exact fun z => ⟨(g.off z).1, (g.off z).2.1, (g.off z).2.2.1, rfl⟩
    · refine (h.S t ht).cg (fun k h1 h2 => ?_) (fun k hk => arF_o (by omega) (by omega) (by omega) (by omega) (by omega) (by omega))
      by_cases z : k = 24
      · rw [z, c24, u_ne e]
      · rw [cc k (by omega) (by omega) (by omega) (by omega) z]
  · have out0 : ∀ f, f < 256 → ¬ ((fr ≤ f ∧ f < fr + 2 ^ o) ∨ (to ≤ f ∧ f < to + 2 ^ o)) → arF v n s fr to o (bI + 1) y (18 + 3 * f) = v (18 + 3 * f) ∧ arF v n s fr to o (bI + 1) y (18 + 3 * f + 1) = v (18 + 3 * f + 1) := fun f a1 a2 => ⟨arF_o (by omega) (by omega) (by omega) (by omega) (by omega) (by omega), arF_o (by omega) (by omega) (by omega) (by omega) (by omega) (by omega)⟩
    have inA : ∀ f, f < 256 → (fr ≤ f ∧ f < fr + 2 ^ o) → arF v n s fr to o (bI + 1) y (18 + 3 * f) = shV v f ∧ arF v n s fr to o (bI + 1) y (18 + 3 * f + 1) = 0 := fun f a1 a2 => by
      have nd : ¬ (to ≤ f ∧ f < to + 2 ^ o) := fun z => dis f a2.1 a2.2 z.1 z.2
      rw [lo _ (by omega), lo _ (by omega), hsF_out (by omega), hsF_out (by omega)]
      exact ⟨(lvF_in a2.1 a2.2).1, (lvF_in a2.1 a2.2).2.1⟩
    have inB : ∀ f, f < 256 → (to ≤ f ∧ f < to + 2 ^ o) → arF v n s fr to o (bI + 1) y (18 + 3 * f) = 3 ∧ arF v n s fr to o (bI + 1) y (18 + 3 * f + 1) = bI + 1 := fun f a1 a2 => by
      rw [lo _ (by omega), lo _ (by omega)]
      obtain ⟨q0, q1, -⟩ := hsF_in (v := lvF v fr (2 ^ o)) (s := 3) (x := bI + 1) a2.1 a2.2
      exact ⟨q0, q1⟩
    have sh34 : ∀ f, shV v f ≠ 3 ∧ shV v f ≠ 4 ∧ shV v f ≠ 0 := fun f => by
      rcases shV_12 v f with q | q <;> rw [q] <;> decide
    have rb0 : arF v n s fr to o (bI + 1) y (786 + 16 * n + 0) = 1 := by
      rw [arF_o (by omega) (by omega) (by omega) (by omega) (by omega) (by omega)]; exact h0
    have rb2 : (arF v n s fr to o (bI + 1) y (786 + 16 * n + 2)).toInt = o := by
      rw [arF_o (by omega) (by omega) (by omega) (by omega) (by omega) (by omega)]; exact h2
    refine h.O.re (fun b => b = n) (fun f => (fr ≤ f ∧ f < fr + 2 ^ o) ∨ (to ≤ f ∧ f < to + 2 ^ o)) hk (fun b k h1 h2 h3 => arF_o (by omega) (by omega) (by omega) (by omega) (by omega) (by omega)) out0 (fun f hf z => Or.inr ⟨n, hn, rfl, z.elim (fun z => (in3 f z.1 z.2).2) (fun z => (in4 f z.1 z.2).2)⟩) (fun b fr' o' hb z g0 g1 g2 j hj => ?_) (fun b t o' hb z g0 g6 g2 => ?_) (fun f b hf hb z g3 g1 => ?_) (fun f b hf hb z g4 g1 => ?_) (fun f hf z => ?_) (fun f hf => ?_)
    · subst z
      rw [r1] at g1
      have e1 : fr' = to := by omega
      have e2 : o' = o := by omega
      subst e1 e2
      obtain ⟨q0, q1⟩ := inB (fr' + j) (by omega) (by omega)
      rw [q0, q1]
      exact ⟨rfl, hb1⟩
    · subst z
      rw [r6] at g6
      have g6 : (0 : Int) = _ := g6
      omega
    · subst z
      refine ⟨rb0, to, o, by rw [r1]; exact hy, rb2, ?_⟩
      by_cases z : (fr ≤ f ∧ f < fr + 2 ^ o) ∨ (to ≤ f ∧ f < to + 2 ^ o)
      · rcases z with z | z
        · rw [(inA f hf z).1] at g3
          exact absurd g3 (sh34 f).1
        · exact z
      · rw [(out0 f hf z).1] at g3
        rw [(out0 f hf z).2] at g1
        obtain ⟨b', fr', o', p1, p2, p3, p4, p5, p6⟩ := h.O.tk f hf g3
        have e : b' = b := by omega
        subst e
        have e1 : fr' = fr := by omega
        have e2 : o' = o := by omega
        subst e1 e2
        exact absurd (Or.inl p6) z
    · subst z
      by_cases z : (fr ≤ f ∧ f < fr + 2 ^ o) ∨ (to ≤ f ∧ f < to + 2 ^ o)
      · rcases z with z | z
        · rw [(inA f hf z).1] at g4
          exact absurd g4 (sh34 f).2.1
        · rw [(inB f hf z).1] at g4
          exact absurd g4 (by decide)
      · rw [(out0 f hf z).1] at g4
        rw [(out0 f hf z).2] at g1
        obtain ⟨b', t, o', p1, p2, p3, p4, p5, p6⟩ := h.O.hl f hf g4
        have e : b' = b := by omega
        subst e
        have e1 : t = to := by omega
        have e2 : o' = o := by omega
        subst e1 e2
        exact absurd (Or.inr p6) z
    · rcases z with z | z
      · exact Or.inr ⟨by rw [(inA f hf z).1]; exact (sh34 f).1, by rw [(inA f hf z).1]; exact (sh34 f).2.1, (inA f hf z).2⟩
      · exact Or.inl ⟨n, hn, rfl, by rw [(inB f hf z).2]; exact hb1, Or.inl (inB f hf z).1⟩
    · rw [arF_o (i := 2358 + 8 * (f / 32) + 0) (by omega) (by omega) (by omega) (by omega) (by omega) (by omega)]
      by_cases z : (fr ≤ f ∧ f < fr + 2 ^ o) ∨ (to ≤ f ∧ f < to + 2 ^ o)
      · rw [← h.O.of f hf]
        rcases z with z | z
        · rw [(inA f hf z).1, (in3 f z.1 z.2).1]
          exact ⟨fun y => absurd y (sh34 f).2.2, fun y => absurd y (by decide)⟩
        · rw [(inB f hf z).1, (in4 f z.1 z.2).1]
          decide
      · rw [(out0 f hf z).1]
        exact h.O.of f hf
end
section
/-! ===== the simulation: arrive | arrives ===== -/
/-- what the invariant doesn't say: copied, where to, settings -/
def jx (v : Nat → Int32) : Prop := (∀ b, b < 96 → v (786 + 16 * b + 0) = 1 → (v (786 + 16 * b + 6) = 0 → v (786 + 16 * b + 7) = 0) ∧ ∀ to fr o : Nat, (v (786 + 16 * b + 6)).toInt = ((to + 1 : Nat) : Int) → (v (786 + 16 * b + 1)).toInt = fr → (v (786 + 16 * b + 2)).toInt = o → (v (786 + 16 * b + 7)).toInt ≤ ((2 ^ o : Nat) : Int) ∧ to / 32 ≠ fr / 32) ∧ (∀ b, b < 96 → v (786 + 16 * b + 0) = 1 → v (786 + 16 * b + 3) = 0 ∨ v (786 + 16 * b + 3) = 1 ∨ v (786 + 16 * b + 3) = 2) ∧ (∀ s, s < 8 → v (2358 + 8 * s + 0) ≠ 0 → v (2358 + 8 * s + 1) = 0 ∨ v (2358 + 8 * s + 1) = 1) ∧ 0 ≤ (v 0 + 4).toInt ∧ 0 ≤ (v 3 + 2).toInt ∧ 0 ≤ (v 2 + 150).toInt ∧ (v 2 + 150).toInt ≤ 400
theorem jx.cg {v v' : Nat → Int32} (h : jx v) (e : ∀ b k, b < 96 → (k = 0 ∨ k = 1 ∨ k = 2 ∨ k = 3 ∨ k = 6 ∨ k = 7) → v' (786 + 16 * b + k) = v (786 + 16 * b + k)) (es : ∀ s, s < 8 → v' (2358 + 8 * s + 0) ≠ 0 → v (2358 + 8 * s + 0) ≠ 0 ∧ v' (2358 + 8 * s + 1) = v (2358 + 8 * s + 1)) (e0 : v' 0 = v 0) (e3 : ∀ i, 1 < i → i < 4 → v' i = v i) : jx v' := by
  refine ⟨fun b hb h0 => ?_, fun b hb h0 => ?_, fun s hs h0 => by rw [(es s hs h0).2]; exact h.2.2.1 s hs (es s hs h0).1, by rw [e0]; exact h.2.2.2.1, by rw [e3 3 (by decide) (by decide), e3 2 (by decide) (by decide)]; exact h.2.2.2.2⟩
  · rw [e b 0 hb (by omega)] at h0
    rw [e b 6 hb (by omega), e b 7 hb (by omega), e b 1 hb (by omega), e b 2 hb (by omega)]
    exact h.1 b hb h0
  · rw [e b 0 hb (by omega)] at h0
    rw [e b 3 hb (by omega)]
    exact h.2.1 b hb h0
/-- one block's row is new -/
theorem jx.re {v v' : Nat → Int32} {n : Nat} (h : jx v) (e : ∀ b k, b < 96 → b ≠ n → (k = 0 ∨ k = 1 ∨ k = 2 ∨ k = 3 ∨ k = 6 ∨ k = 7) → v' (786 + 16 * b + k) = v (786 + 16 * b + k)) (hn : v' (786 + 16 * n + 0) = 1 → (v' (786 + 16 * n + 6) = 0 → v' (786 + 16 * n + 7) = 0) ∧ ∀ to fr o : Nat, (v' (786 + 16 * n + 6)).toInt = ((to + 1 : Nat) : Int) → (v' (786 + 16 * n + 1)).toInt = fr → (v' (786 + 16 * n + 2)).toInt = o → (v' (786 + 16 * n + 7)).toInt ≤ ((2 ^ o : Nat) : Int) ∧ to / 32 ≠ fr / 32) (hd : v' (786 + 16 * n + 0) = 1 → v' (786 + 16 * n + 3) = 0 ∨ v' (786 + 16 * n + 3) = 1 ∨ v' (786 + 16 * n + 3) = 2) (es : ∀ s, s < 8 → v' (2358 + 8 * s + 0) ≠ 0 → v (2358 + 8 * s + 0) ≠ 0 ∧ v' (2358 + 8 * s + 1) = v (2358 + 8 * s + 1)) (e0 : v' 0 = v 0) (e3 : ∀ i, 1 < i → i < 4 → v' i = v i) : jx v' := by
  refine ⟨fun b hb h0 => ?_, fun b hb h0 => ?_, fun s hs h0 => by rw [(es s hs h0).2]; exact h.2.2.1 s hs (es s hs h0).1, by rw [e0]; exact h.2.2.2.1, by rw [e3 3 (by decide) (by decide), e3 2 (by decide) (by decide)]; exact h.2.2.2.2⟩
  · by_cases q : b = n
    · subst q
      exact hn h0
    · rw [e b 0 hb q (by omega)] at h0
      rw [e b 6 hb q (by omega), e b 7 hb q (by omega), e b 1 hb q (by omega), e b 2 hb q (by omega)]
      exact h.1 b hb h0
  · by_cases q : b = n
    · subst q
      exact hd h0
    · rw [e b 0 hb q (by omega)] at h0
      rw [e b 3 hb q (by omega)]
      exact h.2.1 b hb h0
/-- how much a frame weighs in a pass -/
def wt (v : Nat → Int32) (f : Nat) : Nat := if v (18 + 3 * f) = 3 then (if (v (786 + 16 * (v (18 + 3 * f + 1) - 1).toNatClampNeg + 1)).toInt = f then 1 else 2) else 0
theorem wt_cg {v v' : Nat → Int32} {f : Nat} (e0 : v' (18 + 3 * f) = v (18 + 3 * f)) (e1 : v' (18 + 3 * f + 1) = v (18 + 3 * f + 1)) (e2 : ∀ b : Nat, v (18 + 3 * f) = 3 → (v (18 + 3 * f + 1)).toInt = ((b + 1 : Nat) : Int) → b < 96 → v' (786 + 16 * b + 1) = v (786 + 16 * b + 1)) (h : own v) (hf : f < 256) : wt v' f = wt v f := by
  unfold wt
  rw [e0, e1]
  by_cases q : v (18 + 3 * f) = 3
  · obtain ⟨b, fr, o, p1, p2, -⟩ := h.tk f hf q
    rw [if_pos q, if_pos q, t_nat (t_m1 p2 (by omega)), e2 b q p2 p1]
  · rw [if_neg q, if_neg q]
theorem wt_0 {v : Nat → Int32} {f : Nat} (h : v (18 + 3 * f) ≠ 3) : wt v f = 0 := if_neg h
theorem hsF_u {w : Nat → Int32} {fr n i : Nat} {s x y : Int32} (h : i < 18 + 3 * fr ∨ 18 + 3 * (fr + n) ≤ i) : hsF (upd w i y) fr n s x = upd (hsF w fr n s x) i y := by
  funext j
  by_cases e : j = i
  · subst e
    rw [u_at, hsF_out h, u_at]
  · rw [u_ne e]
    unfold hsF
    rw [u_ne e]
theorem shV_cg {v v' : Nat → Int32} {f : Nat} (h : v' (2358 + 8 * (f / 32) + 2) = v (2358 + 8 * (f / 32) + 2)) : shV v' f = shV v f := by
  unfold shV
  rw [h]
theorem l_arrives2 {a1 a2 a3 : Int32} {s n o fr to N : Nat} {w v' : Nat → Int32} (h1 : a1.toInt = s) (hs : s < 8) (h2 : a2.toInt = n) (hn : n < 96) (h3 : a3.toInt = to) (ho : o ≤ 4) (hle : fr + 2 ^ o ≤ 256) (hlt : to + 2 ^ o ≤ 256) (hd : to + 2 ^ o ≤ fr ∨ fr + 2 ^ o ≤ to) (ho2 : (w (786 + 16 * n + 2)).toInt = o) (hf2 : (w (786 + 16 * n + 1)).toInt = fr) (h5 : (w 5).toInt = N) (hw : rd j_M_wakes [.ref 0, .int a2] (wrF (cnF (arF w n s fr to o (a2 + 1) a3) 2 1) N 4 a2 a3) v') : ∀ (d k : Nat) (a4 : Int32) (σ : sm_S), σ 1 = hsF (lvF w fr k) to k 3 (a2 + 1) → a4.toInt = k → k + d = 2 ^ o → xE xM m_M_arrives 13 [.ref 0, .int a1, .int a2, .int a3, .int a4] [] σ (sm_V (fun σ' => σ' = sm_set σ 1 v')) := by
  have hp := t_pw (k := o) (by omega)
  obtain ⟨p6, q6⟩ := ixS (k := 6) (j := 6) h1 rfl (by omega)
  intro d
  induction d with
  | zero =>
    intro k a4 σ hσ h4 hk
    refine w_M_arrives_13 a1 a2 a3 a4 _ _ ((c_longOf h2 hn _).int ?_)
    rintro _ σ ⟨rfl, rfl⟩
    rw [hσ, hsF_out (by omega), lvF_out (by omega)]
    refine ⟨fun _ => (c_lay (k := 1) (j := 1) h2 rfl (by omega) a3 _).void ?_, fun h => absurd ?_ h⟩
    · rintro _ rfl
      refine (c_lay (k := 6) (j := 6) h2 rfl (by omega) 0 _).void ?_
      rintro _ rfl
      refine (c_lay (k := 7) (j := 7) h2 rfl (by omega) 0 _).void ?_
      rintro _ rfl
      refine (c_spanAt a1 _).int ?_
      rintro _ _ ⟨rfl, rfl⟩
      refine ⟨p6, fun σ7 e7 => ?_⟩
      rw [q6, s_at, s_ss, s_at, s_ss, s_at, s_ss, hσ, show k = 2 ^ o by omega] at e7
      have e8 : σ7 = sm_set σ 1 (arF w n s fr to o (a2 + 1) a3) := e7
      rw [e8]
      refine (c_counts (j := 2) rfl (by decide) 1 _).void ?_
      rintro _ rfl
      refine (c_writes2 (n := N) 4 a2 a3 _ ?_).void ?_
      · rw [s_at, s_at, u_ne (by omega), arF_o (by omega) (by omega) (by omega) (by omega) (by omega) (by omega)]
        exact h5
      · rintro _ rfl
        refine (hw _ ?_).void ?_
        · rw [s_at, s_at, s_at]
          rfl
        · rintro _ rfl
          exact ⟨rfl, by rw [s_ss, s_ss, s_ss]⟩
    · rw [t_le, t_pow ho2 (by omega), h4]
      omega
  | succ d ih =>
    intro k a4 σ hσ h4 hk
    refine w_M_arrives_13 a1 a2 a3 a4 _ _ ((c_longOf h2 hn _).int ?_)
    rintro _ σ ⟨rfl, rfl⟩
    rw [hσ, hsF_out (by omega), lvF_out (by omega)]
    have h4' : (a4 + 1).toInt = ((k + 1 : Nat) : Int) := by
      rw [t_add h4 (y := 1) rfl (by omega) (by omega)]
      omega
    refine ⟨fun h => ?_, fun _ => (c_frameOf h2 hn _).int ?_⟩
    · rw [t_le, t_pow ho2 (by omega), h4] at h
      omega
    · rintro _ σ ⟨rfl, rfl⟩
      rw [hσ, hsF_out (by omega), lvF_out (by omega)]
      have hf3 := t_add hf2 h4 (by omega) (by omega)
      rw [← Int.natCast_add] at hf3
      have ht3 := t_add h3 h4 (by omega) (by omega)
      rw [← Int.natCast_add] at ht3
      refine (c_leaves2 hf3 (by omega) σ).void ?_
      rintro _ rfl
      refine (c_has ht3 (by omega) a2 3 _).void ?_
      rintro _ rfl
      have key : upd (upd (upd (upd (upd (σ 1) (18 + 3 * (fr + k)) (shV (σ 1) (fr + k))) (18 + 3 * (fr + k) + 1) 0) (18 + 3 * (fr + k) + 2) 0) (18 + 3 * (to + k)) 3) (18 + 3 * (to + k) + 1) (a2 + 1) = hsF (lvF w fr (k + 1)) to (k + 1) 3 (a2 + 1) := by
        have e1 : shV (σ 1) (fr + k) = shV w (fr + k) := shV_cg (by rw [hσ, hsF_out (by omega), lvF_out (by omega)])
        rw [e1, hσ, hsF_s, lvF_s, hsF_u (by omega), hsF_u (by omega), hsF_u (by omega)]
      rw [s_at, s_ss, key]
      have := ih (k + 1) (a4 + 1) (sm_set σ 1 (hsF (lvF w fr (k + 1)) to (k + 1) 3 (a2 + 1))) s_at h4' (by omega)
      rw [s_ss] at this
      exact this
theorem p_arrive {g : Prop} {N s n : Nat} {c : sm_S} {v : Nat → Int32} {a1 a2 : Int32} (h : tie g N c v) (hj : jj N v) (hx : jx v) (hN : N + 7 < 2000000000) (h1 : a1.toInt = s) (hs : s < 8) (h2 : a2.toInt = n) (h6 : (v (2358 + 8 * s + 6)).toInt = ((n + 1 : Nat) : Int)) : ∃ v' c' N', rd j_M_arrives [.ref 0, .int a1, .int a2] v v' ∧ xC xD j_G_arrive [.ref 41, .int a1, .int a2] c (sm_V (fun σ' => σ' = c')) ∧ tie g N' c' v' ∧ jj N' v' ∧ jx v' ∧ N' ≤ N + 7 ∧ (∀ i, 2358 ≤ i → i < 2422 → i ≠ 2358 + 8 * s + 6 → v' i = v i) ∧ v' (2358 + 8 * s + 6) = 0 ∧ (∀ f, f < 256 → f / 32 = s → wt v' f ≤ wt v f) := by
  have n6 : v (2358 + 8 * s + 6) ≠ 0 := fun z => by
    rw [z] at h6
    have h6 : (0 : Int) = ((n + 1 : Nat) : Int) := h6
    omega
  obtain ⟨n', o, fr, to, hn, e6, h0, e2, ho, e1, hfr, hal, hfs, et, hto, halt, h3⟩ := way_of hj hs n6
  have en : n' = n := by omega
  subst en
  obtain ⟨L, h9⟩ := hj.L hn
  have hle := al_le ho hfr hal
  have hlt := al_le ho hto halt
  obtain ⟨hL6, hline⟩ := line_of hj hn e2 hlt h9
  obtain ⟨p, hp, hp4⟩ := hj.pt (s := fr / 32) (by omega)
  obtain ⟨gb, -⟩ := (h.s.B n' hn).al h0
  have hne := (((hx.1 n' hn h0).2 to fr o et e1 e2).2)
  have ha1 := t_al (k := o) (by omega) hal
  have ha2 := t_al (k := o) (by omega) halt
  have c14 : (c 14 n').toInt = to := m1_add (by rw [← gb.tgt]; exact et) (by omega)
  have c9 : (c 9 n').toInt = fr := by rw [← gb.fir]; exact e1
  have c10 : (c 10 n').toInt = o := by rw [← gb.ord]; exact e2
  have hpc : (c 20 s).toInt = p := by rw [← (h.s.S s hs).par, ← hfs]; exact hp
  obtain ⟨sb, hsb, sbr⟩ := pick (e_shutBits2 h1 hs c hpc hp4)
  have aro : ∀ i, 786 ≤ i → i ≠ 786 + 16 * n' + 1 → i ≠ 786 + 16 * n' + 6 → i ≠ 786 + 16 * n' + 7 → i ≠ 2358 + 8 * s + 6 → arF v n' s fr to o (a2 + 1) (c 14 n') i = v i := fun i a b d e f => arF_o (by omega) (by omega) b d e f
  have arl : ∀ i, i < 18 → arF v n' s fr to o (a2 + 1) (c 14 n') i = v i := fun i a => arF_o (by omega) (by omega) (by omega) (by omega) (by omega) (by omega)
  have r1 : arF v n' s fr to o (a2 + 1) (c 14 n') (786 + 16 * n' + 1) = c 14 n' := by
    unfold arF
    rw [u_ne (by omega), u_ne (by omega), u_ne (by omega), u_at]
  have r6 : arF v n' s fr to o (a2 + 1) (c 14 n') (786 + 16 * n' + 6) = 0 := by
    unfold arF
    rw [u_ne (by omega), u_ne (by omega), u_at]
  have r7 : arF v n' s fr to o (a2 + 1) (c 14 n') (786 + 16 * n' + 7) = 0 := by
    unfold arF
    rw [u_ne (by omega), u_at]
  have t1 : tie g N (arC c n' s fr to o sb (c 14 n')) (arF v n' s fr to o (a2 + 1) (c 14 n')) := by
    refine h.to (sim_arr h.s h.b hn hs h0 e1 et e2 ho hfr hal hto halt hp hsb h2 c14) (fun k k1 k2 => ?_) (arl 5 (by omega)) (fun i hi => aro i (by omega) (by omega) (by omega) (by omega) (by omega)) (fun b hb => ?_)
    · unfold arC ewC
      rw [s_ne (by omega), s_ne (by omega), s_ne (by omega), s_ne (by omega), stC_o (by omega), lgC_o (by omega)]
    · obtain ⟨o1, f1, z1, z2, z3, z4, z5, ⟨w, z6, z6'⟩, ⟨q, z7, z7'⟩, z8⟩ := h.b b hb
      by_cases e : b = n'
      · subst e
        have eo : o1 = o := by omega
        subst eo
        exact ⟨o1, to, by rw [aro _ (by omega) (by omega) (by omega) (by omega) (by omega)]; exact z1, z2, by rw [r1]; exact c14, hto, halt, ⟨w, by rw [aro _ (by omega) (by omega) (by omega) (by omega) (by omega)]; exact z6, z6'⟩, ⟨0, by rw [r6]; rfl, Or.inl rfl⟩, by rw [r7]; decide⟩
      · exact bk_cong (fun k k1 _ _ _ => aro _ (by omega) (by omega) (by omega) (by omega) (by omega)) (h.b b hb)
  have t2 := t1.cnt (k := 2) (by decide) 1
  obtain ⟨nl, hnl, h5l, t3⟩ := t2.log (by omega) 4 a2 (c 14 n')
  have lo3 : ∀ i, i < 2422 → i ≠ 5 → i ≠ 9 → wrF (cnF (arF v n' s fr to o (a2 + 1) (c 14 n')) 2 1) N 4 a2 (c 14 n') i = arF v n' s fr to o (a2 + 1) (c 14 n') i := fun i i1 i2 i3 => by
    rw [wrF_lo i1 i2]
    exact u_ne (by omega)
  have hb3 : ∀ k, 9 ≤ k → k < 16 → wrF (cnF (arF v n' s fr to o (a2 + 1) (c 14 n')) 2 1) N 4 a2 (c 14 n') (786 + 16 * n' + k) = v (786 + 16 * n' + k) := fun k k1 k2 => by
    rw [lo3 _ (by omega) (by omega) (by omega), aro _ (by omega) (by omega) (by omega) (by omega) (by omega)]
  have lnE : lnV (wrF (cnF (arF v n' s fr to o (a2 + 1) (c 14 n')) 2 1) N 4 a2 (c 14 n')) n' L = lnV v n' L := lnV_cg (fun k hk => hb3 (10 + k) (by omega) (by omega))
  obtain ⟨v4, c4, rw4, rc4, t4, -, fx1, fx2⟩ := p_serve (b := a2) (L := L) (fr := to) t3 (by omega) hn h2 (by rw [hb3 9 (by omega) (by omega)]; exact h9) (by rw [lo3 _ (by omega) (by omega) (by omega), aro _ (by omega) (by omega) (by omega) (by omega) (by omega)]; exact h0) (by rw [lo3 _ (by omega) (by omega) (by omega), r1]; exact c14) (fun t ht => by
    rw [lnE] at ht
    obtain ⟨m, a, y1, y2, y3, y4⟩ := hline t ht
    exact ⟨m, a, y1, y2, by rw [lo3 _ (by omega) (by omega) (by omega), aro _ (by omega) (by omega) (by omega) (by omega) (by omega)]; exact y3, y4⟩)
  have ecv : v (786 + 16 * n' + 6) - 1 = c 14 n' := by rw [gb.tgt, Int32.add_sub_cancel]
  have run : rd j_M_arrives [.ref 0, .int a1, .int a2] v v4 := fun σ e => by
    refine w_M_arrives a1 a2 σ _ ((c_of (k := 6) (j := 6) h2 rfl (by omega) σ).int ?_)
    rintro _ σ ⟨rfl, rfl⟩
    rw [e, ecv]
    exact l_arrives2 h1 hs h2 hn c14 ho hle hlt (by omega) e2 e1 h.n rw4 (2 ^ o) 0 0 σ (by rw [hsF_0, lvF_0]; exact e) rfl (by omega)
  obtain ⟨w, N', ew, jw, k1, k2, -, k4⟩ := run.det (c_arrives (N := N) h1 hs h2 hn (by omega) (rz v) (by rw [rz_at]; exact hj) (by rw [rz_at]; exact h6))
  rw [rz_eq ew] at jw k4
  have eN : N' = N + 1 + L := by have := t4.n; have := jw.2.2; omega
  have va : ∀ b k, b < 96 → k < 9 → k ≠ 5 → k ≠ 8 → v4 (786 + 16 * b + k) = arF v n' s fr to o (a2 + 1) (c 14 n') (786 + 16 * b + k) := fun b k y1 y2 y3 y4 => by
    rw [fx2 b k y1 y2 y3 y4, lo3 _ (by omega) (by omega) (by omega)]
  have vl : ∀ i, (i < 5 ∨ (18 ≤ i ∧ i < 786 ∧ i % 3 ≠ 2) ∨ (2358 ≤ i ∧ i < 2422)) → v4 i = arF v n' s fr to o (a2 + 1) (c 14 n') i := fun i hi => by
    rw [fx1 i (by unfold vfx; omega) (by omega), lo3 _ (by omega) (by omega) (by omega)]
  refine ⟨v4, c4, N', run, ?_, ?_, jw, ?_, by omega, fun i i1 i2 i3 => ?_, ?_, fun f hf hfs2 => ?_⟩
  · refine d_G_arrive a1 a2 c _ ⟨t_vp h2 hn, t_vp h2 hn, (c_size h2 hn c).int ?_⟩
    rintro y1 σ1 ⟨ey1, es1⟩
    rw [ey1, es1, t_nat h2]
    refine sbr.int ?_
    rintro y2 σ2 ⟨ey2, es2⟩
    rw [ey2, es2]
    refine (e_letGo2 c9 (t_pow c10 (by omega)) ho hle sb c).void ?_
    rintro _ rfl
    refine (e_settle2 c14 (t_pow c10 (by omega)) ho hlt _).void ?_
    rintro _ rfl
    refine ⟨t_vp h2 hn, fun σ7 e7 => ?_⟩
    refine (e_endWay2 h1 hs h2 hn σ7).void ?_
    rintro σ8 e8
    have e8' : σ8 = arC c n' s fr to o sb (c 14 n') := by
      rw [e8, e7]
      rfl
    rw [e8']
    refine ⟨t_vp (n := 2) rfl (by omega), t_vp (n := 2) rfl (by omega), fun σ9 e9 => ?_⟩
    have e9' : σ9 = sm_set (arC c n' s fr to o sb (c 14 n')) 40 (upd (arC c n' s fr to o sb (c 14 n') 40) 2 (arC c n' s fr to o sb (c 14 n') 40 2 + 1)) := e9
    rw [e9']
    refine (e_add2 _ _ _ _ _ h5l hnl).void ?_
    rintro _ rfl
    refine rc4.void ?_
    rintro _ rfl
    exact ⟨rfl, rfl⟩
  · rw [eN]
    exact t4
  · refine hx.re (n := n') (fun b k b1 b2 b3 => ?_) (fun y0 => ⟨fun _ => ?_, fun to2 fr2 o2 y1 y2 y3 => ?_⟩) (fun _ => by rw [va n' 3 hn (by omega) (by omega) (by omega), aro _ (by omega) (by omega) (by omega) (by omega) (by omega)]; exact hx.2.1 n' hn h0) (fun s' hs' z => ⟨fun y => z ((k4 (2358 + 8 * s' + 0) (by omega) (by omega) (by omega)).trans y), k4 (2358 + 8 * s' + 1) (by omega) (by omega) (by omega)⟩) ?_ (fun i i1 i2 => by rw [vl i (by omega), arl i (by omega)])
    · rw [va b k b1 (by omega) (by omega) (by omega), aro _ (by omega) (by omega) (by omega) (by omega) (by omega)]
    · rw [va n' 7 hn (by omega) (by omega) (by omega)]; exact r7
    · rw [va n' 6 hn (by omega) (by omega) (by omega), r6] at y1
      have y1 : (0 : Int) = _ := y1
      omega
    · rw [vl 0 (by omega), arl 0 (by omega)]
  · exact k4 i i1 i2 i3
  · rw [vl _ (by omega)]
    exact u_at
  · have nt : ¬ (to ≤ f ∧ f < to + 2 ^ o) := by omega
    have arf : ∀ j, j < 2 → v4 (18 + 3 * f + j) = hsF (lvF v fr (2 ^ o)) to (2 ^ o) 3 (a2 + 1) (18 + 3 * f + j) := fun j hj => by
      rw [vl _ (by omega)]
      unfold arF
      rw [u_ne (by omega), u_ne (by omega), u_ne (by omega), u_ne (by omega)]
    by_cases z : fr ≤ f ∧ f < fr + 2 ^ o
    · have : v4 (18 + 3 * f) ≠ 3 := by
        have := arf 0 (by decide)
        rw [Nat.add_zero] at this
        rw [this, hsF_out (by omega), (lvF_in z.1 z.2).1]
        rcases shV_12 v f with q | q <;> rw [q] <;> decide
      rw [wt_0 this]
      exact Nat.zero_le _
    · have q0 : v4 (18 + 3 * f) = v (18 + 3 * f) := by
        have := arf 0 (by decide)
        rw [Nat.add_zero] at this
        rw [this, hsF_out (by omega), lvF_out (by omega)]
      have q1 : v4 (18 + 3 * f + 1) = v (18 + 3 * f + 1) := by
        rw [arf 1 (by decide), hsF_out (by omega), lvF_out (by omega)]
      refine Nat.le_of_eq (wt_cg q0 q1 (fun b y1 y2 y3 => ?_) h.s.O hf)
      have bn : b ≠ n' := fun e => by
        subst e
        obtain ⟨b', fr', o', p1, p2, p3, p4, p5, p6⟩ := h.s.O.tk f hf y1
        have e : b' = b := by omega
        subst e
        have e1 : fr' = fr := by omega
        have e2 : o' = o := by omega
        subst e1 e2
        exact z p6
      rw [va b 1 y3 (by omega) (by omega) (by omega), aro _ (by omega) (by omega) (by omega) (by omega) (by omega)]
end
