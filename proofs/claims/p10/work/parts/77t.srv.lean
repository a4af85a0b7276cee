/-! ===== the simulation: the line of a block is served ===== -/
theorem doC_s {c : sm_S} {t n f k : Nat} {tI what x : Int32} {w : Nat → Int32} (h : k ≠ 7 ∧ k ≠ 8 ∧ k ≠ 13 ∧ k ≠ 16 ∧ k ≠ 29) : doC (sm_set c k w) t n f tI what x = sm_set (doC c t n f tI what x) k w := by
  obtain ⟨h7, h8, h13, h16, h29⟩ := h
  have g7 : sm_set c k w 7 = c 7 := s_ne (Ne.symm h7)
  have g8 : sm_set c k w 8 = c 8 := s_ne (Ne.symm h8)
  have g13 : sm_set c k w 13 = c 13 := s_ne (Ne.symm h13)
  have g16 : sm_set c k w 16 = c 16 := s_ne (Ne.symm h16)
  have g29 : sm_set c k w 29 = c 29 := s_ne (Ne.symm h29)
  unfold doC usC
  by_cases e2 : what = 2
  · rw [if_pos e2, if_pos e2, g13, s_com h13]
  · rw [if_neg e2, if_neg e2]
    by_cases e0 : what = 0
    · rw [if_pos e0, if_pos e0, g29, g7, s_com h29, s_ne (Ne.symm h8), s_com h8, s_ne (Ne.symm h16), s_com h16]
    · rw [if_neg e0, if_neg e0, g7, s_com h7, s_ne (Ne.symm h8), s_com h8, s_ne (Ne.symm h16), s_com h16]
theorem laC_s {c : sm_S} {n k : Nat} {a1 a2 a3 a4 : Int32} {w : Nat → Int32} (h : k < 34 ∨ 38 < k) : laC (sm_set c k w) n a1 a2 a3 a4 = sm_set (laC c n a1 a2 a3 a4) k w := by
  unfold laC
  rw [s_ne (show 35 ≠ k by omega), s_ne (show 36 ≠ k by omega), s_ne (show 37 ≠ k by omega), s_ne (show 38 ≠ k by omega), s_ne (show 34 ≠ k by omega)]
  rw [s_com (show k ≠ 35 by omega), s_com (show k ≠ 36 by omega), s_com (show k ≠ 37 by omega), s_com (show k ≠ 38 by omega), s_com (show k ≠ 34 by omega)]
theorem doC_o {c : sm_S} {t n f k : Nat} {tI what x : Int32} (h : k ≠ 7 ∧ k ≠ 8 ∧ k ≠ 13 ∧ k ≠ 16 ∧ k ≠ 29) : doC c t n f tI what x k = c k := by
  unfold doC usC
  by_cases e2 : what = 2
  · rw [if_pos e2, s_ne (by omega)]
  · rw [if_neg e2]
    by_cases e0 : what = 0
    · rw [if_pos e0, s_ne (by omega), s_ne (by omega), s_ne (by omega)]
    · rw [if_neg e0, s_ne (by omega), s_ne (by omega), s_ne (by omega)]
/-- one of the line is served; all of a list -/
def sv1C (b : Int32) (n fr : Nat) (c : sm_S) (t : Int32) : sm_S := laC (doC c t.toNatClampNeg n (fr + (c 31 t.toNatClampNeg).toNatClampNeg) t (c 30 t.toNatClampNeg) (c 32 t.toNatClampNeg)) (c 34 5).toNatClampNeg (c 0 7) 8 t b
def svC (b : Int32) (n fr : Nat) (c : sm_S) (ts : List Int32) : sm_S := ts.foldl (sv1C b n fr) c
theorem sv1C_o {b : Int32} {n fr k : Nat} {c : sm_S} {t : Int32} (h : (k ≠ 7 ∧ k ≠ 8 ∧ k ≠ 13 ∧ k ≠ 16 ∧ k ≠ 29) ∧ (k < 34 ∨ 38 < k)) : sv1C b n fr c t k = c k := by
  unfold sv1C
  rw [laC_o h.2, doC_o h.1]
theorem svC_o {b : Int32} {n fr k : Nat} (h : (k ≠ 7 ∧ k ≠ 8 ∧ k ≠ 13 ∧ k ≠ 16 ∧ k ≠ 29) ∧ (k < 34 ∨ 38 < k)) : ∀ (ts : List Int32) (c : sm_S), svC b n fr c ts k = c k
  | [], c => rfl
  | t :: ts, c => by
    show svC b n fr (sv1C b n fr c t) ts k = c k
    rw [svC_o h ts, sv1C_o h]
theorem svC_s (b : Int32) (n fr : Nat) (c : sm_S) (ts : List Int32) (t : Int32) : svC b n fr c (ts ++ [t]) = sv1C b n fr (svC b n fr c ts) t := by
  unfold svC
  rw [List.foldl_append]
  rfl
def sv1V (b : Int32) (n fr : Nat) (v : Nat → Int32) (t : Int32) : Nat → Int32 := wrF (doF v t.toNatClampNeg n fr (v (2322 + 6 * t.toNatClampNeg + 3)).toNatClampNeg t (v (2322 + 6 * t.toNatClampNeg + 2)) (v (2322 + 6 * t.toNatClampNeg + 4))) (v 5).toNatClampNeg 8 t b
def svV (b : Int32) (n fr : Nat) (v : Nat → Int32) (ts : List Int32) : Nat → Int32 := ts.foldl (sv1V b n fr) v
theorem svV_s (b : Int32) (n fr : Nat) (v : Nat → Int32) (ts : List Int32) (t : Int32) : svV b n fr v (ts ++ [t]) = sv1V b n fr (svV b n fr v ts) t := by
  unfold svV
  rw [List.foldl_append]
  rfl
/-- what stands fast while a line is served: all but values, uses, pins, what was read, the log -/
def vfx (i : Nat) : Prop := (i < 5 ∨ (6 < i ∧ i < 18)) ∨ (18 ≤ i ∧ i < 786 ∧ i % 3 ≠ 2) ∨ (∃ b k, b < 96 ∧ k < 16 ∧ k ≠ 5 ∧ k ≠ 8 ∧ i = 786 + 16 * b + k) ∨ (∃ t k, t < 6 ∧ k < 5 ∧ i = 2322 + 6 * t + k) ∨ (2358 ≤ i ∧ i < 2422)
theorem doF_o {v : Nat → Int32} {t n fr a i : Nat} {tI what x : Int32} (hn : n < 96) (ht : t < 6) (hf : fr + a < 256) (h : vfx i ∨ i = 5 ∨ 2422 ≤ i) : doF v t n fr a tI what x i = v i := by
  have h1 : i ≠ 786 + 16 * n + 5 := by
    unfold vfx at h
    rcases h with (h | h | ⟨b, k, h⟩ | ⟨b, k, h⟩ | h) | h | h <;> omega
  have h2 : i ≠ 786 + 16 * n + 8 := by
    unfold vfx at h
    rcases h with (h | h | ⟨b, k, h⟩ | ⟨b, k, h⟩ | h) | h | h <;> omega
  have h3 : i ≠ 2322 + 6 * t + 5 := by
    unfold vfx at h
    rcases h with (h | h | ⟨b, k, h⟩ | ⟨b, k, h⟩ | h) | h | h <;> omega
  have h4 : i ≠ 18 + 3 * (fr + a) + 2 := by
    unfold vfx at h
    rcases h with (h | h | ⟨b, k, h⟩ | ⟨b, k, h⟩ | h) | h | h <;> omega
  have h6 : i ≠ 6 := by
    unfold vfx at h
    rcases h with (h | h | ⟨b, k, h⟩ | ⟨b, k, h⟩ | h) | h | h <;> omega
  unfold doF
  by_cases e2 : what = 2
  · rw [if_pos e2, u_ne h1]
  · rw [if_neg e2]
    by_cases e0 : what = 0
    · rw [if_pos e0, u_ne h3, usF_o h6 h2]
    · rw [if_neg e0, u_ne h4, usF_o h6 h2]
theorem vfx_lt {i : Nat} (h : vfx i) : i < 2422 ∧ i ≠ 5 := by
  unfold vfx at h
  rcases h with h | h | ⟨b, k, h⟩ | ⟨b, k, h⟩ | h <;> omega
/-- who is to be served, in the row v and the store c -/
def srvd (c : sm_S) (fr : Nat) (t : Int32) : Prop := ∃ m a : Nat, m < 6 ∧ t.toInt = m ∧ c 28 m ≠ -1 ∧ (c 31 m).toInt = a ∧ fr + a < 256
theorem tie_sv1 {g : Prop} {N n fr : Nat} {c : sm_S} {v : Nat → Int32} {b t : Int32} (h : tie g N c v) (hN : N < 2000000000) (hn : n < 96) (h0 : v (786 + 16 * n + 0) = 1) (ht : srvd c fr t) : tie g (N + 1) (sv1C b n fr c t) (sv1V b n fr v t) ∧ (∀ i, vfx i → sv1V b n fr v t i = v i) := by
  obtain ⟨m, a, hm, htm, hw, ha, hfa⟩ := ht
  have T := h.s.T m hm
  have e2 := T.wis hw
  have e3 := T.wat hw
  have e4 := T.wva hw
  have hp : v (786 + 16 * n + 5) = c 13 n := by
    rcases h.s.B n hn with ⟨-, q⟩ | ⟨-, -, q⟩
    · rw [q] at h0; exact absurd h0 (by decide)
    · exact q.pin
  have n5 : (v 5).toNatClampNeg = N := t_nat h.n
  have ea : (v (2322 + 6 * m + 3)).toNatClampNeg = a := by rw [e3]; exact t_nat ha
  have w : sv1V b n fr v t = wrF (doF v m n fr a t (c 30 m) (c 32 m)) N 8 t b := by
    unfold sv1V
    rw [t_nat htm, ea, e2, e4, n5]
  have fx : ∀ i, (vfx i ∨ i = 5 ∨ 2422 ≤ i) → doF v m n fr a t (c 30 m) (c 32 m) i = v i := fun i hi => doF_o hn hm hfa hi
  have t1 : tie g N (doC c m n (fr + a) t (c 30 m) (c 32 m)) (doF v m n fr a t (c 30 m) (c 32 m)) := h.to (sim_does h.s h.b hm hn hfa hp) (fun k h1 h2 => doC_o (by omega)) (fx 5 (Or.inr (Or.inl rfl))) (fun i hi => fx i (Or.inr (Or.inr hi))) (fun b' hb' => bk_cong (fun k h1 h2 h3 h4 => fx _ (Or.inl (Or.inr (Or.inr (Or.inl ⟨b', k, hb', h1, h3, h4, rfl⟩))))) (h.b b' hb'))
  obtain ⟨nl, hl, h5, t2⟩ := t1.log hN 8 t b
  have z : sv1C b n fr c t = laC (doC c m n (fr + a) t (c 30 m) (c 32 m)) nl (c 0 7) 8 t b := by
    unfold sv1C
    rw [doC_o (by omega)] at h5
    rw [t_nat htm, t_nat ha, t_nat h5]
  refine ⟨?_, fun i hi => ?_⟩
  · rw [z, w]
    rw [doC_o (by omega)] at t2
    exact t2
  · rw [w, wrF_lo (vfx_lt hi).1 (vfx_lt hi).2]
    exact fx i (Or.inl hi)
theorem tie_sv {g : Prop} {n fr : Nat} {b : Int32} (hn : n < 96) : ∀ (ts : List Int32) (N : Nat) (c : sm_S) (v : Nat → Int32), tie g N c v → N + ts.length < 2000000000 → v (786 + 16 * n + 0) = 1 → (∀ t, t ∈ ts → srvd c fr t) → tie g (N + ts.length) (svC b n fr c ts) (svV b n fr v ts) ∧ (∀ i, vfx i → svV b n fr v ts i = v i)
  | [], N, c, v, h, _, _, _ => ⟨h, fun _ _ => rfl⟩
  | t :: ts, N, c, v, h, hN, h0, hs => by
    rw [List.length_cons] at hN
    obtain ⟨t1, f1⟩ := tie_sv1 (b := b) h (by omega) hn h0 (hs t List.mem_cons_self)
    have f0 : vfx (786 + 16 * n + 0) := Or.inr (Or.inr (Or.inl ⟨n, 0, hn, by decide, by decide, by decide, rfl⟩))
    obtain ⟨t2, f2⟩ := tie_sv (b := b) hn ts (N + 1) _ _ t1 (by omega) (by rw [f1 _ f0]; exact h0) (fun t' ht' => by
      obtain ⟨m, a, q1, q2, q3, q4, q5⟩ := hs t' (List.mem_cons_of_mem _ ht')
      exact ⟨m, a, q1, q2, by rw [sv1C_o (by omega)]; exact q3, by rw [sv1C_o (by omega)]; exact q4, q5⟩)
    refine ⟨?_, fun i hi => ?_⟩
    · rw [List.length_cons, show N + (ts.length + 1) = N + 1 + ts.length by omega]
      exact t2
    · show svV b n fr (sv1V b n fr v t) ts i = v i
      rw [f2 i hi, f1 i hi]
/-- served: who waited waits no more -/
theorem sQ_srv {c c' : sm_S} {v v' : Nat → Int32} {L L' n : Nat} (q : sQ c v L) (c26 : (c' 26 7).toInt = L') (c28 : ∀ t, t < 6 → c' 28 t = if (c 28 t).toInt = n then -1 else c 28 t) (c33 : lnC c' L' = (lnC c L).filter (fun t => !decide ((c 28 t.toNatClampNeg).toInt = n))) (v9 : v' (786 + 16 * n + 9) = 0) (ve : ∀ b k, b < 96 → 9 ≤ k → k < 16 → b ≠ n → v' (786 + 16 * b + k) = v (786 + 16 * b + k)) : sQ c' v' L' := by
  have hlen : L' ≤ L := by
    have a := congrArg List.length c33
    rw [lnC_len] at a
    have := List.length_filter_le (fun t : Int32 => !decide ((c 28 t.toNatClampNeg).toInt = n)) (lnC c L)
    rw [lnC_len] at this
    omega
  have mem : ∀ x, x ∈ lnC c' L' → x ∈ lnC c L ∧ ¬ (c 28 x.toNatClampNeg).toInt = n := fun x hx => by
    rw [c33, List.mem_filter] at hx
    refine ⟨hx.1, fun z => ?_⟩
    have := hx.2
    rw [decide_eq_true z] at this
    exact absurd this (by decide)
  refine ⟨c26, Nat.le_trans hlen q.le6, fun k hk => ?_, ?_, fun t ht hw => ?_, fun b hb => ?_⟩
  · obtain ⟨m1, m2⟩ := mem _ (lnC_in hk)
    obtain ⟨t, g1, g2, g3⟩ := q.mem m1
    rw [t_nat g2] at m2
    exact ⟨t, g1, g2, by rw [c28 t g1, if_neg m2]; exact g3⟩
  · rw [c33]
    exact q.nod.filter _
  · rw [c28 t ht] at hw
    by_cases e : (c 28 t).toInt = n
    · rw [if_pos e] at hw; exact absurd rfl hw
    · rw [if_neg e] at hw
      obtain ⟨k, k1, k2⟩ := q.all t ht hw
      have : c 33 k ∈ lnC c' L' := by
        rw [c33, List.mem_filter]
        refine ⟨lnC_in k1, ?_⟩
        rw [t_nat k2, decide_eq_false e]
        rfl
      obtain ⟨j, j1, j2⟩ := lnC_mem this
      exact ⟨j, j1, by rw [j2]; exact k2⟩
  · obtain ⟨m, g1, -⟩ := q.lin b hb
    obtain ⟨g3, g2⟩ := q.m_le hb g1
    by_cases e : b = n
    · subst e
      refine ⟨0, by rw [v9]; rfl, ?_⟩
      rw [c33, List.filter_filter]
      symm
      rw [show lnV v' b 0 = [] from rfl]
      refine List.filter_eq_nil_iff.mpr (fun x hx z => ?_)
      obtain ⟨t, t1, t2, t3⟩ := q.mem hx
      rw [t_nat t2, c28 t t1] at z
      by_cases e2 : (c 28 t).toInt = (b : Int)
      · rw [decide_eq_true e2, Bool.not_true, Bool.and_false] at z
        exact absurd z (by decide)
      · rw [if_neg e2, decide_eq_false e2, Bool.false_and] at z
        exact absurd z (by decide)
    · refine ⟨m, by rw [ve b 9 hb (by omega) (by omega) e]; exact g1, ?_⟩
      have := q.le6
      rw [lnV_cg (fun k hk => ve b (10 + k) hb (by omega) (by omega) e), g2, c33, List.filter_filter]
      refine List.filter_congr (fun x hx => ?_)
      obtain ⟨t, t1, t2, t3⟩ := q.mem hx
      rw [t_nat t2, c28 t t1]
      by_cases e2 : (c 28 t).toInt = (n : Int)
      · rw [if_pos e2, decide_eq_true e2, Bool.not_true, Bool.and_false]
        exact decide_eq_false (by omega)
      · rw [if_neg e2, decide_eq_false e2, Bool.not_false, Bool.and_true]
