/-! ===== the simulation: the class serves its line ===== -/
theorem sv1C_s {b t : Int32} {n fr k : Nat} {c : sm_S} {w : Nat → Int32} (h : k = 26 ∨ k = 28 ∨ k = 33) : sv1C b n fr (sm_set c k w) t = sm_set (sv1C b n fr c t) k w := by
  unfold sv1C
  rw [s_ne (show 30 ≠ k by omega), s_ne (show 31 ≠ k by omega), s_ne (show 32 ≠ k by omega), s_ne (show 34 ≠ k by omega), s_ne (show 0 ≠ k by omega), doC_s (by omega), laC_s (by omega)]
theorem ln_nod {c : sm_S} {v : Nat → Int32} {L k : Nat} (q : sQ c v L) (hk : k < L) : ∀ x, x ∈ lnC c k → x.toNatClampNeg ≠ (c 33 k).toNatClampNeg := fun x hx z => by
  obtain ⟨j, j1, j2⟩ := lnC_mem hx
  obtain ⟨t1, g1, g2, -⟩ := q.tsk j (by omega)
  obtain ⟨t2, f1, f2, -⟩ := q.tsk k hk
  rw [← j2, t_nat g2, t_nat f2] at z
  have e : c 33 j = c 33 k := t_inj (by rw [g2, f2, z])
  have nd := q.nod
  unfold lnC at nd
  have := (List.nodup_iff_pairwise_ne.mp nd)
  rw [List.pairwise_iff_getElem] at this
  have u := this j k (by rw [List.length_map, List.length_range]; omega) (by rw [List.length_map, List.length_range]; omega) j1
  rw [List.getElem_map, List.getElem_map, List.getElem_range, List.getElem_range] at u
  exact u e
theorem kl_la {c : sm_S} {n : Nat} {a1 a2 a3 a4 : Int32} (hn : n < 60) : kl (laC c n a1 a2 a3 a4) := by
  have e : laC c n a1 a2 a3 a4 34 5 = if n + 1 < 60 then nI (n + 1) else 0 := rfl
  unfold kl
  rw [e]
  by_cases z : n + 1 < 60
  · rw [if_pos z]
    exact ⟨n + 1, z, nI_toInt (by omega)⟩
  · rw [if_neg z]
    exact ⟨0, by decide, rfl⟩
theorem l_serve2 {n fr L : Nat} {c : sm_S} {v : Nat → Int32} {b : Int32} (q : sQ c v L) (hn : n < 96) (hb : b.toInt = n) (hfr : (c 9 n).toInt = fr) (hkl : ∀ ts, kl (svC b n fr c ts)) (hs : ∀ t, t ∈ (lnC c L).filter (fun t => decide ((c 28 t.toNatClampNeg).toInt = n)) → srvd c fr t) : ∀ (d k l : Nat) (a2 a3 : Int32) (v4 : Value) (X : Nat → Int32), a3.toInt = k → k + d = L → a2.toInt = l → l ≤ k → (List.range l).map X = (lnC c k).filter (fun t => !decide ((c 28 t.toNatClampNeg).toInt = n)) → (∀ j, k ≤ j → X j = c 33 j) → xE xD m_Y_serveLine 4 [.ref 0, .int b, .int a2, .int a3, v4] [] (sm_set (sm_set (svC b n fr c ((lnC c k).filter (fun t => decide ((c 28 t.toNatClampNeg).toInt = n)))) 28 (clr (c 28) ((lnC c k).filter (fun t => decide ((c 28 t.toNatClampNeg).toInt = n))))) 33 X) (sm_V (fun σ' => ∃ (X' : Nat → Int32) (l' : Nat) (y : Int32), l' ≤ L ∧ y.toInt = l' ∧ σ' = sm_set (sm_set (sm_set (svC b n fr c ((lnC c L).filter (fun t => decide ((c 28 t.toNatClampNeg).toInt = n)))) 28 (clr (c 28) ((lnC c L).filter (fun t => decide ((c 28 t.toNatClampNeg).toInt = n))))) 33 X') 26 (upd (c 26) 7 y) ∧ (List.range l').map X' = (lnC c L).filter (fun t => !decide ((c 28 t.toNatClampNeg).toInt = n)))) := by
  intro d
  induction d with
  | zero =>
    intro k l a2 a3 v4 X h3 hk h2 hl hX hX2
    have hk : k = L := by omega
    subst hk
    have c26 : svC b n fr c ((lnC c k).filter (fun t => decide ((c 28 t.toNatClampNeg).toInt = n))) 26 = c 26 := svC_o (by omega) _ _
    refine d_Y_serveLine_4 b a2 a3 v4 _ _ ⟨fun _ σ1 e1 => ⟨rfl, X, l, a2, hl, h2, ?_, hX⟩, fun z => ?_⟩
    · rw [e1, s_ne (show 26 ≠ 33 by decide), s_ne (show 26 ≠ 28 by decide), c26]
    · rw [s_ne (show 26 ≠ 33 by decide), s_ne (show 26 ≠ 28 by decide), c26, t_le, q.len, h3] at z
      omega
  | succ d ih =>
    intro k l a2 a3 v4 X h3 hk h2 hl hX hX2
    have h6 := q.le6
    have c26 : svC b n fr c ((lnC c k).filter (fun t => decide ((c 28 t.toNatClampNeg).toInt = n))) 26 = c 26 := svC_o (by omega) _ _
    have h3' : (a3 + 1).toInt = ((k + 1 : Nat) : Int) := by
      rw [t_add h3 (y := 1) rfl (by omega) (by omega)]
      omega
    have h2' : (a2 + 1).toInt = ((l + 1 : Nat) : Int) := by
      rw [t_add h2 (y := 1) rfl (by omega) (by omega)]
      omega
    obtain ⟨t, ht6, ht, hw⟩ := q.tsk k (by omega)
    have Xk := hX2 k (Nat.le_refl k)
    have hnod := ln_nod q (show k < L by omega)
    have wk : clr (c 28) ((lnC c k).filter (fun t => decide ((c 28 t.toNatClampNeg).toInt = n))) t = c 28 t := clr_out _ _ (fun x hx => by
      have := hnod x (List.mem_filter.mp hx).1
      rw [t_nat ht] at this
      exact this)
    refine d_Y_serveLine_4 b a2 a3 v4 _ _ ⟨fun z => ?_, fun _ => ?_⟩
    · rw [s_ne (show 26 ≠ 33 by decide), s_ne (show 26 ≠ 28 by decide), c26, t_le, q.len, h3] at z
      omega
    · rw [t_nat h3, s_at, Xk, t_nat ht, s_ne (show 28 ≠ 33 by decide), s_at, wk, t_nat h2]
      refine ⟨t_vp h3 (by omega), t_vp ht ht6, fun z => ⟨t_vp h2 (by omega), fun σ2 e2 => ?_⟩, fun z => ?_⟩
      · have dn : decide ((c 28 (c 33 k).toNatClampNeg).toInt = (n : Int)) = false := by
          rw [t_nat ht]
          exact decide_eq_false (fun y => z (t_inj (by rw [y, hb])))
        have f1 : (lnC c (k + 1)).filter (fun t => decide ((c 28 t.toNatClampNeg).toInt = (n : Int))) = (lnC c k).filter (fun t => decide ((c 28 t.toNatClampNeg).toInt = (n : Int))) := by
          rw [lnC_s, List.filter_append, List.filter_cons, dn]
          exact List.append_nil _
        have f2 : (lnC c (k + 1)).filter (fun t => !decide ((c 28 t.toNatClampNeg).toInt = (n : Int))) = (lnC c k).filter (fun t => !decide ((c 28 t.toNatClampNeg).toInt = (n : Int))) ++ [c 33 k] := by
          rw [lnC_s, List.filter_append, List.filter_cons, dn]
          rfl
        have := ih (k + 1) (l + 1) (a2 + 1) (a3 + 1) (.int (c 33 k)) (upd X l (c 33 k)) h3' (by omega) h2' (by omega) (by
          rw [f2, ← hX, List.range_succ, List.map_append]
          congr 1
          · refine List.map_congr_left (fun x hx => ?_)
            have := List.mem_range.mp hx
            rw [u_ne (by omega)]
          · show [upd X l (c 33 k) l] = [c 33 k]
            rw [u_at]) (fun j hj => by rw [u_ne (by omega)]; exact hX2 j (by omega))
        rw [f1] at this
        rw [e2, s_ss]
        exact this
      · have z : c 28 t = b := Classical.not_not.mp z
        have dn : decide ((c 28 (c 33 k).toNatClampNeg).toInt = (n : Int)) = true := by
          rw [t_nat ht]
          exact decide_eq_true (by rw [z]; exact hb)
        have f1 : (lnC c (k + 1)).filter (fun t => decide ((c 28 t.toNatClampNeg).toInt = (n : Int))) = (lnC c k).filter (fun t => decide ((c 28 t.toNatClampNeg).toInt = (n : Int))) ++ [c 33 k] := by
          rw [lnC_s, List.filter_append, List.filter_cons, dn]
          rfl
        have f2 : (lnC c (k + 1)).filter (fun t => !decide ((c 28 t.toNatClampNeg).toInt = (n : Int))) = (lnC c k).filter (fun t => !decide ((c 28 t.toNatClampNeg).toInt = (n : Int))) := by
          rw [lnC_s, List.filter_append, List.filter_cons, dn]
          exact List.append_nil _
        have mem : c 33 k ∈ (lnC c L).filter (fun t => decide ((c 28 t.toNatClampNeg).toInt = (n : Int))) := List.mem_filter.mpr ⟨lnC_in (by omega), dn⟩
        obtain ⟨m, a, hm, hm2, -, ha, hfa⟩ := hs _ mem
        have emt : m = t := by omega
        subst emt
        have so : ∀ j, ((j ≠ 7 ∧ j ≠ 8 ∧ j ≠ 13 ∧ j ≠ 16 ∧ j ≠ 29) ∧ (j < 34 ∨ 38 < j)) ∧ j ≠ 28 ∧ j ≠ 33 → sm_set (sm_set (svC b n fr c ((lnC c k).filter (fun t => decide ((c 28 t.toNatClampNeg).toInt = (n : Int))))) 28 (clr (c 28) ((lnC c k).filter (fun t => decide ((c 28 t.toNatClampNeg).toInt = (n : Int)))))) 33 X j = c j := fun j hj => by
          rw [s_ne hj.2.2, s_ne hj.2.1, svC_o hj.1]
        refine (e_fulfil2 ht ht6 hb hn (a := a) (fr := fr) _ (fun _ => ?_)).void ?_
        · rw [so 31 (by omega), so 9 (by omega)]
          exact ⟨ha, hfr, hfa⟩
        · rintro _ rfl
          rw [so 30 (by omega), so 32 (by omega)]
          refine ⟨t_vp ht ht6, fun σ4 e4 => ?_⟩
          obtain ⟨nl, hl1, hl2⟩ := hkl ((lnC c k).filter (fun t => decide ((c 28 t.toNatClampNeg).toInt = (n : Int))))
          rw [doC_s (by omega), doC_s (by omega), s_ne (show 28 ≠ 33 by decide), s_at, s_com (show 33 ≠ 28 by decide), s_ss] at e4
          have o34 : σ4 34 = svC b n fr c ((lnC c k).filter (fun t => decide ((c 28 t.toNatClampNeg).toInt = (n : Int)))) 34 := by
            rw [e4, s_ne (show 34 ≠ 33 by decide), s_ne (show 34 ≠ 28 by decide), doC_o (by omega)]
          have o0 : σ4 0 = svC b n fr c ((lnC c k).filter (fun t => decide ((c 28 t.toNatClampNeg).toInt = (n : Int)))) 0 := by
            rw [e4, s_ne (show 0 ≠ 33 by decide), s_ne (show 0 ≠ 28 by decide), doC_o (by omega)]
          refine (e_add2 _ _ _ _ σ4 (n := nl) (by rw [o34]; exact hl2) hl1).void ?_
          rintro _ rfl
          have key : laC σ4 nl (σ4 0 7) 8 (c 33 k) b = sm_set (sm_set (svC b n fr c ((lnC c (k + 1)).filter (fun t => decide ((c 28 t.toNatClampNeg).toInt = (n : Int))))) 28 (clr (c 28) ((lnC c (k + 1)).filter (fun t => decide ((c 28 t.toNatClampNeg).toInt = (n : Int)))))) 33 X := by
            rw [f1, svC_s, clr_s, t_nat ht, o0, e4, laC_s (by omega), laC_s (by omega)]
            unfold sv1C
            rw [t_nat ht, svC_o (k := 31) (by omega), svC_o (k := 30) (by omega), svC_o (k := 32) (by omega), t_nat ha, t_nat hl2]
          rw [key]
          exact ih (k + 1) l a2 (a3 + 1) (.int (c 33 k)) X h3' (by omega) h2 (by omega) (by rw [f2]; exact hX) (fun j hj => hX2 j (by omega))
/-- serveLine | wakes -/
theorem p_serve {g : Prop} {N n fr L : Nat} {c : sm_S} {v : Nat → Int32} {b : Int32} (h : tie g N c v) (hN : N + 6 < 2000000000) (hn : n < 96) (hb : b.toInt = n) (h9 : (v (786 + 16 * n + 9)).toInt = L) (h0 : v (786 + 16 * n + 0) = 1) (hfr : (v (786 + 16 * n + 1)).toInt = fr) (hs : ∀ t, t ∈ lnV v n L → ∃ m a : Nat, m < 6 ∧ t.toInt = m ∧ (v (2322 + 6 * m + 3)).toInt = a ∧ fr + a < 256) : ∃ v' c', rd j_M_wakes [.ref 0, .int b] v v' ∧ xC xD j_Y_serveLine [.ref 0, .int b] c (sm_V (fun σ' => σ' = c')) ∧ tie g (N + L) c' v' ∧ L ≤ 6 ∧ (∀ i, vfx i → i < 786 ∨ 2358 ≤ i → v' i = v i) ∧ (∀ m k, m < 96 → k < 9 → k ≠ 5 → k ≠ 8 → v' (786 + 16 * m + k) = v (786 + 16 * m + k)) := by
  obtain ⟨L0, q⟩ := h.s.Q
  obtain ⟨hm1, hm2⟩ := q.m_le hn h9
  have h6 := q.le6
  have hs2 : ∀ t, t ∈ lnV v n L → srvd c fr t := fun t ht => by
    obtain ⟨m, a, r1, r2, r3, r4⟩ := hs t ht
    rw [hm2] at ht
    obtain ⟨k, k1, k2⟩ := lnC_mem (List.mem_filter.mp ht).1
    obtain ⟨t2, g1, g2, g3⟩ := q.tsk k k1
    rw [k2] at g2
    have e : t2 = m := by omega
    subst e
    exact ⟨t2, a, r1, r2, g3, by rw [← (h.s.T t2 g1).wat g3]; exact r3, r4⟩
  obtain ⟨tt, fx⟩ := tie_sv (b := b) hn (lnV v n L) N c v h (by rw [lnV_len]; omega) h0 hs2
  rw [lnV_len] at tt
  have c9 : (c 9 n).toInt = fr := by
    rcases h.s.B n hn with ⟨-, z⟩ | ⟨-, -, z⟩
    · rw [z] at h0; exact absurd h0 (by decide)
    · rw [← z.fir]; exact hfr
  have hkl : ∀ ts, kl (svC b n fr c ts) := fun ts => by
    have aux : ∀ (ts : List Int32) (c : sm_S), kl c → kl (svC b n fr c ts) := fun ts => by
      induction ts with
      | nil => exact fun c hc => hc
      | cons t ts ih =>
        intro c hc
        refine ih _ ?_
        obtain ⟨nl, l1, l2⟩ := hc
        unfold sv1C
        rw [t_nat l2]
        exact kl_la l1
    exact aux ts c h.k
  have ls := l_serve2 q hn hb c9 hkl (fun t ht => hs2 t (by rw [hm2]; exact ht)) L0 0 0 0 0 .null (c 33) rfl (by omega) rfl (Nat.le_refl 0) rfl (fun _ _ => rfl)
  have start : sm_set (sm_set (svC b n fr c ((lnC c 0).filter (fun t => decide ((c 28 t.toNatClampNeg).toInt = (n : Int))))) 28 (clr (c 28) ((lnC c 0).filter (fun t => decide ((c 28 t.toNatClampNeg).toInt = (n : Int)))))) 33 (c 33) = c := by
    show sm_set (sm_set c 28 (c 28)) 33 (c 33) = c
    rw [s_id, s_id]
  rw [start, ← hm2] at ls
  obtain ⟨nf, r, σ', run, hr, X', l', y, hl', hy, rfl, hX'⟩ := ls
  refine ⟨_, _, r_wakes h (by omega) hn hb h9 (by omega) h0 hfr hs2, d_Y_serveLine b c _ ⟨nf, r, _, run, hr, rfl⟩, ?_, by omega, fun i hi h2 => ?_, fun m k h1 h2 h3 h4 => ?_⟩
  · have xs : ∀ x, x ∈ lnV v n L → ∃ k : Nat, x.toInt = k ∧ k < 6 := fun x hx => by
      obtain ⟨m, -, r1, r2, -⟩ := hs2 x hx
      exact ⟨m, r2, r1⟩
    have vo : ∀ i, (∀ k, k < 6 → i ≠ 2322 + 6 * k + 1) → i ≠ 786 + 16 * n + 9 → wkF b n fr v (lnV v n L) i = svV b n fr v (lnV v n L) i := fun i h1 h2 => by
      unfold wkF
      rw [ovV_out _ _ (fun x hx => ?_), u_ne h2]
      obtain ⟨k, k1, k2⟩ := xs x hx
      rw [t_nat k1]
      exact h1 k k2
    have co : ∀ k, k ≠ 26 → k ≠ 28 → k ≠ 33 → sm_set (sm_set (sm_set (svC b n fr c (lnV v n L)) 28 (clr (c 28) (lnV v n L))) 33 X') 26 (upd (c 26) 7 y) k = svC b n fr c (lnV v n L) k := fun k h1 h2 h3 => by
      rw [s_ne h1, s_ne h3, s_ne h2]
    have k28 : sm_set (sm_set (sm_set (svC b n fr c (lnV v n L)) 28 (clr (c 28) (lnV v n L))) 33 X') 26 (upd (c 26) 7 y) 28 = clr (c 28) (lnV v n L) := rfl
    have k26 : sm_set (sm_set (sm_set (svC b n fr c (lnV v n L)) 28 (clr (c 28) (lnV v n L))) 33 X') 26 (upd (c 26) 7 y) 26 7 = y := rfl
    have k33 : sm_set (sm_set (sm_set (svC b n fr c (lnV v n L)) 28 (clr (c 28) (lnV v n L))) 33 X') 26 (upd (c 26) 7 y) 33 = X' := rfl
    have d28 : svC b n fr c (lnV v n L) 28 = c 28 := svC_o (by omega) _ _
    have d33 : svC b n fr c (lnV v n L) 33 = c 33 := svC_o (by omega) _ _
    have w28 : ∀ t, t < 6 → clr (c 28) (lnV v n L) t = if (c 28 t).toInt = (n : Int) then -1 else c 28 t := fun t ht => by
      by_cases e : (c 28 t).toInt = (n : Int)
      · rw [if_pos e]
        obtain ⟨k, k1, k2⟩ := q.all t ht (ne_m1 e)
        refine clr_in _ _ (Or.inr ⟨c 33 k, ?_, t_nat k2⟩)
        rw [hm2]
        refine List.mem_filter.mpr ⟨lnC_in k1, ?_⟩
        rw [t_nat k2]
        exact decide_eq_true e
      · rw [if_neg e]
        refine clr_out _ _ (fun x hx z => ?_)
        rw [hm2] at hx
        have := of_decide_eq_true (List.mem_filter.mp hx).2
        rw [z] at this
        exact e this
    obtain ⟨Ls, qs⟩ := tt.s.Q
    have eL : Ls = L0 := by
      have a := qs.len
      rw [svC_o (by omega)] at a
      have := q.len
      omega
    subst eL
    have bk : ∀ b', b' < 96 → bk_ok (wkF b n fr v (lnV v n L)) b' := fun b' hb' => by
      obtain ⟨o1, f1, z1, z2, z3, z4, z5, z6, z7, z8⟩ := tt.b b' hb'
      refine ⟨o1, f1, ?_, z2, ?_, z4, z5, ?_, ?_, ?_⟩ <;> rw [vo _ (fun k hk => by omega) (by omega)] <;> assumption
    refine tt.to (tt.s.tq tt.b (fun t ht => ?_) ⟨l', sQ_srv qs (n := n) (by rw [k26]; exact hy) (fun t ht => by rw [k28, w28 t ht, d28]) ?_ ?_ (fun b' k h1 h2 h3 h4 => vo _ (fun k hk => by omega) (by omega))⟩ (fun k hk => co k (by omega) (by omega) (by omega)) (fun i hi => vo i (fun k hk => by omega) (by omega)) (fun b' k h1 h2 => vo _ (fun k hk => by omega) (by omega))) (fun k h1 h2 => co k (by omega) (by omega) (by omega)) (vo 5 (fun k hk => by omega) (by omega)) (fun i hi => vo i (fun k hk => by omega) (by omega)) bk
    · have g := tt.s.T t ht
      have g2 := h.s.T t ht
      have fT : ∀ j, j < 5 → svV b n fr v (lnV v n L) (2322 + 6 * t + j) = v (2322 + 6 * t + j) := fun j hj => fx _ (Or.inr (Or.inr (Or.inr (Or.inl ⟨t, j, ht, hj, rfl⟩))))
      refine ⟨?_, ?_, ?_, fun z => ?_, fun z => ?_, fun z => ?_⟩
      · rw [vo _ (fun k hk => by omega) (by omega), co 27 (by decide) (by decide) (by decide)]; exact g.hom
      · rw [k28, w28 t ht]
        by_cases e : (c 28 t).toInt = (n : Int)
        · rw [if_pos e]
          obtain ⟨k, k1, k2⟩ := q.all t ht (ne_m1 e)
          have : wkF b n fr v (lnV v n L) (2322 + 6 * t + 1) = 0 := ovV_in _ _ (Or.inr ⟨c 33 k, by
            rw [hm2]
            refine List.mem_filter.mpr ⟨lnC_in k1, ?_⟩
            rw [t_nat k2]
            exact decide_eq_true e, by rw [t_nat k2]⟩)
          rw [this]
          rfl
        · rw [if_neg e]
          have : wkF b n fr v (lnV v n L) (2322 + 6 * t + 1) = svV b n fr v (lnV v n L) (2322 + 6 * t + 1) := by
            unfold wkF
            rw [ovV_out _ _ (fun x hx z => ?_), u_ne (by omega)]
            rw [hm2] at hx
            have := of_decide_eq_true (List.mem_filter.mp hx).2
            have ex : x.toNatClampNeg = t := by omega
            rw [ex] at this
            exact e this
          rw [this, fT 1 (by decide)]
          exact g2.wai
      · rw [vo _ (fun k hk => by omega) (by omega), co 29 (by decide) (by decide) (by decide)]; exact g.rea
      all_goals
        rw [k28, w28 t ht] at z
        have z2 : c 28 t ≠ -1 := fun y => by
          rw [y] at z
          rw [if_neg (show ¬ (-1 : Int32).toInt = (n : Int) from fun w => by have w : (-1 : Int) = n := w; omega)] at z
          exact z rfl
      · rw [vo _ (fun k hk => by omega) (by omega), co 30 (by decide) (by decide) (by decide)]; exact g.wis (by rw [d28]; exact z2)
      · rw [vo _ (fun k hk => by omega) (by omega), co 31 (by decide) (by decide) (by decide)]; exact g.wat (by rw [d28]; exact z2)
      · rw [vo _ (fun k hk => by omega) (by omega), co 32 (by decide) (by decide) (by decide)]; exact g.wva (by rw [d28]; exact z2)
    · rw [lnC_cg (c := c) (c' := svC b n fr c (lnV v n L)) (fun k _ => by rw [d33]), d28, ← hX']
      unfold lnC
      rw [k33]
    · unfold wkF
      exact (ovV_out _ _ (fun x hx => by obtain ⟨k, k1, k2⟩ := xs x hx; rw [t_nat k1]; omega)).trans u_at
  · unfold wkF
    rw [ovV_out _ _ (fun x hx => ?_), u_ne (by omega), fx i hi]
    obtain ⟨m, -, r1, r2, -⟩ := hs2 x hx
    rw [t_nat r2]
    omega
  · unfold wkF
    rw [ovV_out _ _ (fun x hx => ?_), u_ne (by omega), fx _ (Or.inr (Or.inr (Or.inl ⟨m, k, h1, by omega, h3, h4, rfl⟩)))]
    obtain ⟨m2, -, r1, r2, -⟩ := hs2 x hx
    rw [t_nat r2]
    omega
