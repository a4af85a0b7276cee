/-! ===== the simulation: a task waits, or does it at once ===== -/
theorem lnC_s (c : sm_S) (L : Nat) : lnC c (L + 1) = lnC c L ++ [c 33 L] := by
  unfold lnC
  rw [List.range_succ, List.map_append]
  rfl
theorem lnV_s (v : Nat → Int32) (b m : Nat) : lnV v b (m + 1) = lnV v b m ++ [v (786 + 16 * b + (10 + m))] := by
  unfold lnV
  rw [List.range_succ, List.map_append]
  rfl
theorem lnC_mem {c : sm_S} {L : Nat} {x : Int32} (h : x ∈ lnC c L) : ∃ k, k < L ∧ c 33 k = x := by
  unfold lnC at h
  obtain ⟨k, h1, h2⟩ := List.mem_map.mp h
  exact ⟨k, List.mem_range.mp h1, h2⟩
theorem lnC_in {c : sm_S} {L k : Nat} (h : k < L) : c 33 k ∈ lnC c L := List.mem_map.mpr ⟨k, List.mem_range.mpr h, rfl⟩
theorem lnC_len (c : sm_S) (L : Nat) : (lnC c L).length = L := by
  unfold lnC
  rw [List.length_map, List.length_range]
theorem lnV_len (v : Nat → Int32) (b m : Nat) : (lnV v b m).length = m := by
  unfold lnV
  rw [List.length_map, List.length_range]
theorem sQ.m_le {c : sm_S} {v : Nat → Int32} {L b m : Nat} (q : sQ c v L) (hb : b < 96) (hm : (v (786 + 16 * b + 9)).toInt = m) : m ≤ L ∧ lnV v b m = (lnC c L).filter (fun t => decide ((c 28 t.toNatClampNeg).toInt = b)) := by
  obtain ⟨m', g1, g2⟩ := q.lin b hb
  have e : m' = m := by omega
  subst e
  refine ⟨?_, g2⟩
  have a := congrArg List.length g2
  rw [lnV_len] at a
  have := List.length_filter_le (fun t => decide ((c 28 t.toNatClampNeg).toInt = b)) (lnC c L)
  rw [lnC_len] at this
  omega
/-- whoever is in the line waits -/
theorem sQ.mem {c : sm_S} {v : Nat → Int32} {L : Nat} {x : Int32} (q : sQ c v L) (h : x ∈ lnC c L) : ∃ t : Nat, t < 6 ∧ x.toInt = t ∧ c 28 t ≠ -1 := by
  obtain ⟨k, h1, h2⟩ := lnC_mem h
  obtain ⟨t, g1, g2, g3⟩ := q.tsk k h1
  exact ⟨t, g1, by rw [← h2]; exact g2, g3⟩
theorem sQ.lt6 {c : sm_S} {v : Nat → Int32} {L t : Nat} (q : sQ c v L) (ht : t < 6) (hw : c 28 t = -1) : L < 6 := by
  have hp := php 6 (L + 1) (fun k => if k < L then (c 33 k).toNatClampNeg else t) (fun k hk => by
    show (if k < L then (c 33 k).toNatClampNeg else t) < 6
    split
    · next hlt =>
      obtain ⟨t2, g1, g2, -⟩ := q.tsk k hlt
      rw [t_nat g2]
      exact g1
    · exact ht) (fun k k2 hkk hk2 => by
    show (if k < L then (c 33 k).toNatClampNeg else t) ≠ (if k2 < L then (c 33 k2).toNatClampNeg else t)
    rw [if_pos (by omega)]
    obtain ⟨t1, g1, g2, g3⟩ := q.tsk k (by omega)
    rw [t_nat g2]
    split
    · next hlt =>
      obtain ⟨t2, f1, f2, -⟩ := q.tsk k2 hlt
      rw [t_nat f2]
      intro z
      have e : c 33 k = c 33 k2 := t_inj (by rw [g2, f2, z])
      have nd := q.nod
      unfold lnC at nd
      have := (List.nodup_iff_pairwise_ne.mp nd)
      rw [List.pairwise_iff_getElem] at this
      have u := this k k2 (by rw [List.length_map, List.length_range]; omega) (by rw [List.length_map, List.length_range]; omega) hkk
      rw [List.getElem_map, List.getElem_map, List.getElem_range, List.getElem_range] at u
      exact u e
    · intro z
      rw [z] at g3
      exact g3 hw)
  omega
theorem sQ_add {c c' : sm_S} {v v' : Nat → Int32} {L t n m : Nat} {tI bI : Int32} (q : sQ c v L) (ht : tI.toInt = t) (ht6 : t < 6) (hw : c 28 t = -1) (hbI : bI.toInt = n) (hm : (v (786 + 16 * n + 9)).toInt = m) (hn : n < 96) (c26 : c' 26 7 = c 26 7 + 1) (c28 : c' 28 = upd (c 28) t bI) (c33 : c' 33 = upd (c 33) L tI) (v9 : v' (786 + 16 * n + 9) = v (786 + 16 * n + 9) + 1) (vm : v' (786 + 16 * n + (10 + m)) = tI) (ve : ∀ b k, b < 96 → 9 ≤ k → k < 16 → (b ≠ n ∨ (k ≠ 9 ∧ k ≠ 10 + m)) → v' (786 + 16 * b + k) = v (786 + 16 * b + k)) : sQ c' v' (L + 1) := by
  have l6 := q.lt6 ht6 hw
  have hl : lnC c' L = lnC c L := lnC_cg (fun k hk => by rw [c33, u_ne (by omega)])
  have hls : lnC c' (L + 1) = lnC c L ++ [tI] := by rw [lnC_s, hl, c33, u_at]
  have nt : ∀ x, x ∈ lnC c L → x.toNatClampNeg ≠ t := fun x hx z => by
    obtain ⟨t2, g1, g2, g3⟩ := q.mem hx
    rw [t_nat g2] at z
    rw [z] at g3
    exact g3 hw
  have hbn : bI ≠ -1 := ne_m1 hbI
  refine ⟨?_, by omega, fun k hk => ?_, ?_, fun t2 h2 h3 => ?_, fun b hb => ?_⟩
  · rw [c26, t_add q.len (y := 1) rfl (by omega) (by omega)]
    omega
  · by_cases e : k = L
    · subst e
      exact ⟨t, ht6, by rw [c33, u_at]; exact ht, by rw [c28, u_at]; exact hbn⟩
    · obtain ⟨t2, g1, g2, g3⟩ := q.tsk k (by omega)
      refine ⟨t2, g1, by rw [c33, u_ne e]; exact g2, ?_⟩
      rw [c28, u_ne (fun z => by rw [z] at g3; exact g3 hw)]
      exact g3
  · rw [hls]
    refine List.nodup_append.mpr ⟨q.nod, List.nodup_cons.mpr ⟨List.not_mem_nil, List.nodup_nil⟩, fun x hx y hy => ?_⟩
    rw [List.mem_singleton] at hy
    subst hy
    intro z
    subst z
    exact nt x hx (t_nat ht)
  · by_cases e : t2 = t
    · subst e
      exact ⟨L, by omega, by rw [c33, u_at]; exact ht⟩
    · rw [c28, u_ne e] at h3
      obtain ⟨k, k1, k2⟩ := q.all t2 h2 h3
      exact ⟨k, by omega, by rw [c33, u_ne (by omega)]; exact k2⟩
  · have hf : (lnC c L).filter (fun t => decide ((c' 28 t.toNatClampNeg).toInt = b)) = (lnC c L).filter (fun t => decide ((c 28 t.toNatClampNeg).toInt = b)) := List.filter_congr (fun x hx => by rw [c28, u_ne (nt x hx)])
    obtain ⟨mb, g1, -⟩ := q.lin b hb
    obtain ⟨g3, g2⟩ := q.m_le hb g1
    rw [hls, List.filter_append, hf, ← g2]
    by_cases e : b = n
    · subst e
      have e2 : mb = m := by omega
      subst e2
      refine ⟨mb + 1, ?_, ?_⟩
      · rw [v9, t_add g1 (y := 1) rfl (by omega) (by omega)]
        omega
      · rw [lnV_s, vm, lnV_cg (fun k hk => ve b (10 + k) hb (by omega) (by omega) (Or.inr (by omega)))]
        congr 1
        have : decide ((c' 28 tI.toNatClampNeg).toInt = (b : Int)) = true := by
          rw [t_nat ht, c28, u_at]
          exact decide_eq_true hbI
        rw [List.filter_cons, this]
        rfl
    · refine ⟨mb, by rw [ve b 9 hb (by omega) (by omega) (Or.inl e)]; exact g1, ?_⟩
      have : decide ((c' 28 tI.toNatClampNeg).toInt = (b : Int)) = false := by
        rw [t_nat ht, c28, u_at]
        exact decide_eq_false (by omega)
      rw [List.filter_cons, this, lnV_cg (fun k hk => ve b (10 + k) hb (by omega) (by omega) (Or.inl e))]
      exact (List.append_nil _).symm
/-- tasks and lines -/
theorem sim0.tq {c c' : sm_S} {v v' : Nat → Int32} (h : sim0 c v) (hk : ∀ b, b < 96 → bk_ok v b) (T' : ∀ t, t < 6 → sT c' v' t) (Q' : ∃ L, sQ c' v' L) (hc : ∀ k, k < 26 ∨ 33 < k → c' k = c k) (hv : ∀ i, i < 786 ∨ (2358 ≤ i ∧ i < 2422) → v' i = v i) (hb : ∀ b k, b < 96 → k < 9 → v' (786 + 16 * b + k) = v (786 + 16 * b + k)) : sim0 c' v' := by
  refine ⟨fun f hf => ?_, fun b h1 => ?_, fun s hs => ?_, T', Q', ?_, ?_⟩
  · exact (h.F f hf).cg (by rw [hc 2 (by omega)]) (by rw [hc 3 (by omega)]) (by rw [hc 4 (by omega)]) (by rw [hc 5 (by omega)]) (by rw [hc 6 (by omega)]) (by rw [hc 7 (by omega)]) (hv _ (by omega)) (hv _ (by omega)) (hv _ (by omega))
  · exact (h.B b h1).cg (by rw [hc 9 (by omega)]) (by rw [hc 10 (by omega)]) (by rw [hc 11 (by omega)]) (by rw [hc 12 (by omega)]) (by rw [hc 13 (by omega)]) (by rw [hc 14 (by omega)]) (by rw [hc 15 (by omega)]) (by rw [hc 16 (by omega)]) (fun k h2 => hb b k h1 h2)
  · exact (h.S s hs).cg (fun k h1 h2 => by rw [hc k (by omega)]) (fun k hk => hv _ (by omega))
  · exact h.N.cg (hc 39 (by omega)) (hc 40 (by omega)) (by rw [hc 0 (by omega)]) (by rw [hc 8 (by omega)]) (fun i hi _ => hv i (by omega))
  · exact h.O.cg (fun i h1 h2 _ => hv i (by omega)) (fun b k h1 h2 => hb b k h1 (by omega)) (fun s hs => hv _ (by omega)) hk
/-- what a task wishes -/
def wsC (c : sm_S) (t : Nat) (x y z : Int32) : sm_S := sm_set (sm_set (sm_set c 30 (upd (c 30) t x)) 31 (upd (c 31) t y)) 32 (upd (c 32) t z)
theorem e_wants2 {a1 : Int32} {t : Nat} (h1 : a1.toInt = t) (ht : t < 6) (x y z : Int32) (σ : sm_S) : xC xD j_K_wants [.ref 26, .int a1, .int x, .int y, .int z] σ (sm_V (fun σ' => σ' = wsC σ t x y z)) := by
  have v := t_vp h1 ht
  refine d_K_wants a1 x y z σ _ ?_
  rw [t_nat h1]
  refine ⟨v, fun σ1 e1 => ⟨v, fun σ2 e2 => ⟨v, fun σ3 e3 => ⟨rfl, ?_⟩⟩⟩⟩
  rw [e3, e2, e1]
  rfl
def quC (c : sm_S) (t L : Nat) (tI bI : Int32) : sm_S := sm_set (sm_set (sm_set c 33 (upd (c 33) L tI)) 26 (upd (c 26) 7 (c 26 7 + 1))) 28 (upd (c 28) t bI)
theorem e_queue2 {a1 : Int32} {t L : Nat} (h1 : a1.toInt = t) (ht : t < 6) (a2 : Int32) (σ : sm_S) (hL : (σ 26 7).toInt = L) (h6 : L < 6) : xC xD j_K_queue [.ref 26, .int a1, .int a2] σ (sm_V (fun σ' => σ' = quC σ t L a1 a2)) := by
  refine d_K_queue a1 a2 σ _ ⟨fun q => ?_, fun _ => ?_⟩
  · rw [t_le, hL] at q
    have q : (6 : Int) ≤ L := q
    omega
  · rw [t_nat h1, t_nat hL]
    refine ⟨t_vp hL h6, fun σ1 e1 σ2 e2 => ⟨t_vp h1 ht, fun σ3 e3 => ⟨rfl, ?_⟩⟩⟩
    rw [e3, e2, e1]
    rfl
/-- task t waits for block n, in whose line are m -/
def wtF (v : Nat → Int32) (t n m : Nat) (tI bI what i x : Int32) : Nat → Int32 := upd (upd (upd (upd (upd (upd v (2322 + 6 * t + 1) (bI + 1)) (2322 + 6 * t + 2) what) (2322 + 6 * t + 3) i) (2322 + 6 * t + 4) x) (786 + 16 * n + (10 + m)) tI) (786 + 16 * n + 9) (v (786 + 16 * n + 9) + 1)
theorem wtF_o {v : Nat → Int32} {t n m j : Nat} {tI bI what i x : Int32} (h1 : j < 2322 + 6 * t + 1 ∨ 2322 + 6 * t + 4 < j) (h2 : j ≠ 786 + 16 * n + (10 + m)) (h3 : j ≠ 786 + 16 * n + 9) : wtF v t n m tI bI what i x j = v j := by
  unfold wtF
  rw [u_ne h3, u_ne h2, u_ne (by omega), u_ne (by omega), u_ne (by omega), u_ne (by omega)]
theorem sim_wait {c : sm_S} {v : Nat → Int32} {t n m L : Nat} {tI bI what i x : Int32} (h : sim0 c v) (hk : ∀ b, b < 96 → bk_ok v b) (ht : tI.toInt = t) (ht6 : t < 6) (hw : c 28 t = -1) (hbI : bI.toInt = n) (hn : n < 96) (hm : (v (786 + 16 * n + 9)).toInt = m) (hL : (c 26 7).toInt = L) : L < 6 ∧ m < 6 ∧ sim0 (quC (wsC c t what i x) t L tI bI) (wtF v t n m tI bI what i x) := by
  obtain ⟨L', q⟩ := h.Q
  have e : L' = L := by have := q.len; omega
  subst e
  have l6 := q.lt6 ht6 hw
  have hmL := (q.m_le hn hm).1
  refine ⟨l6, by omega, ?_⟩
  have co : ∀ k, k < 26 ∨ k = 27 ∨ k = 29 ∨ 33 < k → quC (wsC c t what i x) t L' tI bI k = c k := fun k hk => by
    unfold quC wsC
    rw [s_ne (by omega), s_ne (by omega), s_ne (by omega), s_ne (by omega), s_ne (by omega), s_ne (by omega)]
  have c26 : quC (wsC c t what i x) t L' tI bI 26 7 = c 26 7 + 1 := rfl
  have c28 : quC (wsC c t what i x) t L' tI bI 28 = upd (c 28) t bI := rfl
  have c33 : quC (wsC c t what i x) t L' tI bI 33 = upd (c 33) L' tI := rfl
  have c30 : quC (wsC c t what i x) t L' tI bI 30 = upd (c 30) t what := rfl
  have c31 : quC (wsC c t what i x) t L' tI bI 31 = upd (c 31) t i := rfl
  have c32 : quC (wsC c t what i x) t L' tI bI 32 = upd (c 32) t x := rfl
  refine h.tq hk (fun t2 h2 => ?_) ⟨L' + 1, sQ_add q ht ht6 hw hbI hm hn c26 c28 c33 u_at ?_ (fun b k h1 h2 h3 h4 => wtF_o (by omega) (by omega) (by omega))⟩ (fun k hk => co k (by omega)) (fun j hj => wtF_o (by omega) (by omega) (by omega)) (fun b k h1 h2 => wtF_o (by omega) (by omega) (by omega))
  · have g := h.T t2 h2
    by_cases e : t2 = t
    · subst e
      have r1 : wtF v t2 n m tI bI what i x (2322 + 6 * t2 + 1) = bI + 1 := by
        unfold wtF
        rw [u_ne (by omega), u_ne (by omega), u_ne (by omega), u_ne (by omega), u_ne (by omega), u_at]
      have r2 : wtF v t2 n m tI bI what i x (2322 + 6 * t2 + 2) = what := by
        unfold wtF
        rw [u_ne (by omega), u_ne (by omega), u_ne (by omega), u_ne (by omega), u_at]
      have r3 : wtF v t2 n m tI bI what i x (2322 + 6 * t2 + 3) = i := by
        unfold wtF
        rw [u_ne (by omega), u_ne (by omega), u_ne (by omega), u_at]
      have r4 : wtF v t2 n m tI bI what i x (2322 + 6 * t2 + 4) = x := by
        unfold wtF
        rw [u_ne (by omega), u_ne (by omega), u_at]
      refine ⟨?_, ?_, ?_, fun _ => ?_, fun _ => ?_, fun _ => ?_⟩
      · rw [wtF_o (by omega) (by omega) (by omega), co 27 (by omega)]; exact g.hom
      · rw [r1, c28, u_at]
      · rw [wtF_o (by omega) (by omega) (by omega), co 29 (by omega)]; exact g.rea
      · rw [r2, c30, u_at]
      · rw [r3, c31, u_at]
      · rw [r4, c32, u_at]
    · refine g.cg (fun k h1 h2 => ?_) (fun k hk => wtF_o (by omega) (by omega) (by omega))
      rcases (show k = 27 ∨ k = 28 ∨ k = 29 ∨ k = 30 ∨ k = 31 ∨ k = 32 by omega) with q | q | q | q | q | q <;> subst q
      · rw [co 27 (by omega)]
      · rw [c28, u_ne e]
      · rw [co 29 (by omega)]
      · rw [c30, u_ne e]
      · rw [c31, u_ne e]
      · rw [c32, u_ne e]
  · unfold wtF
    rw [u_ne (by omega), u_at]
