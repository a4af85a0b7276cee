/-! ===== the simulation: what touches neither frames nor blocks nor spans nor tasks ===== -/
theorem sim0.n0 {c c' : sm_S} {v v' : Nat → Int32} (h : sim0 c v) (hk : ∀ b, b < 96 → bk_ok v b) (hc : ∀ k, 2 ≤ k → k ≤ 33 → k ≠ 8 → c' k = c k) (hv : ∀ i, 18 ≤ i → i < 2422 → v' i = v i) (hN : sN c' v') : sim0 c' v' := by
  refine ⟨fun f hf => ?_, fun b hb => ?_, fun s hs => ?_, fun t ht => ?_, ?_, hN, ?_⟩
  · exact (h.F f hf).cg (by rw [hc 2 (by decide) (by decide) (by decide)]) (by rw [hc 3 (by decide) (by decide) (by decide)]) (by rw [hc 4 (by decide) (by decide) (by decide)]) (by rw [hc 5 (by decide) (by decide) (by decide)]) (by rw [hc 6 (by decide) (by decide) (by decide)]) (by rw [hc 7 (by decide) (by decide) (by decide)]) (hv _ (by omega) (by omega)) (hv _ (by omega) (by omega)) (hv _ (by omega) (by omega))
  · exact (h.B b hb).cg (by rw [hc 9 (by decide) (by decide) (by decide)]) (by rw [hc 10 (by decide) (by decide) (by decide)]) (by rw [hc 11 (by decide) (by decide) (by decide)]) (by rw [hc 12 (by decide) (by decide) (by decide)]) (by rw [hc 13 (by decide) (by decide) (by decide)]) (by rw [hc 14 (by decide) (by decide) (by decide)]) (by rw [hc 15 (by decide) (by decide) (by decide)]) (by rw [hc 16 (by decide) (by decide) (by decide)]) (fun k hk => hv _ (by omega) (by omega))
  · exact (h.S s hs).cg (fun k h1 h2 => by rw [hc k (by omega) (by omega) (by omega)]) (fun k hk => hv _ (by omega) (by omega))
  · exact (h.T t ht).cg (fun k h1 h2 => by rw [hc k (by omega) (by omega) (by omega)]) (fun k hk => hv _ (by omega) (by omega))
  · obtain ⟨L, hL⟩ := h.Q
    exact ⟨L, hL.cg (by rw [hc 26 (by decide) (by decide) (by decide)]) (hc 28 (by decide) (by decide) (by decide)) (hc 33 (by decide) (by decide) (by decide)) (fun b k h1 h2 h3 => hv _ (by omega) (by omega))⟩
  · exact h.O.cg (fun i h1 h2 _ => hv i h1 (by omega)) (fun b k h1 h2 => hv _ (by omega) (by omega)) (fun s hs => hv _ (by omega) (by omega)) hk
theorem sim_cnt {c : sm_S} {v : Nat → Int32} {k : Nat} (x : Int32) (h : sim0 c v) (hk : ∀ b, b < 96 → bk_ok v b) (h11 : k < 11) : sim0 (sm_set c 40 (upd (c 40) k (c 40 k + x))) (cnF v k x) := by
  have g := h.N
  have e : ∀ i, i ≠ 7 + k → cnF v k x i = v i := fun i hi => u_ne hi
  refine h.n0 hk (fun j h1 h2 h3 => s_ne (by omega)) (fun i h1 h2 => e i (by omega)) ⟨?_, ?_, ?_, ?_, fun j hj => ?_, ?_, ?_⟩
  · rw [s_ne (by decide), e 0 (by omega)]; exact g.rat
  · rw [s_ne (by decide), e 1 (by omega)]; exact g.tri
  · rw [s_ne (by decide), e 2 (by omega)]; exact g.rto
  · rw [s_ne (by decide), e 3 (by omega)]; exact g.pau
  · rw [s_at]
    by_cases q : j = k
    · subst q
      rw [u_at, g.cnt j hj]
      exact u_at.symm
    · rw [u_ne q, e (7 + j) (by omega)]
      exact g.cnt j hj
  · rw [s_ne (by decide), e 4 (by omega)]; exact g.tic
  · rw [s_ne (by decide), e 6 (by omega)]; exact g.use
theorem wrF_lo {v : Nat → Int32} {n i : Nat} {a b c : Int32} (h : i < 2422) (h5 : i ≠ 5) : wrF v n a b c i = v i := by
  unfold wrF
  rw [u_ne h5, u_ne (by omega), u_ne (by omega), u_ne (by omega), u_ne (by omega)]
theorem laC_o {c : sm_S} {n k : Nat} {a1 a2 a3 a4 : Int32} (h : k < 34 ∨ 38 < k) : laC c n a1 a2 a3 a4 k = c k := by
  unfold laC
  rw [s_ne (by omega), s_ne (by omega), s_ne (by omega), s_ne (by omega), s_ne (by omega)]
theorem sim_log0 {c : sm_S} {v : Nat → Int32} {n m : Nat} {a1 a2 a3 a4 b1 b2 b3 : Int32} (h : sim0 c v) (hk : ∀ b, b < 96 → bk_ok v b) : sim0 (laC c n a1 a2 a3 a4) (wrF v m b1 b2 b3) :=
  h.n0 hk (fun k h1 h2 h3 => laC_o (by omega)) (fun i h1 h2 => wrF_lo (by omega) (by omega)) (h.N.cg (laC_o (by omega)) (laC_o (by omega)) (by rw [laC_o (by omega)]) (by rw [laC_o (by omega)]) (fun i hi h5 => wrF_lo (by omega) h5))
/-- a line on both sides -/
theorem sL_log {c : sm_S} {v : Nat → Int32} {n : Nat} {a2 a3 a4 : Int32} (h : sL c v) (h5 : (v 5).toInt = n) (hn : n < 2000000000) (ht : c 0 7 = v 4) : sL (laC c (n % 60) (c 0 7) a2 a3 a4) (wrF v n a2 a3 a4) := by
  have hm : n % 60 < 60 := Nat.mod_lt _ (by decide)
  have w5 : wrF v n a2 a3 a4 5 = v 5 + 1 := u_at
  have w5i : (v 5 + 1).toInt = ((n + 1 : Nat) : Int) := by
    rw [t_add h5 (y := 1) rfl (by omega) (by omega)]
    omega
  refine ⟨?_, ⟨n + 1, by rw [w5]; exact w5i, ?_⟩, fun k hk => ?_⟩
  · rw [w5]
    have q : laC c (n % 60) (c 0 7) a2 a3 a4 34 4 = c 34 4 + 1 := rfl
    rw [q, h.lns]
  · show (upd (upd (c 34) 5 (if n % 60 + 1 < 60 then nI (n % 60 + 1) else 0)) 4 (c 34 4 + 1) 5).toInt = _
    rw [u_ne (by decide), u_at]
    by_cases q : n % 60 + 1 < 60
    · rw [if_pos q, show (n + 1) % 60 = n % 60 + 1 by omega]
      exact nI_toInt (by omega)
    · rw [if_neg q, show (n + 1) % 60 = 0 by omega]
      rfl
  · obtain ⟨g1, g2, g3, g4⟩ := h.ent k hk
    have q35 : laC c (n % 60) (c 0 7) a2 a3 a4 35 = upd (c 35) (n % 60) (c 0 7) := rfl
    have q36 : laC c (n % 60) (c 0 7) a2 a3 a4 36 = upd (c 36) (n % 60) a2 := rfl
    have q37 : laC c (n % 60) (c 0 7) a2 a3 a4 37 = upd (c 37) (n % 60) a3 := rfl
    have q38 : laC c (n % 60) (c 0 7) a2 a3 a4 38 = upd (c 38) (n % 60) a4 := rfl
    rw [q35, q36, q37, q38]
    unfold wrF
    by_cases q : k = n % 60
    · subst q
      rw [u_at, u_at, u_at, u_at, u_ne (by omega), u_ne (by omega), u_ne (by omega), u_ne (by omega), u_at, u_ne (by omega), u_ne (by omega), u_ne (by omega), u_at, u_ne (by omega), u_ne (by omega), u_at, u_ne (by omega), u_at]
      exact ⟨ht.symm, rfl, rfl, rfl⟩
    · rw [u_ne q, u_ne q, u_ne q, u_ne q, u_ne (by omega), u_ne (by omega), u_ne (by omega), u_ne (by omega), u_ne (by omega), u_ne (by omega), u_ne (by omega), u_ne (by omega), u_ne (by omega), u_ne (by omega), u_ne (by omega), u_ne (by omega), u_ne (by omega), u_ne (by omega), u_ne (by omega), u_ne (by omega), u_ne (by omega), u_ne (by omega), u_ne (by omega), u_ne (by omega)]
      exact ⟨g1, g2, g3, g4⟩
