/-! ===== the simulation: a span begins to go ===== -/
/-- spans' rows alone; none is off that wasn't, none on that was off -/
theorem sim0.sv {c c' : sm_S} {v v' : Nat → Int32} (h : sim0 c v) (hk : ∀ b, b < 96 → bk_ok v b) (S' : ∀ s, s < 8 → sS c' v' s) (hz : ∀ s, s < 8 → (v' (2358 + 8 * s + 0) = 0 ↔ v (2358 + 8 * s + 0) = 0)) (hc : ∀ k, k < 18 ∨ 25 < k → c' k = c k) (hv : ∀ i, i < 2358 → v' i = v i) : sim0 c' v' := by
  refine ⟨fun f hf => ?_, fun b hb => ?_, S', fun t ht => ?_, ?_, ?_, ?_⟩
  · exact (h.F f hf).cg (by rw [hc 2 (by omega)]) (by rw [hc 3 (by omega)]) (by rw [hc 4 (by omega)]) (by rw [hc 5 (by omega)]) (by rw [hc 6 (by omega)]) (by rw [hc 7 (by omega)]) (hv _ (by omega)) (hv _ (by omega)) (hv _ (by omega))
  · exact (h.B b hb).cg (by rw [hc 9 (by omega)]) (by rw [hc 10 (by omega)]) (by rw [hc 11 (by omega)]) (by rw [hc 12 (by omega)]) (by rw [hc 13 (by omega)]) (by rw [hc 14 (by omega)]) (by rw [hc 15 (by omega)]) (by rw [hc 16 (by omega)]) (fun k hk => hv _ (by omega))
  · exact (h.T t ht).cg (fun k h1 h2 => by rw [hc k (by omega)]) (fun k hk => hv _ (by omega))
  · obtain ⟨L, hL⟩ := h.Q
    exact ⟨L, hL.cg (by rw [hc 26 (by omega)]) (hc 28 (by omega)) (hc 33 (by omega)) (fun b k h1 h2 h3 => hv _ (by omega))⟩
  · exact h.N.cg (hc 39 (by omega)) (hc 40 (by omega)) (by rw [hc 0 (by omega)]) (by rw [hc 8 (by omega)]) (fun i hi _ => hv i (by omega))
  · have g := h.O
    have e0 : ∀ f, f < 256 → v' (18 + 3 * f) = v (18 + 3 * f) := fun f hf => hv _ (by omega)
    refine ⟨fun b fr o b1 b2 b3 b4 j hj => ?_, fun b t o b1 b2 b3 b4 => ?_, fun f hf h3 => ?_, fun f hf h4 => ?_, fun f hf h3 h4 => ?_, fun f hf => ?_⟩
    · rw [hv _ (by omega)] at b2 b3 b4
      have hx := g.hs b fr o b1 b2 b3 b4 j hj
      obtain ⟨o2, fr2, p1, p2, p3, p4, p5, -⟩ := hk b b1
      have q1 : o2 = o := by omega
      have q2 : fr2 = fr := by omega
      subst q1 q2
      have hl := al_le p2 p4 p5
      rw [hv _ (by omega), hv _ (by omega)]
      exact hx
    · rw [hv _ (by omega)] at b2 b3 b4
      obtain ⟨k1, k2⟩ := g.hd b t o b1 b2 b3 b4
      have hl := bk_to (hk b b1) b3 b4
      refine ⟨by rw [hv _ (by omega)]; exact k1, fun j hj => ?_⟩
      rw [hv _ (by omega), hv _ (by omega)]
      exact k2 j hj
    · rw [e0 f hf] at h3
      obtain ⟨b, fr, o, p1, p2, p3, p4, p5, p6, p7⟩ := g.tk f hf h3
      exact ⟨b, fr, o, p1, by rw [hv _ (by omega)]; exact p2, by rw [hv _ (by omega)]; exact p3, by rw [hv _ (by omega)]; exact p4, by rw [hv _ (by omega)]; exact p5, p6, p7⟩
    · rw [e0 f hf] at h4
      obtain ⟨b, fr, o, p1, p2, p3, p4, p5, p6, p7⟩ := g.hl f hf h4
      exact ⟨b, fr, o, p1, by rw [hv _ (by omega)]; exact p2, by rw [hv _ (by omega)]; exact p3, by rw [hv _ (by omega)]; exact p4, by rw [hv _ (by omega)]; exact p5, p6, p7⟩
    · rw [e0 f hf] at h3 h4
      rw [hv _ (by omega)]
      exact g.no f hf h3 h4
    · rw [e0 f hf, hz (f / 32) (by omega)]
      exact g.of f hf
def bgF (v : Nat → Int32) (s : Nat) : Nat → Int32 := upd (upd (upd (upd (upd (upd v (2358 + 8 * s + 0) 2) (2358 + 8 * s + 2) 0) (2358 + 8 * s + 3) 0) (2358 + 8 * s + 4) 0) (2358 + 8 * s + 5) 0) (2358 + 8 * s + 6) 0
theorem c_beginsToGo2 {a1 : Int32} {s N : Nat} (h1 : a1.toInt = s) (hs : s < 8) (σ : sm_S) (h5 : (σ 1 5).toInt = N) : xC xM j_M_beginsToGo [.ref 0, .int a1] σ (sm_V (fun σ' => σ' = sm_set σ 1 (wrF (bgF (σ 1) s) N 0 a1 (a1 - a1 / (2 : Int32) * (2 : Int32))))) := by
  obtain ⟨p0, q0⟩ := ixS (k := 0) (j := 0) h1 rfl (by omega)
  obtain ⟨p2, q2⟩ := ixS (k := 2) (j := 2) h1 rfl (by omega)
  obtain ⟨p3, q3⟩ := ixS (k := 3) (j := 3) h1 rfl (by omega)
  obtain ⟨p4, q4⟩ := ixS (k := 4) (j := 4) h1 rfl (by omega)
  obtain ⟨p5, q5⟩ := ixS (k := 5) (j := 5) h1 rfl (by omega)
  obtain ⟨p6, q6⟩ := ixS (k := 6) (j := 6) h1 rfl (by omega)
  refine w_M_beginsToGo a1 σ _ ((c_spanAt a1 σ).int ?_)
  rintro _ σ ⟨rfl, rfl⟩
  refine ⟨p0, fun σ3 e3 => ⟨p2, fun σ4 e4 => ⟨p3, fun σ5 e5 => ⟨p4, fun σ6 e6 => ⟨p5, fun σ7 e7 => ⟨p6, fun σ8 e8 => ⟨by decide, ?_⟩⟩⟩⟩⟩⟩⟩
  have e : σ8 = sm_set σ 1 (bgF (σ 1) s) := by
    rw [q0] at e3
    rw [q2, e3, s_at, s_ss] at e4
    rw [q3, e4, s_at, s_ss] at e5
    rw [q4, e5, s_at, s_ss] at e6
    rw [q5, e6, s_at, s_ss] at e7
    rw [q6, e7, s_at, s_ss] at e8
    exact e8
  rw [e]
  refine (c_writes2 (n := N) _ _ _ _ ?_).void ?_
  · rw [s_at]
    unfold bgF
    rw [u_ne (by omega), u_ne (by omega), u_ne (by omega), u_ne (by omega), u_ne (by omega), u_ne (by omega)]
    exact h5
  · rintro _ rfl
    exact ⟨rfl, by rw [s_at, s_ss]⟩
theorem e_Gbegin2 {a1 : Int32} {s n : Nat} (h1 : a1.toInt = s) (hs : s < 8) (σ : sm_S) (h5 : (σ 34 5).toInt = n) (hn : n < 60) : xC xD j_G_begin [.ref 41, .int a1] σ (sm_V (fun σ' => σ' = laC (sm_set σ 18 (upd (σ 18) s 2)) n (σ 0 7) 0 a1 (a1 - a1 / (2 : Int32) * (2 : Int32)))) := by
  refine d_G_begin a1 σ _ ?_
  rw [t_nat h1]
  refine ⟨t_vp h1 hs, fun σ1 e1 => ⟨by decide, ?_⟩⟩
  rw [e1]
  refine (e_add2 _ _ _ _ _ (by rw [s_ne (by decide)]; exact h5) hn).void ?_
  rintro _ rfl
  exact ⟨rfl, rfl⟩
theorem sim_beg {c : sm_S} {v : Nat → Int32} {s : Nat} (h : sim0 c v) (hk : ∀ b, b < 96 → bk_ok v b) (hs : s < 8) (h1 : c 18 s = 1) : sim0 (sm_set c 18 (upd (c 18) s 2)) (bgF v s) := by
  have gs := h.S s hs
  obtain ⟨k20, k21, k22, k24⟩ := gs.off (Or.inr h1)
  have old : ∀ i, i ≠ 2358 + 8 * s + 0 → i ≠ 2358 + 8 * s + 2 → i ≠ 2358 + 8 * s + 3 → i ≠ 2358 + 8 * s + 4 → i ≠ 2358 + 8 * s + 5 → i ≠ 2358 + 8 * s + 6 → bgF v s i = v i := fun i a b d e f g => by
    unfold bgF
    rw [u_ne g, u_ne f, u_ne e, u_ne d, u_ne b, u_ne a]
  have b0 : bgF v s (2358 + 8 * s + 0) = 2 := by
    unfold bgF
    rw [u_ne (by omega), u_ne (by omega), u_ne (by omega), u_ne (by omega), u_ne (by omega), u_at]
  have b2 : bgF v s (2358 + 8 * s + 2) = 0 := by
    unfold bgF
    rw [u_ne (by omega), u_ne (by omega), u_ne (by omega), u_ne (by omega), u_at]
  have b3 : bgF v s (2358 + 8 * s + 3) = 0 := by
    unfold bgF
    rw [u_ne (by omega), u_ne (by omega), u_ne (by omega), u_at]
  have b4 : bgF v s (2358 + 8 * s + 4) = 0 := by
    unfold bgF
    rw [u_ne (by omega), u_ne (by omega), u_at]
  have b6 : bgF v s (2358 + 8 * s + 6) = 0 := u_at
  have b1 : bgF v s (2358 + 8 * s + 1) = v (2358 + 8 * s + 1) := old _ (by omega) (by omega) (by omega) (by omega) (by omega) (by omega)
  have b7 : bgF v s (2358 + 8 * s + 7) = v (2358 + 8 * s + 7) := old _ (by omega) (by omega) (by omega) (by omega) (by omega) (by omega)
  refine h.sv hk (fun t ht => ?_) (fun t ht => ?_) (fun k hk => s_ne (by omega)) (fun i hi => old i (by omega) (by omega) (by omega) (by omega) (by omega) (by omega))
  · by_cases e : t = s
    · subst e
      refine ⟨?_, ?_, ?_, ?_, ?_, ?_, ?_, ?_, ?_, ?_, ?_⟩
      · rw [b0, s_at, u_at]
      · rw [s_at, u_at]; exact fun q => absurd q (by decide)
      · rw [b1, s_ne (show (19 : Nat) ≠ 18 by decide)]; exact fun _ => gs.zon (by rw [h1]; decide)
      · rw [b2, s_ne (by decide)]; exact k20.symm
      · rw [b3, s_ne (by decide)]; exact k21.symm
      · rw [b4, s_ne (by decide)]; exact k22.symm
      · rw [s_ne (by decide)]; exact gs.pag
      · rw [s_at, u_at]; exact fun q => absurd q (by decide)
      · rw [b6, s_ne (by decide), k24]; rfl
      · rw [b7, s_ne (by decide)]; exact gs.why
      · rw [s_at, u_at]; exact fun q => absurd q (by decide)
    · refine (h.S t ht).cg (fun k h1 h2 => ?_) (fun k hk => old _ (by omega) (by omega) (by omega) (by omega) (by omega) (by omega))
      by_cases q : k = 18
      · rw [q, s_at, u_ne e]
      · rw [s_ne q]
  · by_cases e : t = s
    · subst e
      rw [b0, gs.sta, h1]
      decide
    · rw [old _ (by omega) (by omega) (by omega) (by omega) (by omega) (by omega)]
