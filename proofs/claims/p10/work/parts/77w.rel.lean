/-! ===== the simulation: whose the frames are, when blocks C and frames D change; what was held is let go ===== -/
theorem own.re {v v' : Nat → Int32} (C D : Nat → Prop) (g : own v) (hk : ∀ b, b < 96 → bk_ok v b) (eb : ∀ b k, b < 96 → ¬ C b → (k = 0 ∨ k = 1 ∨ k = 2 ∨ k = 3 ∨ k = 6) → v' (786 + 16 * b + k) = v (786 + 16 * b + k))
    (eo : ∀ f, f < 256 → ¬ D f → v' (18 + 3 * f) = v (18 + 3 * f) ∧ v' (18 + 3 * f + 1) = v (18 + 3 * f + 1))
    (ed : ∀ f, f < 256 → D f → (v (18 + 3 * f) ≠ 3 ∧ v (18 + 3 * f) ≠ 4) ∨ ∃ b, b < 96 ∧ C b ∧ (v (18 + 3 * f + 1)).toInt = ((b + 1 : Nat) : Int))
    (hs' : ∀ b fr o : Nat, b < 96 → C b → v' (786 + 16 * b + 0) = 1 → (v' (786 + 16 * b + 1)).toInt = fr → (v' (786 + 16 * b + 2)).toInt = o → ∀ j, j < 2 ^ o → v' (18 + 3 * (fr + j)) = 3 ∧ (v' (18 + 3 * (fr + j) + 1)).toInt = ((b + 1 : Nat) : Int))
    (hd' : ∀ b t o : Nat, b < 96 → C b → v' (786 + 16 * b + 0) = 1 → (v' (786 + 16 * b + 6)).toInt = ((t + 1 : Nat) : Int) → (v' (786 + 16 * b + 2)).toInt = o → v' (786 + 16 * b + 3) = 0 ∧ ∀ j, j < 2 ^ o → v' (18 + 3 * (t + j)) = 4 ∧ (v' (18 + 3 * (t + j) + 1)).toInt = ((b + 1 : Nat) : Int))
    (tk' : ∀ f b, f < 256 → b < 96 → C b → v' (18 + 3 * f) = 3 → (v' (18 + 3 * f + 1)).toInt = ((b + 1 : Nat) : Int) → v' (786 + 16 * b + 0) = 1 ∧ ∃ fr o : Nat, (v' (786 + 16 * b + 1)).toInt = fr ∧ (v' (786 + 16 * b + 2)).toInt = o ∧ fr ≤ f ∧ f < fr + 2 ^ o)
    (hl' : ∀ f b, f < 256 → b < 96 → C b → v' (18 + 3 * f) = 4 → (v' (18 + 3 * f + 1)).toInt = ((b + 1 : Nat) : Int) → v' (786 + 16 * b + 0) = 1 ∧ ∃ t o : Nat, (v' (786 + 16 * b + 6)).toInt = ((t + 1 : Nat) : Int) ∧ (v' (786 + 16 * b + 2)).toInt = o ∧ t ≤ f ∧ f < t + 2 ^ o)
    (dn : ∀ f, f < 256 → D f → (∃ b, b < 96 ∧ C b ∧ (v' (18 + 3 * f + 1)).toInt = ((b + 1 : Nat) : Int) ∧ (v' (18 + 3 * f) = 3 ∨ v' (18 + 3 * f) = 4)) ∨ (v' (18 + 3 * f) ≠ 3 ∧ v' (18 + 3 * f) ≠ 4 ∧ v' (18 + 3 * f + 1) = 0))
    (of' : ∀ f, f < 256 → (v' (18 + 3 * f) = 0 ↔ v' (2358 + 8 * (f / 32) + 0) = 0)) : own v' := by
  refine ⟨fun b fr o b1 b2 b3 b4 j hj => ?_, fun b t o b1 b2 b3 b4 => ?_, fun f hf h3 => ?_, fun f hf h4 => ?_, fun f hf h3 h4 => ?_, of'⟩
  · by_cases q : C b
    · exact hs' b fr o b1 q b2 b3 b4 j hj
    · rw [eb b 0 b1 q (by omega)] at b2
      rw [eb b 1 b1 q (by omega)] at b3
      rw [eb b 2 b1 q (by omega)] at b4
      have hx := g.hs b fr o b1 b2 b3 b4 j hj
      obtain ⟨o', fr', p1, p2, p3, p4, p5, -⟩ := hk b b1
      have q1 : o' = o := by omega
      have q2 : fr' = fr := by omega
      subst q1 q2
      have hl := al_le p2 p4 p5
      have nd : ¬ D (fr' + j) := fun z => by
        rcases ed _ (by omega) z with y | ⟨b', y1, y2, y3⟩
        · exact y.1 hx.1
        · rw [hx.2] at y3
          have : b' = b := by omega
          subst this
          exact q y2
      obtain ⟨e0, e1⟩ := eo _ (by omega) nd
      rw [e0, e1]
      exact hx
  · by_cases q : C b
    · exact hd' b t o b1 q b2 b3 b4
    · rw [eb b 0 b1 q (by omega)] at b2
      rw [eb b 6 b1 q (by omega)] at b3
      rw [eb b 2 b1 q (by omega)] at b4
      obtain ⟨k1, k2⟩ := g.hd b t o b1 b2 b3 b4
      have hl := bk_to (hk b b1) b3 b4
      refine ⟨by rw [eb b 3 b1 q (by omega)]; exact k1, fun j hj => ?_⟩
      have hx := k2 j hj
      have nd : ¬ D (t + j) := fun z => by
        rcases ed _ (by omega) z with y | ⟨b', y1, y2, y3⟩
        · exact y.2 hx.1
        · rw [hx.2] at y3
          have : b' = b := by omega
          subst this
          exact q y2
      obtain ⟨e0, e1⟩ := eo _ (by omega) nd
      rw [e0, e1]
      exact hx
  · have fin : ∀ b, b < 96 → C b → (v' (18 + 3 * f + 1)).toInt = ((b + 1 : Nat) : Int) → ∃ b fr o : Nat, b < 96 ∧ (v' (18 + 3 * f + 1)).toInt = ((b + 1 : Nat) : Int) ∧ v' (786 + 16 * b + 0) = 1 ∧ (v' (786 + 16 * b + 1)).toInt = fr ∧ (v' (786 + 16 * b + 2)).toInt = o ∧ fr ≤ f ∧ f < fr + 2 ^ o := fun b y1 y2 y3 => by
      obtain ⟨z1, fr, o, z2, z3, z4⟩ := tk' f b hf y1 y2 h3 y3
      exact ⟨b, fr, o, y1, y3, z1, z2, z3, z4⟩
    by_cases q : D f
    · rcases dn f hf q with ⟨b, y1, y2, y3, -⟩ | ⟨y, -⟩
      · exact fin b y1 y2 y3
      · exact absurd h3 y
    · obtain ⟨e0, e1⟩ := eo f hf q
      rw [e0] at h3
      obtain ⟨b, fr, o, p1, p2, p3, p4, p5, p6⟩ := g.tk f hf h3
      by_cases q2 : C b
      · exact fin b p1 q2 (by rw [e1]; exact p2)
      · exact ⟨b, fr, o, p1, by rw [e1]; exact p2, by rw [eb b 0 p1 q2 (by omega)]; exact p3, by rw [eb b 1 p1 q2 (by omega)]; exact p4, by rw [eb b 2 p1 q2 (by omega)]; exact p5, p6⟩
  · have fin : ∀ b, b < 96 → C b → (v' (18 + 3 * f + 1)).toInt = ((b + 1 : Nat) : Int) → ∃ b t o : Nat, b < 96 ∧ (v' (18 + 3 * f + 1)).toInt = ((b + 1 : Nat) : Int) ∧ v' (786 + 16 * b + 0) = 1 ∧ (v' (786 + 16 * b + 6)).toInt = ((t + 1 : Nat) : Int) ∧ (v' (786 + 16 * b + 2)).toInt = o ∧ t ≤ f ∧ f < t + 2 ^ o := fun b y1 y2 y3 => by
      obtain ⟨z1, t, o, z2, z3, z4⟩ := hl' f b hf y1 y2 h4 y3
      exact ⟨b, t, o, y1, y3, z1, z2, z3, z4⟩
    by_cases q : D f
    · rcases dn f hf q with ⟨b, y1, y2, y3, -⟩ | ⟨-, y, -⟩
      · exact fin b y1 y2 y3
      · exact absurd h4 y
    · obtain ⟨e0, e1⟩ := eo f hf q
      rw [e0] at h4
      obtain ⟨b, t, o, p1, p2, p3, p4, p5, p6⟩ := g.hl f hf h4
      by_cases q2 : C b
      · exact fin b p1 q2 (by rw [e1]; exact p2)
      · exact ⟨b, t, o, p1, by rw [e1]; exact p2, by rw [eb b 0 p1 q2 (by omega)]; exact p3, by rw [eb b 6 p1 q2 (by omega)]; exact p4, by rw [eb b 2 p1 q2 (by omega)]; exact p5, p6⟩
  · by_cases q : D f
    · rcases dn f hf q with ⟨b, y1, y2, y3, y4⟩ | ⟨-, -, y⟩
      · exact absurd y4 (fun z => z.elim h3 h4)
      · exact y
    · obtain ⟨e0, e1⟩ := eo f hf q
      rw [e0] at h3 h4
      rw [e1]
      exact g.no f hf h3 h4
/-- tasks, lines and numbers stand -/
theorem sim0.fb {c c' : sm_S} {v v' : Nat → Int32} (h : sim0 c v) (F' : ∀ f, f < 256 → sF c' v' f) (B' : ∀ b, b < 96 → sB c' v' b) (S' : ∀ s, s < 8 → sS c' v' s) (O' : own v') (hc : ∀ k, 25 < k ∨ k = 0 ∨ k = 8 → c' k = c k) (hv : ∀ i, i < 18 ∨ (2322 ≤ i ∧ i < 2358) → v' i = v i) (hb : ∀ b k, b < 96 → 9 ≤ k → k < 16 → v' (786 + 16 * b + k) = v (786 + 16 * b + k)) : sim0 c' v' := by
  refine ⟨F', B', S', fun t ht => ?_, ?_, ?_, O'⟩
  · exact (h.T t ht).cg (fun k h1 h2 => by rw [hc k (by omega)]) (fun k hk => hv _ (by omega))
  · obtain ⟨L, hL⟩ := h.Q
    exact ⟨L, hL.cg (by rw [hc 26 (by omega)]) (hc 28 (by omega)) (hc 33 (by omega)) hb⟩
  · exact h.N.cg (hc 39 (by omega)) (hc 40 (by omega)) (by rw [hc 0 (by omega)]) (by rw [hc 8 (by omega)]) (fun i hi _ => hv i (by omega))
def rlF (v : Nat → Int32) (n s to o : Nat) : Nat → Int32 := upd (upd (upd (lvF v to (2 ^ o)) (786 + 16 * n + 6) 0) (786 + 16 * n + 7) 0) (2358 + 8 * s + 6) 0
def ewC (c : sm_S) (n s : Nat) : sm_S := sm_set (sm_set (sm_set c 14 (upd (c 14) n (-1))) 15 (upd (c 15) n 0)) 24 (upd (c 24) s (-1))
theorem e_endWay2 {a1 a2 : Int32} {s n : Nat} (h1 : a1.toInt = s) (hs : s < 8) (h2 : a2.toInt = n) (hn : n < 96) (σ : sm_S) : xC xD j_G_endWay [.ref 41, .int a1, .int a2] σ (sm_V (fun σ' => σ' = ewC σ n s)) := by
  have v1 := t_vp h1 hs
  have v2 := t_vp h2 hn
  refine d_G_endWay a1 a2 σ _ ?_
  rw [t_nat h1, t_nat h2]
  refine ⟨v2, fun σ1 e1 => ⟨v2, fun σ2 e2 => ⟨v1, fun σ3 e3 => ⟨rfl, ?_⟩⟩⟩⟩
  rw [e3, e2, e1]
  rfl
theorem rlF_o {v : Nat → Int32} {n s to o i : Nat} (h1 : i < 18 + 3 * to ∨ 18 + 3 * (to + 2 ^ o) ≤ i) (h2 : i ≠ 786 + 16 * n + 6) (h3 : i ≠ 786 + 16 * n + 7) (h4 : i ≠ 2358 + 8 * s + 6) : rlF v n s to o i = v i := by
  unfold rlF
  rw [u_ne h4, u_ne h3, u_ne h2, lvF_out h1]
theorem sim_rel {c : sm_S} {v : Nat → Int32} {n s to o p : Nat} {sb : Int32} (h : sim0 c v) (hk : ∀ b, b < 96 → bk_ok v b) (hn : n < 96) (hs : s < 8) (h0 : v (786 + 16 * n + 0) = 1) (h6 : (v (786 + 16 * n + 6)).toInt = ((to + 1 : Nat) : Int)) (h2 : (v (786 + 16 * n + 2)).toInt = o) (ho : o ≤ 4) (hto : to < 256) (hal : to % 2 ^ o = 0) (hp : (v (2358 + 8 * (to / 32) + 2)).toInt = p) (hsb : ∀ i, i < 32 → (bit sb i ↔ i / 8 < p)) : sim0 (ewC (lgC c to o sb) n s) (rlF v n s to o) := by
  have hle := al_le ho hto hal
  obtain ⟨-, own4⟩ := h.O.hd n to o hn h0 h6 h2
  have in4 : ∀ f, to ≤ f → f < to + 2 ^ o → v (18 + 3 * f) = 4 ∧ (v (18 + 3 * f + 1)).toInt = ((n + 1 : Nat) : Int) := fun f a1 a2 => by
    have := own4 (f - to) (by omega)
    rw [show to + (f - to) = f by omega] at this
    exact this
  have lo : ∀ i, i < 786 → rlF v n s to o i = lvF v to (2 ^ o) i := fun i hi => by
    unfold rlF
    rw [u_ne (by omega), u_ne (by omega), u_ne (by omega)]
  have co : ∀ k, k ≠ 14 → k ≠ 15 → k ≠ 24 → ewC (lgC c to o sb) n s k = lgC c to o sb k := fun k h1 h2 h3 => by
    unfold ewC
    rw [s_ne h3, s_ne h2, s_ne h1]
  have c14 : ewC (lgC c to o sb) n s 14 = upd (c 14) n (-1) := rfl
  have c15 : ewC (lgC c to o sb) n s 15 = upd (c 15) n 0 := rfl
  have c24 : ewC (lgC c to o sb) n s 24 = upd (c 24) s (-1) := rfl
  have r6 : rlF v n s to o (786 + 16 * n + 6) = 0 := by
    unfold rlF
    rw [u_ne (by omega), u_ne (by omega), u_at]
  have r7 : rlF v n s to o (786 + 16 * n + 7) = 0 := by
    unfold rlF
    rw [u_ne (by omega), u_at]
  have rs : rlF v n s to o (2358 + 8 * s + 6) = 0 := u_at
  refine h.fb (fun f hf => ?_) (fun b hb => ?_) (fun t ht => ?_) ?_ (fun k hk => by rw [co k (by omega) (by omega) (by omega), lgC_o (by omega)]) (fun i hi => rlF_o (by omega) (by omega) (by omega) (by omega)) (fun b k h1 h2 h3 => rlF_o (by omega) (by omega) (by omega) (by omega))
  · have g := sF_lv (sb := sb) (h.F f hf) hf ho hto hal hp hsb (fun a1 a2 => Or.inr (in4 f a1 a2).1)
    exact g.cg (by rw [co 2 (by decide) (by decide) (by decide)]) (by rw [co 3 (by decide) (by decide) (by decide)]) (by rw [co 4 (by decide) (by decide) (by decide)]) (by rw [co 5 (by decide) (by decide) (by decide)]) (by rw [co 6 (by decide) (by decide) (by decide)]) (by rw [co 7 (by decide) (by decide) (by decide)]) (lo _ (by omega)) (lo _ (by omega)) (lo _ (by omega))
  · have cc : ∀ k, 9 ≤ k → k ≤ 16 → k ≠ 14 → k ≠ 15 → ewC (lgC c to o sb) n s k = c k := fun k h1 h2 h3 h4 => by rw [co k h3 h4 (by omega), lgC_o (by omega)]
    by_cases e : b = n
    · subst e
      have rk : ∀ k, k < 9 → k ≠ 6 → k ≠ 7 → rlF v b s to o (786 + 16 * b + k) = v (786 + 16 * b + k) := fun k h1 h2 h3 => rlF_o (by omega) (by omega) (by omega) (by omega)
      rcases h.B b hb with ⟨-, q⟩ | ⟨q1, q2, q⟩
      · rw [q] at h0; exact absurd h0 (by decide)
      · exact Or.inr ⟨by rw [cc 9 (by decide) (by decide) (by decide) (by decide)]; exact q1, by rw [rk 0 (by decide) (by decide) (by decide)]; exact q2, by rw [rk 1 (by decide) (by decide) (by decide), cc 9 (by decide) (by decide) (by decide) (by decide)]; exact q.fir, by rw [rk 2 (by decide) (by decide) (by decide), cc 10 (by decide) (by decide) (by decide) (by decide)]; exact q.ord, by rw [rk 3 (by decide) (by decide) (by decide), cc 11 (by decide) (by decide) (by decide) (by decide)]; exact q.kin, by rw [rk 4 (by decide) (by decide) (by decide), cc 12 (by decide) (by decide) (by decide) (by decide)]; exact q.own, by rw [rk 5 (by decide) (by decide) (by decide), cc 13 (by decide) (by decide) (by decide) (by decide)]; exact q.pin, by rw [r6, c14, u_at]; rfl, by rw [r7, c15, u_at], by rw [rk 8 (by decide) (by decide) (by decide), cc 16 (by decide) (by decide) (by decide) (by decide)]; exact q.use⟩
    · exact (h.B b hb).cg (by rw [cc 9 (by decide) (by decide) (by decide) (by decide)]) (by rw [cc 10 (by decide) (by decide) (by decide) (by decide)]) (by rw [cc 11 (by decide) (by decide) (by decide) (by decide)]) (by rw [cc 12 (by decide) (by decide) (by decide) (by decide)]) (by rw [cc 13 (by decide) (by decide) (by decide) (by decide)]) (by rw [c14, u_ne e]) (by rw [c15, u_ne e]) (by rw [cc 16 (by decide) (by decide) (by decide) (by decide)]) (fun k hk => rlF_o (by omega) (by omega) (by omega) (by omega))
  · have cc : ∀ k, 18 ≤ k → k ≤ 25 → k ≠ 24 → ewC (lgC c to o sb) n s k = c k := fun k h1 h2 h3 => by rw [co k (by omega) (by omega) h3, lgC_o (by omega)]
    by_cases e : t = s
    · subst e
      have g := h.S t ht
      have rk : ∀ k, k < 8 → k ≠ 6 → rlF v n t to o (2358 + 8 * t + k) = v (2358 + 8 * t + k) := fun k h1 h2 => rlF_o (by omega) (by omega) (by omega) (by omega)
      refine ⟨?_, ?_, ?_, ?_, ?_, ?_, ?_, ?_, ?_, ?_, ?_⟩
      · rw [rk 0 (by decide) (by decide), cc 18 (by decide) (by decide) (by decide)]; exact g.sta
      · rw [cc 18 (by decide) (by decide) (by decide), cc 19 (by decide) (by decide) (by decide)]; exact g.zof
      · rw [cc 18 (by decide) (by decide) (by decide), cc 19 (by decide) (by decide) (by decide), rk 1 (by decide) (by decide)]; exact g.zon
      · rw [rk 2 (by decide) (by decide), cc 20 (by decide) (by decide) (by decide)]; exact g.par
      · rw [rk 3 (by decide) (by decide), cc 21 (by decide) (by decide) (by decide)]; exact g.pas
      · rw [rk 4 (by decide) (by decide), cc 22 (by decide) (by decide) (by decide)]; exact g.pau
      · rw [cc 22 (by decide) (by decide) (by decide)]; exact g.pag
      · rw [cc 18 (by decide) (by decide) (by decide), cc 23 (by decide) (by decide) (by decide), rk 5 (by decide) (by decide)]; exact g.rea
      · rw [rs, c24, u_at]; rfl
      · rw [rk 7 (by decide) (by decide), cc 25 (by decide) (by decide) (by decide)]; exact g.why
      · rw [cc 18 (by decide) (by decide) (by decide), cc 20 (by decide) (by decide) (by decide), cc 21 (by decide) (by decide) (by decide), cc 22 (by decide) (by decide) (by decide), c24, u_at]
        exact fun z => ⟨(g.off z).1, (g.off z).2.1, (g.off z).2.2.1, rfl⟩
    · refine (h.S t ht).cg (fun k h1 h2 => ?_) (fun k hk => rlF_o (by omega) (by omega) (by omega) (by omega))
      by_cases z : k = 24
      · rw [z, c24, u_ne e]
      · rw [cc k h1 h2 z]
  · have out0 : ∀ f, f < 256 → ¬ (to ≤ f ∧ f < to + 2 ^ o) → rlF v n s to o (18 + 3 * f) = v (18 + 3 * f) ∧ rlF v n s to o (18 + 3 * f + 1) = v (18 + 3 * f + 1) := fun f a1 a2 => ⟨rlF_o (by omega) (by omega) (by omega) (by omega), rlF_o (by omega) (by omega) (by omega) (by omega)⟩
    have inn : ∀ f, f < 256 → (to ≤ f ∧ f < to + 2 ^ o) → rlF v n s to o (18 + 3 * f) = shV v f ∧ rlF v n s to o (18 + 3 * f + 1) = 0 := fun f a1 a2 => by
      rw [lo _ (by omega), lo _ (by omega)]
      exact ⟨(lvF_in a2.1 a2.2).1, (lvF_in a2.1 a2.2).2.1⟩
    have sh34 : ∀ f, shV v f ≠ 3 ∧ shV v f ≠ 4 ∧ shV v f ≠ 0 := fun f => by
      rcases shV_12 v f with q | q <;> rw [q] <;> decide
    have rb : ∀ k, k < 4 → rlF v n s to o (786 + 16 * n + k) = v (786 + 16 * n + k) := fun k h1 => rlF_o (by omega) (by omega) (by omega) (by omega)
    refine h.O.re (fun b => b = n) (fun f => to ≤ f ∧ f < to + 2 ^ o) hk (fun b k h1 h2 h3 => rlF_o (by omega) (by omega) (by omega) (by omega)) out0 (fun f hf z => Or.inr ⟨n, hn, rfl, (in4 f z.1 z.2).2⟩) (fun b fr o' hb z g0 g1 g2 j hj => ?_) (fun b t o' hb z g0 g6 g2 => ?_) (fun f b hf hb z g3 g1 => ?_) (fun f b hf hb z g4 g1 => ?_) (fun f hf z => Or.inr ⟨?_, ?_, ?_⟩) (fun f hf => ?_)
    · subst z
      rw [rb 1 (by decide)] at g1
      rw [rb 2 (by decide)] at g2
      have hx := h.O.hs b fr o' hb h0 g1 g2 j hj
      obtain ⟨o2, fr2, p1, p2, p3, p4, p5, -⟩ := hk b hb
      have e1 : o2 = o' := by omega
      have e2 : fr2 = fr := by omega
      subst e1 e2
      have hl := al_le p2 p4 p5
      have nd : ¬ (to ≤ fr2 + j ∧ fr2 + j < to + 2 ^ o) := fun z => by
        have := (in4 _ z.1 z.2).1
        rw [hx.1] at this
        exact absurd this (by decide)
      rw [(out0 _ (by omega) nd).1, (out0 _ (by omega) nd).2]
      exact hx
    · subst z
      rw [r6] at g6
      have g6 : (0 : Int) = _ := g6
      omega
    · subst z
      have nd : ¬ (to ≤ f ∧ f < to + 2 ^ o) := fun z => by
        rw [(inn f hf z).1] at g3
        exact (sh34 f).1 g3
      rw [(out0 f hf nd).1] at g3
      rw [(out0 f hf nd).2] at g1
      obtain ⟨b', fr, o', p1, p2, p3, p4, p5, p6⟩ := h.O.tk f hf g3
      have e : b' = b := by omega
      subst e
      exact ⟨by rw [rb 0 (by decide)]; exact p3, fr, o', by rw [rb 1 (by decide)]; exact p4, by rw [rb 2 (by decide)]; exact p5, p6⟩
    · subst z
      have nd : ¬ (to ≤ f ∧ f < to + 2 ^ o) := fun z => by
        rw [(inn f hf z).1] at g4
        exact (sh34 f).2.1 g4
      rw [(out0 f hf nd).1] at g4
      rw [(out0 f hf nd).2] at g1
      obtain ⟨b', t, o', p1, p2, p3, p4, p5, p6, p7⟩ := h.O.hl f hf g4
      have e : b' = b := by omega
      subst e
      have e2 : t = to := by omega
      have e3 : o' = o := by omega
      subst e2 e3
      exact absurd ⟨p6, p7⟩ nd
    · rw [(inn f hf z).1]; exact (sh34 f).1
    · rw [(inn f hf z).1]; exact (sh34 f).2.1
    · exact (inn f hf z).2
    · rw [rlF_o (i := 2358 + 8 * (f / 32) + 0) (by omega) (by omega) (by omega) (by omega)]
      by_cases z : to ≤ f ∧ f < to + 2 ^ o
      · rw [(inn f hf z).1, ← h.O.of f hf, (in4 f z.1 z.2).1]
        exact ⟨fun y => absurd y (sh34 f).2.2, fun y => absurd y (by decide)⟩
      · rw [(out0 f hf z).1]
        exact h.O.of f hf
