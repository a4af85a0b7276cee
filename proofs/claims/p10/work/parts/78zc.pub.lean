/-! ===== the simulation: set ===== -/
theorem pr_setK {N n : Nat} {σ : sm_S} {a1 a2 lo hi f : Int32} (h : tie True N σ (σ 169)) (hj : jj N (σ 169)) (hx : jx (σ 169)) (hn : a1.toInt = n) (h4 : n < 4) (elo : (xT 0).getD n 0 = lo) (ehi : (xT 1).getD n 0 = hi)
    (hR : ∀ (σ2 : sm_S) (Q : Option Value → sm_S → Prop), (∀ σ1, σ1 = sm_set σ2 0 (upd (σ2 0) 0 0) → xC xM j_M_isIn [.ref 0, .int a2, .int lo, .int hi] σ1 (sm_ri False (fun x5 σ4 => ((x5 ≠ 0 → xC xM j_M_firstOf [.ref 0, .int a1] σ4 (sm_ri False (fun x7 σ6 => (vp_in a1 2662 ∧ ∀ σ8, σ8 = sm_set σ6 1 (upd (σ6 1) (a1).toNatClampNeg (a2 - x7)) → (((1 : Int32) = 0 ∨ (1 : Int32) = 1) ∧ Q (some (.int 1)) σ8))))) ∧ (¬ (x5 ≠ 0) → (((0 : Int32) = 0 ∨ (0 : Int32) = 1) ∧ Q (some (.int 0)) σ4)))))) → xC xM j_M_set [.ref 0, .int a1, .int a2] σ2 Q)
    (hF : ∀ σ2 : sm_S, xC xM j_M_firstOf [.ref 0, .int a1] σ2 (sm_I (fun x σ' => x = f ∧ σ' = σ2)))
    (hS : sN σ (σ 169) → sN (sm_set σ 39 (upd (σ 39) n a2)) (upd (σ 169) n (a2 - f))) (hX : lo.toInt ≤ a2.toInt → a2.toInt ≤ hi.toInt → jx (upd (σ 169) n (a2 - f))) : prC j_A_set j_M_set [.ref 42, .int a1, .int a2] [.ref 0, .int a1, .int a2] N σ := by
  have n0 : ¬ a1 < 0 := fun z => by
    rw [t_lt, hn] at z
    have z : (n : Int) < (0 : Int) := z
    omega
  have n4 : ¬ 4 ≤ a1 := fun z => by
    rw [t_le, hn] at z
    have z : (4 : Int) ≤ (n : Int) := z
    omega
  by_cases ok : lo.toInt ≤ a2.toInt ∧ a2.toInt ≤ hi.toInt
  · have R : rp j_M_set [.ref 0, .int a1, .int a2] (σ 169) (σ 172) 1 (upd (σ 169) n (a2 - f)) := fun σ2 e2 _ => by
      refine hR σ2 _ (fun σ1 e1 => (c_isInX (L := lo.toInt) (H := hi.toInt) rfl rfl a2 σ1).int ?_)
      obtain ⟨f1, f5⟩ := told1 e2 e1
      rintro x2 σ3 ⟨hx2, es⟩
      rw [es]
      refine ⟨fun _ => (hF σ1).int ?_, fun z => absurd (hx2.b.2.mpr ok) z⟩
      rintro y3 σ4 ⟨ey3, es4⟩
      rw [ey3, es4, t_nat hn]
      refine ⟨t_vp hn (by omega), fun σ8 es8 => ⟨Or.inr rfl, ?_⟩⟩
      rw [f1] at es8
      exact pubR f5 es8
    obtain ⟨N', j', n1, n2⟩ := R.jj (N := N) (D := 0) (fun σ2 e2 => (c_set a1 a2 σ2 (by rw [e2]; exact hj)).mono (by
      rintro r0 σ7 ⟨y, y1, -, y2⟩
      exact ⟨y, y1, y2⟩))
    have eN : N' = N := by omega
    rw [eN] at j'
    have t' : tie True N (sm_set σ 39 (upd (σ 39) n a2)) (upd (σ 169) n (a2 - f)) := h.to (h.s.n0 h.b (fun k k1 k2 _ => s_ne (by omega)) (fun i i1 i2 => u_ne (by omega)) (hS h.s.N)) (fun k k1 k2 => s_ne (by omega)) (u_ne (by omega)) (fun i hi => u_ne (by omega)) j'.2.1.1
    refine ⟨1, _, N, by omega, j', hX ok.1 ok.2, ?_, R⟩
    refine f_A_set a1 a2 σ _ ⟨fun z => absurd z n0, fun _ => ⟨fun z => absurd z n4, fun _ => ?_⟩⟩
    rw [t_nat hn, elo, ehi]
    refine ⟨t_vp hn (show n < 4 by omega), fun z => ?_, fun _ => ⟨t_vp hn (show n < 4 by omega), fun _ => ⟨t_vp hn h4, fun σ1 e1 => ⟨Or.inr rfl, _, rfl, rfl, by rw [e1]; exact t', fun a ha => by rw [e1, s_ne (by omega)]⟩⟩, fun z => ?_⟩⟩
    · rw [t_lt] at z
      omega
    · rw [t_le] at z
      exact absurd ok.2 z
  · refine ⟨0, σ 169, N, by omega, hj, hx, ?_, fun σ2 e2 _ => ?_⟩
    · refine f_A_set a1 a2 σ _ ⟨fun z => absurd z n0, fun _ => ⟨fun z => absurd z n4, fun _ => ?_⟩⟩
      rw [t_nat hn, elo, ehi]
      refine ⟨t_vp hn (show n < 4 by omega), fun _ => ⟨Or.inl rfl, sameC h⟩, fun z => ⟨t_vp hn (show n < 4 by omega), fun z2 => absurd ⟨?_, ?_⟩ ok, fun _ => ⟨Or.inl rfl, sameC h⟩⟩⟩
      · rw [t_lt] at z
        omega
      · rw [t_le] at z2
        exact z2
    · refine hR σ2 _ (fun σ1 e1 => (c_isInX (L := lo.toInt) (H := hi.toInt) rfl rfl a2 σ1).int ?_)
      rintro x2 σ3 ⟨hx2, es⟩
      rw [es]
      exact ⟨fun z => absurd (hx2.b.2.mp z) ok, fun _ => ⟨Or.inl rfl, sameR e2 e1⟩⟩
theorem pr_set {N : Nat} {σ : sm_S} (a1 a2 : Int32) (h : tie True N σ (σ 169)) (hj : jj N (σ 169)) (hx : jx (σ 169)) : prC j_A_set j_M_set [.ref 42, .int a1, .int a2] [.ref 0, .int a1, .int a2] N σ := by
  by_cases k1 : 0 ≤ a1.toInt ∧ a1.toInt < 4
  · obtain ⟨n, hn⟩ := t_of k1.1
    have g := h.s.N
    rcases (show n = 0 ∨ n = 1 ∨ n = 2 ∨ n = 3 by omega) with q | q | q | q
    · subst q
      have e : a1 = 0 := t_inj hn
      subst e
      refine pr_setK (n := 0) (lo := 1) (hi := 16) (f := 4) h hj hx rfl (by decide) rfl rfl (fun σ2 Q hq => w_M_set 0 a2 σ2 Q (fun σ1 e1 => (c_isInX (L := 0) (H := 3) rfl rfl 0 σ1).int ?_)) (fun σ2 => w_M_firstOf 0 σ2 _ ⟨fun z => absurd rfl z, fun _ => ⟨_, rfl, rfl, rfl⟩⟩) (fun _ => ⟨by rw [s_at, u_at, u_at, Int32.sub_add_cancel], by rw [s_at, u_ne (by decide), u_ne (by decide)]; exact g.tri, by rw [s_at, u_ne (by decide), u_ne (by decide)]; exact g.rto, by rw [s_at, u_ne (by decide), u_ne (by decide)]; exact g.pau, fun k hk => by rw [s_ne (by decide), u_ne (by omega)]; exact g.cnt k hk, by rw [s_ne (by decide), u_ne (by decide)]; exact g.tic, by rw [s_ne (by decide), u_ne (by decide)]; exact g.use⟩) (fun l1 l2 => ?_)
      · rintro x2 σ3 ⟨hx2, es⟩
        rw [es]
        exact ⟨fun z => absurd (by decide) (hx2.b.1.mp z), fun _ => ⟨fun _ => ⟨fun z => absurd rfl z, fun _ => hq σ1 e1⟩, fun z => absurd (by decide) z⟩⟩
      · have l1 : (1 : Int) ≤ _ := l1
        have l2 : _ ≤ (16 : Int) := l2
        refine ⟨fun b hb => ?_, fun b hb => ?_, fun s hs => ?_, by rw [u_at, Int32.sub_add_cancel]; omega, by rw [u_ne (by decide)]; exact hx.2.2.2.2.1, by rw [u_ne (by decide)]; exact hx.2.2.2.2.2.1, by rw [u_ne (by decide)]; exact hx.2.2.2.2.2.2⟩
        · rw [u_ne (by omega), u_ne (by omega), u_ne (by omega), u_ne (by omega), u_ne (by omega)]
          exact hx.1 b hb
        · rw [u_ne (by omega), u_ne (by omega)]
          exact hx.2.1 b hb
        · rw [u_ne (by omega), u_ne (by omega)]
          exact hx.2.2.1 s hs
    · subst q
      have e : a1 = 1 := t_inj hn
      subst e
      refine pr_setK (n := 1) (lo := 1) (hi := 9) (f := 3) h hj hx rfl (by decide) rfl rfl (fun σ2 Q hq => w_M_set 1 a2 σ2 Q (fun σ1 e1 => (c_isInX (L := 0) (H := 3) rfl rfl 1 σ1).int ?_)) (fun σ2 => w_M_firstOf 1 σ2 _ ⟨fun _ => ⟨fun z => absurd rfl z, fun _ => ⟨_, rfl, rfl, rfl⟩⟩, fun z => absurd (by decide) z⟩) (fun _ => ⟨by rw [s_at, u_ne (by decide), u_ne (by decide)]; exact g.rat, by rw [s_at, u_at, u_at, Int32.sub_add_cancel], by rw [s_at, u_ne (by decide), u_ne (by decide)]; exact g.rto, by rw [s_at, u_ne (by decide), u_ne (by decide)]; exact g.pau, fun k hk => by rw [s_ne (by decide), u_ne (by omega)]; exact g.cnt k hk, by rw [s_ne (by decide), u_ne (by decide)]; exact g.tic, by rw [s_ne (by decide), u_ne (by decide)]; exact g.use⟩) (fun l1 l2 => ?_)
      · rintro x2 σ3 ⟨hx2, es⟩
        rw [es]
        exact ⟨fun z => absurd (by decide) (hx2.b.1.mp z), fun _ => ⟨fun _ => ⟨fun _ => ⟨fun z => absurd rfl z, fun _ => hq σ1 e1⟩, fun z => absurd (by decide) z⟩, fun z => absurd (by decide) z⟩⟩
      · have l1 : (1 : Int) ≤ _ := l1
        have l2 : _ ≤ (9 : Int) := l2
        refine ⟨fun b hb => ?_, fun b hb => ?_, fun s hs => ?_, by rw [u_ne (by decide)]; exact hx.2.2.2.1, by rw [u_ne (by decide)]; exact hx.2.2.2.2.1, by rw [u_ne (by decide)]; exact hx.2.2.2.2.2.1, by rw [u_ne (by decide)]; exact hx.2.2.2.2.2.2⟩
        · rw [u_ne (by omega), u_ne (by omega), u_ne (by omega), u_ne (by omega), u_ne (by omega)]
          exact hx.1 b hb
        · rw [u_ne (by omega), u_ne (by omega)]
          exact hx.2.1 b hb
        · rw [u_ne (by omega), u_ne (by omega)]
          exact hx.2.2.1 s hs
    · subst q
      have e : a1 = 2 := t_inj hn
      subst e
      refine pr_setK (n := 2) (lo := 0) (hi := 400) (f := 150) h hj hx rfl (by decide) rfl rfl (fun σ2 Q hq => w_M_set 2 a2 σ2 Q (fun σ1 e1 => (c_isInX (L := 0) (H := 3) rfl rfl 2 σ1).int ?_)) (fun σ2 => w_M_firstOf 2 σ2 _ ⟨fun _ => ⟨fun _ => ⟨fun z => absurd rfl z, fun _ => ⟨_, rfl, rfl, rfl⟩⟩, fun z => absurd (by decide) z⟩, fun z => absurd (by decide) z⟩) (fun _ => ⟨by rw [s_at, u_ne (by decide), u_ne (by decide)]; exact g.rat, by rw [s_at, u_ne (by decide), u_ne (by decide)]; exact g.tri, by rw [s_at, u_at, u_at, Int32.sub_add_cancel], by rw [s_at, u_ne (by decide), u_ne (by decide)]; exact g.pau, fun k hk => by rw [s_ne (by decide), u_ne (by omega)]; exact g.cnt k hk, by rw [s_ne (by decide), u_ne (by decide)]; exact g.tic, by rw [s_ne (by decide), u_ne (by decide)]; exact g.use⟩) (fun l1 l2 => ?_)
      · rintro x2 σ3 ⟨hx2, es⟩
        rw [es]
        exact ⟨fun z => absurd (by decide) (hx2.b.1.mp z), fun _ => ⟨fun z => absurd rfl z, fun _ => ⟨fun _ => ⟨fun _ => ⟨fun z => absurd rfl z, fun _ => hq σ1 e1⟩, fun z => absurd (by decide) z⟩, fun z => absurd (by decide) z⟩⟩⟩
      · have l1 : (0 : Int) ≤ _ := l1
        have l2 : _ ≤ (400 : Int) := l2
        refine ⟨fun b hb => ?_, fun b hb => ?_, fun s hs => ?_, by rw [u_ne (by decide)]; exact hx.2.2.2.1, by rw [u_ne (by decide)]; exact hx.2.2.2.2.1, by rw [u_at, Int32.sub_add_cancel]; omega, by rw [u_at, Int32.sub_add_cancel]; omega⟩
        · rw [u_ne (by omega), u_ne (by omega), u_ne (by omega), u_ne (by omega), u_ne (by omega)]
          exact hx.1 b hb
        · rw [u_ne (by omega), u_ne (by omega)]
          exact hx.2.1 b hb
        · rw [u_ne (by omega), u_ne (by omega)]
          exact hx.2.2.1 s hs
    · subst q
      have e : a1 = 3 := t_inj hn
      subst e
      refine pr_setK (n := 3) (lo := 1) (hi := 20) (f := 2) h hj hx rfl (by decide) rfl rfl (fun σ2 Q hq => w_M_set 3 a2 σ2 Q (fun σ1 e1 => (c_isInX (L := 0) (H := 3) rfl rfl 3 σ1).int ?_)) (fun σ2 => w_M_firstOf 3 σ2 _ ⟨fun _ => ⟨fun _ => ⟨fun _ => ⟨_, rfl, rfl, rfl⟩, fun z => absurd (by decide) z⟩, fun z => absurd (by decide) z⟩, fun z => absurd (by decide) z⟩) (fun _ => ⟨by rw [s_at, u_ne (by decide), u_ne (by decide)]; exact g.rat, by rw [s_at, u_ne (by decide), u_ne (by decide)]; exact g.tri, by rw [s_at, u_ne (by decide), u_ne (by decide)]; exact g.rto, by rw [s_at, u_at, u_at, Int32.sub_add_cancel], fun k hk => by rw [s_ne (by decide), u_ne (by omega)]; exact g.cnt k hk, by rw [s_ne (by decide), u_ne (by decide)]; exact g.tic, by rw [s_ne (by decide), u_ne (by decide)]; exact g.use⟩) (fun l1 l2 => ?_)
      · rintro x2 σ3 ⟨hx2, es⟩
        rw [es]
        exact ⟨fun z => absurd (by decide) (hx2.b.1.mp z), fun _ => ⟨fun _ => ⟨fun _ => ⟨fun _ => ⟨fun _ => hq σ1 e1, fun z => absurd (by decide) z⟩, fun z => absurd (by decide) z⟩, fun z => absurd (by decide) z⟩, fun z => absurd (by decide) z⟩⟩
      · have l1 : (1 : Int) ≤ _ := l1
        have l2 : _ ≤ (20 : Int) := l2
        refine ⟨fun b hb => ?_, fun b hb => ?_, fun s hs => ?_, by rw [u_ne (by decide)]; exact hx.2.2.2.1, by rw [u_at, Int32.sub_add_cancel]; omega, by rw [u_ne (by decide)]; exact hx.2.2.2.2.2.1, by rw [u_ne (by decide)]; exact hx.2.2.2.2.2.2⟩
        · rw [u_ne (by omega), u_ne (by omega), u_ne (by omega), u_ne (by omega), u_ne (by omega)]
          exact hx.1 b hb
        · rw [u_ne (by omega), u_ne (by omega)]
          exact hx.2.1 b hb
        · rw [u_ne (by omega), u_ne (by omega)]
          exact hx.2.2.1 s hs
  · refine ⟨0, σ 169, N, by omega, hj, hx, ?_, fun σ2 e2 _ => ?_⟩
    · refine f_A_set a1 a2 σ _ ⟨fun _ => ⟨Or.inl rfl, sameC h⟩, fun z => ⟨fun _ => ⟨Or.inl rfl, sameC h⟩, fun w => absurd ⟨?_, ?_⟩ k1⟩⟩
      · rw [t_lt] at z
        have z : ¬ a1.toInt < (0 : Int) := z
        omega
      · rw [t_le] at w
        have w : ¬ (4 : Int) ≤ a1.toInt := w
        omega
    · refine w_M_set a1 a2 σ2 _ (fun σ1 e1 => (c_isInX (L := 0) (H := 3) rfl rfl a1 σ1).int ?_)
      rintro x2 σ3 ⟨hx2, es⟩
      rw [es]
      refine ⟨fun _ => ⟨Or.inl rfl, sameR e2 e1⟩, fun z => absurd ?_ k1⟩
      have := hx2.b.2.mp z
      omega
