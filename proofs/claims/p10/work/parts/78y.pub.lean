/-! ===== the simulation: free, unpin, home, set ===== -/
theorem pr_free {N : Nat} {σ : sm_S} (a1 : Int32) (h : tie True N σ (σ 169)) (hj : jj N (σ 169)) (hx : jx (σ 169)) : prC j_A_free j_M_free [.ref 42, .int a1] [.ref 0, .int a1] N σ := by
  obtain ⟨x, rx, cx, hxx⟩ := p_has a1 h.s
  rcases hxx with ⟨x1, n, hn, hm, h0⟩ | ⟨x0, -⟩
  · obtain ⟨o, fr, b1, b2, b3, b4, b5, -, ⟨q, b7, -⟩, -⟩ := hj.2.1.1 n hn
    have hle := al_le b2 b4 b5
    obtain ⟨gb, gb9⟩ := (h.s.B n hn).al h0
    have c9 : (σ 9 n).toInt = fr := by rw [← gb.fir]; exact b3
    have c10 : (σ 10 n).toInt = o := by rw [← gb.ord]; exact b1
    obtain ⟨p, hpp, hp4⟩ := hj.pt (s := fr / 32) (by omega)
    have hpc : (σ 20 (fr / 32)).toInt = p := by rw [← (h.s.S (fr / 32) (by omega)).par]; exact hpp
    have way : σ 169 (786 + 16 * n + 6) ≤ 0 ↔ σ 169 (786 + 16 * n + 6) = 0 := by
      rw [le0, b7]
      refine ⟨fun z => t_inj (by rw [b7]; show _ = (0 : Int); omega), fun z => ?_⟩
      rw [z] at b7
      have b7 : (0 : Int) = _ := b7
      omega
    have w14 : σ 14 n = -1 ↔ σ 169 (786 + 16 * n + 6) = 0 := by
      rw [gb.tgt]
      refine ⟨fun z => by rw [z]; decide, fun z => ?_⟩
      have e2 : σ 14 n = (σ 14 n + 1) - 1 := by rw [Int32.add_sub_cancel]
      rw [e2, z]
      rfl
    by_cases lo : σ 169 (786 + 16 * n + 5) = 0 ∧ σ 169 (786 + 16 * n + 6) = 0
    · have R : rp j_M_free [.ref 0, .int a1] (σ 169) (σ 172) 1 (upd (lvF (σ 169) fr (2 ^ o)) (786 + 16 * n + 0) 0) := fun σ2 e2 _ => by
        refine w_M_free a1 σ2 _ (fun σ1 e1 => ?_)
        obtain ⟨f1, f5⟩ := told1 e2 e1
        refine (rx.s f1).int ?_
        rintro y1 σ3 ⟨ey1, es3⟩
        rw [ey1, es3, x1]
        refine ⟨fun z => absurd z (by decide), fun _ => (c_isPinned hm hn σ1).int ?_⟩
        rintro y2 σ4 ⟨hy2, es4⟩
        rw [es4]
        rw [f1] at hy2
        refine ⟨fun z => ?_, fun _ => (c_isOnWay hm hn σ1).int ?_⟩
        · rcases hy2 with ⟨w, -⟩ | ⟨-, w⟩
          · exact absurd w z
          · exact absurd lo.1 w
        · rintro y3 σ5 ⟨hy3, es5⟩
          rw [es5]
          rw [f1] at hy3
          refine ⟨fun _ => (c_goes2 hm hn b2 hle σ1 (by rw [f1]; exact b1) (by rw [f1]; exact b3)).void ?_, fun z => ?_⟩
          · rintro σ7 es7
            rw [f1] at es7
            exact ⟨Or.inr rfl, pubR f5 es7⟩
          · rcases hy3 with ⟨w, -⟩ | ⟨-, w⟩
            · exact absurd w z
            · exact absurd (way.mpr lo.2) w
      obtain ⟨N', j', n1, n2⟩ := R.jj (N := N) (D := 0) (fun σ2 e2 => c_free a1 σ2 (by rw [e2]; exact hj))
      have eN : N' = N := by omega
      rw [eN] at j'
      refine ⟨1, _, N, by omega, j', ?_, ?_, R⟩
      · have k3 : upd (lvF (σ 169) fr (2 ^ o)) (786 + 16 * n + 0) 0 (786 + 16 * n + 0) = 0 := u_at
        have old : ∀ i, i < 18 ∨ 786 ≤ i → i ≠ 786 + 16 * n + 0 → upd (lvF (σ 169) fr (2 ^ o)) (786 + 16 * n + 0) 0 i = σ 169 i := fun i i1 i2 => by
          rw [u_ne i2, lvF_out (by omega)]
        refine hx.re (n := n) (fun b k q1 q2 q3 => old _ (by omega) (by omega)) (fun z => ?_) (fun z => ?_) (fun s' hs' z => ?_) (old 0 (by omega) (by omega)) (fun i i1 i2 => old i (by omega) (by omega))
        · rw [k3] at z
          exact absurd z (by decide)
        · rw [k3] at z
          exact absurd z (by decide)
        · exact ⟨fun y => z ((old (2358 + 8 * s' + 0) (by omega) (by omega)).trans y), old (2358 + 8 * s' + 1) (by omega) (by omega)⟩
      · refine f_A_free a1 σ _ ((nw0 cx).int ?_)
        rintro y1 σ3 ⟨ey1, es3⟩
        rw [ey1, es3, x1]
        refine ⟨fun z => absurd z (by decide), fun _ => (nw0 (e_isLoose2 hm hn σ)).int ?_⟩
        rintro y2 σ4 ⟨hy2, es4⟩
        rw [es4]
        refine ⟨fun _ => (nwTP (v' := upd (lvF (σ 169) fr (2 ^ o)) (786 + 16 * n + 0) 0) (N := N) (g := True) (e_remove2 hm hn b2 hle σ c9 c10 hpc hp4) ?_).void ?_, fun z => ?_⟩
        · rintro c' ⟨sb, hsb, ec⟩
          rw [ec]
          refine h.to (sim_goes h.s h.b hn h0 lo.2 b3 b1 b2 b4 b5 hpp hsb) (fun k k1 k2 => ?_) ?_ (fun i hi => ?_) j'.2.1.1
          · rw [s_ne (by omega), lgC_o (by omega)]
          · rw [u_ne (by omega), lvF_out (by omega)]
          · rw [u_ne (by omega), lvF_out (by omega)]
        · rintro σ7 ⟨t7, o7⟩
          exact ⟨Or.inr rfl, _, rfl, rfl, t7, o7⟩
        · rcases hy2 with ⟨w, -⟩ | ⟨-, w⟩
          · exact absurd (by rw [w]; decide) z
          · exact absurd ⟨by rw [← gb.pin]; exact lo.1, w14.mpr lo.2⟩ w
    · refine ⟨0, σ 169, N, by omega, hj, hx, ?_, fun σ2 e2 _ => ?_⟩
      · refine f_A_free a1 σ _ ((nw0 cx).int ?_)
        rintro y1 σ3 ⟨ey1, es3⟩
        rw [ey1, es3]
        refine ⟨fun z => ⟨Or.inl rfl, sameC h⟩, fun _ => (nw0 (e_isLoose2 hm hn σ)).int ?_⟩
        rintro y2 σ4 ⟨hy2, es4⟩
        rw [es4]
        refine ⟨fun z => ?_, fun _ => ⟨Or.inl rfl, sameC h⟩⟩
        rcases hy2 with ⟨-, w1, w2⟩ | ⟨w, -⟩
        · exact absurd ⟨by rw [gb.pin]; exact w1, w14.mp w2⟩ lo
        · exact absurd w z
      · refine w_M_free a1 σ2 _ (fun σ1 e1 => ?_)
        obtain ⟨f1, f5⟩ := told1 e2 e1
        refine (rx.s f1).int ?_
        rintro y1 σ3 ⟨ey1, es3⟩
        rw [ey1, es3]
        refine ⟨fun z => ⟨Or.inl rfl, sameR e2 e1⟩, fun _ => (c_isPinned hm hn σ1).int ?_⟩
        rintro y2 σ4 ⟨hy2, es4⟩
        rw [es4]
        rw [f1] at hy2
        refine ⟨fun z => ⟨Or.inl rfl, sameR e2 e1⟩, fun y20 => (c_isOnWay hm hn σ1).int ?_⟩
        rintro y3 σ5 ⟨hy3, es5⟩
        rw [es5]
        rw [f1] at hy3
        refine ⟨fun z => ?_, fun _ => ⟨Or.inl rfl, sameR e2 e1⟩⟩
        rcases hy3 with ⟨-, w⟩ | ⟨w, -⟩
        · rcases hy2 with ⟨-, u⟩ | ⟨u, -⟩
          · exact absurd ⟨u, way.mp w⟩ lo
          · exact absurd (by rw [u]; decide) y20
        · rw [w] at z
          exact absurd z (by decide)
  · refine ⟨0, σ 169, N, by omega, hj, hx, ?_, fun σ2 e2 _ => ?_⟩
    · refine f_A_free a1 σ _ ((nw0 cx).int ?_)
      rintro y1 σ3 ⟨ey1, es3⟩
      rw [ey1, es3]
      exact ⟨fun _ => ⟨Or.inl rfl, sameC h⟩, fun z => absurd x0 z⟩
    · refine w_M_free a1 σ2 _ (fun σ1 e1 => ?_)
      obtain ⟨f1, f5⟩ := told1 e2 e1
      refine (rx.s f1).int ?_
      rintro y1 σ3 ⟨ey1, es3⟩
      rw [ey1, es3]
      exact ⟨fun _ => ⟨Or.inl rfl, sameR e2 e1⟩, fun z => absurd x0 z⟩
theorem pr_home {N : Nat} {σ : sm_S} (a1 a2 : Int32) (h : tie True N σ (σ 169)) (hj : jj N (σ 169)) (hx : jx (σ 169)) : prC j_A_home j_M_home [.ref 42, .int a1, .int a2] [.ref 0, .int a1, .int a2] N σ := by
  have isN : xC xD j_A_isNode [.int a2] σ (sm_I (fun x σ' => isYes (0 ≤ a2.toInt ∧ a2.toInt < 2) x ∧ σ' = σ)) := d_A_isNode a2 σ _ (e_isRng (K := 2) rfl (fun z => ⟨_, rfl, Or.inl ⟨rfl, z⟩, rfl⟩) (fun z => ⟨_, rfl, Or.inr ⟨rfl, z⟩, rfl⟩))
  by_cases k1 : 0 ≤ a1.toInt ∧ a1.toInt < 6
  · obtain ⟨m, hm⟩ := t_of k1.1
    have hm6 : m < 6 := by omega
    by_cases k2 : 0 ≤ a2.toInt ∧ a2.toInt < 2
    · have R : rp j_M_home [.ref 0, .int a1, .int a2] (σ 169) (σ 172) 1 (upd (σ 169) (2322 + 6 * m + 0) a2) := fun σ2 e2 _ => by
        refine w_M_home a1 a2 σ2 _ (fun σ1 e1 => (c_isTaskX a1 σ1).int ?_)
        obtain ⟨f1, f5⟩ := told1 e2 e1
        rintro x2 σ3 ⟨hx2, es⟩
        rw [es]
        refine ⟨fun z => absurd k1 (hx2.b.1.mp z), fun _ => (c_isInX (L := 0) (H := 1) rfl rfl a2 σ1).int ?_⟩
        rintro x4 σ4 ⟨hx4, es4⟩
        rw [es4]
        refine ⟨fun _ => (c_taskAt a1 σ1).int ?_, fun z => absurd (hx4.b.2.mpr ⟨k2.1, by omega⟩) z⟩
        rintro x5 σ5 ⟨hx5, es5⟩
        obtain ⟨p0, q0⟩ := ixT (k := 0) (j := 0) hm rfl (by omega)
        rw [hx5, es5, q0]
        refine ⟨p0, fun σ7 es7 => ⟨Or.inr rfl, ?_⟩⟩
        rw [f1] at es7
        exact pubR f5 es7
      obtain ⟨N', j', n1, n2⟩ := R.jj (N := N) (D := 0) (fun σ2 e2 => (c_home a1 a2 σ2 (by rw [e2]; exact hj)).mono (by
        rintro r0 σ7 ⟨y, y1, -, y2⟩
        exact ⟨y, y1, y2⟩))
      have eN : N' = N := by omega
      rw [eN] at j'
      have t' : tie True N (sm_set σ 27 (upd (σ 27) m a2)) (upd (σ 169) (2322 + 6 * m + 0) a2) := h.to (sim_home a2 h.s h.b hm6) (fun k k1 k2 => s_ne (by omega)) (u_ne (by omega)) (fun i hi => u_ne (by omega)) j'.2.1.1
      refine ⟨1, _, N, by omega, j', ?_, ?_, R⟩
      · refine hx.cg (fun b k hb hk => u_ne (by omega)) (fun s' hs' z => ⟨?_, u_ne (by omega)⟩) (u_ne (by omega)) (fun i i1 i2 => u_ne (by omega))
        rw [u_ne (by omega)] at z
        exact z
      · refine f_A_home a1 a2 σ _ ((nw0 (e_isTaskX a1 σ)).int ?_)
        rintro x2 σ1 ⟨hx2, es⟩
        rw [es]
        refine ⟨fun z => absurd k1 (hx2.b.1.mp z), fun _ => (nw0 isN).int ?_⟩
        rintro x4 σ4 ⟨hx4, es4⟩
        rw [es4]
        refine ⟨fun _ => ⟨t_vp hm hm6, fun σ5 es5 => ⟨Or.inr rfl, _, rfl, rfl, ?_, fun a ha => ?_⟩⟩, fun z => absurd (hx4.b.2.mpr k2) z⟩
        · rw [es5, t_nat hm]
          exact t'
        · rw [es5, s_ne (by omega)]
    · refine ⟨0, σ 169, N, by omega, hj, hx, ?_, fun σ2 e2 _ => ?_⟩
      · refine f_A_home a1 a2 σ _ ((nw0 (e_isTaskX a1 σ)).int ?_)
        rintro x2 σ1 ⟨hx2, es⟩
        rw [es]
        refine ⟨fun z => absurd k1 (hx2.b.1.mp z), fun _ => (nw0 isN).int ?_⟩
        rintro x4 σ4 ⟨hx4, es4⟩
        rw [es4]
        exact ⟨fun z => absurd (hx4.b.2.mp z) k2, fun _ => ⟨Or.inl rfl, sameC h⟩⟩
      · refine w_M_home a1 a2 σ2 _ (fun σ1 e1 => (c_isTaskX a1 σ1).int ?_)
        rintro x2 σ3 ⟨hx2, es⟩
        rw [es]
        refine ⟨fun z => absurd k1 (hx2.b.1.mp z), fun _ => (c_isInX (L := 0) (H := 1) rfl rfl a2 σ1).int ?_⟩
        rintro x4 σ4 ⟨hx4, es4⟩
        rw [es4]
        refine ⟨fun z => absurd ?_ k2, fun _ => ⟨Or.inl rfl, sameR e2 e1⟩⟩
        have := hx4.b.2.mp z
        omega
  · refine ⟨0, σ 169, N, by omega, hj, hx, ?_, fun σ2 e2 _ => ?_⟩
    · refine f_A_home a1 a2 σ _ ((nw0 (e_isTaskX a1 σ)).int ?_)
      rintro x2 σ1 ⟨hx2, es⟩
      rw [es]
      exact ⟨fun _ => ⟨Or.inl rfl, sameC h⟩, fun z => absurd (hx2.b.2.mp z) k1⟩
    · refine w_M_home a1 a2 σ2 _ (fun σ1 e1 => (c_isTaskX a1 σ1).int ?_)
      rintro x2 σ3 ⟨hx2, es⟩
      rw [es]
      exact ⟨fun _ => ⟨Or.inl rfl, sameR e2 e1⟩, fun z => absurd (hx2.b.2.mp z) k1⟩
