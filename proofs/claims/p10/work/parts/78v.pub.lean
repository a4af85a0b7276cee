/-! ===== the simulation: gather, press, come ===== -/
theorem rdI.s {j : Nat} {as : List Value} {v : Nat → Int32} {x : Int32} (h : rdI j as v x v) {σ : sm_S} (e : σ 1 = v) : xC xM j as σ (sm_I (fun y σ' => y = x ∧ σ' = σ)) := (h σ e).mono (by
  rintro r σ' ⟨y, rfl, hy, hs⟩
  exact ⟨y, rfl, hy, by rw [hs, ← e, s_id]⟩)
theorem pubR {σ σ1 σ2 : sm_S} {v' : Nat → Int32} {r : Int32} (f5 : σ1 5 = σ 5) (e : σ2 = sm_set σ1 1 v') : sm_I (fun y σ' => y = r ∧ σ' 1 = v' ∧ σ' 5 = σ 5) (some (.int r)) σ2 := ⟨r, rfl, rfl, by rw [e, s_at], by rw [e, s_ne (by decide)]; exact f5⟩
theorem pr_gather {N : Nat} {σ : sm_S} (a1 : Int32) (h : tie True N σ (σ 169)) (hj : jj N (σ 169)) (hx : jx (σ 169)) : prC j_A_gather j_M_gather [.ref 42, .int a1] [.ref 0, .int a1] N σ := by
  by_cases k1 : 0 ≤ a1.toInt ∧ a1.toInt < 6
  · obtain ⟨m, hm⟩ := t_of k1.1
    obtain ⟨v', c', y, qr, qc, t', j', x'⟩ := l_gather2 (g := True) hm (by omega) 96 0 N 0 0 σ (σ 169) h hj hx rfl (by omega)
    refine ⟨y, v', N, by omega, j', x', ?_, fun σ2 e2 _ => ?_⟩
    · refine f_A_gather a1 σ _ ((nw0 (e_isTaskX a1 σ)).int ?_)
      rintro x2 σ1 ⟨hx2, es⟩
      rw [es]
      have run : xC xD j_Y_bringNearer [.ref 0, .int a1] σ (sm_I (fun z σ' => z = y ∧ σ' = c')) := d_Y_bringNearer a1 σ _ (qc _)
      refine ⟨fun _ => (nwT run t').int ?_, fun z => absurd (hx2.b.2.mpr k1) z⟩
      rintro z1 σ7 ⟨ez1, t7, o7⟩
      exact ⟨_, rfl, ez1, t7, o7⟩
    · refine w_M_gather a1 σ2 _ (fun σ1 e1 => (c_isTaskX a1 σ1).int ?_)
      obtain ⟨f1, f5⟩ := told1 e2 e1
      rintro x2 σ3 ⟨hx2, es⟩
      rw [es]
      refine ⟨fun _ => (qr σ1 _ f1).mono ?_, fun z => absurd (hx2.b.2.mpr k1) z⟩
      rintro r0 σ7 ⟨z2, rfl, hz2, hs7⟩
      rw [hz2]
      exact pubR f5 hs7
  · refine ⟨-1, σ 169, N, by omega, hj, hx, ?_, fun σ2 e2 _ => ?_⟩
    · refine f_A_gather a1 σ _ ((nw0 (e_isTaskX a1 σ)).int ?_)
      rintro x2 σ1 ⟨hx2, es⟩
      rw [es]
      exact ⟨fun z => absurd (hx2.b.2.mp z) k1, fun _ => sameC h⟩
    · refine w_M_gather a1 σ2 _ (fun σ1 e1 => (c_isTaskX a1 σ1).int ?_)
      rintro x2 σ3 ⟨hx2, es⟩
      rw [es]
      exact ⟨fun z => absurd (hx2.b.2.mp z) k1, fun _ => sameR e2 e1⟩
/-- the marks, set back -/
def ckr (u : Nat → Int32) (k : Nat) : Nat → Int32 := fun i => if i < k then 0 else u i
theorem l_prs4 {a1 : Int32} {Q : Option Value → sm_S → Prop} {σ0 : sm_S} (fin : ∀ v4 : Value, xC xM j_M_nextToPress [.ref 0, .int a1] (sm_set σ0 4 (ckr (σ0 4) 96)) (sm_ri False (fun x2 σ1 => xE xM m_M_presses 29 [.ref 0, .int a1, .int 0, .int x2, v4] [] σ1 Q))) : ∀ (d k : Nat) (a3 : Int32) (v4 : Value), k + d = 96 → a3.toInt = k → xE xM m_M_presses 4 [.ref 0, .int a1, .int 0, .int a3, v4] [] (sm_set σ0 4 (ckr (σ0 4) k)) Q := by
  intro d
  induction d with
  | zero =>
    intro k a3 v4 hk h3
    have e : k = 96 := by omega
    subst e
    refine w_M_presses_4 a1 0 a3 v4 _ _ ⟨fun _ => fin v4, fun z => absurd ?_ z⟩
    rw [t_le, h3]
    decide
  | succ d ih =>
    intro k a3 v4 hk h3
    have h3' : (a3 + 1).toInt = ((k + 1 : Nat) : Int) := by
      rw [t_add (y := 1) h3 rfl (by omega) (by omega)]
      rfl
    refine w_M_presses_4 a1 0 a3 v4 _ _ ⟨fun z => ?_, fun _ => ⟨t_vp h3 (by omega), Or.inl rfl, fun σ3 e3 => ?_⟩⟩
    · rw [t_le, h3] at z
      have z : (96 : Int) ≤ _ := z
      omega
    · have := ih (k + 1) (a3 + 1) v4 (by omega) h3'
      have ee : σ3 = sm_set σ0 4 (ckr (σ0 4) (k + 1)) := by
        rw [e3, s_at, s_ss, t_nat h3]
        congr 1
        funext i
        unfold upd ckr
        by_cases q : i = k
        · rw [if_pos q, if_pos (by omega)]
        · rw [if_neg q]
          by_cases q2 : i < k
          · rw [if_pos q2, if_pos (by omega)]
          · rw [if_neg q2, if_neg (by omega)]
      rw [ee]
      exact this
theorem pr_press {N : Nat} {σ : sm_S} (a1 : Int32) (h : tie True N σ (σ 169)) (hj : jj N (σ 169)) (hx : jx (σ 169)) : prC j_A_press j_M_press [.ref 42, .int a1] [.ref 0, .int a1] N σ := by
  by_cases k1 : 0 ≤ a1.toInt ∧ a1.toInt < 8
  · obtain ⟨s, hm⟩ := t_of k1.1
    have hs : s < 8 := by omega
    have gS := (h.s.S s hs).sta
    by_cases st : σ 169 (2358 + 8 * s + 0) = 1
    · obtain ⟨v', c', y, qr, qc, t', j', x', -⟩ := l_pack2 (g := True) hm hs 32 N 0 31 σ (σ 169) (ckr (σ 172) 96) h hj hx st rfl (by omega) ⟨fun b fr _ => Nat.mod_lt _ (by decide), fun b fr o hb _ w => absurd (if_pos hb) w⟩
      refine ⟨y, v', N, by omega, j', x', ?_, fun σ2 e2 u2 => ?_⟩
      · refine f_A_press a1 σ _ ((nw0 (e_isSpanX a1 σ)).int ?_)
        rintro x2 σ1 ⟨hx2, es⟩
        rw [es]
        have run : xC xD j_Y_pack [.ref 0, .int a1] σ (sm_I (fun z σ' => z = y ∧ σ' = c')) := d_Y_pack a1 σ _ (qc _ _ _)
        refine ⟨fun z => absurd k1 (hx2.b.1.mp z), fun _ => ⟨t_vp hm hs, fun _ => (nwT run t').int ?_, fun z => absurd ?_ z⟩⟩
        · rintro z1 σ7 ⟨ez1, t7, o7⟩
          exact ⟨_, rfl, ez1, t7, o7⟩
        · rw [t_nat hm, ← gS]
          exact st
      · refine w_M_press a1 σ2 _ (fun σ1 e1 => (c_isSpanX a1 σ1).int ?_)
        obtain ⟨f1, f5⟩ := told1 e2 e1
        have f4 : σ1 4 = σ 172 := by rw [e1, s_ne (by decide)]; exact u2
        rintro x2 σ3 ⟨hx2, es⟩
        rw [es]
        refine ⟨fun z => absurd k1 (hx2.b.1.mp z), fun _ => (c_spanState hm hs σ1).int ?_⟩
        rintro x4 σ4 ⟨hx4, es4⟩
        rw [es4, hx4, f1]
        refine ⟨fun z => absurd st z, fun _ => ?_⟩
        have ref : xC xM j_M_presses [.ref 0, .int a1] σ1 (sm_I (fun z σ' => z = y ∧ ∃ w', σ' = sm_set (sm_set (sm_set σ1 4 (ckr (σ1 4) 96)) 4 w') 1 v')) := w_M_presses a1 σ1 _ (by
          have e0 : sm_set σ1 4 (ckr (σ1 4) 0) = σ1 := by
            have : ckr (σ1 4) 0 = σ1 4 := by
              funext i
              exact if_neg (by omega)
            rw [this, s_id]
          have := l_prs4 (a1 := a1) (σ0 := σ1) (fun v4 => qr (sm_set σ1 4 (ckr (σ1 4) 96)) v4 (by rw [s_ne (by decide)]; exact f1) (by rw [s_at, f4])) 96 0 0 .null rfl rfl
          rw [e0] at this
          exact this)
        refine ref.int ?_
        rintro z2 σ7 ⟨hz2, w', hs7⟩
        rw [hz2]
        exact ⟨_, rfl, rfl, by rw [hs7, s_at], by rw [hs7, s_ne (by decide), s_ne (by decide), s_ne (by decide)]; exact f5⟩
    · refine ⟨-1, σ 169, N, by omega, hj, hx, ?_, fun σ2 e2 _ => ?_⟩
      · refine f_A_press a1 σ _ ((nw0 (e_isSpanX a1 σ)).int ?_)
        rintro x2 σ1 ⟨hx2, es⟩
        rw [es]
        refine ⟨fun z => absurd k1 (hx2.b.1.mp z), fun _ => ⟨t_vp hm hs, fun z => absurd ?_ st, fun _ => sameC h⟩⟩
        rw [t_nat hm, ← gS] at z
        exact z
      · refine w_M_press a1 σ2 _ (fun σ1 e1 => (c_isSpanX a1 σ1).int ?_)
        obtain ⟨f1, f5⟩ := told1 e2 e1
        rintro x2 σ3 ⟨hx2, es⟩
        rw [es]
        refine ⟨fun z => absurd k1 (hx2.b.1.mp z), fun _ => (c_spanState hm hs σ1).int ?_⟩
        rintro x4 σ4 ⟨hx4, es4⟩
        rw [es4, hx4, f1]
        exact ⟨fun _ => sameR e2 e1, fun z => absurd st z⟩
  · refine ⟨-1, σ 169, N, by omega, hj, hx, ?_, fun σ2 e2 _ => ?_⟩
    · refine f_A_press a1 σ _ ((nw0 (e_isSpanX a1 σ)).int ?_)
      rintro x2 σ1 ⟨hx2, es⟩
      rw [es]
      exact ⟨fun _ => sameC h, fun z => absurd (hx2.b.2.mp z) k1⟩
    · refine w_M_press a1 σ2 _ (fun σ1 e1 => (c_isSpanX a1 σ1).int ?_)
      rintro x2 σ3 ⟨hx2, es⟩
      rw [es]
      exact ⟨fun _ => sameR e2 e1, fun z => absurd (hx2.b.2.mp z) k1⟩
theorem pr_come {N : Nat} {σ : sm_S} (a1 a2 : Int32) (h : tie True N σ (σ 169)) (hj : jj N (σ 169)) (hx : jx (σ 169)) (hN : N < 1999000000) : prC j_A_come j_M_come [.ref 42, .int a1, .int a2] [.ref 0, .int a1, .int a2] N σ := by
  by_cases k1 : 0 ≤ a1.toInt ∧ a1.toInt < 8
  · obtain ⟨s, hm⟩ := t_of k1.1
    have hs : s < 8 := by omega
    have gS := (h.s.S s hs).sta
    by_cases ok : (0 ≤ a2.toInt ∧ a2.toInt ≤ 2) ∧ σ 169 (2358 + 8 * s + 0) = 0
    · obtain ⟨k2, st⟩ := ok
      have nlt : ¬ a2 < 0 := fun z => by
        rw [t_lt] at z
        have z : _ < (0 : Int) := z
        omega
      have ngt : ¬ 2 < a2 := fun z => by
        rw [t_lt] at z
        have z : (2 : Int) < _ := z
        omega
      have st18 : σ 18 a1.toNatClampNeg = 0 := by rw [t_nat hm, ← gS]; exact st
      obtain ⟨z, rz, cz, hz, -⟩ := p_zbr h.s hx
      have key : ∃ y : Int32, (y = 0 ∨ y = 1) ∧ (a2 ≠ 2 → y = a2) ∧ (a2 = 2 → y = z) := by
        by_cases q : a2 = 2
        · exact ⟨z, hz, fun w => absurd q w, fun _ => rfl⟩
        · refine ⟨a2, ?_, fun _ => rfl, fun w => absurd w q⟩
          rcases (show a2.toInt = 0 ∨ a2.toInt = 1 ∨ a2.toInt = 2 by omega) with w | w | w
          · exact Or.inl (t_inj w)
          · exact Or.inr (t_inj w)
          · exact absurd (t_inj w) q
      obtain ⟨y, hy, y1, y2⟩ := key
      obtain ⟨v', c', ro, co, t', j', x'⟩ := p_on y h hj hx (by omega) hm hs st hy
      refine ⟨y, v', N + 1, by omega, j', x', ?_, fun σ2 e2 u2 => ?_⟩
      · refine f_A_come a1 a2 σ _ ((nw0 (e_isSpanX a1 σ)).int ?_)
        rintro x2 σ1 ⟨hx2, es⟩
        rw [es]
        refine ⟨fun z => absurd k1 (hx2.b.1.mp z), fun _ => ⟨fun z => absurd z nlt, fun _ => ⟨fun z => absurd z ngt, fun _ => ⟨t_vp hm hs, fun _ => ⟨fun q => ?_, fun q => ?_⟩, fun z => absurd st18 z⟩⟩⟩⟩
        · rw [← y1 q]
          refine (nwTV co t').void ?_
          rintro σ7 ⟨t7, o7⟩
          exact ⟨_, rfl, rfl, t7, o7⟩
        · have q := Classical.not_not.mp q
          refine (nw0 cz).int ?_
          rintro z1 σ6 ⟨ez1, es6⟩
          rw [es6, ez1, ← y2 q]
          refine (nwTV co t').void ?_
          rintro σ7 ⟨t7, o7⟩
          exact ⟨_, rfl, rfl, t7, o7⟩
      · refine w_M_come a1 a2 σ2 _ (fun σ1 e1 => (c_isSpanX a1 σ1).int ?_)
        obtain ⟨f1, f5⟩ := told1 e2 e1
        rintro x2 σ3 ⟨hx2, es⟩
        rw [es]
        refine ⟨fun z => absurd k1 (hx2.b.1.mp z), fun _ => (c_spanState hm hs σ1).int ?_⟩
        rintro x4 σ4 ⟨hx4, es4⟩
        rw [es4, hx4, f1]
        refine ⟨fun z => absurd st z, fun _ => (c_isInX (L := 0) (H := 2) rfl rfl a2 σ1).int ?_⟩
        rintro x5 σ5 ⟨hx5, es5⟩
        rw [es5]
        refine ⟨fun _ => ⟨fun q => ?_, fun q => ?_⟩, fun z => absurd (hx5.b.2.mpr k2) z⟩
        · rw [← y1 q]
          refine (ro σ1 f1).int ?_
          rintro z1 σ6 ⟨ez1, es6⟩
          rw [ez1]
          exact pubR f5 es6
        · have q := Classical.not_not.mp q
          refine (rz.s f1).int ?_
          rintro z1 σ6 ⟨ez1, es6⟩
          rw [es6, ez1, ← y2 q]
          refine (ro σ1 f1).int ?_
          rintro z2 σ7 ⟨ez2, es7⟩
          rw [ez2]
          exact pubR f5 es7
    · refine ⟨-1, σ 169, N, by omega, hj, hx, ?_, fun σ2 e2 _ => ?_⟩
      · refine f_A_come a1 a2 σ _ ((nw0 (e_isSpanX a1 σ)).int ?_)
        rintro x2 σ1 ⟨hx2, es⟩
        rw [es]
        refine ⟨fun z => absurd k1 (hx2.b.1.mp z), fun _ => ⟨fun _ => sameC h, fun n1 => ⟨fun _ => sameC h, fun n2 => ⟨t_vp hm hs, fun z => absurd ⟨?_, ?_⟩ ok, fun _ => sameC h⟩⟩⟩⟩
        · rw [t_lt] at n1 n2
          have n1 : ¬ _ < (0 : Int) := n1
          have n2 : ¬ (2 : Int) < _ := n2
          omega
        · rw [t_nat hm, ← gS] at z
          exact z
      · refine w_M_come a1 a2 σ2 _ (fun σ1 e1 => (c_isSpanX a1 σ1).int ?_)
        obtain ⟨f1, f5⟩ := told1 e2 e1
        rintro x2 σ3 ⟨hx2, es⟩
        rw [es]
        refine ⟨fun z => absurd k1 (hx2.b.1.mp z), fun _ => (c_spanState hm hs σ1).int ?_⟩
        rintro x4 σ4 ⟨hx4, es4⟩
        rw [es4, hx4, f1]
        refine ⟨fun _ => sameR e2 e1, fun q => (c_isInX (L := 0) (H := 2) rfl rfl a2 σ1).int ?_⟩
        rintro x5 σ5 ⟨hx5, es5⟩
        rw [es5]
        exact ⟨fun z => absurd ⟨hx5.b.2.mp z, Classical.not_not.mp q⟩ ok, fun _ => sameR e2 e1⟩
  · refine ⟨-1, σ 169, N, by omega, hj, hx, ?_, fun σ2 e2 _ => ?_⟩
    · refine f_A_come a1 a2 σ _ ((nw0 (e_isSpanX a1 σ)).int ?_)
      rintro x2 σ1 ⟨hx2, es⟩
      rw [es]
      exact ⟨fun _ => sameC h, fun z => absurd (hx2.b.2.mp z) k1⟩
    · refine w_M_come a1 a2 σ2 _ (fun σ1 e1 => (c_isSpanX a1 σ1).int ?_)
      rintro x2 σ3 ⟨hx2, es⟩
      rw [es]
      exact ⟨fun _ => sameR e2 e1, fun z => absurd (hx2.b.2.mp z) k1⟩
