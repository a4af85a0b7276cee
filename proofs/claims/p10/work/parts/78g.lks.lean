/-! ===== the simulation: a pass up to the next block that is on its way ===== -/
theorem c24_m1 {c : sm_S} {v : Nat → Int32} {s : Nat} (h : sim0 c v) (hs : s < 8) (h6 : v (2358 + 8 * s + 6) = 0) : c 24 s = -1 := by
  have z := (h.S s hs).lea
  rw [h6] at z
  have z2 : c 24 s = (c 24 s + 1) - 1 := by rw [Int32.add_sub_cancel]
  rw [z2, ← z]
  rfl
theorem p_looks {g : Prop} {s : Nat} {a1 a2 : Int32} (h1 : a1.toInt = s) (hs : s < 8) (h2 : a2.toInt = ((2358 + 8 * s : Nat) : Int)) : ∀ (m N r : Nat) (c : sm_S) (v : Nat → Int32) (x : Int32), tie g N c v → jj N v → jx v → v (2358 + 8 * s + 0) = 3 → v (2358 + 8 * s + 6) = 0 → (v (2358 + 8 * s + 5)).toInt = r → phi v s r ≤ m → N + m < 1999999999 → fst v s r x → xC xD j_G_blockFrom [.ref 41, .int a1, .int (c 23 s)] c (sm_I (fun y σ' => y = x ∧ σ' = c)) →
    ∃ (v' : Nat → Int32) (c' : sm_S) (N' d r' : Nat) (y : Int32), (∀ (σ : sm_S) (v4 v5 : Value) (Q : Option Value → sm_S → Prop), σ 1 = v → Q (some (.int y)) (sm_set σ 1 v') → xE xM m_M_looks 20 [.ref 0, .int a1, .int a2, .int x, v4, v5] [] σ Q) ∧
      (∀ (k : Nat) (a3 l : Int32) (v4 v5 : Value) (Q : Option Value → sm_S → Prop), a3.toInt = k → k + d < 1000 → (∀ (b3 : Int32) (u4 u5 : Value), b3.toInt = ((k + d : Nat) : Int) → xE xD m_G_moveOn 38 [.ref 41, .int a1, .int l, .int b3, u4, u5] [] c' Q) → xE xD m_G_moveOn 38 [.ref 41, .int a1, .int l, .int a3, v4, v5] [] c Q) ∧
      tie g N' c' v' ∧ jj N' v' ∧ jx v' ∧ N' ≤ N + d ∧ (∀ i, 2358 ≤ i → i < 2422 → i ≠ 2358 + 8 * s + 5 → i ≠ 2358 + 8 * s + 6 → v' i = v i) ∧ (v' (2358 + 8 * s + 5)).toInt = ((r' : Nat) : Int) ∧ phi v' s r' + d ≤ phi v s r ∧
      ((y = 1 ∧ 0 < d ∧ v' (2358 + 8 * s + 6) ≠ 0) ∨ (y = 0 ∧ v' (2358 + 8 * s + 6) = 0 ∧ fst v' s r' (-1))) := by
  intro m
  induction m with
  | zero =>
    intro N r c v x h hj hx hst hS hr hm hN hf hb
    by_cases xm : x = -1
    · subst xm
      refine ⟨v, c, N, 0, r, 0, fun σ v4 v5 Q e hQ => ?_, fun k a3 l v4 v5 Q q1 q2 q3 => q3 a3 v4 v5 (by rw [q1]; rfl), h, hj, hx, by omega, fun i _ _ _ _ => rfl, hr, by omega, Or.inr ⟨rfl, hS, hf⟩⟩
      rw [← e, s_id] at hQ
      exact w_M_looks_20 a1 a2 (-1) v4 v5 σ Q ⟨fun _ => ⟨Or.inl rfl, hQ⟩, fun q => absurd rfl q⟩
    · rcases hf with ⟨z, -⟩ | ⟨n, fr, hn, hxn, z⟩
      · exact absurd z xm
      · obtain ⟨_, _, _, _, _, _, _, _, _, _, _, _, _, q, -⟩ := p_look h hj hx (by omega) h1 hs h2 hst hS hr hn hxn (Or.inr ⟨n, fr, hn, hxn, z⟩)
        omega
  | succ m ih =>
    intro N r c v x h hj hx hst hS hr hm hN hf hb
    by_cases xm : x = -1
    · subst xm
      refine ⟨v, c, N, 0, r, 0, fun σ v4 v5 Q e hQ => ?_, fun k a3 l v4 v5 Q q1 q2 q3 => q3 a3 v4 v5 (by rw [q1]; rfl), h, hj, hx, by omega, fun i _ _ _ _ => rfl, hr, by omega, Or.inr ⟨rfl, hS, hf⟩⟩
      rw [← e, s_id] at hQ
      exact w_M_looks_20 a1 a2 (-1) v4 v5 σ Q ⟨fun _ => ⟨Or.inl rfl, hQ⟩, fun q => absurd rfl q⟩
    · have hf0 := hf
      rcases hf with ⟨z, -⟩ | ⟨n, fr, hn, hxn, -⟩
      · exact absurd z xm
      · obtain ⟨v1, c1, N1, r1, rc, t1, j1, x1, n1, n2, sp, e5, r32, pl, fin⟩ := p_look h hj hx (by omega) h1 hs h2 hst hS hr hn hxn hf0
        have step : ∀ (k : Nat) (a3 l : Int32) (v4 v5 : Value) (Q : Option Value → sm_S → Prop), a3.toInt = k → k < 1000 → (∀ (b3 : Int32) (u4 u5 : Value), b3.toInt = ((k + 1 : Nat) : Int) → xE xD m_G_moveOn 38 [.ref 41, .int a1, .int l, .int b3, u4, u5] [] c1 Q) → xE xD m_G_moveOn 38 [.ref 41, .int a1, .int l, .int a3, v4, v5] [] c Q := fun k a3 l v4 v5 Q q1 q2 q3 => by
          have q1' : (a3 + 1).toInt = ((k + 1 : Nat) : Int) := by
            rw [t_add q1 (y := 1) rfl (by omega) (by omega)]
            omega
          have c24 := c24_m1 h.s hs hS
          refine d_G_moveOn_38 a1 l a3 v4 v5 c Q ⟨fun z => ?_, fun _ => ⟨t_vp h1 hs, fun z => ?_, fun _ => ⟨t_vp h1 hs, ?_⟩⟩⟩
          · rw [t_le, q1] at z
            have z : (1000 : Int) ≤ k := z
            omega
          · rw [t_nat h1] at z
            exact absurd c24 z
          · rw [t_nat h1]
            refine hb.int ?_
            rintro y σ1 ⟨ey, es⟩
            rw [ey, es]
            refine ⟨fun _ => rc.void ?_, fun z => absurd xm z⟩
            rintro _ rfl
            exact q3 (a3 + 1) _ _ q1'
        rcases fin with ⟨f6, fA⟩ | ⟨f6, fB⟩
        · have st1 : v1 (2358 + 8 * s + 0) = 3 := by rw [sp _ (by omega) (by omega) (by omega) (by omega)]; exact hst
          have c23 : c1 23 s = v1 (2358 + 8 * s + 5) := ((t1.s.S s hs).rea (by rw [← (t1.s.S s hs).sta]; exact st1)).symm
          obtain ⟨x2, rx2, rcx2, hf2⟩ := p_first (a1 := a1) (a2 := v1 (2358 + 8 * s + 5)) t1.s h1 hs e5 r32
          obtain ⟨v', c', N', d, r', y, qr, qc, t', j', x', n', sp', e5', pl', fin'⟩ := ih N1 r1 c1 v1 x2 t1 j1 x1 st1 f6 e5 (by omega) (by omega) hf2 (by rw [c23]; exact rcx2)
          refine ⟨v', c', N', d + 1, r', y, fun σ v4 v5 Q e hQ => ?_, fun k a3 l v4 v5 Q q1 q2 q3 => ?_, t', j', x', by omega, fun i i1 i2 i3 i4 => (sp' i i1 i2 i3 i4).trans (sp i i1 i2 i3 i4), e5', by omega, ?_⟩
          · refine fA x2 rx2 σ v4 v5 Q e (fun u4 u5 => qr _ u4 u5 Q s_at ?_)
            rw [s_ss]
            exact hQ
          · refine step k a3 l v4 v5 Q q1 (by omega) (fun b3 u4 u5 q4 => qc (k + 1) b3 l u4 u5 Q q4 (by omega) (fun b4 w4 w5 q5 => q3 b4 w4 w5 ?_))
            rw [q5]
            omega
          · rcases fin' with ⟨z1, z2, z3⟩ | z
            · exact Or.inl ⟨z1, by omega, z3⟩
            · exact Or.inr z
        · refine ⟨v1, c1, N1, 1, r1, 1, fun σ v4 v5 Q e hQ => fB σ v4 v5 Q e hQ, fun k a3 l v4 v5 Q q1 q2 q3 => step k a3 l v4 v5 Q q1 (by omega) q3, t1, j1, x1, by omega, sp, e5, by omega, Or.inl ⟨rfl, by decide, fun z => ?_⟩⟩
          rw [z] at f6
          have f6 : (0 : Int) = _ := f6
          omega
