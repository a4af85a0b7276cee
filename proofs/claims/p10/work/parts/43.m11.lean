/-! ===== the model: set and home, with their answers; who waited does what it wanted ===== -/
def ansSet (a b : Int32) : Prop := (a = 0 ∧ 1 ≤ b.toInt ∧ b.toInt ≤ 16) ∨ (a = 1 ∧ 1 ≤ b.toInt ∧ b.toInt ≤ 9) ∨ (a = 2 ∧ 0 ≤ b.toInt ∧ b.toInt ≤ 400) ∨ (a = 3 ∧ 1 ≤ b.toInt ∧ b.toInt ≤ 20)
def ansHome (a b : Int32) : Prop := 0 ≤ a.toInt ∧ a.toInt < 6 ∧ 0 ≤ b.toInt ∧ b.toInt ≤ 1
/-- yes or no -/
def isYes (P : Prop) (x : Int32) : Prop := (x = 1 ∧ P) ∨ (x = 0 ∧ ¬ P)
theorem c_firstOf (a : Int32) (σ : sm_S) : xC xM j_M_firstOf [.ref 0, .int a] σ (sm_I (fun _ σ' => σ' = σ)) :=
  w_M_firstOf a σ _ ⟨fun _ => ⟨fun _ => ⟨fun _ => ⟨_, rfl, rfl⟩, fun _ => ⟨_, rfl, rfl⟩⟩, fun _ => ⟨_, rfl, rfl⟩⟩, fun _ => ⟨_, rfl, rfl⟩⟩
theorem c_set {N : Nat} (a1 a2 : Int32) (σ : sm_S) (hj : jj N (σ 1)) : xC xM j_M_set [.ref 0, .int a1, .int a2] σ (sm_I (fun x σ' => isYes (ansSet a1 a2) x ∧ pub N 0 σ x σ')) := by
  refine w_M_set a1 a2 σ _ (fun σ1 e1 => (c_isIn a1 0 3 σ1).int ?_)
  have hj1 : jj N (σ1 1) := by rw [e1, s_ne (by decide)]; exact hj
  rintro x1 σ1 ⟨hx1, rfl⟩
  refine ⟨fun n1 => ⟨Or.inl rfl, _, rfl, Or.inr ⟨rfl, ?_⟩, pub_keep hj e1⟩, fun n1 => ?_⟩
  · have h1 : a1.toInt < 0 ∨ 3 < a1.toInt := (hx1.resolve_left (fun z => by rw [z.1] at n1; exact absurd n1 (by decide))).2
    rintro (⟨rfl, -⟩ | ⟨rfl, -⟩ | ⟨rfl, -⟩ | ⟨rfl, -⟩) <;> revert h1 <;> decide
  · obtain ⟨-, h1, h2⟩ := hx1.resolve_right (fun z => n1 z.1)
    have h1 : 0 ≤ a1.toInt := h1
    have h2 : a1.toInt ≤ 3 := h2
    obtain ⟨n, hn⟩ := t_of h1
    have stp : ∀ lo hi : Int32, (ansSet a1 a2 ↔ lo.toInt ≤ a2.toInt ∧ a2.toInt ≤ hi.toInt) → xC xM j_M_isIn [.ref 0, .int a2, .int lo, .int hi] σ1 (sm_ri False (fun x5 σ4 => ((x5 ≠ 0 → xC xM j_M_firstOf [.ref 0, .int a1] σ4 (sm_ri False (fun x7 σ6 => (vp_in a1 2662 ∧ ∀ σ8, σ8 = sm_set σ6 1 (upd (σ6 1) (a1).toNatClampNeg (a2 - x7)) → (((1 : Int32) = 0 ∨ (1 : Int32) = 1) ∧ sm_I (fun x σ' => isYes (ansSet a1 a2) x ∧ pub N 0 σ x σ') (some (.int 1)) σ8))))) ∧ (¬ (x5 ≠ 0) → (((0 : Int32) = 0 ∨ (0 : Int32) = 1) ∧ sm_I (fun x σ' => isYes (ansSet a1 a2) x ∧ pub N 0 σ x σ') (some (.int 0)) σ4))))) := by
      intro lo hi hiff
      refine (c_isIn a2 lo hi σ1).int ?_
      rintro x2 σ1 ⟨hx2, rfl⟩
      refine ⟨fun n2 => (c_firstOf a1 _).int ?_, fun n2 => ⟨Or.inl rfl, _, rfl, Or.inr ⟨rfl, fun z => ?_⟩, pub_keep hj e1⟩⟩
      · obtain ⟨-, g1, g2⟩ := hx2.resolve_right (fun z => n2 z.1)
        rintro x3 σ1 rfl
        refine ⟨t_vp hn (by omega), fun σ8 e8 => ⟨Or.inr rfl, _, rfl, Or.inl ⟨rfl, hiff.mpr ⟨g1, g2⟩⟩, ?_⟩⟩
        rw [e8, t_nat hn]
        exact pub_set e1 (jj_low (by omega) (by omega) hj1) (Nat.le_refl N) (Nat.le_refl N)
      · have g := (hx2.resolve_left (fun q => n2 (by rw [q.1]; decide))).2
        have g2 := hiff.mp z
        omega
    have e0 : a1 = 0 ∨ a1 = 1 ∨ a1 = 2 ∨ a1 = 3 := by
      rcases (show n = 0 ∨ n = 1 ∨ n = 2 ∨ n = 3 by omega) with rfl | rfl | rfl | rfl
      · exact Or.inl (t_inj (by rw [hn]; rfl))
      · exact Or.inr (Or.inl (t_inj (by rw [hn]; rfl)))
      · exact Or.inr (Or.inr (Or.inl (t_inj (by rw [hn]; rfl))))
      · exact Or.inr (Or.inr (Or.inr (t_inj (by rw [hn]; rfl))))
    refine ⟨fun m2 => ⟨fun m0 => ⟨fun m1 => ⟨fun _ => stp 1 20 ?_, fun z => absurd m2 z⟩, fun m1 => stp 1 9 ?_⟩, fun m0 => stp 1 16 ?_⟩, fun m2 => ⟨fun m0 => ⟨fun m1 => ⟨fun z => absurd z m2, fun _ => stp 0 400 ?_⟩, fun m1 => absurd (fun z => m2 (by rw [z]; decide)) m1⟩, fun m0 => absurd (fun z => m2 (by rw [z]; decide)) m0⟩⟩
    · have h3 : a1 = 3 := ((e0.resolve_left m0).resolve_left m1).resolve_left m2
      subst h3
      constructor
      · rintro (⟨h, -⟩ | ⟨h, -⟩ | ⟨h, -⟩ | ⟨-, h⟩)
        · exact absurd h (by decide)
        · exact absurd h (by decide)
        · exact absurd h (by decide)
        · exact h
      · exact fun h => Or.inr (Or.inr (Or.inr ⟨rfl, h⟩))
    · have h3 : a1 = 1 := Classical.not_not.mp m1
      subst h3
      constructor
      · rintro (⟨h, -⟩ | ⟨-, h⟩ | ⟨h, -⟩ | ⟨h, -⟩)
        · exact absurd h (by decide)
        · exact h
        · exact absurd h (by decide)
        · exact absurd h (by decide)
      · exact fun h => Or.inr (Or.inl ⟨rfl, h⟩)
    · have h3 : a1 = 0 := Classical.not_not.mp m0
      subst h3
      constructor
      · rintro (⟨-, h⟩ | ⟨h, -⟩ | ⟨h, -⟩ | ⟨h, -⟩)
        · exact h
        · exact absurd h (by decide)
        · exact absurd h (by decide)
        · exact absurd h (by decide)
      · exact fun h => Or.inl ⟨rfl, h⟩
    · have h3 : a1 = 2 := Classical.not_not.mp m2
      subst h3
      constructor
      · rintro (⟨h, -⟩ | ⟨h, -⟩ | ⟨-, h⟩ | ⟨h, -⟩)
        · exact absurd h (by decide)
        · exact absurd h (by decide)
        · exact h
        · exact absurd h (by decide)
      · exact fun h => Or.inr (Or.inr (Or.inl ⟨rfl, h⟩))
theorem c_home {N : Nat} (a1 a2 : Int32) (σ : sm_S) (hj : jj N (σ 1)) : xC xM j_M_home [.ref 0, .int a1, .int a2] σ (sm_I (fun x σ' => isYes (ansHome a1 a2) x ∧ pub N 0 σ x σ')) := by
  refine w_M_home a1 a2 σ _ (fun σ1 e1 => (c_isTask a1 σ1).int ?_)
  have hj1 : jj N (σ1 1) := by rw [e1, s_ne (by decide)]; exact hj
  rintro x1 σ1 ⟨hx1, rfl⟩
  refine ⟨fun n1 => ⟨Or.inl rfl, _, rfl, Or.inr ⟨rfl, fun z => ?_⟩, pub_keep hj e1⟩, fun n1 => (c_isIn a2 0 1 _).int ?_⟩
  · have h1 := (hx1.resolve_left (fun q => by rw [q.1] at n1; exact absurd n1 (by decide))).2
    obtain ⟨z1, z2, -⟩ := z
    omega
  · obtain ⟨-, m, hm, h1⟩ := hx1.resolve_right (fun z => n1 z.1)
    rintro x2 σ1 ⟨hx2, rfl⟩
    refine ⟨fun n2 => (c_taskAt a1 _).int ?_, fun n2 => ⟨Or.inl rfl, _, rfl, Or.inr ⟨rfl, fun z => ?_⟩, pub_keep hj e1⟩⟩
    · obtain ⟨-, g1, g2⟩ := hx2.resolve_right (fun z => n2 z.1)
      have g1 : 0 ≤ a2.toInt := g1
      have g2 : a2.toInt ≤ 1 := g2
      rintro _ σ1 ⟨rfl, rfl⟩
      obtain ⟨p1, q1⟩ := ixT (k := 0) (j := 0) h1 rfl (by omega)
      refine ⟨p1, fun σ8 e8 => ⟨Or.inr rfl, _, rfl, Or.inl ⟨rfl, by omega, by omega, g1, g2⟩, ?_⟩⟩
      rw [e8, q1]
      exact pub_set e1 (jj_cell (by omega) (Or.inr (Or.inl ⟨m, hm, Or.inl rfl⟩)) hj1) (Nat.le_refl N) (Nat.le_refl N)
    · have h2 : a2.toInt < 0 ∨ 1 < a2.toInt := (hx2.resolve_left (fun q => n2 (by rw [q.1]; decide))).2
      obtain ⟨-, -, z3, z4⟩ := z
      omega
