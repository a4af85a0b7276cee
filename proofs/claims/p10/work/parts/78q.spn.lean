/-! ===== the simulation: zones by ratio, spans by turns, who can go ===== -/
def cnZ (v : Nat → Int32) (z : Int32) : Nat := sumN (fun s => if zV v s = z then 1 else 0) 8
theorem cnZ_le (v : Nat → Int32) (z : Int32) : cnZ v z ≤ 8 := by
  have := sumN_bd (F := fun s => if zV v s = z then 1 else 0) (K := 1) (n := 8) (fun i => by split <;> omega)
  unfold cnZ
  omega
theorem l_frames2 {a1 : Int32} (σ : sm_S) : ∀ (d k : Nat) (a2 a3 : Int32), a3.toInt = k → k + d = 8 → a2.toInt = ((32 * sumN (fun s => if zV (σ 1) s = a1 then 1 else 0) k : Nat) : Int) → xE xM m_M_framesOf 4 [.ref 0, .int a1, .int a2, .int a3] [] σ (sm_I (fun x σ' => x.toInt = ((32 * cnZ (σ 1) a1 : Nat) : Int) ∧ σ' = σ)) := by
  have bd : ∀ k, sumN (fun s => if zV (σ 1) s = a1 then 1 else 0) k ≤ 1 * k := fun k => sumN_bd (fun i => by split <;> omega)
  intro d
  induction d with
  | zero =>
    intro k a2 a3 h3 hk h2
    have hk : k = 8 := by omega
    subst hk
    exact w_M_framesOf_4 a1 a2 a3 σ _ ⟨fun _ => ⟨_, rfl, h2, rfl⟩, fun h => absurd (by rw [t_le, h3]; show (8 : Int) ≤ _; omega) h⟩
  | succ d ih =>
    intro k a2 a3 h3 hk h2
    have h3' : (a3 + 1).toInt = ((k + 1 : Nat) : Int) := by
      rw [t_add h3 (y := 1) rfl (by omega) (by omega)]
      omega
    have b := bd k
    refine w_M_framesOf_4 a1 a2 a3 σ _ ⟨fun h => ?_, fun _ => (c_zoneOf2 h3 (by omega) σ).int ?_⟩
    · rw [t_le, h3] at h
      have h : (8 : Int) ≤ k := h
      omega
    · rintro y σ1 ⟨ey, es⟩
      rw [ey, es]
      refine ⟨fun q => ih (k + 1) a2 (a3 + 1) h3' (by omega) ?_, fun q => ih (k + 1) (a2 + 32) (a3 + 1) h3' (by omega) ?_⟩
      · rw [h2]
        show _ = ((32 * (sumN (fun s => if zV (σ 1) s = a1 then 1 else 0) k + (if zV (σ 1) k = a1 then 1 else 0)) : Nat) : Int)
        rw [if_neg q]
        rfl
      · rw [t_add h2 (y := 32) rfl (by omega) (by omega)]
        show _ = ((32 * (sumN (fun s => if zV (σ 1) s = a1 then 1 else 0) k + (if zV (σ 1) k = a1 then 1 else 0)) : Nat) : Int)
        rw [if_pos (Classical.not_not.mp q)]
        omega
theorem c_framesOf2 (a1 : Int32) (σ : sm_S) : xC xM j_M_framesOf [.ref 0, .int a1] σ (sm_I (fun x σ' => x.toInt = ((32 * cnZ (σ 1) a1 : Nat) : Int) ∧ σ' = σ)) := w_M_framesOf a1 σ _ (l_frames2 σ 8 0 0 0 rfl rfl rfl)
theorem l_inZone2 {a1 : Int32} {v : Nat → Int32} (σ : sm_S) (h : sim0 σ v) : ∀ (d k : Nat) (a2 a3 : Int32), a3.toInt = k → k + d = 8 → a2.toInt = ((sumN (fun s => if zV v s = a1 then 1 else 0) k : Nat) : Int) → xE xD m_S_inZone 4 [.ref 17, .int a1, .int a2, .int a3] [] σ (sm_I (fun x σ' => x.toInt = ((cnZ v a1 : Nat) : Int) ∧ σ' = σ)) := by
  have bd : ∀ k, sumN (fun s => if zV v s = a1 then 1 else 0) k ≤ 1 * k := fun k => sumN_bd (fun i => by split <;> omega)
  intro d
  induction d with
  | zero =>
    intro k a2 a3 h3 hk h2
    have hk : k = 8 := by omega
    subst hk
    exact d_S_inZone_4 a1 a2 a3 σ _ ⟨fun _ => ⟨_, rfl, h2, rfl⟩, fun h => absurd (by rw [t_le, h3]; show (8 : Int) ≤ _; omega) h⟩
  | succ d ih =>
    intro k a2 a3 h3 hk h2
    have h3' : (a3 + 1).toInt = ((k + 1 : Nat) : Int) := by
      rw [t_add h3 (y := 1) rfl (by omega) (by omega)]
      omega
    have b := bd k
    refine d_S_inZone_4 a1 a2 a3 σ _ ⟨fun z => ?_, fun _ => ?_⟩
    · rw [t_le, h3] at z
      have z : (8 : Int) ≤ k := z
      omega
    · rw [t_nat h3, sim_zone h (by omega)]
      refine ⟨t_vp h3 (by omega), fun q => ih (k + 1) (a2 + 0) (a3 + 1) h3' (by omega) ?_, fun q => ih (k + 1) (a2 + 1) (a3 + 1) h3' (by omega) ?_⟩
      · rw [Int32.add_zero, h2]
        show _ = ((sumN (fun s => if zV v s = a1 then 1 else 0) k + (if zV v k = a1 then 1 else 0) : Nat) : Int)
        rw [if_neg q]
        rfl
      · rw [t_add h2 (y := 1) rfl (by omega) (by omega)]
        show _ = ((sumN (fun s => if zV v s = a1 then 1 else 0) k + (if zV v k = a1 then 1 else 0) : Nat) : Int)
        rw [if_pos (Classical.not_not.mp q)]
        rfl
theorem e_inZone2 {c : sm_S} {v : Nat → Int32} (a1 : Int32) (h : sim0 c v) : xC xD j_S_inZone [.ref 17, .int a1] c (sm_I (fun x σ' => x.toInt = ((cnZ v a1 : Nat) : Int) ∧ σ' = c)) := d_S_inZone a1 c _ (l_inZone2 c h 8 0 0 0 rfl rfl rfl)
/-- staysInRatio, with how many spans -/
theorem e_stays2 {c : sm_S} {v : Nat → Int32} {a1 a2 : Int32} {x y R : Nat} (h : sim0 c v) (hR : (v 2 + 150).toInt = R) (hR2 : R ≤ 400) (h1 : a1.toInt = x) (h2 : a2.toInt = y) (hx : x ≤ 20) (hy : y ≤ 20) : xC xD j_Y_staysInRatio [.ref 0, .int a1, .int a2] c (sm_I (fun z σ' => z = (if 100 * x ≤ R * y then 1 else 0) ∧ σ' = c)) := by
  have e2 : c 39 2 = v 2 + 150 := h.N.rto
  have b : R * y ≤ 400 * 20 := Nat.mul_le_mul hR2 hy
  have m1 : (c 39 2 * a2).toInt = ((R * y : Nat) : Int) := by
    rw [e2, t_mul hR h2 (by have := Int.natCast_mul R y; omega) (by have := Int.natCast_mul R y; omega)]
    exact (Int.natCast_mul R y).symm
  have m2 : (100 * a1).toInt = ((100 * x : Nat) : Int) := by
    rw [t_mul (a := 100) (x := 100) rfl h1 (by omega) (by omega)]
    omega
  refine d_Y_staysInRatio a1 a2 c _ ⟨t_vp (n := 2) rfl (by omega), fun q => ⟨Or.inl rfl, _, rfl, ?_, rfl⟩, fun q => ⟨Or.inr rfl, _, rfl, ?_, rfl⟩⟩
  · have q : c 39 2 * a2 < 100 * a1 := q
    rw [t_lt, m1, m2] at q
    rw [if_neg (by omega)]
  · have q : ¬ c 39 2 * a2 < 100 * a1 := q
    rw [t_lt, m1, m2] at q
    rw [if_pos (by omega)]
/-- zoneByRatio | zoneByRatio -/
theorem p_zbr {c : sm_S} {v : Nat → Int32} (h : sim0 c v) (hx : jx v) : ∃ z : Int32, rdI j_M_zoneByRatio [.ref 0] v z v ∧ xC xD j_Y_zoneByRatio [.ref 0] c (sm_I (fun y σ' => y = z ∧ σ' = c)) ∧ (z = 0 ∨ z = 1) ∧ z = (if 100 * (cnZ v 1 + 1) ≤ (v 2 + 150).toInt.toNat * cnZ v 0 then 1 else 0) := by
  obtain ⟨R, hR⟩ := t_of (x := v 2 + 150) hx.2.2.2.2.2.1
  have hR2 : R ≤ 400 := by have := hx.2.2.2.2.2.2; omega
  have hRn : (v 2 + 150).toInt.toNat = R := by omega
  have b0 := cnZ_le v 0
  have b1 := cnZ_le v 1
  have b : R * cnZ v 0 ≤ 400 * 8 := Nat.mul_le_mul hR2 b0
  refine ⟨if 100 * (cnZ v 1 + 1) ≤ R * cnZ v 0 then 1 else 0, fun σ e => ?_, ?_, ?_, by rw [hRn]⟩
  · refine w_M_zoneByRatio σ _ ((c_framesOf2 1 σ).int ?_)
    rintro y1 σ1 ⟨ey1, es1⟩
    rw [es1]
    refine (r_set2 v σ e).int ?_
    rintro y2 σ2 ⟨ey2, es2⟩
    rw [ey2, es2]
    refine (c_framesOf2 0 σ).int ?_
    rintro y3 σ3 ⟨ey3, es3⟩
    rw [es3]
    rw [e] at ey1 ey3
    have ml : R * (32 * cnZ v 0) = 32 * (R * cnZ v 0) := Nat.mul_left_comm R 32 (cnZ v 0)
    have m1 : ((v 2 + 150) * y3).toInt = ((R * (32 * cnZ v 0) : Nat) : Int) := by
      rw [t_mul hR ey3 (by have := Int.natCast_mul R (32 * cnZ v 0); omega) (by have := Int.natCast_mul R (32 * cnZ v 0); omega)]
      exact (Int.natCast_mul R (32 * cnZ v 0)).symm
    have m2 : (100 * (y1 + 32)).toInt = ((100 * (32 * cnZ v 1 + 32) : Nat) : Int) := by
      rw [t_mul (a := 100) (x := 100) rfl (t_add ey1 (y := 32) rfl (by omega) (by omega)) (by omega) (by omega)]
      omega
    refine ⟨fun q => ⟨_, rfl, ?_, by rw [← e, s_id]⟩, fun q => ⟨_, rfl, ?_, by rw [← e, s_id]⟩⟩
    · rw [t_lt, m1, m2, ml] at q
      rw [if_neg (by omega)]
    · rw [t_lt, m1, m2, ml] at q
      rw [if_pos (by omega)]
  · refine d_Y_zoneByRatio c _ ((e_inZone2 1 h).int ?_)
    rintro y1 σ1 ⟨ey1, es1⟩
    rw [es1]
    refine (e_inZone2 0 h).int ?_
    rintro y2 σ2 ⟨ey2, es2⟩
    rw [es2]
    have e1 : (y1 + 1).toInt = ((cnZ v 1 + 1 : Nat) : Int) := by
      rw [t_add ey1 (y := 1) rfl (by omega) (by omega)]
      omega
    refine (e_stays2 h hR hR2 e1 ey2 (by omega) (by omega)).int ?_
    rintro y3 σ3 ⟨ey3, es3⟩
    rw [es3, ey3]
    by_cases q : 100 * (cnZ v 1 + 1) ≤ R * cnZ v 0
    · rw [if_pos q]
      exact ⟨fun z => absurd z (by decide), fun _ => ⟨_, rfl, rfl, rfl⟩⟩
    · rw [if_neg q]
      exact ⟨fun _ => ⟨_, rfl, rfl, rfl⟩, fun z => absurd rfl z⟩
  · by_cases q : 100 * (cnZ v 1 + 1) ≤ R * cnZ v 0
    · rw [if_pos q]; exact Or.inr rfl
    · rw [if_neg q]; exact Or.inl rfl
/-- how many spans of a node are off (w = 1) or there (w = 0) -/
def mnN (v : Nat → Int32) (nd w : Nat) (k : Nat) : Nat := sumN (fun i => if (if v (2358 + 8 * (nd + 2 * i)) = 0 then 1 else 0) = w then 1 else 0) k
theorem ite1 (p : Prop) [Decidable p] : (if p then 1 else 0 : Nat) ≤ 1 := by split <;> omega
theorem mnN_le (v : Nat → Int32) (nd w k : Nat) : mnN v nd w k ≤ k := by
  have := sumN_bd (F := fun i => if (if v (2358 + 8 * (nd + 2 * i)) = 0 then 1 else 0) = w then 1 else 0) (K := 1) (n := k) (fun i => ite1 _)
  unfold mnN
  omega
theorem l_many2 {a1 a2 : Int32} {nd w : Nat} (hnd : nd < 2) (h2 : a2.toInt = w) (hw : w < 2) (σ : sm_S) : ∀ (d k : Nat) (a3 a4 : Int32), a4.toInt = ((nd + 2 * k : Nat) : Int) → k + d = 4 → a3.toInt = ((mnN (σ 1) nd w k : Nat) : Int) → xE xM m_M_manyOfNode 5 [.ref 0, .int a1, .int a2, .int a3, .int a4] [] σ (sm_I (fun x σ' => x.toInt = ((mnN (σ 1) nd w 4 : Nat) : Int) ∧ σ' = σ)) := by
  intro d
  induction d with
  | zero =>
    intro k a3 a4 h4 hk h3
    have hk : k = 4 := by omega
    subst hk
    exact w_M_manyOfNode_5 a1 a2 a3 a4 σ _ ⟨fun _ => ⟨_, rfl, h3, rfl⟩, fun h => absurd (by rw [t_le, h4]; show (8 : Int) ≤ _; omega) h⟩
  | succ d ih =>
    intro k a3 a4 h4 hk h3
    have h4' : (a4 + 2).toInt = ((nd + 2 * (k + 1) : Nat) : Int) := by
      rw [t_add h4 (y := 2) rfl (by omega) (by omega)]
      omega
    have b := mnN_le (σ 1) nd w k
    have hs : mnN (σ 1) nd w (k + 1) = mnN (σ 1) nd w k + (if (if σ 1 (2358 + 8 * (nd + 2 * k)) = 0 then 1 else 0) = w then 1 else 0) := rfl
    have h3' : (a3 + 1).toInt = ((mnN (σ 1) nd w k + 1 : Nat) : Int) := by
      rw [t_add h3 (y := 1) rfl (by omega) (by omega)]
      omega
    refine w_M_manyOfNode_5 a1 a2 a3 a4 σ _ ⟨fun h => ?_, fun _ => (c_spanState h4 (by omega) σ).int ?_⟩
    · rw [t_le, h4] at h
      have h : (8 : Int) ≤ ((nd + 2 * k : Nat) : Int) := h
      omega
    · rintro y σ1 ⟨ey, es⟩
      rw [ey, es]
      refine ⟨fun q => ⟨fun q2 => ih (k + 1) a3 (a4 + 2) h4' (by omega) ?_, fun q2 => ih (k + 1) (a3 + 1) (a4 + 2) h4' (by omega) ?_⟩, fun q => ⟨fun q2 => ih (k + 1) a3 (a4 + 2) h4' (by omega) ?_, fun q2 => ih (k + 1) (a3 + 1) (a4 + 2) h4' (by omega) ?_⟩⟩
      · rw [h3, hs, if_neg q, if_neg (fun z => q2 (t_inj (by rw [h2, ← z]; rfl)))]
        rfl
      · have z := congrArg Int32.toInt (Classical.not_not.mp q2)
        rw [h2] at z
        have z : (0 : Int) = w := z
        rw [h3', hs, if_neg q, if_pos (by omega)]
      · rw [h3, hs, if_pos (Classical.not_not.mp q), if_neg (fun z => q2 (t_inj (by rw [h2, ← z]; rfl)))]
        rfl
      · have z := congrArg Int32.toInt (Classical.not_not.mp q2)
        rw [h2] at z
        have z : (1 : Int) = w := z
        rw [h3', hs, if_pos (Classical.not_not.mp q), if_pos (by omega)]
/-- the first span of a node that is off -/
def fof (v : Nat → Int32) (nd : Nat) (x : Int32) : Prop := (x = -1 ∧ ∀ i, i < 4 → v (2358 + 8 * (nd + 2 * i)) ≠ 0) ∨ ∃ i : Nat, i < 4 ∧ x.toInt = ((nd + 2 * i : Nat) : Int) ∧ v (2358 + 8 * (nd + 2 * i)) = 0 ∧ ∀ j, j < i → v (2358 + 8 * (nd + 2 * j)) ≠ 0
theorem fof_un {v : Nat → Int32} {nd : Nat} {x y : Int32} (a : fof v nd x) (b : fof v nd y) : x = y := by
  rcases a with ⟨a1, a2⟩ | ⟨i, i1, i2, i3, i4⟩
  · rcases b with ⟨b1, -⟩ | ⟨j, j1, j2, j3, -⟩
    · rw [a1, b1]
    · exact absurd j3 (a2 j j1)
  · rcases b with ⟨-, b2⟩ | ⟨j, j1, j2, j3, j4⟩
    · exact absurd i3 (b2 i i1)
    · have : i = j := by
        have c1 : ¬ i < j := fun z => j4 i z i3
        have c2 : ¬ j < i := fun z => i4 j z j3
        omega
      subst this
      exact t_inj (by rw [i2, j2])
theorem l_turn2 {a1 : Int32} {nd : Nat} (hnd : nd < 2) (σ : sm_S) : ∀ (d k : Nat) (a2 : Int32), a2.toInt = ((nd + 2 * k : Nat) : Int) → k + d = 4 → (∀ j, j < k → σ 1 (2358 + 8 * (nd + 2 * j)) ≠ 0) → xE xM m_M_turnOf 41 [.ref 0, .int a1, .int a2] [] σ (sm_I (fun x σ' => fof (σ 1) nd x ∧ σ' = σ)) := by
  intro d
  induction d with
  | zero =>
    intro k a2 h2 hk hb
    refine w_M_turnOf_41 a1 a2 σ _ ⟨fun _ => ⟨_, rfl, Or.inl ⟨rfl, fun i hi => hb i (by omega)⟩, rfl⟩, fun h => absurd (by rw [t_le, h2]; show (8 : Int) ≤ _; omega) h⟩
  | succ d ih =>
    intro k a2 h2 hk hb
    have h2' : (a2 + 2).toInt = ((nd + 2 * (k + 1) : Nat) : Int) := by
      rw [t_add h2 (y := 2) rfl (by omega) (by omega)]
      omega
    refine w_M_turnOf_41 a1 a2 σ _ ⟨fun h => ?_, fun _ => (c_spanState h2 (by omega) σ).int ?_⟩
    · rw [t_le, h2] at h
      have h : (8 : Int) ≤ ((nd + 2 * k : Nat) : Int) := h
      omega
    · rintro y σ1 ⟨ey, es⟩
      rw [ey, es]
      refine ⟨fun q => ih (k + 1) (a2 + 2) h2' (by omega) (fun j hj => ?_), fun q => ⟨_, rfl, Or.inr ⟨k, by omega, h2, Classical.not_not.mp q, hb⟩, rfl⟩⟩
      by_cases e : j = k
      · rw [e]; exact q
      · exact hb j (by omega)
theorem mn0 {v : Nat → Int32} {nd : Nat} {x : Int32} (h : fof v nd x) : mnN v nd 1 4 = 0 ↔ x = -1 := by
  unfold mnN
  rw [sumN_z]
  refine ⟨fun q => ?_, fun q i hi => ?_⟩
  · rcases h with ⟨z, -⟩ | ⟨i, i1, i2, i3, -⟩
    · exact z
    · have := q i i1
      rw [if_pos i3, if_pos rfl] at this
      exact absurd this (by decide)
  · rcases h with ⟨-, z⟩ | ⟨i2, -, z, -⟩
    · rw [if_neg (z i hi), if_neg (by decide)]
    · exact absurd q (ne_m1 z)
/-- a node's part of nextByTurns: how many are there, which is the first that is off -/
theorem l_node2 {nd : Nat} {v : Nat → Int32} (hnd : nd < 2) (c : sm_S) (h : sim0 c v) {a1 a2 a3 : Int32} {Q : Option Value → sm_S → Prop} {x : Int32} (hx : fof v nd x) (k7 : ∀ (y : Int32) (u4 u5 u6 : Value), y.toInt = ((mnN v nd 0 4 : Nat) : Int) → xE xD m_S_nextByTurns 7 [.ref 17, .int (if x = -1 then a1 else if a2 ≤ y then a1 else x), .int (if x = -1 then a2 else if a2 ≤ y then a2 else y), .int (a3 + 1), u4, u5, u6] [] c Q) : ∀ (d k : Nat) (a4 a5 a6 : Int32), a6.toInt = ((nd + 2 * k : Nat) : Int) → k + d = 4 → a4.toInt = ((mnN v nd 0 k : Nat) : Int) → ((a5 = -1 ∧ ∀ j, j < k → v (2358 + 8 * (nd + 2 * j)) ≠ 0) ∨ ∃ i : Nat, i < k ∧ a5.toInt = ((nd + 2 * i : Nat) : Int) ∧ v (2358 + 8 * (nd + 2 * i)) = 0 ∧ ∀ j, j < i → v (2358 + 8 * (nd + 2 * j)) ≠ 0) → xE xD m_S_nextByTurns 21 [.ref 17, .int a1, .int a2, .int a3, .int a4, .int a5, .int a6] [] c Q := by
  intro d
  induction d with
  | zero =>
    intro k a4 a5 a6 h6 hk h4 h5
    have hk : k = 4 := by omega
    subst hk
    have e5 : a5 = x := fof_un (v := v) (nd := nd) h5 hx
    refine d_S_nextByTurns_21 a1 a2 a3 a4 a5 a6 c Q ⟨fun _ => ?_, fun z => absurd (by rw [t_le, h6]; show (8 : Int) ≤ _; omega) z⟩
    rw [e5]
    refine ⟨fun q => ?_, fun q => ⟨fun q2 => ?_, fun q2 => ?_⟩⟩
    · have := k7 a4 (.int a4) (.int x) (.int a6) h4
      rw [if_pos q, if_pos q] at this
      exact this
    · have := k7 a4 (.int a4) (.int x) (.int a6) h4
      rw [if_neg q, if_pos q2, if_neg q, if_pos q2] at this
      exact this
    · have := k7 a4 (.int a4) (.int x) (.int a6) h4
      rw [if_neg q, if_neg q2, if_neg q, if_neg q2] at this
      exact this
  | succ d ih =>
    intro k a4 a5 a6 h6 hk h4 h5
    have h6' : (a6 + 2).toInt = ((nd + 2 * (k + 1) : Nat) : Int) := by
      rw [t_add h6 (y := 2) rfl (by omega) (by omega)]
      omega
    have b := mnN_le v nd 0 k
    have hs : mnN v nd 0 (k + 1) = mnN v nd 0 k + (if (if v (2358 + 8 * (nd + 2 * k)) = 0 then 1 else 0) = 0 then 1 else 0) := rfl
    have st : v (2358 + 8 * (nd + 2 * k)) = c 18 (nd + 2 * k) := (h.S (nd + 2 * k) (by omega)).sta
    refine d_S_nextByTurns_21 a1 a2 a3 a4 a5 a6 c Q ⟨fun z => ?_, fun _ => ?_⟩
    · rw [t_le, h6] at z
      have z : (8 : Int) ≤ ((nd + 2 * k : Nat) : Int) := z
      omega
    · rw [t_nat h6, ← st]
      refine ⟨t_vp h6 (by omega), fun q => ⟨fun q2 => ih (k + 1) a4 a5 (a6 + 2) h6' (by omega) ?_ ?_, fun q2 => ih (k + 1) a4 a6 (a6 + 2) h6' (by omega) ?_ ?_⟩, fun q => ih (k + 1) (a4 + 1) a5 (a6 + 2) h6' (by omega) ?_ ?_⟩
      · rw [h4, hs, if_pos q, if_neg (by decide)]
        rfl
      · rcases h5 with ⟨z, -⟩ | ⟨i, i1, i2, i3, i4⟩
        · exact absurd z q2
        · exact Or.inr ⟨i, by omega, i2, i3, i4⟩
      · rw [h4, hs, if_pos q, if_neg (by decide)]
        rfl
      · rcases h5 with ⟨-, z⟩ | ⟨i, i1, i2, -⟩
        · exact Or.inr ⟨k, by omega, h6, q, z⟩
        · exact absurd (ne_m1 i2) q2
      · rw [t_add h4 (y := 1) rfl (by omega) (by omega), hs, if_neg q, if_pos rfl]
        omega
      · rcases h5 with ⟨z, z2⟩ | ⟨i, i1, i2, i3, i4⟩
        · refine Or.inl ⟨z, fun j hj => ?_⟩
          by_cases e : j = k
          · rw [e]; exact q
          · exact z2 j (by omega)
        · exact Or.inr ⟨i, by omega, i2, i3, i4⟩
/-- nextByTurns | turnOf -/
theorem p_turn {c : sm_S} {v : Nat → Int32} (h : sim0 c v) : ∃ x : Int32, rdI j_M_turnOf [.ref 0] v x v ∧ xC xD j_S_nextByTurns [.ref 17] c (sm_I (fun y σ' => y = x ∧ σ' = c)) ∧ (x = -1 ∨ ∃ s : Nat, s < 8 ∧ x.toInt = s ∧ v (2358 + 8 * s + 0) = 0) := by
  have ex : ∀ nd, nd < 2 → ∃ x, fof v nd x := fun nd hnd => by
    obtain ⟨n, r, σ', -, x, -, hx, -⟩ := l_turn2 (a1 := 0) hnd (rz v) 4 0 (nI nd) (by rw [nI_toInt (by omega)]; omega) rfl (fun j hj => by omega)
    rw [rz_at] at hx
    exact ⟨x, hx⟩
  obtain ⟨x0, f0⟩ := ex 0 (by decide)
  obtain ⟨x1, f1⟩ := ex 1 (by decide)
  have m00 := mnN_le v 0 0 4
  have m10 := mnN_le v 1 0 4
  have m01 := mnN_le v 0 1 4
  have m11 := mnN_le v 1 1 4
  have z0 := mn0 f0
  have z1 := mn0 f1
  have off : ∀ nd x, nd < 2 → fof v nd x → x = -1 ∨ ∃ s : Nat, s < 8 ∧ x.toInt = s ∧ v (2358 + 8 * s + 0) = 0 := fun nd x hnd hf => by
    rcases hf with ⟨z, -⟩ | ⟨i, i1, i2, i3, -⟩
    · exact Or.inl z
    · exact Or.inr ⟨nd + 2 * i, by omega, i2, i3⟩
  have many : ∀ (σ : sm_S) (aI wI : Int32) (nd w : Nat), σ 1 = v → aI.toInt = nd → nd < 2 → wI.toInt = w → w < 2 → xC xM j_M_manyOfNode [.ref 0, .int aI, .int wI] σ (sm_I (fun x σ' => x.toInt = ((mnN v nd w 4 : Nat) : Int) ∧ σ' = σ)) := fun σ aI wI nd w e e1 e2 e3 e4 => by
    have := w_M_manyOfNode aI wI σ _ (l_many2 (a1 := aI) e2 e3 e4 σ 4 0 0 aI (by rw [e1]; omega) rfl rfl)
    rw [e] at this
    exact this
  have go : ∀ (σ : sm_S) (aI : Int32) (nd : Nat) (x : Int32), σ 1 = v → aI.toInt = nd → nd < 2 → fof v nd x → xE xM m_M_turnOf 41 [.ref 0, .int aI, .int aI] [] σ (sm_I (fun y σ' => y = x ∧ σ' = sm_set σ 1 v)) := fun σ aI nd x e e1 e2 e3 => by
    refine (l_turn2 (a1 := aI) e2 σ 4 0 aI (by rw [e1]; omega) rfl (fun j hj => by omega)).mono ?_
    rintro r σ' ⟨y, rfl, hy, rfl⟩
    rw [e] at hy
    exact ⟨y, rfl, fof_un hy e3, by rw [← e, s_id]⟩
  refine ⟨if x0 ≠ -1 ∧ (x1 = -1 ∨ mnN v 0 0 4 ≤ mnN v 1 0 4) then x0 else x1, fun σ e => ?_, ?_, ?_⟩
  · refine w_M_turnOf σ _ ((many σ 0 1 0 1 e rfl (by decide) rfl (by decide)).int ?_)
    rintro y1 σ1 ⟨ey1, es1⟩
    rw [es1]
    refine ⟨fun q => ?_, fun q => (many σ 1 1 1 1 e rfl (by decide) rfl (by decide)).int ?_⟩
    · rw [le0, ey1] at q
      have : x0 = -1 := z0.mp (by omega)
      rw [if_neg (fun z => z.1 this)]
      exact go σ 1 1 x1 e rfl (by decide) f1
    · rw [le0, ey1] at q
      have n0 : x0 ≠ -1 := fun z => by have := z0.mpr z; omega
      rintro y2 σ2 ⟨ey2, es2⟩
      rw [es2]
      refine ⟨fun q2 => ?_, fun q2 => (many σ 0 0 0 0 e rfl (by decide) rfl (by decide)).int ?_⟩
      · have : x1 = -1 := z1.mp (by rw [q2] at ey2; have ey2 : (0 : Int) = _ := ey2; omega)
        rw [if_pos ⟨n0, Or.inl this⟩]
        exact go σ 0 0 x0 e rfl (by decide) f0
      · have n1 : x1 ≠ -1 := fun z => q2 (t_inj (by rw [ey2, z1.mpr z]; rfl))
        rintro y3 σ3 ⟨ey3, es3⟩
        rw [es3]
        refine (many σ 1 0 1 0 e rfl (by decide) rfl (by decide)).int ?_
        rintro y4 σ4 ⟨ey4, es4⟩
        rw [es4]
        refine ⟨fun q3 => ?_, fun q3 => ?_⟩
        · rw [t_lt, ey3, ey4] at q3
          rw [if_neg (fun z => z.2.elim n1 (fun z => by omega))]
          exact go σ 1 1 x1 e rfl (by decide) f1
        · rw [t_lt, ey3, ey4] at q3
          rw [if_pos ⟨n0, Or.inr (by omega)⟩]
          exact go σ 0 0 x0 e rfl (by decide) f0
  · refine d_S_nextByTurns c _ (d_S_nextByTurns_7 (-1) 8 0 _ _ _ c _ ⟨fun z => absurd z (by decide), fun _ => ?_⟩)
    refine l_node2 (nd := 0) (by decide) c h f0 (fun y0 u4 u5 u6 hy0 => ?_) 4 0 0 (-1) 0 rfl rfl rfl (Or.inl ⟨rfl, fun j hj => by omega⟩)
    refine d_S_nextByTurns_7 _ _ _ u4 u5 u6 c _ ⟨fun z => absurd z (by decide), fun _ => ?_⟩
    refine l_node2 (nd := 1) (by decide) c h f1 (fun y1 w4 w5 w6 hy1 => ?_) 4 0 0 (-1) _ rfl rfl rfl (Or.inl ⟨rfl, fun j hj => by omega⟩)
    refine d_S_nextByTurns_7 _ _ _ w4 w5 w6 c _ ⟨fun _ => ⟨_, rfl, ?_, rfl⟩, fun z => absurd (by decide) z⟩
    have n8 : ∀ y : Int32, y.toInt ≤ 4 → ¬ (8 : Int32) ≤ y := fun y hy => by
      rw [t_le]
      show ¬ (8 : Int) ≤ _
      omega
    by_cases a0 : x0 = -1
    · rw [if_pos a0, if_pos a0]
      have nn : ¬ (x0 ≠ -1 ∧ (x1 = -1 ∨ mnN v 0 0 4 ≤ mnN v 1 0 4)) := fun z => z.1 a0
      by_cases a1 : x1 = -1
      · rw [if_pos a1, if_neg nn, a1]
      · rw [if_neg a1, if_neg (n8 y1 (by omega)), if_neg nn]
    · rw [if_neg a0, if_neg a0, if_neg (n8 y0 (by omega)), if_neg (n8 y0 (by omega))]
      by_cases a1 : x1 = -1
      · rw [if_pos a1, if_pos ⟨a0, Or.inl a1⟩]
      · rw [if_neg a1]
        by_cases le : mnN v 0 0 4 ≤ mnN v 1 0 4
        · rw [if_pos (by rw [t_le, hy0, hy1]; omega), if_pos ⟨a0, Or.inr le⟩]
        · rw [if_neg (by rw [t_le, hy0, hy1]; omega), if_neg (fun z => z.2.elim a1 le)]
  · by_cases q : x0 ≠ -1 ∧ (x1 = -1 ∨ mnN v 0 0 4 ≤ mnN v 1 0 4)
    · rw [if_pos q]; exact off 0 x0 (by decide) f0
    · rw [if_neg q]; exact off 1 x1 (by decide) f1
