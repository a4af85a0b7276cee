/-! ===== the simulation: count answers the same ===== -/
theorem ce_count {B : Nat} (a1 : Int32) (σ : sm_S) (hB : B < 1500000000) (h : LR B σ) : two (fun x y => x = y) j_A_count j_M_count [.ref 42, .int a1] [.ref 168, .int a1] B σ := by
  have h2 := h
  obtain ⟨hL, ⟨N, hN, ht⟩, -⟩ := h2
  have l0 : a1 < 0 ↔ a1.toInt < 0 := by rw [t_lt]; exact Iff.rfl
  have l11 : a1 < 11 ↔ a1.toInt < 11 := by rw [t_lt]; exact Iff.rfl
  have key : ∃ r : Int32, xC xF j_A_count [.ref 42, .int a1] σ (sm_I (fun x _ => x = r)) ∧ ∀ σ2 : sm_S, σ2 1 = σ 169 → xC xM j_M_count [.ref 0, .int a1] σ2 (sm_I (fun y _ => y = r)) := by
    by_cases k1 : 0 ≤ a1.toInt ∧ a1.toInt < 11
    · obtain ⟨n, hn⟩ := t_of k1.1
      refine ⟨σ 169 (7 + n), f_A_count a1 σ _ ⟨fun z => absurd (l0.mp z) (by omega), fun _ => ⟨fun _ => ⟨t_vp hn (by omega), _, rfl, ?_⟩, fun z => absurd (l11.mpr k1.2) z⟩⟩, fun σ2 e2 => ?_⟩
      · rw [t_nat hn]
        exact ht.1.s.N.cnt n (by omega)
      · refine w_M_count a1 σ2 _ (fun σ1 e1 => (c_isInX (L := 0) (H := 10) rfl rfl a1 σ1).int ?_)
        obtain ⟨f1, -⟩ := told1 e2 e1
        rintro x2 σ3 ⟨hx2, es⟩
        rw [es]
        have h7 : (7 + a1).toInt = ((7 + n : Nat) : Int) := by
          rw [t_add (x := 7) rfl hn (by omega) (by omega)]
          omega
        refine ⟨fun z => absurd ⟨k1.1, by omega⟩ (hx2.b.1.mp z), fun _ => ⟨t_vp h7 (by omega), _, rfl, ?_⟩⟩
        rw [t_nat h7, f1]
    · refine ⟨-1, f_A_count a1 σ _ ⟨fun _ => ⟨_, rfl, rfl⟩, fun z => ⟨fun w => absurd ⟨(by rw [l0] at z; omega), l11.mp w⟩ k1, fun _ => ⟨_, rfl, rfl⟩⟩⟩, fun σ2 e2 => ?_⟩
      · refine w_M_count a1 σ2 _ (fun σ1 e1 => (c_isInX (L := 0) (H := 10) rfl rfl a1 σ1).int ?_)
        rintro x2 σ3 ⟨hx2, es⟩
        rw [es]
        refine ⟨fun _ => ⟨_, rfl, rfl⟩, fun z => absurd ?_ k1⟩
        have := hx2.b.2.mp z
        omega
  obtain ⟨r, ra, rm⟩ := key
  exact CLe h (a_countQ a1 σ h.1.1) (fun σ1 q => m_count a1 σ1 hB q.2.1) (fun σ1 q => by
    obtain ⟨N, hN, hj⟩ := (lw_bs q.2.1).1
    exact qU (as := [.ref 0, .int a1]) rfl (k_count (N := N) a1 (sh rM σ1) hj)) r ra (rmU (as := [.ref 0, .int a1]) rfl rm)
