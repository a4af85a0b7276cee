/-! ===== the simulation: what the reference's helpers do, to the last number ===== -/
def shV (v : Nat → Int32) (f : Nat) : Int32 := if ((f % 32 / 8 : Nat) : Int) < (v (2358 + 8 * (f / 32) + 2)).toInt then 2 else 1
theorem c_isShut2 {f : Int32} {n : Nat} (hf : f.toInt = n) (hn : n < 256) (σ : sm_S) : xC xM j_M_isShut [.ref 0, .int f] σ (sm_I (fun x σ' => ((x = 1 ∧ shV (σ 1) n = 2) ∨ (x = 0 ∧ shV (σ 1) n = 1)) ∧ σ' = σ)) := by
  refine w_M_isShut f σ _ ⟨by decide, by decide, (c_spanOf hf σ).int ?_⟩
  rintro x2 σ ⟨h2, rfl⟩
  refine (c_spanAt x2 σ).int ?_
  rintro _ _ ⟨rfl, rfl⟩
  obtain ⟨p1, p2⟩ := ixS (k := 2) (j := 2) h2 rfl (by omega)
  have e : ((f - f / 32 * 32) / 8).toInt = ((n % 32 / 8 : Nat) : Int) := t_div (d := 8) (t_rem (d := 32) hf rfl (by decide)) rfl (by decide)
  rw [p2]
  refine ⟨p1, fun h => ⟨Or.inl rfl, _, rfl, Or.inr ⟨rfl, ?_⟩, rfl⟩, fun h => ⟨Or.inr rfl, _, rfl, Or.inl ⟨rfl, ?_⟩, rfl⟩⟩
  · rw [t_le, e] at h
    unfold shV
    exact if_neg (by omega)
  · rw [t_le, e] at h
    unfold shV
    exact if_pos (by omega)
theorem c_leaves2 {f : Int32} {n : Nat} (hf : f.toInt = n) (hn : n < 256) (σ : sm_S) : xC xM j_M_leaves [.ref 0, .int f] σ (sm_V (fun σ' => σ' = sm_set σ 1 (upd (upd (upd (σ 1) (18 + 3 * n) (shV (σ 1) n)) (18 + 3 * n + 1) 0) (18 + 3 * n + 2) 0))) := by
  refine w_M_leaves f σ _ ((c_frameAt f σ).int ?_)
  rintro _ _ ⟨rfl, rfl⟩
  refine (c_isShut2 hf hn _).int ?_
  rintro x _ ⟨hx, rfl⟩
  obtain ⟨h1, h2⟩ := ixF (k := 0) (j := 0) hf rfl (by omega)
  obtain ⟨h3, h4⟩ := ixF (k := 1) (j := 1) hf rfl (by omega)
  obtain ⟨h5, h6⟩ := ixF (k := 2) (j := 2) hf rfl (by omega)
  rw [h2, h4, h6]
  refine ⟨fun z => ⟨h1, fun σ1 e1 => ⟨h3, fun σ2 e2 => ⟨h5, fun σ3 e3 => ⟨rfl, ?_⟩⟩⟩⟩, fun z => ⟨h1, fun σ1 e1 => ⟨h3, fun σ2 e2 => ⟨h5, fun σ3 e3 => ⟨rfl, ?_⟩⟩⟩⟩⟩
  · rcases hx with ⟨q, -⟩ | ⟨-, q⟩
    · rw [q] at z; exact absurd z (by decide)
    · rw [q, e3, e2, e1]
      simp only [s_at, s_ss, Nat.add_zero]
  · rcases hx with ⟨-, q⟩ | ⟨q, -⟩
    · rw [q, e3, e2, e1]
      simp only [s_at, s_ss, Nat.add_zero]
    · exact absurd q z
/-- the frames from fr on, n of them, have nobody any more -/
def lvF (v : Nat → Int32) (fr n : Nat) : Nat → Int32 := fun i => if 18 + 3 * fr ≤ i ∧ i < 18 + 3 * (fr + n) then (if (i - 18) % 3 = 0 then shV v ((i - 18) / 3) else 0) else v i
theorem lvF_0 (v : Nat → Int32) (fr : Nat) : lvF v fr 0 = v := by
  funext i
  exact if_neg (by omega)
theorem lvF_out {v : Nat → Int32} {fr n i : Nat} (h : i < 18 + 3 * fr ∨ 18 + 3 * (fr + n) ≤ i) : lvF v fr n i = v i := if_neg (by omega)
theorem lvF_sh {v : Nat → Int32} {fr n f : Nat} (h : fr + n ≤ 256) : shV (lvF v fr n) f = shV v f := by
  unfold shV
  rw [lvF_out (by omega)]
theorem lvF_s (v : Nat → Int32) (fr n : Nat) : lvF v fr (n + 1) = upd (upd (upd (lvF v fr n) (18 + 3 * (fr + n)) (shV v (fr + n))) (18 + 3 * (fr + n) + 1) 0) (18 + 3 * (fr + n) + 2) 0 := by
  funext i
  by_cases a : i = 18 + 3 * (fr + n) + 2
  · rw [a, u_at]
    unfold lvF
    rw [if_pos (by omega), if_neg (by omega)]
  · rw [u_ne a]
    by_cases b : i = 18 + 3 * (fr + n) + 1
    · rw [b, u_at]
      unfold lvF
      rw [if_pos (by omega), if_neg (by omega)]
    · rw [u_ne b]
      by_cases c : i = 18 + 3 * (fr + n)
      · rw [c, u_at]
        unfold lvF
        rw [if_pos (by omega), if_pos (by omega)]
        exact congrArg (shV v) (by omega)
      · rw [u_ne c]
        unfold lvF
        by_cases d : 18 + 3 * fr ≤ i ∧ i < 18 + 3 * (fr + n)
        · rw [if_pos d, if_pos (by omega)]
        · rw [if_neg d, if_neg (by omega)]
theorem l_goes2 {a1 : Int32} {n o fr : Nat} (h1 : a1.toInt = n) (hn : n < 96) (ho : o ≤ 4) (hal : fr + 2 ^ o ≤ 256) (σ : sm_S) (ho2 : (σ 1 (786 + 16 * n + 2)).toInt = o) (hf2 : (σ 1 (786 + 16 * n + 1)).toInt = fr) : ∀ (d k : Nat) (a2 : Int32), a2.toInt = k → k + d = 2 ^ o →
    xE xM m_M_goes 2 [.ref 0, .int a1, .int a2] [] (sm_set σ 1 (lvF (σ 1) fr k)) (sm_V (fun σ' => σ' = sm_set σ 1 (upd (lvF (σ 1) fr (2 ^ o)) (786 + 16 * n + 0) 0))) := by
  have hp := t_pw (k := o) (by omega)
  intro d
  induction d with
  | zero =>
    intro k a2 h2 hk
    refine w_M_goes_2 a1 a2 _ _ ((c_longOf h1 hn _).int ?_)
    rintro _ _ ⟨rfl, rfl⟩
    rw [s_at, lvF_out (by omega)]
    refine ⟨fun _ => (c_lay (k := 0) (j := 0) h1 rfl (by omega) 0 _).void ?_, fun h => absurd ?_ h⟩
    · rintro _ rfl
      refine ⟨rfl, ?_⟩
      rw [s_ss, s_at, show k = 2 ^ o by omega]
    · rw [t_le, t_pow ho2 (by omega), h2]
      omega
  | succ d ih =>
    intro k a2 h2 hk
    refine w_M_goes_2 a1 a2 _ _ ((c_longOf h1 hn _).int ?_)
    rintro _ _ ⟨rfl, rfl⟩
    rw [s_at, lvF_out (by omega)]
    refine ⟨fun h => ?_, fun _ => (c_frameOf h1 hn _).int ?_⟩
    · rw [t_le, t_pow ho2 (by omega), h2] at h
      omega
    · rintro _ _ ⟨rfl, rfl⟩
      rw [s_at, lvF_out (by omega)]
      have hf3 := t_add hf2 h2 (by omega) (by omega)
      rw [← Int.natCast_add] at hf3
      refine (c_leaves2 hf3 (by omega) _).void ?_
      rintro _ rfl
      have h2' : (a2 + 1).toInt = ((k + 1 : Nat) : Int) := by
        rw [t_add h2 (y := 1) rfl (by omega) (by omega)]
        omega
      rw [s_ss, s_at, lvF_sh (by omega), ← lvF_s]
      exact ih (k + 1) (a2 + 1) h2' (by omega)
theorem c_goes2 {b : Int32} {n o fr : Nat} (hb : b.toInt = n) (hn : n < 96) (ho : o ≤ 4) (hal : fr + 2 ^ o ≤ 256) (σ : sm_S) (ho2 : (σ 1 (786 + 16 * n + 2)).toInt = o) (hf2 : (σ 1 (786 + 16 * n + 1)).toInt = fr) : xC xM j_M_goes [.ref 0, .int b] σ (sm_V (fun σ' => σ' = sm_set σ 1 (upd (lvF (σ 1) fr (2 ^ o)) (786 + 16 * n + 0) 0))) := by
  refine w_M_goes b σ _ ?_
  have := l_goes2 hb hn ho hal σ ho2 hf2 (2 ^ o) 0 0 rfl (by omega)
  rw [lvF_0, s_id] at this
  exact this
/-- a line of the log -/
def wrF (v : Nat → Int32) (n : Nat) (a b c : Int32) : Nat → Int32 := upd (upd (upd (upd (upd v (2422 + 4 * (n % 60)) (v 4)) (2422 + 4 * (n % 60) + 1) a) (2422 + 4 * (n % 60) + 2) b) (2422 + 4 * (n % 60) + 3) c) 5 (v 5 + 1)
theorem c_writes2 {n : Nat} (a b c : Int32) (σ : sm_S) (h5 : (σ 1 5).toInt = n) : xC xM j_M_writes [.ref 0, .int a, .int b, .int c] σ (sm_V (fun σ' => σ' = sm_set σ 1 (wrF (σ 1) n a b c))) := by
  have hr : (σ 1 ((5 : Int32)).toNatClampNeg - σ 1 ((5 : Int32)).toNatClampNeg / (60 : Int32) * (60 : Int32)).toInt = ((n % 60 : Nat) : Int) := t_rem (d := 60) h5 rfl (by decide)
  have hm : n % 60 < 60 := Nat.mod_lt _ (by decide)
  have hx : ∀ (k : Int32) (j : Nat), k.toInt = j → j < 4 → vp_in (2422 + 4 * (σ 1 ((5 : Int32)).toNatClampNeg - σ 1 ((5 : Int32)).toNatClampNeg / (60 : Int32) * (60 : Int32)) + k) 2662 ∧ (2422 + 4 * (σ 1 ((5 : Int32)).toNatClampNeg - σ 1 ((5 : Int32)).toNatClampNeg / (60 : Int32) * (60 : Int32)) + k).toNatClampNeg = 2422 + 4 * (n % 60) + j := by
    intro k j hk hj
    have h1 := t_ix (c := 2422) (m := 4) (C := 2422) (M := 4) rfl rfl hr hk (by omega)
    exact ⟨t_vp h1 (by omega), t_nat h1⟩
  obtain ⟨p0, q0⟩ := hx 0 0 rfl (by omega)
  obtain ⟨p1, q1⟩ := hx 1 1 rfl (by omega)
  obtain ⟨p2, q2⟩ := hx 2 2 rfl (by omega)
  obtain ⟨p3, q3⟩ := hx 3 3 rfl (by omega)
  rw [Int32.add_zero] at p0 q0
  refine w_M_writes a b c σ _ ⟨t_vp (n := 5) rfl (by omega), by decide, t_vp (n := 4) rfl (by omega), p0, fun σ1 e1 => ⟨p1, fun σ2 e2 => ⟨p2, fun σ3 e3 => ⟨p3, fun σ4 e4 => ?_⟩⟩⟩⟩
  refine (c_more (k := 5) (j := 5) rfl (by omega) 1 σ4).void ?_
  rintro _ rfl
  refine ⟨rfl, ?_⟩
  rw [q0, Nat.add_zero] at e1
  rw [q1] at e2
  rw [q2] at e3
  rw [q3] at e4
  have e5 : σ4 1 5 = σ 1 5 := by
    rw [e4, s_at, u_ne (by omega), e3, s_at, u_ne (by omega), e2, s_at, u_ne (by omega), e1, s_at, u_ne (by omega)]
  rw [e5, e4, e3, e2, e1]
  simp only [s_at, s_ss]
  rfl
