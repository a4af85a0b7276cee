/-! ===== the class: frames, the log, tasks ===== -/
theorem e_add (a1 a2 a3 a4 : Int32) (σ : sm_S) (hl : kl σ) : xC xD j_L_add [.ref 34, .int a1, .int a2, .int a3, .int a4] σ (sm_V (kx [] σ)) := by
  obtain ⟨n, hn, hn2⟩ := hl
  have v : vp_in (σ 34 5) 60 := t_vp hn2 hn
  refine d_L_add a1 a2 a3 a4 σ _ ⟨v, fun σ1 e1 => ?_⟩
  have q1 : σ1 34 5 = σ 34 5 := by rw [e1, s_ne (by decide)]
  have k1 : kx [] σ σ1 := by rw [e1]; exact kx.rf.set rfl
  refine ⟨by rw [q1]; exact v, fun σ2 e2 => ?_⟩
  have q2 : σ2 34 5 = σ 34 5 := by rw [e2, s_ne (by decide), q1]
  have k2 : kx [] σ σ2 := by rw [e2]; exact k1.set rfl
  refine ⟨by rw [q2]; exact v, fun σ3 e3 => ?_⟩
  have q3 : σ3 34 5 = σ 34 5 := by rw [e3, s_ne (by decide), q2]
  have k3 : kx [] σ σ3 := by rw [e3]; exact k2.set rfl
  refine ⟨by rw [q3]; exact v, fun σ4 e4 => ?_⟩
  have q4 : σ4 34 5 = σ 34 5 := by rw [e4, s_ne (by decide), q3]
  have k4 : kx [] σ σ4 := by rw [e4]; exact k3.set rfl
  have hn' : (σ4 34 5 + 1).toInt = ((n + 1 : Nat) : Int) := by
    rw [q4, t_add hn2 (y := 1) rfl (by omega) (by omega)]
    omega
  refine ⟨fun _ σ5 e5 σ6 e6 => ⟨rfl, ?_⟩, fun h σ5 e5 σ6 e6 => ⟨rfl, ?_⟩⟩
  · rw [e6, e5]
    refine (k4.s34 ⟨0, by omega, ?_⟩).s34 ⟨0, by omega, ?_⟩
    · rw [u_at]; rfl
    · rw [u_ne (by decide), s_at, u_at]; rfl
  · rw [t_le, hn'] at h
    have h : ¬ (60 : Int) ≤ ((n + 1 : Nat) : Int) := h
    rw [e6, e5]
    refine (k4.s34 ⟨n + 1, by omega, ?_⟩).s34 ⟨n + 1, by omega, ?_⟩
    · rw [u_at]; exact hn'
    · rw [u_ne (by decide), s_at, u_at]; exact hn'
theorem e_noteDrop {a1 : Int32} {b : Nat} (h1 : a1.toInt = b) (hb : b < 96) (σ : sm_S) (hl : kl σ) : xC xD j_Y_noteDrop [.ref 0, .int a1] σ (sm_V (kx [] σ)) := by
  have v := t_vp (x := (5 : Int32)) (n := 5) (N := 11) rfl (by omega)
  refine d_Y_noteDrop a1 σ _ ⟨v, v, fun σ1 e1 => ⟨t_vp h1 hb, ?_⟩⟩
  have k1 : kx [] σ σ1 := by rw [e1]; exact kx.rf.set rfl
  refine (e_add _ _ _ _ σ1 (k1.2.2.2.2 hl)).void ?_
  intro σ2 k2
  exact ⟨rfl, k1.tr k2⟩
theorem l_letGo {a1 a2 a3 a4 a5 : Int32} {f n : Nat} (h1 : a1.toInt = f) (h2 : a2.toInt = n) (hn : f + n ≤ 256) (σ : sm_S) : ∀ (d k : Nat) (a6 : Int32) (τ : sm_S), a6.toInt = k → k + d = f + n → kx [] σ τ → xE xD m_F_letGo 79 [.ref 1, .int a1, .int a2, .int a3, .int a4, .int a5, .int a6] [] τ (sm_V (kx [] σ)) := by
  have h12 : (a1 + a2).toInt = ((f + n : Nat) : Int) := by
    rw [t_add h1 h2 (by omega) (by omega)]
    omega
  intro d
  induction d with
  | zero =>
    intro k a6 τ h6 hk hx
    exact d_F_letGo_79 a1 a2 a3 a4 a5 a6 τ _ ⟨fun _ => ⟨rfl, hx⟩, fun h => absurd (by rw [t_le, h12, h6]; omega) h⟩
  | succ d ih =>
    intro k a6 τ h6 hk hx
    have h6' : (a6 + 1).toInt = ((k + 1 : Nat) : Int) := by
      rw [t_add h6 (y := 1) rfl (by omega) (by omega)]
      omega
    have v := t_vp (N := 256) h6 (by omega)
    refine d_F_letGo_79 a1 a2 a3 a4 a5 a6 τ _ ⟨fun _ => ⟨rfl, hx⟩, fun _ => ⟨v, fun σ1 e1 => ⟨v, fun σ2 e2 => ih (k + 1) _ σ2 h6' (by omega) ?_⟩⟩⟩
    rw [e2]
    refine kx.set ?_ rfl
    rw [e1]
    exact hx.s6 rfl (m := 0) (by omega) rfl
theorem t_d32 {a : Int32} {f : Nat} (h : a.toInt = f) : (a / 32).toInt = ((f / 32 : Nat) : Int) := t_div (d := 32) h rfl (by decide)
theorem e_letGo {a1 a2 : Int32} {f n : Nat} (h1 : a1.toInt = f) (h2 : a2.toInt = n) (h0 : 0 < n) (hn : f + n ≤ 256) (a3 : Int32) (σ : sm_S) : xC xD j_F_letGo [.ref 1, .int a1, .int a2, .int a3] σ (sm_V (kx [] σ)) := by
  have v := t_vp (N := 8) (t_d32 h1) (by omega)
  refine d_F_letGo a1 a2 a3 σ _ ⟨by decide, by decide, v, v, fun σ1 e1 => ⟨v, v, fun σ2 e2 => ⟨v, v, fun σ3 e3 => ⟨v, v, fun σ4 e4 => ?_⟩⟩⟩⟩
  refine l_letGo h1 h2 hn σ n f a1 σ4 h1 rfl ?_
  rw [e4]
  refine kx.set ?_ rfl
  rw [e3]
  refine kx.set ?_ rfl
  rw [e2]
  refine kx.set ?_ rfl
  rw [e1]
  exact kx.rf.set rfl
theorem l_claim {a1 a2 a3 a4 : Int32} {b f n : Nat} (h1 : a1.toInt = b) (hb : b < 96) (h2 : a2.toInt = f) (h3 : a3.toInt = n) (hn : f + n ≤ 256) (σ : sm_S) : ∀ (d k : Nat) (a5 : Int32) (τ : sm_S), a5.toInt = k → k + d = f + n → kx [] σ τ → xE xD m_F_claim 31 [.ref 1, .int a1, .int a2, .int a3, .int a4, .int a5] [] τ (sm_I (fun _ => kx [] σ)) := by
  have h12 : (a2 + a3).toInt = ((f + n : Nat) : Int) := by
    rw [t_add h2 h3 (by omega) (by omega)]
    omega
  intro d
  induction d with
  | zero =>
    intro k a6 τ h6 hk hx
    exact d_F_claim_31 a1 a2 a3 a4 a6 τ _ ⟨fun _ => ⟨_, rfl, hx⟩, fun h => absurd (by rw [t_le, h12, h6]; omega) h⟩
  | succ d ih =>
    intro k a6 τ h6 hk hx
    have h6' : (a6 + 1).toInt = ((k + 1 : Nat) : Int) := by
      rw [t_add h6 (y := 1) rfl (by omega) (by omega)]
      omega
    have v := t_vp (N := 256) h6 (by omega)
    refine d_F_claim_31 a1 a2 a3 a4 a6 τ _ ⟨fun _ => ⟨_, rfl, hx⟩, fun _ => ⟨v, fun σ1 e1 => ih (k + 1) _ σ1 h6' (by omega) ?_⟩⟩
    rw [e1]
    exact hx.s6 rfl (m := b + 1) (by omega) (by rw [h1]; omega)
theorem e_claim {a1 a2 a3 : Int32} {b f n : Nat} (h1 : a1.toInt = b) (hb : b < 96) (h2 : a2.toInt = f) (h3 : a3.toInt = n) (h0 : 0 < n) (hn : f + n ≤ 256) (σ : sm_S) : xC xD j_F_claim [.ref 1, .int a1, .int a2, .int a3] σ (sm_I (fun _ => kx [] σ)) := by
  have v := t_vp (N := 8) (t_d32 h2) (by omega)
  refine d_F_claim a1 a2 a3 σ _ ⟨by decide, by decide, v, v, fun σ1 e1 => ?_⟩
  refine l_claim h1 hb h2 h3 hn σ n f a2 σ1 h2 rfl ?_
  rw [e1]
  exact kx.rf.set rfl
theorem e_give {a1 a2 a3 : Int32} {b f n : Nat} (h1 : a1.toInt = b) (hb : b < 96) (h2 : a2.toInt = f) (h3 : a3.toInt = n) (h0 : 0 < n) (hn : f + n ≤ 256) (σ : sm_S) : xC xD j_F_give [.ref 1, .int a1, .int a2, .int a3] σ (sm_V (kx [] σ)) := by
  have v := t_vp (N := 8) (t_d32 h2) (by omega)
  refine d_F_give a1 a2 a3 σ _ ⟨by decide, v, (e_claim h1 hb h2 h3 h0 hn σ).int ?_⟩
  intro x2 σ1 k1
  refine ⟨v, fun σ3 e3 => ⟨rfl, ?_⟩⟩
  rw [e3]
  exact k1.set rfl
theorem e_hold {a1 a2 a3 : Int32} {b f n : Nat} (h1 : a1.toInt = b) (hb : b < 96) (h2 : a2.toInt = f) (h3 : a3.toInt = n) (h0 : 0 < n) (hn : f + n ≤ 256) (σ : sm_S) : xC xD j_F_hold [.ref 1, .int a1, .int a2, .int a3] σ (sm_V (kx [] σ)) := by
  have v := t_vp (N := 8) (t_d32 h2) (by omega)
  refine d_F_hold a1 a2 a3 σ _ ⟨by decide, v, (e_claim h1 hb h2 h3 h0 hn σ).int ?_⟩
  intro x2 σ1 k1
  refine ⟨v, fun σ3 e3 => ⟨rfl, ?_⟩⟩
  rw [e3]
  exact k1.set rfl
theorem e_settle {a1 : Int32} {f : Nat} (h1 : a1.toInt = f) (hf : f < 256) (a2 : Int32) (σ : sm_S) : xC xD j_F_settle [.ref 1, .int a1, .int a2] σ (sm_V (kx [] σ)) := by
  have v := t_vp (N := 8) (t_d32 h1) (by omega)
  refine d_F_settle a1 a2 σ _ ⟨by decide, by decide, v, v, fun σ1 e1 => ⟨by decide, v, v, fun σ2 e2 => ⟨rfl, ?_⟩⟩⟩
  rw [e2]
  refine kx.set ?_ rfl
  rw [e1]
  exact kx.rf.set rfl
theorem l_copyValues {a1 a2 a3 : Int32} {f t n : Nat} (h1 : a1.toInt = f) (h2 : a2.toInt = t) (h3 : a3.toInt = n) (hf : f + n ≤ 256) (ht : t + n ≤ 256) (σ : sm_S) : ∀ (d k : Nat) (a4 : Int32) (τ : sm_S), a4.toInt = k → k + d = n → kx [] σ τ → xE xD m_F_copyValues 3 [.ref 1, .int a1, .int a2, .int a3, .int a4] [] τ (sm_V (kx [] σ)) := by
  intro d
  induction d with
  | zero =>
    intro k a6 τ h6 hk hx
    exact d_F_copyValues_3 a1 a2 a3 a6 τ _ ⟨fun _ => ⟨rfl, hx⟩, fun h => absurd (by rw [t_le, h3, h6]; omega) h⟩
  | succ d ih =>
    intro k a6 τ h6 hk hx
    have h6' : (a6 + 1).toInt = ((k + 1 : Nat) : Int) := by
      rw [t_add h6 (y := 1) rfl (by omega) (by omega)]
      omega
    have v1 : vp_in (a1 + a6) 256 := t_vp (n := f + k) (by rw [t_add h1 h6 (by omega) (by omega)]; omega) (by omega)
    have v2 : vp_in (a2 + a6) 256 := t_vp (n := t + k) (by rw [t_add h2 h6 (by omega) (by omega)]; omega) (by omega)
    refine d_F_copyValues_3 a1 a2 a3 a6 τ _ ⟨fun _ => ⟨rfl, hx⟩, fun _ => ⟨v1, v2, fun σ1 e1 => ih (k + 1) _ σ1 h6' (by omega) ?_⟩⟩
    rw [e1]
    exact hx.set rfl
theorem e_copyValues {a1 a2 a3 : Int32} {f t n : Nat} (h1 : a1.toInt = f) (h2 : a2.toInt = t) (h3 : a3.toInt = n) (hf : f + n ≤ 256) (ht : t + n ≤ 256) (σ : sm_S) : xC xD j_F_copyValues [.ref 1, .int a1, .int a2, .int a3] σ (sm_V (kx [] σ)) :=
  d_F_copyValues a1 a2 a3 σ _ (l_copyValues h1 h2 h3 hf ht σ n 0 0 σ rfl (by omega) kx.rf)
theorem e_begin {a1 : Int32} {b : Nat} (h1 : a1.toInt = b) (hb : b < 96) (a2 a3 a4 a5 : Int32) (σ : sm_S) : xC xD j_B_begin [.ref 8, .int a1, .int a2, .int a3, .int a4, .int a5] σ (sm_V (bgn b a2 a3 a4 a5 σ)) := by
  have v := t_vp h1 hb
  refine d_B_begin a1 a2 a3 a4 a5 σ _ ?_
  rw [t_nat h1]
  refine ⟨v, fun σ1 e1 => ⟨v, fun σ2 e2 => ⟨v, fun σ3 e3 => ⟨v, fun σ4 e4 => ⟨v, fun σ5 e5 => ⟨v, fun σ6 e6 => ⟨v, fun σ7 e7 => ⟨rfl, ?_⟩⟩⟩⟩⟩⟩⟩⟩
  subst e1 e2 e3 e4 e5 e6 e7
  exact ⟨((((((kx.rf.set rfl).set rfl).set rfl).set rfl).set rfl).set rfl).set rfl, rfl, rfl, rfl, rfl, rfl, rfl⟩
theorem t_sz {σ : sm_S} {b f o w : Nat} (he : eb σ b f o w) : ((1 : Int32) <<< (σ 10 b &&& 31)).toInt = ((2 ^ o : Nat) : Int) := t_pow he.2.1 (by have := he.2.2.1; omega)
theorem e_remove {a1 : Int32} {b f o w : Nat} (h1 : a1.toInt = b) (hb : b < 96) (σ : sm_S) (he : eb σ b f o w) : xC xD j_Y_remove [.ref 0, .int a1] σ (sm_V (fun σ' => kx [9] σ σ' ∧ σ' 9 = upd (σ 9) b (-1))) := by
  have v := t_vp h1 hb
  have hp := Nat.two_pow_pos o
  have := he.2.2.2.1
  refine d_Y_remove a1 σ _ ?_
  rw [t_nat h1]
  refine ⟨v, v, by decide, (e_shutBits (t_d32 he.1) (by omega) σ).int ?_⟩
  rintro x2 σ rfl
  refine (e_letGo he.1 (t_sz he) hp he.2.2.2.1 _ _).void ?_
  intro σ3 k3
  refine ⟨v, fun σ4 e4 => ⟨rfl, ?_, ?_⟩⟩
  · rw [e4]
    exact k3.o0.set rfl
  · rw [e4, s_at, k3.1 9 rfl rfl]
theorem e_moveAtOnce {a1 a2 : Int32} {b f o w p : Nat} (h1 : a1.toInt = b) (hb : b < 96) (h2 : a2.toInt = p) (σ : sm_S) (he : eb σ b f o w) (hp : p + 2 ^ o ≤ 256) : xC xD j_Y_moveAtOnce [.ref 0, .int a1, .int a2] σ (sm_V (fun σ' => kx [9] σ σ' ∧ σ' 9 = upd (σ 9) b a2)) := by
  have v := t_vp h1 hb
  have v10 := t_vp (x := (10 : Int32)) (n := 10) (N := 11) rfl (by omega)
  have h0 := Nat.two_pow_pos o
  refine d_Y_moveAtOnce a1 a2 σ _ ?_
  rw [t_nat h1]
  refine ⟨v, (e_size h1 hb σ).int ?_⟩
  rintro x2 σ ⟨rfl, rfl⟩
  refine (e_give h1 hb h2 (t_sz he) h0 hp _).void ?_
  intro σ3 k3
  refine (e_copyValues he.1 h2 (t_sz he) he.2.2.2.1 hp _).void ?_
  intro σ4 k4
  refine (e_letGo he.1 (t_sz he) h0 he.2.2.2.1 _ _).void ?_
  intro σ5 k5
  have k35 := (k3.tr k4).tr k5
  refine ⟨v, fun σ6 e6 => ⟨v10, v10, fun σ7 e7 => ⟨rfl, ?_, ?_⟩⟩⟩
  · rw [e7]
    refine kx.set ?_ rfl
    rw [e6]
    exact k35.o0.set rfl
  · rw [e7, s_ne (by decide), e6, s_at, k35.1 9 rfl rfl]
theorem e_fulfil {a1 a2 : Int32} {t b q : Nat} (h1 : a1.toInt = t) (ht : t < 6) (h2 : a2.toInt = b) (hb : b < 96) (σ : sm_S) (hq : (σ 9 b + σ 31 t).toInt = q) (hq2 : q < 256) : xC xD j_Y_fulfil [.ref 0, .int a1, .int a2] σ (sm_V (kx [] σ)) := by
  have v1 := t_vp h1 ht
  have v2 := t_vp h2 hb
  have vq := t_vp hq hq2
  refine d_Y_fulfil a1 a2 σ _ ?_
  rw [t_nat h1, t_nat h2]
  refine ⟨v1, fun _ => ⟨v2, v1, v1, fun _ => ⟨v1, vq, fun σ1 e1 σ2 e2 => ⟨v2, fun σ3 e3 => ⟨rfl, ?_⟩⟩⟩, fun _ => ⟨vq, v1, fun σ1 e1 σ2 e2 => ⟨v2, fun σ3 e3 => ⟨rfl, ?_⟩⟩⟩⟩, fun _ => ⟨v2, v2, fun σ1 e1 => ⟨rfl, ?_⟩⟩⟩
  · rw [e3]
    refine kx.set ?_ rfl
    rw [e2]
    refine kx.set ?_ rfl
    rw [e1]
    exact kx.rf.set rfl
  · rw [e3]
    refine kx.set ?_ rfl
    rw [e2]
    refine kx.set ?_ rfl
    rw [e1]
    exact kx.rf.set rfl
  · rw [e1]
    exact kx.rf.set rfl
theorem e_wants {a1 : Int32} {t : Nat} (h1 : a1.toInt = t) (ht : t < 6) (a2 a3 a4 : Int32) (σ : sm_S) : xC xD j_K_wants [.ref 26, .int a1, .int a2, .int a3, .int a4] σ (sm_V (fun σ' => kx [31] σ σ' ∧ σ' 31 = upd (σ 31) t a3)) := by
  have v := t_vp h1 ht
  refine d_K_wants a1 a2 a3 a4 σ _ ?_
  rw [t_nat h1]
  refine ⟨v, fun σ1 e1 => ⟨v, fun σ2 e2 => ⟨v, fun σ3 e3 => ⟨rfl, ?_⟩⟩⟩⟩
  subst e1 e2 e3
  exact ⟨((kx.rf.set rfl).set rfl).set rfl, rfl⟩
theorem kk_wnt {σ σ' : sm_S} {t : Nat} {x : Int32} (h : kx [31] σ σ') (e : σ' 31 = upd (σ 31) t x) (hk : kk σ) (h28 : σ 28 t = -1) : kk σ' :=
  (kj_id h ⟨rfl, rfl, rfl, rfl, rfl, rfl, rfl, rfl, rfl, rfl⟩ hk.j).k (kt_cong (h.2.1 rfl) (h.1 28 rfl rfl) (fun t' hn => by rw [e, u_ne (fun z => hn (by rw [z]; exact h28))]) (h.1 33 rfl rfl) (fun b _ hn => ⟨by rw [h.1 14 rfl rfl]; exact hn, by rw [h.1 10 rfl rfl]⟩) hk.2.2.1)
theorem e_queue {a1 a2 : Int32} {t b o a : Nat} (h1 : a1.toInt = t) (ht : t < 6) (h2 : a2.toInt = b) (hb : b < 96) (σ : sm_S) (hk : kk σ) (h14 : σ 14 b ≠ -1) (h10 : (σ 10 b).toInt = o) (h31 : (σ 31 t).toInt = a) (ha : a < 2 ^ o) : xC xD j_K_queue [.ref 26, .int a1, .int a2] σ (sm_V kk) := by
  obtain ⟨L, l1, l2, l3, l4⟩ := hk.2.2.1
  refine d_K_queue a1 a2 σ _ ⟨fun _ => ⟨rfl, hk⟩, fun h => ?_⟩
  rw [t_le, l1] at h
  have h : ¬ (6 : Int) ≤ L := h
  have hL : (σ 26 7 + 1).toInt = ((L + 1 : Nat) : Int) := by
    rw [t_add l1 (y := 1) rfl (by omega) (by omega)]
    omega
  rw [t_nat l1, t_nat h1]
  refine ⟨t_vp l1 (by omega), fun σ1 e1 σ2 e2 => ⟨t_vp h1 ht, fun σ3 e3 => ⟨rfl, ?_⟩⟩⟩
  have hx : kx [26, 28, 33] σ σ3 := by
    rw [e3]
    refine kx.set ?_ rfl
    rw [e2]
    refine kx.s26 ?_ rfl
    rw [e1]
    exact kx.rf.set rfl
  have f33 : σ3 33 = upd (σ 33) L a1 := by rw [e3, s_ne (by decide), e2, s_ne (by decide), e1, s_at]
  have f26 : σ3 26 7 = σ 26 7 + 1 := by rw [e3, s_ne (by decide), e2, s_at, u_at, e1, s_ne (by decide)]
  have f28 : σ3 28 = upd (σ 28) t a2 := by rw [e3, s_at, e2, s_ne (by decide), e1, s_ne (by decide)]
  refine (kj_id hx ⟨rfl, rfl, rfl, rfl, rfl, rfl, rfl, rfl, rfl, rfl⟩ hk.j).k ⟨L + 1, by rw [f26]; exact hL, by omega, fun k hk' => ?_, fun u hu => ?_⟩
  · by_cases hkL : k = L
    · exact ⟨t, ht, by rw [f33, hkL, u_at]; exact h1⟩
    · rw [f33, u_ne hkL]
      exact l3 k (by omega)
  · rw [hx.1 14 rfl rfl, hx.1 10 rfl rfl, hx.1 31 rfl rfl, f28, f33]
    by_cases hut : u = t
    · subst hut
      exact Or.inr ⟨⟨L, by omega, by rw [u_at]; exact h1⟩, b, o, a, hb, by rw [u_at]; exact h2, h14, h10, h31, ha⟩
    · rw [u_ne hut]
      rcases l4 u hu with g | ⟨⟨k, g1, g2⟩, g3⟩
      · exact Or.inl g
      · exact Or.inr ⟨⟨k, by omega, by rw [u_ne (by omega)]; exact g2⟩, g3⟩
theorem e_doOrWait {a1 a2 : Int32} {t b f o w a : Nat} (h1 : a1.toInt = t) (ht : t < 6) (h2 : a2.toInt = b) (hb : b < 96) (σ : sm_S) (hk : kk σ) (he : eb σ b f o w) (h31 : (σ 31 t).toInt = a) (ha : a < 2 ^ o) : xC xD j_Y_doOrWait [.ref 0, .int a1, .int a2] σ (sm_I (fun _ => kk)) := by
  have := he.2.2.2.1
  have v8 := t_vp (x := (8 : Int32)) (n := 8) (N := 11) rfl (by omega)
  refine d_Y_doOrWait a1 a2 σ _ ?_
  rw [t_nat h2]
  refine ⟨t_vp h2 hb, fun h14 => (e_queue h1 ht h2 hb σ hk h14 he.2.1 h31 ha).void ?_, fun _ => (e_fulfil (q := f + a) h1 ht h2 hb σ ?_ (by omega)).void ?_⟩
  · intro σ1 k1
    refine ⟨v8, v8, fun σ2 e2 => ?_⟩
    have x2 : kx [] σ1 σ2 := by rw [e2]; exact kx.rf.set rfl
    have k2 := kk_id x2 k1
    refine (e_add _ _ _ _ σ2 k2.2.2.2.2.1).void ?_
    intro σ3 x3
    exact ⟨_, rfl, kk_id x3 k2⟩
  · rw [t_add he.1 h31 (by omega) (by omega)]
    omega
  · intro σ1 x1
    exact ⟨_, rfl, kk_id x1 hk⟩
/-- how far a line has been served -/
def svI (σ τ : sm_S) (b L l k : Nat) : Prop := kx [28, 33] σ τ ∧ l ≤ k ∧ k ≤ L ∧ (∀ j, j < l → ∃ t : Nat, t < 6 ∧ (τ 33 j).toInt = t ∧ (τ 28 t).toInt ≠ b) ∧ (∀ j, k ≤ j → j < L → τ 33 j = σ 33 j) ∧ ∀ t, t < 6 → τ 28 t = -1 ∨ (τ 28 t = σ 28 t ∧ ((∃ j, j < l ∧ (τ 33 j).toInt = t) ∨ ∃ j, k ≤ j ∧ j < L ∧ (τ 33 j).toInt = t))
theorem svI.end {σ τ : sm_S} {b L l k : Nat} {x : Int32} (h : svI σ τ b L l k) (hk : k = L) (hx : x.toInt = l) (hL : L ≤ 6) (hj : kj σ) (ht : ktx b σ) : kk (sm_set τ 26 (upd (τ 26) 7 x)) ∧ (sm_set τ 26 (upd (τ 26) 7 x)) 18 = σ 18 ∧ (sm_set τ 26 (upd (τ 26) 7 x)) 24 = σ 24 := by
  obtain ⟨h1, h2, h3, h4, h5, h6⟩ := h
  have hx2 : kx [26, 28, 33] σ (sm_set τ 26 (upd (τ 26) 7 x)) := kx.s26 (h1.up (fun k hk => by
    simp only [List.contains_cons, Bool.or_eq_false_iff] at hk ⊢
    exact hk.2)) rfl
  refine ⟨(kj_id hx2 ⟨rfl, rfl, rfl, rfl, rfl, rfl, rfl, rfl, rfl, rfl⟩ hj).k ⟨l, by rw [s_at, u_at]; exact hx, by omega, fun j hj' => ?_, fun t ht6 => ?_⟩, hx2.1 18 rfl rfl, hx2.1 24 rfl rfl⟩
  · obtain ⟨t, g1, g2, -⟩ := h4 j hj'
    exact ⟨t, g1, by rw [s_ne (by decide)]; exact g2⟩
  · rw [hx2.1 14 rfl rfl, hx2.1 10 rfl rfl, hx2.1 31 rfl rfl, s_ne (k := 26) (j := 28) (by decide), s_ne (k := 26) (j := 33) (by decide)]
    rcases h6 t ht6 with g | ⟨g1, g2⟩
    · exact Or.inl g
    · obtain ⟨j, j1, j2⟩ := g2.resolve_right (fun ⟨j, q1, q2, _⟩ => by omega)
      obtain ⟨L', m1', m2', m3', m4'⟩ := ht
      rcases m4' t ht6 with g | ⟨-, b', o, a, q1, q2, q3, q4, q5, q6⟩
      · exact Or.inl (g1.trans g)
      · refine Or.inr ⟨⟨j, j1, j2⟩, b', o, a, q1, by rw [g1]; exact q2, q3.resolve_left (fun z => ?_), q4, q5, q6⟩
        obtain ⟨t', r1, r2, r3⟩ := h4 j j1
        have : t' = t := by omega
        subst this
        rw [g1, q2] at r3
        omega
theorem l_serveLine {a1 : Int32} {b f o w L : Nat} (h1 : a1.toInt = b) (hb : b < 96) (σ : sm_S) (hL : (σ 26 7).toInt = L) (hL6 : L ≤ 6) (hj : kj σ) (ht : ktx b σ) (he : eb σ b f o w) : ∀ (d k l : Nat) (a2 a3 : Int32) (v4 : Value) (τ : sm_S), a3.toInt = k → a2.toInt = l → k + d = L → svI σ τ b L l k → xE xD m_Y_serveLine 4 [.ref 0, .int a1, .int a2, .int a3, v4] [] τ (sm_V (fun σ' => kk σ' ∧ σ' 18 = σ 18 ∧ σ' 24 = σ 24)) := by
  have := he.2.2.2.1
  intro d
  induction d with
  | zero =>
    intro k l a2 a3 v4 τ h3 h2 hk hI
    have e26 : τ 26 7 = σ 26 7 := hI.1.2.1 rfl
    refine d_Y_serveLine_4 a1 a2 a3 v4 τ _ ⟨fun _ σ1 e1 => ⟨rfl, ?_⟩, fun h => absurd ?_ h⟩
    · rw [e1]; exact hI.end (by omega) h2 hL6 hj ht
    · rw [t_le, e26, hL, h3]; omega
  | succ d ih =>
    intro k l a2 a3 v4 τ h3 h2 hk hI
    have hI0 := hI
    obtain ⟨hx, i2, i3, i4, i5, i6⟩ := hI
    have e26 : τ 26 7 = σ 26 7 := hx.2.1 rfl
    have h3' : (a3 + 1).toInt = ((k + 1 : Nat) : Int) := by
      rw [t_add h3 (y := 1) rfl (by omega) (by omega)]
      omega
    have h2' : (a2 + 1).toInt = ((l + 1 : Nat) : Int) := by
      rw [t_add h2 (y := 1) rfl (by omega) (by omega)]
      omega
    obtain ⟨L', m1', m2', m3', m4'⟩ := ht
    have hLL : L' = L := by omega
    subst hLL
    obtain ⟨t, ht6, htk⟩ := m3' k (by omega)
    have htk' : (τ 33 k).toInt = t := by rw [i5 k (Nat.le_refl k) (by omega)]; exact htk
    refine d_Y_serveLine_4 a1 a2 a3 v4 τ _ ⟨fun h => ?_, fun _ => ?_⟩
    · rw [t_le, e26, hL, h3] at h; omega
    · rw [t_nat h3, t_nat htk', t_nat h2]
      refine ⟨t_vp h3 (by omega), t_vp htk' ht6, fun hne => ⟨t_vp h2 (by omega), fun σ2 e2 => ?_⟩, fun heq => ?_⟩
      · refine ih (k + 1) (l + 1) _ _ _ σ2 h3' h2' (by omega) ?_
        subst e2
        refine ⟨hx.set rfl, by omega, by omega, fun j hj' => ?_, fun j q1 q2 => ?_, fun u hu => ?_⟩
        · rw [s_at, s_ne (by decide)]
          by_cases hjl : j = l
          · refine ⟨t, ht6, by rw [hjl, u_at]; exact htk', fun z => hne (t_inj (by rw [z, h1]))⟩
          · rw [u_ne hjl]; exact i4 j (by omega)
        · rw [s_at, u_ne (by omega)]; exact i5 j (by omega) q2
        · rw [s_at, s_ne (by decide)]
          rcases i6 u hu with g | ⟨g1, g2⟩
          · exact Or.inl g
          · refine Or.inr ⟨g1, ?_⟩
            rcases g2 with ⟨j, q1, q2⟩ | ⟨j, q1, q2, q3⟩
            · exact Or.inl ⟨j, by omega, by rw [u_ne (by omega)]; exact q2⟩
            · by_cases hjk : j = k
              · exact Or.inl ⟨l, by omega, by rw [u_at, ← hjk]; exact q3⟩
              · exact Or.inr ⟨j, by omega, q2, by rw [u_ne (by omega)]; exact q3⟩
      · have heq : τ 28 t = a1 := Classical.not_not.mp heq
        have ht28 : σ 28 t = a1 := by
          rcases i6 t ht6 with g | ⟨g1, -⟩
          · rw [heq] at g
            exact absurd g (ne_m1 h1)
          · rw [← g1]; exact heq
        obtain ⟨-, b', o', a, q1, q2, q3, q4, q5, q6⟩ := (m4' t ht6).resolve_left (by rw [ht28]; exact ne_m1 h1)
        have hbb : b' = b := by rw [ht28, h1] at q2; omega
        subst hbb
        have hoo : o' = o := by have := he.2.1; omega
        subst hoo
        refine (e_fulfil (q := f + a) htk' ht6 h1 hb τ ?_ (by omega)).void ?_
        · rw [hx.1 9 rfl rfl, hx.1 31 rfl rfl, t_add he.1 q5 (by omega) (by omega)]
          omega
        · intro σ3 x3
          refine ⟨t_vp htk' ht6, fun σ4 e4 => ?_⟩
          have x4 : kx [28, 33] σ σ4 := by
            rw [e4]
            exact (hx.tr x3.o0).set rfl
          refine (e_add _ _ _ _ σ4 (x4.2.2.2.2 hj.2.2.2.1)).void ?_
          intro σ5 x5
          refine ih (k + 1) l _ _ _ σ5 h3' h2 (by omega) ?_
          have e33 : σ5 33 = τ 33 := by rw [x5.1 33 rfl rfl, e4, s_ne (by decide), x3.1 33 rfl rfl]
          have e28 : σ5 28 = upd (τ 28) t (-1) := by rw [x5.1 28 rfl rfl, e4, s_at, x3.1 28 rfl rfl]
          refine ⟨x4.tr x5.o0, by omega, by omega, fun j hj' => ?_, fun j q1 q2 => ?_, fun u hu => ?_⟩
          · rw [e33, e28]
            obtain ⟨t', r1, r2, r3⟩ := i4 j hj'
            refine ⟨t', r1, r2, ?_⟩
            by_cases htt : t' = t
            · rw [htt, u_at, m1]; omega
            · rw [u_ne htt]; exact r3
          · rw [e33]; exact i5 j (by omega) q2
          · rw [e33, e28]
            by_cases hut : u = t
            · exact Or.inl (by rw [hut, u_at])
            · rw [u_ne hut]
              rcases i6 u hu with g | ⟨g1, g2⟩
              · exact Or.inl g
              · refine Or.inr ⟨g1, ?_⟩
                rcases g2 with g2 | ⟨j, q1, q2, q3⟩
                · exact Or.inl g2
                · refine Or.inr ⟨j, ?_, q2, q3⟩
                  have : j ≠ k := fun z => hut (by rw [z, htk'] at q3; omega)
                  omega
theorem e_serveLine {a1 : Int32} {b f o w : Nat} (h1 : a1.toInt = b) (hb : b < 96) (σ : sm_S) (hj : kj σ) (ht : ktx b σ) (he : eb σ b f o w) : xC xD j_Y_serveLine [.ref 0, .int a1] σ (sm_V (fun σ' => kk σ' ∧ σ' 18 = σ 18 ∧ σ' 24 = σ 24)) := by
  have ht' := ht
  obtain ⟨L, l1, l2, l3, l4⟩ := ht'
  refine d_Y_serveLine a1 σ _ (l_serveLine h1 hb σ l1 l2 hj ht he L 0 0 0 0 _ σ rfl rfl (by omega) ⟨kx.rf, by omega, by omega, fun j hj' => by omega, fun _ _ _ => rfl, fun t ht6 => ?_⟩)
  rcases l4 t ht6 with g | ⟨⟨k, g1, g2⟩, -⟩
  · exact Or.inl g
  · exact Or.inr ⟨rfl, Or.inr ⟨k, by omega, g1, g2⟩⟩
