/-! ===== the model: free; what a task does ===== -/
/-- behind a public call: told is 0, now is well, the log has at most D lines more -/
def pub (N D : Nat) (σ : sm_S) (_ : Int32) (σ' : sm_S) : Prop := ∃ v N', σ' = sm_set (sm_set σ 0 (upd (σ 0) 0 0)) 1 v ∧ jj N' v ∧ N ≤ N' ∧ N' ≤ N + D
theorem pub_keep {N D : Nat} {σ σ1 : sm_S} {x : Int32} (hj : jj N (σ 1)) (e1 : σ1 = sm_set σ 0 (upd (σ 0) 0 0)) : pub N D σ x σ1 := by
  subst e1
  exact ⟨σ 1, N, by rw [show σ 1 = (sm_set σ 0 (upd (σ 0) 0 0)) 1 from (s_ne (by decide)).symm, s_id], hj, Nat.le_refl N, by omega⟩
theorem pub_set {N D N' : Nat} {σ σ1 : sm_S} {x : Int32} {v : Nat → Int32} (e1 : σ1 = sm_set σ 0 (upd (σ 0) 0 0)) (hv : jj N' v) (h1 : N ≤ N') (h2 : N' ≤ N + D) : pub N D σ x (sm_set σ1 1 v) := ⟨v, N', by rw [e1], hv, h1, h2⟩
theorem t_to0 {v : Nat → Int32} {n : Nat} (hB : bk_ok v n) (h : v (786 + 16 * n + 6) ≤ 0) : v (786 + 16 * n + 6) = 0 := by
  obtain ⟨o2, fr2, b1, b2, b3, b4, b5, b6, ⟨q, b7, b8⟩, b9⟩ := hB
  apply t_inj
  rw [t_le, b7] at h
  have h : (q : Int) ≤ 0 := h
  rw [b7]
  show (q : Int) = 0
  omega
theorem jj_gone {v w : Nat → Int32} {n N fr : Nat} (hn : n < 96) (hj : jj N v) (h6 : v (786 + 16 * n + 6) = 0) (hF : fr_ok w) (he : fr_eq v w) (hfr : (v (786 + 16 * n + 1)).toInt = fr) (hlv : w (18 + 3 * fr) = 1 ∨ w (18 + 3 * fr) = 2) : jj N (upd w (786 + 16 * n + 0) 0) := by
  have hw := jj_fr hF he hj
  refine ⟨fr_gone hn (by rw [he _ (by omega)]; exact hfr) hlv hF, jr_gone hn hw.2.1 (by rw [he _ (by omega)]; exact h6), by rw [u_ne (by omega)]; exact hw.2.2⟩
theorem c_free {N : Nat} (a1 : Int32) (σ : sm_S) (hj : jj N (σ 1)) : xC xM j_M_free [.ref 0, .int a1] σ (sm_I (pub N 0 σ)) := by
  refine w_M_free a1 σ _ (fun σ1 e1 => (c_isBlock a1 σ1).int ?_)
  have hj1 : jj N (σ1 1) := by rw [e1, s_ne (by decide)]; exact hj
  rintro x1 σ1 ⟨hx1, rfl⟩
  refine ⟨fun _ => ⟨Or.inl rfl, _, rfl, pub_keep hj e1⟩, fun n1 => ?_⟩
  obtain ⟨-, n, hn, h1, hi⟩ := hx1.resolve_right (fun z => n1 z.1)
  refine (c_isPinned h1 hn _).int ?_
  rintro x2 σ1 ⟨hx2, rfl⟩
  refine ⟨fun _ => ⟨Or.inl rfl, _, rfl, pub_keep hj e1⟩, fun n2 => (c_isOnWay h1 hn _).int ?_⟩
  rintro x3 σ1 ⟨hx3, rfl⟩
  refine ⟨fun n3 => ?_, fun _ => ⟨Or.inl rfl, _, rfl, pub_keep hj e1⟩⟩
  have h6 := hx3.resolve_right (fun z => by rw [z.1] at n3; exact absurd n3 (by decide))
  refine (c_goes h1 hn _ (hj1.2.1.1 n hn) hj1.1).void ?_
  rintro _ ⟨v, fr, rfl, e2, e3, -, e5, -, e6⟩
  exact ⟨Or.inr rfl, _, rfl, pub_set e1 (jj_gone hn hj1 (t_to0 (hj1.2.1.1 n hn) h6.2) e2 e3 e5 e6) (Nat.le_refl N) (Nat.le_refl N)⟩
theorem jj_cell {v : Nat → Int32} {N i : Nat} {x : Int32} (hi : 786 ≤ i) (h : (∃ b, b < 96 ∧ (i = 786 + 16 * b + 3 ∨ i = 786 + 16 * b + 5 ∨ i = 786 + 16 * b + 8)) ∨ (∃ t, t < 6 ∧ (i = 2322 + 6 * t ∨ i = 2322 + 6 * t + 2 ∨ i = 2322 + 6 * t + 4 ∨ i = 2322 + 6 * t + 5)) ∨ ∃ s, s < 8 ∧ (i = 2358 + 8 * s + 3 ∨ i = 2358 + 8 * s + 4 ∨ i = 2358 + 8 * s + 7)) (hj : jj N v) : jj N (upd v i x) :=
  ⟨fr_cong (fun k h1 h2 => u_ne (by omega)) (fun n k hn hk => u_ne (by rcases h with ⟨c, hc, h⟩ | ⟨c, hc, h⟩ | ⟨c, hc, h⟩ <;> omega)) hj.1, jr_cong (ceq_upd (Or.inr (Or.inr h))) hj.2.1, by rw [u_ne (by omega)]; exact hj.2.2⟩
/-- frames have what they had -/
def fr_st (v v' : Nat → Int32) : Prop := ∀ g, g < 256 → v' (18 + 3 * g) = v (18 + 3 * g) ∧ v' (18 + 3 * g + 1) = v (18 + 3 * g + 1)
theorem fr_st.tr {a b c : Nat → Int32} (h1 : fr_st a b) (h2 : fr_st b c) : fr_st a c := fun g hg => ⟨(h2 g hg).1.trans (h1 g hg).1, (h2 g hg).2.trans (h1 g hg).2⟩
theorem c_uses {b : Int32} {n N : Nat} (hb : b.toInt = n) (hn : n < 96) (σ : sm_S) (hj : jj N (σ 1)) : xC xM j_M_uses [.ref 0, .int b] σ (sm_V (fun σ' => ∃ w, σ' = sm_set σ 1 w ∧ jj N w ∧ ∀ i, i ≠ 6 → i ≠ 786 + 16 * n + 8 → w i = σ 1 i)) := by
  refine w_M_uses b σ _ ((c_more (k := 6) (j := 6) rfl (by omega) 1 σ).void ?_)
  rintro _ rfl
  refine ⟨t_vp (n := 6) rfl (by omega), (c_lay (k := 8) (j := 8) hb rfl (by omega) _ _).void ?_⟩
  rintro _ rfl
  refine ⟨rfl, _, s_ss, ?_, fun i h1 h2 => ?_⟩
  · rw [s_at]
    exact jj_cell (by omega) (Or.inl ⟨n, hn, Or.inr (Or.inr rfl)⟩) (jj_low (by omega) (by omega) hj)
  · rw [s_at, u_ne h2, u_ne h1]
theorem c_does {t b i : Int32} {n m a fr N : Nat} (ht : t.toInt = m) (hm : m < 6) (hb : b.toInt = n) (hn : n < 96) (hi : i.toInt = a) (what x : Int32) (σ : sm_S) (hfr : (σ 1 (786 + 16 * n + 1)).toInt = fr) (h : fr + a < 256) (hj : jj N (σ 1)) :
    xC xM j_M_does [.ref 0, .int t, .int b, .int what, .int i, .int x] σ (sm_V (fun σ' => ∃ w, σ' = sm_set σ 1 w ∧ jj N w ∧ (∀ i, 786 ≤ i → i ≠ 786 + 16 * n + 5 → i ≠ 786 + 16 * n + 8 → i ≠ 2322 + 6 * m + 5 → w i = σ 1 i) ∧ fr_st (σ 1) w)) := by
  refine w_M_does t b what i x σ _ ⟨fun _ => (c_uses hb hn σ hj).void ?_, fun _ => (c_of (k := 5) (j := 5) hb rfl (by omega) σ).int ?_⟩
  · rintro _ ⟨w, rfl, hw, ew⟩
    have hf3 : ∀ y : Int32, y = w (786 + 16 * n + 1) → (y + i).toInt = ((fr + a : Nat) : Int) := by
      rintro _ rfl
      rw [ew _ (by omega) (by omega)]
      have := t_add hfr hi (by omega) (by omega)
      rw [this]
      omega
    refine ⟨fun _ => (c_frameOf hb hn _).int ?_, fun _ => (c_taskAt t _).int ?_⟩
    · rintro y _ ⟨hy, rfl⟩
      rw [s_at] at hy
      refine (c_lays' (hf3 y hy) h _ (by rw [s_at]; exact hw.1)).void ?_
      rintro _ ⟨z, rfl, g1, g2, g3⟩
      rw [s_at] at g2 g3
      refine ⟨rfl, z, s_ss, jj_fr g1 g2 hw, fun k h1 h2 h3 h4 => ?_, fun g hg => ⟨?_, ?_⟩⟩
      · rw [g3 _ (by omega), ew _ (by omega) h3]
      · rw [g3 _ (by omega), ew _ (by omega) (by omega)]
      · rw [g3 _ (by omega), ew _ (by omega) (by omega)]
    · rintro _ _ ⟨rfl, rfl⟩
      refine (c_frameOf hb hn _).int ?_
      rintro y _ ⟨hy, rfl⟩
      rw [s_at] at hy
      refine (c_valueOf (hf3 y hy) (by omega) _).int ?_
      rintro z _ ⟨-, rfl⟩
      obtain ⟨p1, p2⟩ := ixT (k := 5) (j := 5) ht rfl (by omega)
      rw [p2]
      refine ⟨p1, fun σ2 e2 => ⟨rfl, upd w (2322 + 6 * m + 5) z, ?_, ?_, fun k h1 h2 h3 h4 => ?_, fun g hg => ⟨?_, ?_⟩⟩⟩
      · rw [e2, s_at, s_ss]
      · exact jj_cell (by omega) (Or.inr (Or.inl ⟨m, hm, by omega⟩)) hw
      · rw [u_ne h4, ew _ (by omega) h3]
      · rw [u_ne (by omega), ew _ (by omega) (by omega)]
      · rw [u_ne (by omega), ew _ (by omega) (by omega)]
  · rintro y _ ⟨-, rfl⟩
    refine (c_lay (k := 5) (j := 5) hb rfl (by omega) _ _).void ?_
    rintro _ rfl
    exact ⟨rfl, _, rfl, jj_cell (by omega) (Or.inl ⟨n, hn, Or.inr (Or.inl rfl)⟩) hj, fun k h1 h2 h3 h4 => u_ne h2, fun g hg => ⟨u_ne (by omega), u_ne (by omega)⟩⟩
/-- L different ones below k are at most k -/
theorem php : ∀ (k L : Nat) (f : Nat → Nat), (∀ n, n < L → f n < k) → (∀ n m, n < m → m < L → f n ≠ f m) → L ≤ k
  | 0, L, f, h1, _ => by
    rcases Nat.eq_zero_or_pos L with h | h
    · omega
    · exact absurd (h1 0 h) (Nat.not_lt_zero _)
  | k + 1, L, f, h1, h2 => by
    by_cases hex : ∃ n0, n0 < L ∧ f n0 = k
    · obtain ⟨n0, hn0, hf0⟩ := hex
      have := php k (L - 1) (fun n => if n < n0 then f n else f (n + 1)) (fun n hn => by
        show (if n < n0 then f n else f (n + 1)) < k
        split
        · next hlt =>
          have a1 := h1 n (by omega)
          have a2 := h2 n n0 hlt hn0
          omega
        · next hge =>
          have a1 := h1 (n + 1) (by omega)
          have a2 := h2 n0 (n + 1) (by omega) (by omega)
          omega) (fun n m hnm hm => by
        show (if n < n0 then f n else f (n + 1)) ≠ (if m < n0 then f m else f (m + 1))
        split <;> split
        · exact h2 n m hnm (by omega)
        · exact h2 n (m + 1) (by omega) (by omega)
        · omega
        · exact h2 (n + 1) (m + 1) (by omega) (by omega))
      omega
    · have := php k L f (fun n hn => by
        have a1 := h1 n hn
        have a2 : f n ≠ k := fun z => hex ⟨n, hn, z⟩
        omega) h2
      omega
