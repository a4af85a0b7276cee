/-! ===== the model: read, write, pin, unpin, set, home ===== -/
theorem c_canDo (t b : Int32) (σ : sm_S) : xC xM j_M_canDo [.ref 0, .int t, .int b] σ (sm_I (fun x σ' => (x = 0 ∨ (x = 1 ∧ ∃ m n : Nat, m < 6 ∧ t.toInt = m ∧ n < 96 ∧ b.toInt = n ∧ σ 1 (2322 + 6 * m + 1) = 0)) ∧ σ' = σ)) := by
  refine w_M_canDo t b σ _ ((c_isTask t σ).int ?_)
  rintro x1 σ ⟨hx1, rfl⟩
  refine ⟨fun _ => ⟨Or.inl rfl, _, rfl, Or.inl rfl, rfl⟩, fun n1 => (c_taskAt t _).int ?_⟩
  obtain ⟨-, m, hm, ht⟩ := hx1.resolve_right (fun z => n1 z.1)
  rintro _ σ ⟨rfl, rfl⟩
  obtain ⟨p1, q1⟩ := ixT (k := 1) (j := 1) ht rfl (by omega)
  rw [q1]
  refine ⟨p1, fun _ => ⟨Or.inl rfl, _, rfl, Or.inl rfl, rfl⟩, fun hw => (c_isBlock b _).int ?_⟩
  rintro x2 σ ⟨hx2, rfl⟩
  refine ⟨fun _ => ⟨Or.inl rfl, _, rfl, Or.inl rfl, rfl⟩, fun n2 => ?_⟩
  obtain ⟨-, n, hn, hb, -⟩ := hx2.resolve_right (fun z => n2 z.1)
  exact ⟨Or.inr rfl, _, rfl, Or.inr ⟨rfl, m, n, hm, ht, hn, hb, Classical.not_not.mp hw⟩, rfl⟩
theorem c_hasPin {t b : Int32} {n : Nat} (hb : b.toInt = n) (hn : n < 96) (σ : sm_S) : xC xM j_M_hasPin [.ref 0, .int t, .int b] σ (sm_I (fun x σ' => (x = 0 ∨ x = 1) ∧ σ' = σ)) := by
  refine w_M_hasPin t b σ _ ((c_of (k := 5) (j := 5) hb rfl (by omega) σ).int ?_)
  rintro _ σ ⟨rfl, rfl⟩
  exact ⟨fun _ => ⟨Or.inl rfl, _, rfl, Or.inl rfl, rfl⟩, fun _ => ⟨Or.inr rfl, _, rfl, Or.inr rfl, rfl⟩⟩
theorem pub_wants {N : Nat} {σ σ1 : sm_S} (hj : jj N (σ 1)) (hN : N < 2000000000) (e1 : σ1 = sm_set σ 0 (upd (σ 0) 0 0)) {t b i : Int32} {n m a o : Nat} (ht : t.toInt = m) (hm : m < 6) (hb : b.toInt = n) (hn : n < 96) (hi : i.toInt = a) (what x : Int32) (ho : (σ1 1 (786 + 16 * n + 2)).toInt = o) (ha : a < 2 ^ o) (hw0 : σ1 1 (2322 + 6 * m + 1) = 0) :
    xC xM j_M_wants [.ref 0, .int t, .int b, .int what, .int i, .int x] σ1 (sm_ri False (fun y σ' => sm_I (pub N 1 σ) (some (.int y)) σ')) := by
  have hj1 : jj N (σ1 1) := by rw [e1, s_ne (by decide)]; exact hj
  refine (c_wants ht hm hb hn hi what x σ1 ho ha hw0 hj1 hN).int ?_
  rintro y _ ⟨w, N', rfl, hw, h1, h2⟩
  exact ⟨_, rfl, pub_set e1 hw h1 h2⟩
theorem c_read {N : Nat} (a1 a2 a3 : Int32) (σ : sm_S) (hj : jj N (σ 1)) (hN : N < 2000000000) : xC xM j_M_read [.ref 0, .int a1, .int a2, .int a3] σ (sm_I (pub N 1 σ)) := by
  refine w_M_read a1 a2 a3 σ _ (fun σ1 e1 => (c_canDo a1 a2 σ1).int ?_)
  rintro x1 σ1 ⟨hx1, rfl⟩
  refine ⟨fun _ => ⟨_, rfl, pub_keep hj e1⟩, fun n1 => ?_⟩
  obtain ⟨-, m, n, hm, ht, hn, hb, hw0⟩ := hx1.resolve_left n1
  have hj1 : jj N (σ1 1) := by rw [e1, s_ne (by decide)]; exact hj
  obtain ⟨o, fr, b1, b2, -⟩ := hj1.2.1.1 n hn
  have hpw := t_pw (k := o) (by omega)
  refine (c_longOf hb hn _).int ?_
  rintro _ σ1 ⟨rfl, rfl⟩
  refine (c_isIn a3 0 _ _).int ?_
  rintro x2 σ1 ⟨hx2, rfl⟩
  refine ⟨fun _ => ⟨_, rfl, pub_keep hj e1⟩, fun n2 => ?_⟩
  obtain ⟨-, h31, h32⟩ := hx2.resolve_right (fun z => n2 z.1)
  rw [t_sub (t_pow b1 (by omega)) (y := 1) rfl (by omega) (by omega)] at h32
  have h31 : 0 ≤ a3.toInt := h31
  obtain ⟨a, ha⟩ := t_of h31
  exact pub_wants hj hN e1 ht hm hb hn ha 0 0 b1 (by omega) hw0
theorem c_write {N : Nat} (a1 a2 a3 a4 : Int32) (σ : sm_S) (hj : jj N (σ 1)) (hN : N < 2000000000) : xC xM j_M_write [.ref 0, .int a1, .int a2, .int a3, .int a4] σ (sm_I (pub N 1 σ)) := by
  refine w_M_write a1 a2 a3 a4 σ _ (fun σ1 e1 => (c_canDo a1 a2 σ1).int ?_)
  rintro x1 σ1 ⟨hx1, rfl⟩
  refine ⟨fun _ => ⟨_, rfl, pub_keep hj e1⟩, fun n1 => ?_⟩
  obtain ⟨-, m, n, hm, ht, hn, hb, hw0⟩ := hx1.resolve_left n1
  have hj1 : jj N (σ1 1) := by rw [e1, s_ne (by decide)]; exact hj
  obtain ⟨o, fr, b1, b2, -⟩ := hj1.2.1.1 n hn
  have hpw := t_pw (k := o) (by omega)
  refine (c_longOf hb hn _).int ?_
  rintro _ σ1 ⟨rfl, rfl⟩
  refine (c_isIn a3 0 _ _).int ?_
  rintro x2 σ1 ⟨hx2, rfl⟩
  refine ⟨fun _ => ⟨_, rfl, pub_keep hj e1⟩, fun n2 => ?_⟩
  obtain ⟨-, h31, h32⟩ := hx2.resolve_right (fun z => n2 z.1)
  rw [t_sub (t_pow b1 (by omega)) (y := 1) rfl (by omega) (by omega)] at h32
  have h31 : 0 ≤ a3.toInt := h31
  obtain ⟨a, ha⟩ := t_of h31
  exact pub_wants hj hN e1 ht hm hb hn ha 1 a4 b1 (by omega) hw0
theorem c_pin {N : Nat} (a1 a2 : Int32) (σ : sm_S) (hj : jj N (σ 1)) (hN : N < 2000000000) : xC xM j_M_pin [.ref 0, .int a1, .int a2] σ (sm_I (pub N 1 σ)) := by
  refine w_M_pin a1 a2 σ _ (fun σ1 e1 => (c_canDo a1 a2 σ1).int ?_)
  rintro x1 σ1 ⟨hx1, rfl⟩
  refine ⟨fun _ => ⟨_, rfl, pub_keep hj e1⟩, fun n1 => ?_⟩
  obtain ⟨-, m, n, hm, ht, hn, hb, hw0⟩ := hx1.resolve_left n1
  have hj1 : jj N (σ1 1) := by rw [e1, s_ne (by decide)]; exact hj
  obtain ⟨o, fr, b1, b2, -⟩ := hj1.2.1.1 n hn
  have hpw := t_pw (k := o) (by omega)
  refine (c_hasPin hb hn _).int ?_
  rintro x2 σ1 ⟨hx2, rfl⟩
  exact ⟨fun _ => ⟨_, rfl, pub_keep hj e1⟩, fun _ => pub_wants hj hN e1 ht hm hb hn (i := 0) (a := 0) rfl 2 0 b1 (by omega) hw0⟩
theorem c_unpin {N : Nat} (a1 a2 : Int32) (σ : sm_S) (hj : jj N (σ 1)) : xC xM j_M_unpin [.ref 0, .int a1, .int a2] σ (sm_I (pub N 0 σ)) := by
  refine w_M_unpin a1 a2 σ _ (fun σ1 e1 => (c_isTask a1 σ1).int ?_)
  rintro x1 σ1 ⟨hx1, rfl⟩
  refine ⟨fun _ => ⟨Or.inl rfl, _, rfl, pub_keep hj e1⟩, fun n1 => (c_isBlock a2 _).int ?_⟩
  rintro x2 σ1 ⟨hx2, rfl⟩
  refine ⟨fun _ => ⟨Or.inl rfl, _, rfl, pub_keep hj e1⟩, fun n2 => ?_⟩
  obtain ⟨-, n, hn, hb, -⟩ := hx2.resolve_right (fun z => n2 z.1)
  have hj1 : jj N (σ1 1) := by rw [e1, s_ne (by decide)]; exact hj
  refine (c_hasPin hb hn _).int ?_
  rintro x3 σ1 ⟨hx3, rfl⟩
  refine ⟨fun _ => (c_of (k := 5) (j := 5) hb rfl (by omega) _).int ?_, fun _ => ⟨Or.inl rfl, _, rfl, pub_keep hj e1⟩⟩
  rintro x4 σ1 ⟨-, rfl⟩
  refine (c_lay (k := 5) (j := 5) hb rfl (by omega) _ _).void ?_
  rintro _ rfl
  exact ⟨Or.inr rfl, _, rfl, pub_set e1 (jj_cell (by omega) (Or.inl ⟨n, hn, Or.inr (Or.inl rfl)⟩) hj1) (Nat.le_refl N) (Nat.le_refl N)⟩
