/-! ===== the simulation: with the log and the invariant; a span fails ===== -/
/-- g: the log is tied too; N: the lines of it -/
def tie (g : Prop) (N : Nat) (c : sm_S) (v : Nat → Int32) : Prop := sim0 c v ∧ (g → sL c v) ∧ kl c ∧ (∀ b, b < 96 → bk_ok v b) ∧ (v 5).toInt = N
theorem tie.s {g : Prop} {N : Nat} {c : sm_S} {v : Nat → Int32} (h : tie g N c v) : sim0 c v := h.1
theorem tie.l {g : Prop} {N : Nat} {c : sm_S} {v : Nat → Int32} (h : tie g N c v) : g → sL c v := h.2.1
theorem tie.k {g : Prop} {N : Nat} {c : sm_S} {v : Nat → Int32} (h : tie g N c v) : kl c := h.2.2.1
theorem tie.b {g : Prop} {N : Nat} {c : sm_S} {v : Nat → Int32} (h : tie g N c v) : ∀ b, b < 96 → bk_ok v b := h.2.2.2.1
theorem tie.n {g : Prop} {N : Nat} {c : sm_S} {v : Nat → Int32} (h : tie g N c v) : (v 5).toInt = N := h.2.2.2.2
theorem sL.cg {c c' : sm_S} {v v' : Nat → Int32} (h : sL c v) (hc : ∀ k, 34 ≤ k → k ≤ 38 → c' k = c k) (h5 : v' 5 = v 5) (hv : ∀ i, 2422 ≤ i → v' i = v i) : sL c' v' := by
  refine ⟨by rw [hc 34 (by decide) (by decide), h5]; exact h.lns, by rw [hc 34 (by decide) (by decide), h5]; exact h.nxt, fun k hk => ?_⟩
  rw [hc 35 (by decide) (by decide), hc 36 (by decide) (by decide), hc 37 (by decide) (by decide), hc 38 (by decide) (by decide), hv _ (by omega), hv _ (by omega), hv _ (by omega), hv _ (by omega)]
  exact h.ent k hk
/-- a step that leaves the log alone -/
theorem tie.to {g : Prop} {N : Nat} {c c' : sm_S} {v v' : Nat → Int32} (h : tie g N c v) (s : sim0 c' v') (hc : ∀ k, 34 ≤ k → k ≤ 38 → c' k = c k) (h5 : v' 5 = v 5) (hv : ∀ i, 2422 ≤ i → v' i = v i) (b : ∀ b, b < 96 → bk_ok v' b) : tie g N c' v' :=
  ⟨s, fun q => (h.l q).cg hc h5 hv, by unfold kl; rw [hc 34 (by decide) (by decide)]; exact h.k, b, by rw [h5]; exact h.n⟩
theorem jj_wr {N : Nat} {v : Nat → Int32} {a b c : Int32} (h : jj N v) (hN : N < 2000000000) : jj (N + 1) (wrF v N a b c) := by
  have e : ∀ i, i < 2422 → i ≠ 5 → wrF v N a b c i = v i := fun i h1 h2 => wrF_lo h1 h2
  refine ⟨fr_cong (fun i h1 h2 => e i (by omega) (by omega)) (fun n k h1 h2 => e _ (by omega) (by omega)) h.1, jr_cong (ceq.of (fun i h1 h2 => e i h2 (by omega))) h.2.1, ?_⟩
  show (v 5 + 1).toInt = _
  rw [t_add h.2.2 (y := 1) rfl (by omega) (by omega)]
  omega
/-- a line on both sides -/
theorem tie.log {g : Prop} {N : Nat} {c : sm_S} {v : Nat → Int32} (h : tie g N c v) (hN : N < 2000000000) (a2 a3 a4 : Int32) : ∃ n : Nat, n < 60 ∧ (c 34 5).toInt = n ∧ tie g (N + 1) (laC c n (c 0 7) a2 a3 a4) (wrF v N a2 a3 a4) := by
  obtain ⟨n, hn, h5⟩ := h.k
  refine ⟨n, hn, h5, sim_log0 h.s h.b, fun q => ?_, ?_, fun b hb => bk_cong (fun k h1 _ _ _ => wrF_lo (by omega) (by omega)) (h.b b hb), ?_⟩
  · have l := h.l q
    obtain ⟨m, m1, m2⟩ := l.nxt
    have e := h.n
    have e1 : m = N := by omega
    subst e1
    have e2 : n = m % 60 := by omega
    subst e2
    exact sL_log l m1 hN h.s.N.tic
  · by_cases q : n + 1 < 60
    · refine ⟨n + 1, q, ?_⟩
      show (upd (upd (c 34) 5 (if n + 1 < 60 then nI (n + 1) else 0)) 4 (c 34 4 + 1) 5).toInt = _
      rw [u_ne (by decide), u_at, if_pos q]
      exact nI_toInt (by omega)
    · refine ⟨0, by decide, ?_⟩
      show (upd (upd (c 34) 5 (if n + 1 < 60 then nI (n + 1) else 0)) 4 (c 34 4 + 1) 5).toInt = _
      rw [u_ne (by decide), u_at, if_neg q]
      rfl
  · show (v 5 + 1).toInt = _
    rw [t_add h.n (y := 1) rfl (by omega) (by omega)]
    omega
theorem jj_cn {N k : Nat} {v : Nat → Int32} {x : Int32} (h : jj N v) (hk : k < 11) : jj N (cnF v k x) := by
  have e : ∀ i, i ≠ 7 + k → cnF v k x i = v i := fun i h1 => u_ne h1
  refine ⟨fr_cong (fun i h1 h2 => e i (by omega)) (fun n k h1 h2 => e _ (by omega)) h.1, jr_cong (ceq.of (fun i h1 h2 => e i (by omega))) h.2.1, ?_⟩
  rw [e 5 (by omega)]
  exact h.2.2
theorem tie.cnt {g : Prop} {N k : Nat} {c : sm_S} {v : Nat → Int32} (h : tie g N c v) (hk : k < 11) (x : Int32) : tie g N (sm_set c 40 (upd (c 40) k (c 40 k + x))) (cnF v k x) :=
  h.to (sim_cnt x h.s h.b hk) (fun j h1 h2 => s_ne (by omega)) (u_ne (by omega)) (fun i hi => u_ne (by omega)) (fun b hb => bk_cong (fun k h1 _ _ _ => u_ne (by omega)) (h.b b hb))
/-- what a run of the reference makes of the row -/
def rd (j : Nat) (as : List Value) (v v' : Nat → Int32) : Prop := ∀ σ : sm_S, σ 1 = v → xC xM j as σ (sm_V (fun σ' => σ' = sm_set σ 1 v'))
def rdI (j : Nat) (as : List Value) (v : Nat → Int32) (x : Int32) (v' : Nat → Int32) : Prop := ∀ σ : sm_S, σ 1 = v → xC xM j as σ (sm_I (fun y σ' => y = x ∧ σ' = sm_set σ 1 v'))
def rz (v : Nat → Int32) : sm_S := sm_set (fun _ _ => 0) 1 v
theorem rd.det {j : Nat} {as : List Value} {v v' : Nat → Int32} {Q : sm_S → Prop} (h : rd j as v v') (h2 : xC xM j as (rz v) (sm_V Q)) : Q (sm_set (rz v) 1 v') := by
  obtain ⟨M, -, n, r, σ', -, ⟨h3, h4⟩, h5, h6⟩ := (h (rz v) s_at).and h2
  rw [← h4]
  exact h6
theorem rdI.det {j : Nat} {as : List Value} {v v' : Nat → Int32} {x : Int32} {Q : Int32 → sm_S → Prop} (h : rdI j as v x v') (h2 : xC xM j as (rz v) (sm_I Q)) : Q x (sm_set (rz v) 1 v') := by
  obtain ⟨M, -, n, r, σ', -, ⟨y, h3, h4, h5⟩, z, h6, h7⟩ := (h (rz v) s_at).and h2
  rw [h3] at h6
  cases h6
  rw [← h4, ← h5]
  exact h7
theorem rz_eq {v v' w : Nat → Int32} (h : sm_set (rz v) 1 v' = sm_set (rz v) 1 w) : w = v' := by
  have := congrFun h 1
  rw [s_at, s_at] at this
  exact this.symm
theorem rz_at (v : Nat → Int32) : rz v 1 = v := s_at
/-- states of frames that no block has, and spans -/
theorem own.st {v v' : Nat → Int32} (g : own v) (hk : ∀ b, b < 96 → bk_ok v b) (e0 : ∀ f, f < 256 → v' (18 + 3 * f) = v (18 + 3 * f) ∨ ((v (18 + 3 * f) ≠ 3 ∧ v (18 + 3 * f) ≠ 4) ∧ v' (18 + 3 * f) ≠ 3 ∧ v' (18 + 3 * f) ≠ 4)) (e1 : ∀ f, f < 256 → v' (18 + 3 * f + 1) = v (18 + 3 * f + 1)) (eb : ∀ b k, b < 96 → k < 16 → v' (786 + 16 * b + k) = v (786 + 16 * b + k)) (hof : ∀ f, f < 256 → (v' (18 + 3 * f) = 0 ↔ v' (2358 + 8 * (f / 32) + 0) = 0)) : own v' := by
  have s3 : ∀ f, f < 256 → v (18 + 3 * f) = 3 → v' (18 + 3 * f) = 3 := fun f hf q => by
    rcases e0 f hf with e | ⟨e, -⟩
    · rw [e]; exact q
    · exact absurd q e.1
  have s4 : ∀ f, f < 256 → v (18 + 3 * f) = 4 → v' (18 + 3 * f) = 4 := fun f hf q => by
    rcases e0 f hf with e | ⟨e, -⟩
    · rw [e]; exact q
    · exact absurd q e.2
  have r3 : ∀ f, f < 256 → v' (18 + 3 * f) = 3 → v (18 + 3 * f) = 3 := fun f hf q => by
    rcases e0 f hf with e | ⟨-, e⟩
    · rw [← e]; exact q
    · exact absurd q e.1
  have r4 : ∀ f, f < 256 → v' (18 + 3 * f) = 4 → v (18 + 3 * f) = 4 := fun f hf q => by
    rcases e0 f hf with e | ⟨-, e⟩
    · rw [← e]; exact q
    · exact absurd q e.2
  refine ⟨fun b fr o b1 b2 b3 b4 j hj => ?_, fun b t o b1 b2 b3 b4 => ?_, fun f hf h3 => ?_, fun f hf h4 => ?_, fun f hf h3 h4 => ?_, hof⟩
  · rw [eb b 0 b1 (by decide)] at b2
    rw [eb b 1 b1 (by decide)] at b3
    rw [eb b 2 b1 (by decide)] at b4
    have hx := g.hs b fr o b1 b2 b3 b4 j hj
    obtain ⟨o', fr', p1, p2, p3, p4, p5, -⟩ := hk b b1
    have q1 : o' = o := by omega
    have q2 : fr' = fr := by omega
    subst q1 q2
    have hl := al_le p2 p4 p5
    exact ⟨s3 _ (by omega) hx.1, by rw [e1 _ (by omega)]; exact hx.2⟩
  · rw [eb b 0 b1 (by decide)] at b2
    rw [eb b 6 b1 (by decide)] at b3
    rw [eb b 2 b1 (by decide)] at b4
    obtain ⟨k1, k2⟩ := g.hd b t o b1 b2 b3 b4
    have hl := bk_to (hk b b1) b3 b4
    exact ⟨by rw [eb b 3 b1 (by decide)]; exact k1, fun j hj => ⟨s4 _ (by omega) (k2 j hj).1, by rw [e1 _ (by omega)]; exact (k2 j hj).2⟩⟩
  · obtain ⟨b, fr, o, p1, p2, p3, p4, p5, p6⟩ := g.tk f hf (r3 f hf h3)
    exact ⟨b, fr, o, p1, by rw [e1 f hf]; exact p2, by rw [eb b 0 p1 (by decide)]; exact p3, by rw [eb b 1 p1 (by decide)]; exact p4, by rw [eb b 2 p1 (by decide)]; exact p5, p6⟩
  · obtain ⟨b, fr, o, p1, p2, p3, p4, p5, p6⟩ := g.hl f hf (r4 f hf h4)
    exact ⟨b, fr, o, p1, by rw [e1 f hf]; exact p2, by rw [eb b 0 p1 (by decide)]; exact p3, by rw [eb b 6 p1 (by decide)]; exact p4, by rw [eb b 2 p1 (by decide)]; exact p5, p6⟩
  · rw [e1 f hf]
    exact g.no f hf (fun q => h3 (s3 f hf q)) (fun q => h4 (s4 f hf q))
/-- frames' states and spans -/
theorem sim0.fs {c c' : sm_S} {v v' : Nat → Int32} (h : sim0 c v) (F' : ∀ f, f < 256 → sF c' v' f) (S' : ∀ s, s < 8 → sS c' v' s) (O' : own v') (hc : ∀ k, (8 ≤ k ∧ k < 18) ∨ 25 < k ∨ k = 0 → c' k = c k) (hv : ∀ i, i < 18 ∨ (786 ≤ i ∧ i < 2358) → v' i = v i) : sim0 c' v' := by
  refine ⟨F', fun b hb => ?_, S', fun t ht => ?_, ?_, ?_, O'⟩
  · exact (h.B b hb).cg (by rw [hc 9 (by omega)]) (by rw [hc 10 (by omega)]) (by rw [hc 11 (by omega)]) (by rw [hc 12 (by omega)]) (by rw [hc 13 (by omega)]) (by rw [hc 14 (by omega)]) (by rw [hc 15 (by omega)]) (by rw [hc 16 (by omega)]) (fun k hk => hv _ (by omega))
  · exact (h.T t ht).cg (fun k h1 h2 => by rw [hc k (by omega)]) (fun k hk => hv _ (by omega))
  · obtain ⟨L, hL⟩ := h.Q
    exact ⟨L, hL.cg (by rw [hc 26 (by omega)]) (hc 28 (by omega)) (hc 33 (by omega)) (fun b k h1 h2 h3 => hv _ (by omega))⟩
  · exact h.N.cg (hc 39 (by omega)) (hc 40 (by omega)) (by rw [hc 0 (by omega)]) (by rw [hc 8 (by omega)]) (fun i hi _ => hv i (by omega))
/-- p for the states of n frames from fr on -/
def mpF (p : Int32 → Int32) (v : Nat → Int32) (fr n : Nat) : Nat → Int32 := fun i => if (18 + 3 * fr ≤ i ∧ i < 18 + 3 * (fr + n)) ∧ (i - 18) % 3 = 0 then p (v i) else v i
theorem mpF_0 (p : Int32 → Int32) (v : Nat → Int32) (fr : Nat) : mpF p v fr 0 = v := by
  funext i
  exact if_neg (by omega)
theorem mpF_out {p : Int32 → Int32} {v : Nat → Int32} {fr n i : Nat} (h : i < 18 + 3 * fr ∨ 18 + 3 * (fr + n) ≤ i ∨ (i - 18) % 3 ≠ 0) : mpF p v fr n i = v i := if_neg (by omega)
theorem mpF_in {p : Int32 → Int32} {v : Nat → Int32} {fr n f : Nat} (h1 : fr ≤ f) (h2 : f < fr + n) : mpF p v fr n (18 + 3 * f) = p (v (18 + 3 * f)) := if_pos (by omega)
theorem mpF_s (p : Int32 → Int32) (v : Nat → Int32) (fr n : Nat) : mpF p v fr (n + 1) = upd (mpF p v fr n) (18 + 3 * (fr + n)) (p (v (18 + 3 * (fr + n)))) := by
  funext i
  by_cases c : i = 18 + 3 * (fr + n)
  · rw [c, u_at]
    exact if_pos (by omega)
  · rw [u_ne c]
    unfold mpF
    by_cases d : (18 + 3 * fr ≤ i ∧ i < 18 + 3 * (fr + n)) ∧ (i - 18) % 3 = 0
    · rw [if_pos d, if_pos (by omega)]
    · rw [if_neg d, if_neg (by omega)]
theorem u_id {f : Nat → Int32} {k : Nat} : upd f k (f k) = f := by
  funext i
  by_cases e : i = k
  · rw [e, u_at]
  · rw [u_ne e]
theorem mpF_k {p : Int32 → Int32} {v : Nat → Int32} {fr n : Nat} (h : p (v (18 + 3 * (fr + n))) = v (18 + 3 * (fr + n))) : mpF p v fr (n + 1) = mpF p v fr n := by
  rw [mpF_s, h]
  have e : mpF p v fr n (18 + 3 * (fr + n)) = v (18 + 3 * (fr + n)) := mpF_out (by omega)
  rw [← e]
  exact u_id
def pO (x : Int32) : Int32 := if x = 2 then 1 else x
theorem l_opens2 {a1 a2 : Int32} {s : Nat} (h1 : a1.toInt = s) (hs : s < 8) (σ : sm_S) : ∀ (d k : Nat) (a3 : Int32), a3.toInt = ((32 * s + k : Nat) : Int) → k + d = 32 → xE xM m_M_opens 47 [.ref 0, .int a1, .int a2, .int a3] [] (sm_set σ 1 (mpF pO (σ 1) (32 * s) k)) (sm_V (fun σ' => σ' = sm_set σ 1 (mpF pO (σ 1) (32 * s) 32))) := by
  have h32 : (32 * a1 + 32).toInt = ((32 * s + 32 : Nat) : Int) := by
    have e := t_ix (c := 0) (m := 32) (C := 0) (M := 32) (k := 32) (j := 32) rfl rfl h1 rfl (by omega)
    rw [Int32.zero_add] at e
    rw [e]
    omega
  intro d
  induction d with
  | zero =>
    intro k a3 h3 hk
    have hk : k = 32 := by omega
    subst hk
    exact w_M_opens_47 a1 a2 a3 _ _ ⟨fun _ => ⟨rfl, rfl⟩, fun h => absurd (by rw [t_le, h32, h3]; omega) h⟩
  | succ d ih =>
    intro k a3 h3 hk
    have h3' : (a3 + 1).toInt = ((32 * s + (k + 1) : Nat) : Int) := by
      rw [t_add h3 (y := 1) rfl (by omega) (by omega)]
      omega
    refine w_M_opens_47 a1 a2 a3 _ _ ⟨fun h => ?_, fun _ => (c_stateOf h3 (by omega) _).int ?_⟩
    · rw [t_le, h32, h3] at h
      omega
    · rintro _ _ ⟨rfl, rfl⟩
      rw [s_at, mpF_out (by omega)]
      refine ⟨fun q => ?_, fun q => (c_frameAt a3 _).int ?_⟩
      · have := ih (k + 1) (a3 + 1) h3' (by omega)
        rw [mpF_k (p := pO) (show pO (σ 1 (18 + 3 * (32 * s + k))) = σ 1 (18 + 3 * (32 * s + k)) from if_neg q)] at this
        exact this
      · rintro _ _ ⟨rfl, rfl⟩
        obtain ⟨p1, p2⟩ := ixF (k := 0) (j := 0) h3 rfl (by omega)
        refine ⟨p1, fun σ4 e4 => ?_⟩
        have e := mpF_s pO (σ 1) (32 * s) k
        rw [show pO (σ 1 (18 + 3 * (32 * s + k))) = 1 from if_pos (Classical.not_not.mp q)] at e
        rw [p2, s_at, s_ss, Nat.add_zero, ← e] at e4
        rw [e4]
        exact ih (k + 1) (a3 + 1) h3' (by omega)
/-- a span is open again -/
def opnF (v : Nat → Int32) (s : Nat) : Nat → Int32 := mpF pO (upd (upd (upd (upd v (2358 + 8 * s + 0) 1) (2358 + 8 * s + 2) 0) (2358 + 8 * s + 3) 0) (2358 + 8 * s + 4) 0) (32 * s) 32
theorem c_opens2 {a1 : Int32} {s : Nat} (h1 : a1.toInt = s) (hs : s < 8) (σ : sm_S) : xC xM j_M_opens [.ref 0, .int a1] σ (sm_V (fun σ' => σ' = sm_set σ 1 (opnF (σ 1) s))) := by
  obtain ⟨p0, q0⟩ := ixS (k := 0) (j := 0) h1 rfl (by omega)
  obtain ⟨p2, q2⟩ := ixS (k := 2) (j := 2) h1 rfl (by omega)
  obtain ⟨p3, q3⟩ := ixS (k := 3) (j := 3) h1 rfl (by omega)
  obtain ⟨p4, q4⟩ := ixS (k := 4) (j := 4) h1 rfl (by omega)
  have h32 : (32 * a1).toInt = ((32 * s + 0 : Nat) : Int) := by
    have e := t_ix (c := 0) (m := 32) (C := 0) (M := 32) (k := 0) (j := 0) rfl rfl h1 rfl (by omega)
    rw [Int32.zero_add, Int32.add_zero] at e
    rw [e]
    omega
  refine w_M_opens a1 σ _ ((c_spanAt a1 σ).int ?_)
  rintro _ σ ⟨rfl, rfl⟩
  refine ⟨p0, fun σ3 e3 => ⟨p2, fun σ4 e4 => ⟨p3, fun σ5 e5 => ⟨p4, fun σ6 e6 => ?_⟩⟩⟩⟩
  rw [q0] at e3
  rw [q2, e3, s_at, s_ss] at e4
  rw [q3, e4, s_at, s_ss] at e5
  rw [q4, e5, s_at, s_ss] at e6
  have := l_opens2 (a2 := 2358 + 8 * a1) h1 hs (sm_set σ 1 (upd (upd (upd (upd (σ 1) (2358 + 8 * s + 0) 1) (2358 + 8 * s + 2) 0) (2358 + 8 * s + 3) 0) (2358 + 8 * s + 4) 0)) 32 0 (32 * a1) h32 rfl
  rw [mpF_0, s_at, s_ss, s_ss] at this
  rw [e6]
  exact this
/-- the span's way out is ended -/
def egC (c : sm_S) (s : Nat) (x : Int32) : sm_S := sm_set (sm_set (sm_set (sm_set (sm_set (sm_set c 18 (upd (c 18) s x)) 20 (upd (c 20) s 0)) 21 (upd (c 21) s 0)) 22 (upd (c 22) s 0)) 23 (upd (c 23) s 0)) 24 (upd (c 24) s (-1))
theorem e_endGoing2 {a1 : Int32} {s : Nat} (h1 : a1.toInt = s) (hs : s < 8) (a2 : Int32) (σ : sm_S) : xC xD j_S_endGoing [.ref 17, .int a1, .int a2] σ (sm_V (fun σ' => σ' = egC σ s a2)) := by
  have v := t_vp h1 hs
  refine d_S_endGoing a1 a2 σ _ ?_
  rw [t_nat h1]
  refine ⟨v, fun σ1 e1 => ⟨v, fun σ2 e2 => ⟨v, fun σ3 e3 => ⟨v, fun σ4 e4 => ⟨v, fun σ5 e5 => ⟨v, fun σ6 e6 => ⟨rfl, ?_⟩⟩⟩⟩⟩⟩⟩
  rw [e6, e5, e4, e3, e2, e1]
  rfl
theorem egC_o {c : sm_S} {s k : Nat} {x : Int32} (h : k < 18 ∨ k = 19 ∨ 24 < k) : egC c s x k = c k := by
  unfold egC
  rw [s_ne (by omega), s_ne (by omega), s_ne (by omega), s_ne (by omega), s_ne (by omega), s_ne (by omega)]
/-- what was apart is free, on the class's side; why -/
def flC (c : sm_S) (s : Nat) (why : Int32) : sm_S := sm_set (egC (sm_set (sm_set c 2 (upd (c 2) s (c 2 s ||| c 3 s))) 3 (upd (c 3) s 0)) s 1) 25 (upd (c 25) s why)
theorem e_fail2 {a1 : Int32} {s n : Nat} (h1 : a1.toInt = s) (hs : s < 8) (a2 : Int32) (σ : sm_S) (h5 : (σ 34 5).toInt = n) (hn : n < 60) : xC xD j_G_fail [.ref 41, .int a1, .int a2] σ (sm_V (fun σ' => σ' = laC (sm_set (flC σ s a2) 40 (upd (σ 40) 7 (σ 40 7 + 1))) n (σ 0 7) 2 a1 a2)) := by
  have v := t_vp h1 hs
  refine d_G_fail a1 a2 σ _ ?_
  rw [t_nat h1]
  refine ⟨v, v, v, fun σ1 e1 => ⟨v, fun σ2 e2 => (e_endGoing2 h1 hs 1 σ2).void ?_⟩⟩
  rintro _ rfl
  refine ⟨v, fun σ4 e4 => ⟨t_vp (n := 7) rfl (by omega), t_vp (n := 7) rfl (by omega), fun σ5 e5 => ?_⟩⟩
  have e : σ4 = flC σ s a2 := by
    rw [e4, e2, e1]
    rfl
  have e5' : σ5 = sm_set (flC σ s a2) 40 (upd (σ 40) 7 (σ 40 7 + 1)) := by
    rw [e5, e]
    rfl
  rw [e5']
  refine (e_add2 _ _ _ _ (sm_set (flC σ s a2) 40 (upd (σ 40) 7 (σ 40 7 + 1))) h5 hn).void ?_
  rintro _ rfl
  exact ⟨rfl, rfl⟩
