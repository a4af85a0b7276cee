/-! ===== the simulation: a span fails ===== -/
theorem flC_o {c : sm_S} {s k : Nat} {w : Int32} (h : k < 2 ∨ (3 < k ∧ k < 18) ∨ k = 19 ∨ 25 < k) : flC c s w k = c k := by
  unfold flC
  rw [s_ne (by omega), egC_o (by omega), s_ne (by omega), s_ne (by omega)]
theorem pO_z {x : Int32} : pO x = 0 ↔ x = 0 := by
  unfold pO
  by_cases q : x = 2
  · rw [if_pos q, q]; decide
  · rw [if_neg q]
theorem opnF_old {v : Nat → Int32} {s i : Nat} (h1 : i < 18 + 3 * (32 * s) ∨ 18 + 3 * (32 * s + 32) ≤ i ∨ (i - 18) % 3 ≠ 0) (h2 : i ≠ 2358 + 8 * s + 0) (h3 : i ≠ 2358 + 8 * s + 2) (h4 : i ≠ 2358 + 8 * s + 3) (h5 : i ≠ 2358 + 8 * s + 4) : opnF v s i = v i := by
  unfold opnF
  rw [mpF_out h1, u_ne h5, u_ne h4, u_ne h3, u_ne h2]
theorem opnF_at {v : Nat → Int32} {s : Nat} (hs : s < 8) : opnF v s (2358 + 8 * s + 0) = 1 ∧ opnF v s (2358 + 8 * s + 2) = 0 ∧ opnF v s (2358 + 8 * s + 3) = 0 ∧ opnF v s (2358 + 8 * s + 4) = 0 := by
  unfold opnF
  refine ⟨?_, ?_, ?_, ?_⟩
  · rw [mpF_out (by omega), u_ne (by omega), u_ne (by omega), u_ne (by omega), u_at]
  · rw [mpF_out (by omega), u_ne (by omega), u_ne (by omega), u_at]
  · rw [mpF_out (by omega), u_ne (by omega), u_at]
  · rw [mpF_out (by omega), u_at]
theorem sim_fail {c : sm_S} {v : Nat → Int32} {s : Nat} (w : Int32) (h : sim0 c v) (hk : ∀ b, b < 96 → bk_ok v b) (hs : s < 8) (h6 : v (2358 + 8 * s + 6) = 0) (hg : c 18 s ≠ 0) : sim0 (flC c s w) (upd (opnF v s) (2358 + 8 * s + 7) (w + 1)) := by
  have gs := h.S s hs
  have old : ∀ i, (i < 18 + 3 * (32 * s) ∨ 18 + 3 * (32 * s + 32) ≤ i ∨ (i - 18) % 3 ≠ 0) → i ≠ 2358 + 8 * s + 0 → i ≠ 2358 + 8 * s + 2 → i ≠ 2358 + 8 * s + 3 → i ≠ 2358 + 8 * s + 4 → i ≠ 2358 + 8 * s + 7 → upd (opnF v s) (2358 + 8 * s + 7) (w + 1) i = v i := fun i a b c d e f => by rw [u_ne f, opnF_old a b c d e]
  obtain ⟨a0, a2, a3, a4⟩ := opnF_at (v := v) hs
  have in1 : ∀ f, f < 256 → f / 32 = s → upd (opnF v s) (2358 + 8 * s + 7) (w + 1) (18 + 3 * f) = pO (v (18 + 3 * f)) := fun f hf e => by
    rw [u_ne (by omega)]
    unfold opnF
    rw [mpF_in (by omega) (by omega), u_ne (by omega), u_ne (by omega), u_ne (by omega), u_ne (by omega)]
  have out0 : ∀ f, f < 256 → f / 32 ≠ s → upd (opnF v s) (2358 + 8 * s + 7) (w + 1) (18 + 3 * f) = v (18 + 3 * f) := fun f hf e => old _ (by omega) (by omega) (by omega) (by omega) (by omega) (by omega)
  have o1 : ∀ f, f < 256 → upd (opnF v s) (2358 + 8 * s + 7) (w + 1) (18 + 3 * f + 1) = v (18 + 3 * f + 1) := fun f hf => old _ (by omega) (by omega) (by omega) (by omega) (by omega) (by omega)
  have o2 : ∀ f, f < 256 → upd (opnF v s) (2358 + 8 * s + 7) (w + 1) (18 + 3 * f + 2) = v (18 + 3 * f + 2) := fun f hf => old _ (by omega) (by omega) (by omega) (by omega) (by omega) (by omega)
  have c2 : flC c s w 2 = upd (c 2) s (c 2 s ||| c 3 s) := rfl
  have c3 : flC c s w 3 = upd (c 3) s 0 := rfl
  have c18 : flC c s w 18 = upd (c 18) s 1 := rfl
  have c19 : flC c s w 19 = c 19 := rfl
  have c20 : flC c s w 20 = upd (c 20) s 0 := rfl
  have c21 : flC c s w 21 = upd (c 21) s 0 := rfl
  have c22 : flC c s w 22 = upd (c 22) s 0 := rfl
  have c23 : flC c s w 23 = upd (c 23) s 0 := rfl
  have c24 : flC c s w 24 = upd (c 24) s (-1) := rfl
  have c25 : flC c s w 25 = upd (c 25) s w := rfl
  have v0 : v (2358 + 8 * s + 0) ≠ 0 := by rw [gs.sta]; exact hg
  refine h.fs (fun f hf => ?_) (fun t ht => ?_) ?_ (fun k hk => flC_o (by omega)) (fun i hi => old i (by omega) (by omega) (by omega) (by omega) (by omega) (by omega))
  · have g := h.F f hf
    by_cases e : f / 32 = s
    · have b2 := g.fre
      have b3 := g.apa
      rw [e] at b2 b3
      refine ⟨?_, ?_, ?_, ?_, ?_, ?_, ?_⟩
      · rw [in1 f hf e]
        unfold pO
        by_cases q : v (18 + 3 * f) = 2
        · rw [if_pos q]; decide
        · rw [if_neg q]; exact g.rng
      · rw [in1 f hf e, c2, e, u_at, bit_or, b2, b3]
        unfold pO
        by_cases q : v (18 + 3 * f) = 2
        · rw [if_pos q]
          exact ⟨fun _ => rfl, fun _ => Or.inr q⟩
        · rw [if_neg q]
          exact ⟨fun z => z.elim id (fun z => absurd z q), Or.inl⟩
      · rw [in1 f hf e, c3, e, u_at]
        refine ⟨fun z => absurd z bit_0, fun z => ?_⟩
        unfold pO at z
        by_cases q : v (18 + 3 * f) = 2
        · rw [if_pos q] at z; exact absurd z (by decide)
        · rw [if_neg q] at z; exact absurd z q
      · rw [in1 f hf e, flC_o (by omega)]
        unfold pO
        by_cases q : v (18 + 3 * f) = 2
        · rw [if_pos q, g.tak, q]; decide
        · rw [if_neg q]; exact g.tak
      · rw [in1 f hf e, flC_o (by omega)]
        unfold pO
        by_cases q : v (18 + 3 * f) = 2
        · rw [if_pos q, g.hel, q]; decide
        · rw [if_neg q]; exact g.hel
      · rw [o1 f hf, flC_o (by omega)]; exact g.blk
      · rw [o2 f hf, flC_o (by omega)]; exact g.val
    · exact g.cg (by rw [c2, u_ne e]) (by rw [c3, u_ne e]) (by rw [flC_o (by omega)]) (by rw [flC_o (by omega)]) (by rw [flC_o (by omega)]) (by rw [flC_o (by omega)]) (out0 f hf e) (o1 f hf) (o2 f hf)
  · by_cases e : t = s
    · subst e
      refine ⟨?_, ?_, ?_, ?_, ?_, ?_, ?_, ?_, ?_, ?_, ?_⟩
      · rw [u_ne (by omega), a0, c18, u_at]
      · rw [c18, u_at]; exact fun q => absurd q (by decide)
      · rw [old _ (by omega) (by omega) (by omega) (by omega) (by omega) (by omega), c19]; exact fun _ => gs.zon hg
      · rw [u_ne (by omega), a2, c20, u_at]
      · rw [u_ne (by omega), a3, c21, u_at]
      · rw [u_ne (by omega), a4, c22, u_at]
      · rw [c22, u_at]; decide
      · rw [c18, u_at]; exact fun q => absurd q (by decide)
      · rw [old _ (by omega) (by omega) (by omega) (by omega) (by omega) (by omega), h6, c24, u_at]; rfl
      · rw [u_at, c25, u_at]
      · rw [c20, c21, c22, c24, u_at, u_at, u_at, u_at]; exact fun _ => ⟨rfl, rfl, rfl, rfl⟩
    · refine (h.S t ht).cg (fun k h1 h2 => ?_) (fun k hk => old _ (by omega) (by omega) (by omega) (by omega) (by omega) (by omega))
      rcases (show k = 18 ∨ k = 19 ∨ k = 20 ∨ k = 21 ∨ k = 22 ∨ k = 23 ∨ k = 24 ∨ k = 25 by omega) with q | q | q | q | q | q | q | q <;> subst q
      · rw [c18, u_ne e]
      · rw [c19]
      · rw [c20, u_ne e]
      · rw [c21, u_ne e]
      · rw [c22, u_ne e]
      · rw [c23, u_ne e]
      · rw [c24, u_ne e]
      · rw [c25, u_ne e]
  · refine h.O.st hk (fun f hf => ?_) o1 (fun b k h1 h2 => old _ (by omega) (by omega) (by omega) (by omega) (by omega) (by omega)) (fun f hf => ?_)
    · by_cases e : f / 32 = s
      · rw [in1 f hf e]
        unfold pO
        by_cases q : v (18 + 3 * f) = 2
        · rw [if_pos q, q]; exact Or.inr (by decide)
        · rw [if_neg q]; exact Or.inl rfl
      · exact Or.inl (out0 f hf e)
    · by_cases e : f / 32 = s
      · rw [in1 f hf e, pO_z, h.O.of f hf, e, u_ne (by omega), a0]
        exact ⟨fun z => absurd z v0, fun z => absurd z (by decide)⟩
      · rw [out0 f hf e, old (2358 + 8 * (f / 32) + 0) (by omega) (by omega) (by omega) (by omega) (by omega) (by omega)]
        exact h.O.of f hf
/-- a span has failed, in the row -/
def flF (v : Nat → Int32) (N s : Nat) (a1 w : Int32) : Nat → Int32 := wrF (cnF (upd (opnF v s) (2358 + 8 * s + 7) (w + 1)) 7 1) N 2 a1 w
theorem r_fails {v v1 : Nat → Int32} {a1 w : Int32} {N s : Nat} (h1 : a1.toInt = s) (hs : s < 8) (h : rd j_M_staysBack [.ref 0, .int a1] v v1) (h5 : (v1 5).toInt = N) : rd j_M_fails [.ref 0, .int a1, .int w] v (flF v1 N s a1 w) := fun σ e => by
  obtain ⟨p7, q7⟩ := ixS (k := 7) (j := 7) h1 rfl (by omega)
  refine w_M_fails a1 w σ _ ((h σ e).void ?_)
  rintro _ rfl
  refine (c_opens2 h1 hs _).void ?_
  rintro _ rfl
  refine (c_spanAt a1 _).int ?_
  rintro _ _ ⟨rfl, rfl⟩
  refine ⟨p7, fun σ5 e5 => ?_⟩
  rw [q7, s_at, s_ss, s_at, s_ss] at e5
  rw [e5]
  refine (c_counts (j := 7) rfl (by decide) 1 _).void ?_
  rintro _ rfl
  refine (c_writes2 (n := N) 2 a1 w _ ?_).void ?_
  · rw [s_at, s_at, u_ne (by omega), u_ne (by omega), opnF_old (by omega) (by omega) (by omega) (by omega) (by omega)]
    exact h5
  · rintro _ rfl
    refine ⟨rfl, ?_⟩
    rw [s_at, s_ss, s_at, s_ss]
    rfl
theorem r_stays0 {v : Nat → Int32} {a1 : Int32} {s : Nat} (h1 : a1.toInt = s) (hs : s < 8) (h6 : v (2358 + 8 * s + 6) = 0) : rd j_M_staysBack [.ref 0, .int a1] v v := fun σ e => by
  obtain ⟨p6, q6⟩ := ixS (k := 6) (j := 6) h1 rfl (by omega)
  refine w_M_staysBack a1 σ _ ((c_spanAt a1 σ).int ?_)
  rintro _ σ ⟨rfl, rfl⟩
  refine ⟨p6, ?_⟩
  rw [q6, e, h6]
  exact ⟨fun q => absurd (by decide) q, fun _ => ⟨rfl, by rw [← e, s_id]⟩⟩
/-- fail | the end of fails, where nothing is on its way -/
theorem p_fail {g : Prop} {N s : Nat} {c : sm_S} {v : Nat → Int32} {a1 : Int32} (w : Int32) (h : tie g N c v) (hj : jj N v) (hN : N < 2000000000) (h1 : a1.toInt = s) (hs : s < 8) (h6 : v (2358 + 8 * s + 6) = 0) (hg : c 18 s ≠ 0) : ∃ c', xC xD j_G_fail [.ref 41, .int a1, .int w] c (sm_V (fun σ' => σ' = c')) ∧ tie g (N + 1) c' (flF v N s a1 w) ∧ jj (N + 1) (flF v N s a1 w) ∧ oth s v (flF v N s a1 w) ∧ flF v N s a1 w (2358 + 8 * s) = 1 := by
  have run0 : rd j_M_opens [.ref 0, .int a1] v (opnF v s) := fun σ e => by rw [← e]; exact c_opens2 h1 hs σ
  obtain ⟨w0, e0, j0, -, -⟩ := run0.det (c_opens h1 hs (rz v) (by rw [rz_at]; exact hj) (by rw [rz_at]; exact h6))
  have e0 := rz_eq e0
  subst e0
  have j1 : jj N (upd (opnF v s) (2358 + 8 * s + 7) (w + 1)) := ⟨fr_cong (fun i h1 h2 => u_ne (by omega)) (fun n k h1 h2 => u_ne (by omega)) j0.1, jr_cong (ceq_upd (Or.inr (Or.inr (Or.inr (Or.inr ⟨s, hs, by omega⟩))))) j0.2.1, by rw [u_ne (by omega)]; exact j0.2.2⟩
  have t1 : tie g N (flC c s w) (upd (opnF v s) (2358 + 8 * s + 7) (w + 1)) := h.to (sim_fail w h.s h.b hs h6 hg) (fun k h1 h2 => flC_o (by omega)) (by rw [u_ne (by omega), opnF_old (by omega) (by omega) (by omega) (by omega) (by omega)]) (fun i hi => by rw [u_ne (by omega), opnF_old (by omega) (by omega) (by omega) (by omega) (by omega)]) j1.2.1.1
  have t2 := t1.cnt (k := 7) (by decide) 1
  obtain ⟨n, hn, h5, t3⟩ := t2.log hN 2 a1 w
  refine ⟨_, e_fail2 h1 hs w c (n := n) h5 hn, t3, jj_wr (jj_cn j1 (by decide)) hN, fun i i1 i2 i3 => ?_, ?_⟩
  · unfold flF
    rw [wrF_lo (by omega) (by omega)]
    unfold cnF
    rw [u_ne (by omega), u_ne (by omega), opnF_old (by omega) (by omega) (by omega) (by omega) (by omega)]
  · unfold flF
    rw [wrF_lo (by omega) (by omega)]
    unfold cnF
    rw [u_ne (by omega), u_ne (by omega)]
    exact (opnF_at hs).1
