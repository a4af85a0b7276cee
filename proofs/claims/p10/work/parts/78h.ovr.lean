/-! ===== the simulation: a pass ends ===== -/
/-- how many frames of span s have the state a -/
def cnS (v : Nat → Int32) (s : Nat) (a : Int32) : Nat := sumN (fun i => if v (18 + 3 * (32 * s + i)) = a then 1 else 0) 32
theorem sumN_z {F : Nat → Nat} : ∀ {n : Nat}, sumN F n = 0 ↔ ∀ i, i < n → F i = 0
  | 0 => ⟨fun _ i hi => absurd hi (Nat.not_lt_zero i), fun _ => rfl⟩
  | n + 1 => by
    have := sumN_z (F := F) (n := n)
    show sumN F n + F n = 0 ↔ _
    refine ⟨fun q i hi => ?_, fun q => ?_⟩
    · by_cases e : i = n
      · subst e; omega
      · exact this.mp (by omega) i (by omega)
    · have a := this.mpr (fun i hi => q i (by omega))
      have b := q n (by omega)
      omega
theorem l_manyIn2 {a1 a2 : Int32} {s : Nat} (h1 : a1.toInt = s) (hs : s < 8) (σ : sm_S) : ∀ (d k : Nat) (a3 a4 : Int32), a4.toInt = ((32 * s + k : Nat) : Int) → k + d = 32 → a3.toInt = ((sumN (fun i => if σ 1 (18 + 3 * (32 * s + i)) = a2 then 1 else 0) k : Nat) : Int) → xE xM m_M_manyIn 8 [.ref 0, .int a1, .int a2, .int a3, .int a4] [] σ (sm_I (fun x σ' => x.toInt = ((cnS (σ 1) s a2 : Nat) : Int) ∧ σ' = σ)) := by
  have h32 : (32 * a1 + 32).toInt = ((32 * s + 32 : Nat) : Int) := by
    have e := t_ix (c := 0) (m := 32) (C := 0) (M := 32) (k := 32) (j := 32) rfl rfl h1 rfl (by omega)
    rw [Int32.zero_add] at e
    rw [e]
    omega
  have bd : ∀ k, sumN (fun i => if σ 1 (18 + 3 * (32 * s + i)) = a2 then 1 else 0) k ≤ 1 * k := fun k => sumN_bd (fun i => by split <;> omega)
  intro d
  induction d with
  | zero =>
    intro k a3 a4 h4 hk h3
    have hk : k = 32 := by omega
    subst hk
    exact w_M_manyIn_8 a1 a2 a3 a4 σ _ ⟨fun _ => ⟨_, rfl, h3, rfl⟩, fun h => absurd (by rw [t_le, h32, h4]; omega) h⟩
  | succ d ih =>
    intro k a3 a4 h4 hk h3
    have h4' : (a4 + 1).toInt = ((32 * s + (k + 1) : Nat) : Int) := by
      rw [t_add h4 (y := 1) rfl (by omega) (by omega)]
      omega
    have b := bd k
    refine w_M_manyIn_8 a1 a2 a3 a4 σ _ ⟨fun h => ?_, fun _ => (c_stateOf h4 (by omega) σ).int ?_⟩
    · rw [t_le, h32, h4] at h
      omega
    · rintro y σ1 ⟨ey, es⟩
      rw [ey, es]
      refine ⟨fun q => ih (k + 1) a3 (a4 + 1) h4' (by omega) ?_, fun q => ih (k + 1) (a3 + 1) (a4 + 1) h4' (by omega) ?_⟩
      · rw [h3]
        show _ = ((sumN (fun i => if σ 1 (18 + 3 * (32 * s + i)) = a2 then 1 else 0) k + (if σ 1 (18 + 3 * (32 * s + k)) = a2 then 1 else 0) : Nat) : Int)
        rw [if_neg q]
        rfl
      · rw [t_add h3 (y := 1) rfl (by omega) (by omega)]
        show _ = ((sumN (fun i => if σ 1 (18 + 3 * (32 * s + i)) = a2 then 1 else 0) k + (if σ 1 (18 + 3 * (32 * s + k)) = a2 then 1 else 0) : Nat) : Int)
        rw [if_pos (Classical.not_not.mp q)]
        rfl
theorem c_manyIn2 {a1 : Int32} {s : Nat} (h1 : a1.toInt = s) (hs : s < 8) (a2 : Int32) (σ : sm_S) : xC xM j_M_manyIn [.ref 0, .int a1, .int a2] σ (sm_I (fun x σ' => x.toInt = ((cnS (σ 1) s a2 : Nat) : Int) ∧ σ' = σ)) := by
  refine w_M_manyIn a1 a2 σ _ (l_manyIn2 h1 hs σ 32 0 0 (32 * a1) ?_ rfl rfl)
  have e := t_ix (c := 0) (m := 32) (C := 0) (M := 32) (k := 0) (j := 0) rfl rfl h1 rfl (by omega)
  rw [Int32.zero_add, Int32.add_zero] at e
  rw [e]
  omega
theorem cnS_le (v : Nat → Int32) (s : Nat) (a : Int32) : cnS v s a ≤ 32 := by
  have := sumN_bd (F := fun i => if v (18 + 3 * (32 * s + i)) = a then 1 else 0) (K := 1) (n := 32) (fun i => by split <;> omega)
  unfold cnS
  omega
theorem cnS_z {v : Nat → Int32} {s : Nat} {a : Int32} : cnS v s a = 0 ↔ ∀ f, f / 32 = s → v (18 + 3 * f) ≠ a := by
  unfold cnS
  rw [sumN_z]
  refine ⟨fun q f hf z => ?_, fun q i hi => ?_⟩
  · have := q (f % 32) (Nat.mod_lt _ (by decide))
    rw [show 32 * s + f % 32 = f by omega, if_pos z] at this
    exact absurd this (by decide)
  · show (if v (18 + 3 * (32 * s + i)) = a then 1 else 0) = 0
    rw [if_neg (q _ (by omega))]
theorem whyE {c : sm_S} {v : Nat → Int32} {a1 : Int32} {s : Nat} (h : sim0 c v) (h1 : a1.toInt = s) (hs : s < 8) : ∃ w : Int32, rdI j_M_whyOf [.ref 0, .int a1] v w v ∧ xC xD j_G_whyFails [.ref 41, .int a1] c (sm_I (fun y σ' => y = w ∧ σ' = c)) := by
  obtain ⟨x, rx, rcx, hf⟩ := p_first (a2 := 0) h h1 hs (r := 0) rfl (by omega)
  by_cases xm : x = -1
  · subst xm
    refine ⟨2, fun σ e => ?_, ?_⟩
    · refine w_M_whyOf a1 σ _ ((rx σ e).int ?_)
      rintro y σ1 ⟨ey, es⟩
      rw [ey, es]
      exact ⟨fun q => absurd rfl q, fun _ => ⟨_, rfl, rfl, rfl⟩⟩
    · refine d_G_whyFails a1 c _ (rcx.int ?_)
      rintro y σ1 ⟨ey, es⟩
      rw [ey, es]
      exact ⟨fun q => absurd rfl q, fun _ => ⟨_, rfl, rfl, rfl⟩⟩
  · rcases hf with ⟨z, -⟩ | ⟨n, fr, hn, hxn, -, -, -, h0, -⟩
    · exact absurd z xm
    · obtain ⟨gb, -⟩ := (h.B n hn).al h0
      refine ⟨if v (786 + 16 * n + 3) = 1 then 0 else if v (786 + 16 * n + 5) = 0 then 2 else 1, fun σ e => ?_, ?_⟩
      · refine w_M_whyOf a1 σ _ ((rx σ e).int ?_)
        rintro y σ1 ⟨ey, es⟩
        have es' : σ1 = σ := by rw [es, ← e, s_id]
        rw [ey, es']
        refine ⟨fun _ => (c_of (k := 3) (j := 3) hxn rfl (by omega) σ).int ?_, fun q => absurd xm q⟩
        rintro y2 σ2 ⟨ey2, es2⟩
        rw [ey2, es2, e]
        refine ⟨fun q => (c_isPinned hxn hn σ).int ?_, fun q => ⟨_, rfl, by rw [if_pos (Classical.not_not.mp q)], by rw [← e, s_id]⟩⟩
        rintro y3 σ3 ⟨ey3, es3⟩
        rw [e] at ey3
        rw [es3]
        refine ⟨fun z => ⟨_, rfl, ?_, by rw [← e, s_id]⟩, fun z => ⟨_, rfl, ?_, by rw [← e, s_id]⟩⟩
        · rcases ey3 with ⟨-, w⟩ | ⟨w, -⟩
          · rw [if_neg q, if_pos w]
          · rw [w] at z; exact absurd z (by decide)
        · rcases ey3 with ⟨w, -⟩ | ⟨-, w⟩
          · exact absurd w z
          · rw [if_neg q, if_neg w]
      · refine d_G_whyFails a1 c _ (rcx.int ?_)
        rintro y σ1 ⟨ey, es⟩
        rw [ey, es, t_nat hxn, ← gb.kin, ← gb.pin]
        refine ⟨fun _ => ⟨t_vp hxn hn, fun q => ⟨t_vp hxn hn, fun z => ⟨_, rfl, ?_, rfl⟩, fun z => ⟨_, rfl, ?_, rfl⟩⟩, fun q => ⟨_, rfl, ?_, rfl⟩⟩, fun q => absurd xm q⟩
        · rw [if_neg q, if_pos z]
        · rw [if_neg q, if_neg z]
        · rw [if_pos (Classical.not_not.mp q)]
/-- a span is off -/
def ofF (v : Nat → Int32) (s : Nat) : Nat → Int32 := mpF (fun _ => 0) (upd (upd (upd (upd v (2358 + 8 * s + 0) 0) (2358 + 8 * s + 1) 0) (2358 + 8 * s + 2) 0) (2358 + 8 * s + 3) 0) (32 * s) 32
def ofC (c : sm_S) (s : Nat) : sm_S := egC (sm_set (sm_set (sm_set c 2 (upd (c 2) s 0)) 3 (upd (c 3) s 0)) 19 (upd (c 19) s (-1))) s 0
theorem ofF_o {v : Nat → Int32} {s i : Nat} (h1 : i < 18 + 3 * (32 * s) ∨ 18 + 3 * (32 * s + 32) ≤ i ∨ (i - 18) % 3 ≠ 0) (h2 : i < 2358 + 8 * s ∨ 2358 + 8 * s + 3 < i) : ofF v s i = v i := by
  unfold ofF
  rw [mpF_out h1, u_ne (by omega), u_ne (by omega), u_ne (by omega), u_ne (by omega)]
theorem ofF_at {v : Nat → Int32} {s k : Nat} (hs : s < 8) (hk : k < 4) : ofF v s (2358 + 8 * s + k) = 0 := by
  unfold ofF
  rw [mpF_out (by omega)]
  rcases (show k = 0 ∨ k = 1 ∨ k = 2 ∨ k = 3 by omega) with q | q | q | q <;> subst q
  · rw [u_ne (by omega), u_ne (by omega), u_ne (by omega), u_at]
  · rw [u_ne (by omega), u_ne (by omega), u_at]
  · rw [u_ne (by omega), u_at]
  · rw [u_at]
theorem ofC_o {c : sm_S} {s k : Nat} (h : k < 2 ∨ (3 < k ∧ k < 18) ∨ 24 < k) : ofC c s k = c k := by
  unfold ofC
  rw [egC_o (by omega), s_ne (by omega), s_ne (by omega), s_ne (by omega)]
theorem sim_off {c : sm_S} {v : Nat → Int32} {s : Nat} (h : sim0 c v) (hk : ∀ b, b < 96 → bk_ok v b) (hs : s < 8) (h4 : v (2358 + 8 * s + 4) = 0) (h6 : v (2358 + 8 * s + 6) = 0) (hf : ∀ f, f / 32 = s → v (18 + 3 * f) ≠ 3 ∧ v (18 + 3 * f) ≠ 4) : sim0 (ofC c s) (ofF v s) := by
  have gs := h.S s hs
  have in1 : ∀ f, f < 256 → f / 32 = s → ofF v s (18 + 3 * f) = 0 := fun f hf e => by
    unfold ofF
    exact mpF_in (by omega) (by omega)
  have out0 : ∀ f, f < 256 → f / 32 ≠ s → ofF v s (18 + 3 * f) = v (18 + 3 * f) := fun f hf e => ofF_o (by omega) (by omega)
  have o1 : ∀ f, f < 256 → ofF v s (18 + 3 * f + 1) = v (18 + 3 * f + 1) := fun f hf => ofF_o (by omega) (by omega)
  have o2 : ∀ f, f < 256 → ofF v s (18 + 3 * f + 2) = v (18 + 3 * f + 2) := fun f hf => ofF_o (by omega) (by omega)
  have c2 : ofC c s 2 = upd (c 2) s 0 := rfl
  have c3 : ofC c s 3 = upd (c 3) s 0 := rfl
  have c18 : ofC c s 18 = upd (c 18) s 0 := rfl
  have c19 : ofC c s 19 = upd (c 19) s (-1) := rfl
  have c20 : ofC c s 20 = upd (c 20) s 0 := rfl
  have c21 : ofC c s 21 = upd (c 21) s 0 := rfl
  have c22 : ofC c s 22 = upd (c 22) s 0 := rfl
  have c23 : ofC c s 23 = upd (c 23) s 0 := rfl
  have c24 : ofC c s 24 = upd (c 24) s (-1) := rfl
  have c25 : ofC c s 25 = c 25 := rfl
  refine h.fs (fun f hf2 => ?_) (fun t ht => ?_) ?_ (fun k hk => ofC_o (by omega)) (fun i hi => ofF_o (by omega) (by omega))
  · have g := h.F f hf2
    by_cases e : f / 32 = s
    · have h34 := hf f e
      refine ⟨by rw [in1 f hf2 e]; decide, ?_, ?_, ?_, ?_, ?_, ?_⟩
      · rw [in1 f hf2 e, c2, e, u_at]
        exact ⟨fun z => absurd z bit_0, fun z => absurd z (by decide)⟩
      · rw [in1 f hf2 e, c3, e, u_at]
        exact ⟨fun z => absurd z bit_0, fun z => absurd z (by decide)⟩
      · rw [in1 f hf2 e, ofC_o (by omega), g.tak]
        exact ⟨fun z => absurd z h34.1, fun z => absurd z (by decide)⟩
      · rw [in1 f hf2 e, ofC_o (by omega), g.hel]
        exact ⟨fun z => absurd z h34.2, fun z => absurd z (by decide)⟩
      · rw [o1 f hf2, ofC_o (by omega)]; exact g.blk
      · rw [o2 f hf2, ofC_o (by omega)]; exact g.val
    · exact g.cg (by rw [c2, u_ne e]) (by rw [c3, u_ne e]) (by rw [ofC_o (by omega)]) (by rw [ofC_o (by omega)]) (by rw [ofC_o (by omega)]) (by rw [ofC_o (by omega)]) (out0 f hf2 e) (o1 f hf2) (o2 f hf2)
  · by_cases e : t = s
    · subst e
      have ek : ∀ k, 4 ≤ k → k < 8 → ofF v t (2358 + 8 * t + k) = v (2358 + 8 * t + k) := fun k k1 k2 => ofF_o (by omega) (by omega)
      refine ⟨?_, ?_, ?_, ?_, ?_, ?_, ?_, ?_, ?_, ?_, ?_⟩
      · rw [ofF_at hs (by decide), c18, u_at]
      · rw [c19, u_at]; exact fun _ => rfl
      · rw [c18, u_at]; exact fun q => absurd rfl q
      · rw [ofF_at hs (by decide), c20, u_at]
      · rw [ofF_at hs (by decide), c21, u_at]
      · rw [ek 4 (by decide) (by decide), c22, u_at]; exact h4
      · rw [c22, u_at]; decide
      · rw [c18, u_at]; exact fun q => absurd q (by decide)
      · rw [ek 6 (by decide) (by decide), c24, u_at, h6]; rfl
      · rw [ek 7 (by decide) (by decide), c25]; exact gs.why
      · rw [c20, c21, c22, c24, u_at, u_at, u_at, u_at]; exact fun _ => ⟨rfl, rfl, rfl, rfl⟩
    · refine (h.S t ht).cg (fun k h1 h2 => ?_) (fun k hk => ofF_o (by omega) (by omega))
      rcases (show k = 18 ∨ k = 19 ∨ k = 20 ∨ k = 21 ∨ k = 22 ∨ k = 23 ∨ k = 24 ∨ k = 25 by omega) with q | q | q | q | q | q | q | q <;> subst q
      · rw [c18, u_ne e]
      · rw [c19, u_ne e]
      · rw [c20, u_ne e]
      · rw [c21, u_ne e]
      · rw [c22, u_ne e]
      · rw [c23, u_ne e]
      · rw [c24, u_ne e]
      · rw [c25]
  · refine h.O.st hk (fun f hf2 => ?_) o1 (fun b k h1 h2 => ofF_o (by omega) (by omega)) (fun f hf2 => ?_)
    · by_cases e : f / 32 = s
      · rw [in1 f hf2 e]
        exact Or.inr ⟨hf f e, by decide, by decide⟩
      · exact Or.inl (out0 f hf2 e)
    · by_cases e : f / 32 = s
      · rw [in1 f hf2 e, e, ofF_at hs (by decide)]
      · rw [out0 f hf2 e, ofF_o (i := 2358 + 8 * (f / 32) + 0) (by omega) (by omega)]
        exact h.O.of f hf2
