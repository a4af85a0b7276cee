section
/-! ===== the simulation: shutNextPart | shuts; a tick ===== -/
def pS (x : Int32) : Int32 := if x = 1 then 2 else x
theorem sM_dec : ∀ p, p < 4 → ∀ i, i < 32 → (((255 : Int32) <<< ((nI p * 8) &&& 31)).toBitVec.getLsbD i = true ↔ i / 8 = p) := by decide +kernel
/-- an unmovable block has the frame f -/
def unm (v : Nat → Int32) (f : Nat) : Prop := v (18 + 3 * f) = 3 ∧ ∃ b : Nat, b < 96 ∧ (v (18 + 3 * f + 1)).toInt = ((b + 1 : Nat) : Int) ∧ v (786 + 16 * b + 3) = 1
theorem l_hasUn2 {a1 : Int32} {q : Nat} {v : Nat → Int32} (h1 : a1.toInt = q) (hq : q + 8 ≤ 256) (σ : sm_S) (h : sim0 σ v) : ∀ (d k : Nat) (a2 : Int32) (v3 : Value), a2.toInt = ((q + k : Nat) : Int) → k + d = 8 → (∀ j, j < k → ¬ unm v (q + j)) → xE xD m_G_hasUnmovable 2 [.ref 41, .int a1, .int a2, v3] [] σ (sm_I (fun x σ' => ((x = 0 ∧ ∀ j, j < 8 → ¬ unm v (q + j)) ∨ (x = 1 ∧ ∃ j, j < 8 ∧ unm v (q + j))) ∧ σ' = σ)) := by
  have h8 : (a1 + 8).toInt = ((q + 8 : Nat) : Int) := by
    rw [t_add h1 (y := 8) rfl (by omega) (by omega)]
    omega
  intro d
  induction d with
  | zero =>
    intro k a2 v3 h2 hk hb
    refine d_G_hasUnmovable_2 a1 a2 v3 σ _ ⟨fun _ => ⟨Or.inl rfl, _, rfl, Or.inl ⟨rfl, fun j hj => hb j (by omega)⟩, rfl⟩, fun z => absurd ?_ z⟩
    rw [t_le, h8, h2]
    omega
  | succ d ih =>
    intro k a2 v3 h2 hk hb
    have h2' : (a2 + 1).toInt = ((q + (k + 1) : Nat) : Int) := by
      rw [t_add h2 (y := 1) rfl (by omega) (by omega)]
      omega
    have nxt : ¬ unm v (q + k) → ∀ j, j < k + 1 → ¬ unm v (q + j) := fun z j hj => by
      by_cases e : j = k
      · rw [e]; exact z
      · exact hb j (by omega)
    have gF := h.F (q + k) (by omega)
    refine d_G_hasUnmovable_2 a1 a2 v3 σ _ ⟨fun z => ?_, fun _ => ⟨fun z => ?_, fun _ => ?_⟩⟩
    · rw [t_le, h8, h2] at z
      omega
    · rw [t_le, h2] at z
      have z : (256 : Int) ≤ ((q + k : Nat) : Int) := z
      omega
    · rw [t_nat h2]
      refine ⟨t_vp h2 (by omega), fun z => ih (k + 1) _ _ h2' (by omega) (nxt ?_), fun z => ?_⟩
      · rintro ⟨u1, b, b1, b2, -⟩
        have e := gF.blk
        rw [z] at e
        have e : v (18 + 3 * (q + k) + 1) = 0 := e
        rw [e] at b2
        have b2 : (0 : Int) = _ := b2
        omega
      · have s34 : v (18 + 3 * (q + k)) = 3 ∨ v (18 + 3 * (q + k)) = 4 := by
          refine Classical.byContradiction (fun w => z ?_)
          have e := h.O.no (q + k) (by omega) (fun y => w (Or.inl y)) (fun y => w (Or.inr y))
          rw [gF.blk] at e
          have e2 : σ 6 (q + k) = (σ 6 (q + k) + 1) - 1 := by rw [Int32.add_sub_cancel]
          rw [e2, e]
          rfl
        have bb : ∃ b : Nat, b < 96 ∧ (v (18 + 3 * (q + k) + 1)).toInt = ((b + 1 : Nat) : Int) ∧ v (786 + 16 * b + 0) = 1 ∧ (v (18 + 3 * (q + k)) = 3 ∨ v (786 + 16 * b + 3) = 0) := by
          rcases s34 with w | w
          · obtain ⟨b, _, _, p1, p2, p3, -⟩ := h.O.tk _ (by omega) w
            exact ⟨b, p1, p2, p3, Or.inl w⟩
          · obtain ⟨b, t, o, p1, p2, p3, p4, p5, -⟩ := h.O.hl _ (by omega) w
            exact ⟨b, p1, p2, p3, Or.inr (h.O.hd b t o p1 p3 p4 p5).1⟩
        obtain ⟨b, p1, p2, p3, p4⟩ := bb
        have c6 : (σ 6 (q + k)).toInt = b := m1_add (by rw [← gF.blk]; exact p2) (by omega)
        obtain ⟨gb, -⟩ := (h.B b p1).al p3
        rw [t_nat c6, ← gb.kin]
        refine ⟨t_vp c6 p1, fun w => ih (k + 1) _ _ h2' (by omega) (nxt ?_), fun w => ⟨Or.inr rfl, _, rfl, Or.inr ⟨rfl, k, by omega, ?_⟩, rfl⟩⟩
        · rintro ⟨-, b', b1', b2', b3'⟩
          have : b' = b := by omega
          subst this
          exact w b3'
        · have w := Classical.not_not.mp w
          refine ⟨?_, b, p1, p2, w⟩
          rcases p4 with p4 | p4
          · exact p4
          · rw [w] at p4
            exact absurd p4 (by decide)
/-- the part pt of span s is shut -/
def shF (v : Nat → Int32) (s pt : Nat) : Nat → Int32 := upd (mpF pS v (32 * s + 8 * pt) 8) (2358 + 8 * s + 2) (v (2358 + 8 * s + 2) + 1)
def shM (v : Nat → Int32) (s : Nat) : Nat → Int32 := upd (upd (upd v (2358 + 8 * s + 0) 3) (2358 + 8 * s + 3) 1) (2358 + 8 * s + 5) 0
theorem l_shuts2 {a1 a2 a3 : Int32} {s pt : Nat} {v v' : Nat → Int32} (h1 : a1.toInt = s) (hs : s < 8) (h2 : a2.toInt = ((2358 + 8 * s : Nat) : Int)) (hp : pt ≤ 3) (h3 : a3.toInt = ((32 * s + 8 * pt : Nat) : Int)) (hpt : (v (2358 + 8 * s + 2)).toInt = pt) (hv' : v' = if pt + 1 < 4 then shF v s pt else shM (shF v s pt) s) : ∀ (d k : Nat) (a4 : Int32) (σ : sm_S), σ 1 = mpF pS v (32 * s + 8 * pt) k → a4.toInt = ((32 * s + 8 * pt + k : Nat) : Int) → k + d = 8 → xE xM m_M_shuts 88 [.ref 0, .int a1, .int a2, .int a3, .int a4] [] σ (sm_V (fun σ' => σ' = sm_set σ 1 v')) := by
  have h8 : (a3 + 8).toInt = ((32 * s + 8 * pt + 8 : Nat) : Int) := by
    rw [t_add h3 (y := 8) rfl (by omega) (by omega)]
    omega
  obtain ⟨p0, q0⟩ := ix5 h2 hs (k := 0) (j := 0) rfl (by decide)
  obtain ⟨p2, q2⟩ := ix5 h2 hs (k := 2) (j := 2) rfl (by decide)
  obtain ⟨p3, q3⟩ := ix5 h2 hs (k := 3) (j := 3) rfl (by decide)
  obtain ⟨p5, q5⟩ := ix5 h2 hs (k := 5) (j := 5) rfl (by decide)
  have i2 : (a2 + 2).toInt = ((2358 + 8 * s + 2 : Nat) : Int) := by
    rw [t_add h2 (y := 2) rfl (by omega) (by omega)]
    omega
  intro d
  induction d with
  | zero =>
    intro k a4 σ hσ h4 hk
    have hk : k = 8 := by omega
    subst hk
    refine w_M_shuts_88 a1 a2 a3 a4 σ _ ⟨fun _ => (c_more i2 (by omega) 1 σ).void ?_, fun h => absurd (by rw [t_le, h8, h4]; omega) h⟩
    rintro σ1 e1
    have e1' : σ1 = sm_set σ 1 (shF v s pt) := by
      rw [e1, hσ]
      unfold shF
      rw [mpF_out (i := 2358 + 8 * s + 2) (by omega)]
    have pt1 : (σ1 1 (2358 + 8 * s + 2)).toInt = ((pt + 1 : Nat) : Int) := by
      rw [e1', s_at]
      show (upd _ _ _ _).toInt = _
      rw [u_at, t_add hpt (y := 1) rfl (by omega) (by omega)]
      omega
    rw [q0, q2, q3, q5]
    refine ⟨p2, fun z => ⟨p0, fun σ2 e2 => ⟨p3, fun σ3 e3 => ⟨p5, fun σ4 e4 => ⟨rfl, ?_⟩⟩⟩⟩, fun z => ⟨rfl, ?_⟩⟩
    · rw [t_le, pt1] at z
      have z : (4 : Int) ≤ ((pt + 1 : Nat) : Int) := z
      rw [e1', s_at, s_ss] at e2
      rw [e2, s_at, s_ss] at e3
      rw [e3, s_at, s_ss] at e4
      rw [e4, hv', if_neg (by omega)]
      rfl
    · rw [t_le, pt1] at z
      have z : ¬ (4 : Int) ≤ ((pt + 1 : Nat) : Int) := z
      rw [e1', hv', if_pos (by omega)]
  | succ d ih =>
    intro k a4 σ hσ h4 hk
    have h4' : (a4 + 1).toInt = ((32 * s + 8 * pt + (k + 1) : Nat) : Int) := by
      rw [t_add h4 (y := 1) rfl (by omega) (by omega)]
      omega
    refine w_M_shuts_88 a1 a2 a3 a4 σ _ ⟨fun h => ?_, fun _ => (c_isFree h4 (by omega) σ).int ?_⟩
    · rw [t_le, h8, h4] at h
      omega
    · rintro y σ1 ⟨hy, es⟩
      rw [es]
      rw [hσ, mpF_out (by omega)] at hy
      refine ⟨fun q => ?_, fun q => (c_frameAt a4 σ).int ?_⟩
      · have n1 : v (18 + 3 * (32 * s + 8 * pt + k)) ≠ 1 := by
          rcases hy with ⟨z, -⟩ | ⟨-, z⟩
          · rw [z] at q; exact absurd q (by decide)
          · exact z
        exact ih (k + 1) (a4 + 1) σ (by rw [hσ, mpF_k (p := pS) (show pS (v (18 + 3 * (32 * s + 8 * pt + k))) = v (18 + 3 * (32 * s + 8 * pt + k)) from if_neg n1)]) h4' (by omega)
      · have y1 : v (18 + 3 * (32 * s + 8 * pt + k)) = 1 := by
          rcases hy with ⟨-, z⟩ | ⟨z, -⟩
          · exact z
          · exact absurd z q
        rintro _ σ ⟨rfl, rfl⟩
        obtain ⟨p1, p2⟩ := ixF (k := 0) (j := 0) h4 rfl (by omega)
        refine ⟨p1, fun σ4 e4 => ?_⟩
        have e := mpF_s pS v (32 * s + 8 * pt) k
        rw [show pS (v (18 + 3 * (32 * s + 8 * pt + k))) = 2 from if_pos y1] at e
        rw [p2, hσ, Nat.add_zero, ← e] at e4
        have := ih (k + 1) (a4 + 1) σ4 (by rw [e4, s_at]) h4' (by omega)
        rw [e4, s_ss] at this
        rw [e4]
        exact this
theorem l_shuts1 {a1 a2 a3 : Int32} {q : Nat} {v v' : Nat → Int32} (h3 : a3.toInt = q) (hq : q + 8 ≤ 256) (ow : own v) (hf : (∃ j, j < 8 ∧ unm v (q + j)) → rd j_M_fails [.ref 0, .int a1, .int 0] v v') (hn : (∀ j, j < 8 → ¬ unm v (q + j)) → ∀ σ : sm_S, σ 1 = v → xE xM m_M_shuts 88 [.ref 0, .int a1, .int a2, .int a3, .int a3] [] σ (sm_V (fun σ' => σ' = sm_set σ 1 v'))) : ∀ (d k : Nat) (a4 : Int32) (σ : sm_S), σ 1 = v → a4.toInt = ((q + k : Nat) : Int) → k + d = 8 → (∀ j, j < k → ¬ unm v (q + j)) → xE xM m_M_shuts 26 [.ref 0, .int a1, .int a2, .int a3, .int a4] [] σ (sm_V (fun σ' => σ' = sm_set σ 1 v')) := by
  have h8 : (a3 + 8).toInt = ((q + 8 : Nat) : Int) := by
    rw [t_add h3 (y := 8) rfl (by omega) (by omega)]
    omega
  intro d
  induction d with
  | zero =>
    intro k a4 σ e h4 hk hb
    exact w_M_shuts_26 a1 a2 a3 a4 σ _ ⟨fun _ => hn (fun j hj => hb j (by omega)) σ e, fun h => absurd (by rw [t_le, h8, h4]; omega) h⟩
  | succ d ih =>
    intro k a4 σ e h4 hk hb
    have h4' : (a4 + 1).toInt = ((q + (k + 1) : Nat) : Int) := by
      rw [t_add h4 (y := 1) rfl (by omega) (by omega)]
      omega
    have nxt : ¬ unm v (q + k) → ∀ j, j < k + 1 → ¬ unm v (q + j) := fun z j hj => by
      by_cases e : j = k
      · rw [e]; exact z
      · exact hb j (by omega)
    refine w_M_shuts_26 a1 a2 a3 a4 σ _ ⟨fun h => ?_, fun _ => (c_stateOf h4 (by omega) σ).int ?_⟩
    · rw [t_le, h8, h4] at h
      omega
    · rintro y σ1 ⟨ey, es⟩
      rw [ey, es, e]
      refine ⟨fun z => ih (k + 1) (a4 + 1) σ e h4' (by omega) (nxt (fun u => z u.1)), fun z => (c_frameAt a4 σ).int ?_⟩
      have z := Classical.not_not.mp z
      obtain ⟨b, _, _, b1, b2, -⟩ := ow.tk (q + k) (by omega) z
      rintro _ σ ⟨rfl, rfl⟩
      obtain ⟨p1, p2⟩ := ixF (k := 1) (j := 1) h4 rfl (by omega)
      refine ⟨p1, ?_⟩
      rw [p2, e]
      refine (c_of (k := 3) (j := 3) (t_m1 b2 (by omega)) rfl (by omega) σ).int ?_
      rintro y2 σ2 ⟨ey2, es2⟩
      rw [ey2, es2, e]
      refine ⟨fun w => (hf ⟨k, by omega, z, b, b1, b2, w⟩ σ e).void ?_, fun w => ih (k + 1) (a4 + 1) σ e h4' (by omega) (nxt ?_)⟩
      · rintro _ rfl
        exact ⟨rfl, rfl⟩
      · rintro ⟨-, b', b1', b2', b3'⟩
        have : b' = b := by omega
        subst this
        exact w b3'
def shC (c : sm_S) (s pt : Nat) : sm_S := sm_set (sm_set (sm_set c 2 (upd (c 2) s (c 2 s &&& ((c 2 s &&& ((255 : Int32) <<< ((nI pt * 8) &&& 31))) ^^^ (-1))))) 3 (upd (c 3) s (c 3 s ||| (c 2 s &&& ((255 : Int32) <<< ((nI pt * 8) &&& 31)))))) 20 (upd (c 20) s (c 20 s + 1))
def shN (c : sm_S) (s : Nat) : sm_S := sm_set (sm_set (sm_set c 18 (upd (c 18) s 3)) 21 (upd (c 21) s 1)) 23 (upd (c 23) s 0)
theorem shF_o {v : Nat → Int32} {s pt i : Nat} (h1 : i < 18 + 3 * (32 * s + 8 * pt) ∨ 18 + 3 * (32 * s + 8 * pt + 8) ≤ i ∨ (i - 18) % 3 ≠ 0) (h2 : i ≠ 2358 + 8 * s + 2) : shF v s pt i = v i := by
  unfold shF
  rw [u_ne h2, mpF_out h1]
theorem sim_shut {c : sm_S} {v : Nat → Int32} {s pt : Nat} (h : sim0 c v) (hk : ∀ b, b < 96 → bk_ok v b) (hs : s < 8) (hp : pt < 4) (h2 : c 18 s = 2) : sim0 (shC c s pt) (shF v s pt) := by
  have gs := h.S s hs
  have in1 : ∀ f, f < 256 → f / 32 = s → f % 32 / 8 = pt → shF v s pt (18 + 3 * f) = pS (v (18 + 3 * f)) := fun f hf e e2 => by
    unfold shF
    rw [u_ne (by omega), mpF_in (by omega) (by omega)]
  have out0 : ∀ f, f < 256 → (f / 32 ≠ s ∨ f % 32 / 8 ≠ pt) → shF v s pt (18 + 3 * f) = v (18 + 3 * f) := fun f hf e => shF_o (by omega) (by omega)
  have o1 : ∀ f, f < 256 → shF v s pt (18 + 3 * f + 1) = v (18 + 3 * f + 1) := fun f hf => shF_o (by omega) (by omega)
  have o2 : ∀ f, f < 256 → shF v s pt (18 + 3 * f + 2) = v (18 + 3 * f + 2) := fun f hf => shF_o (by omega) (by omega)
  have r2 : shF v s pt (2358 + 8 * s + 2) = v (2358 + 8 * s + 2) + 1 := u_at
  have c2 : shC c s pt 2 = upd (c 2) s (c 2 s &&& ((c 2 s &&& ((255 : Int32) <<< ((nI pt * 8) &&& 31))) ^^^ (-1))) := rfl
  have c3 : shC c s pt 3 = upd (c 3) s (c 3 s ||| (c 2 s &&& ((255 : Int32) <<< ((nI pt * 8) &&& 31)))) := rfl
  have c20 : shC c s pt 20 = upd (c 20) s (c 20 s + 1) := rfl
  have co : ∀ k, k ≠ 2 → k ≠ 3 → k ≠ 20 → shC c s pt k = c k := fun k a b d => by
    unfold shC
    rw [s_ne d, s_ne b, s_ne a]
  have v0 : v (2358 + 8 * s + 0) ≠ 0 := by rw [gs.sta, h2]; decide
  refine h.fs (fun f hf => ?_) (fun t ht => ?_) ?_ (fun k hk => co k (by omega) (by omega) (by omega)) (fun i hi => shF_o (by omega) (by omega))
  · have g := h.F f hf
    by_cases e : f / 32 = s
    · have hi : f % 32 < 32 := Nat.mod_lt _ (by decide)
      have mk : bit ((255 : Int32) <<< ((nI pt * 8) &&& 31)) (f % 32) ↔ f % 32 / 8 = pt := sM_dec pt hp (f % 32) hi
      have b2 := g.fre
      have b3 := g.apa
      rw [e] at b2 b3
      by_cases e2 : f % 32 / 8 = pt
      · have in1 := in1 f hf e e2
        refine ⟨?_, ?_, ?_, ?_, ?_, ?_, ?_⟩
        · rw [in1]
          unfold pS
          by_cases q : v (18 + 3 * f) = 1
          · rw [if_pos q]; decide
          · rw [if_neg q]; exact g.rng
        · rw [in1, c2, e, u_at, bit_and, bit_not hi, bit_and, mk, b2]
          unfold pS
          by_cases q : v (18 + 3 * f) = 1
          · rw [if_pos q]
            exact ⟨fun z => absurd ⟨z.1, e2⟩ z.2, fun z => absurd z (by decide)⟩
          · rw [if_neg q]
            exact ⟨fun z => absurd z.1 q, fun z => absurd z q⟩
        · rw [in1, c3, e, u_at, bit_or, bit_and, mk, b2, b3]
          unfold pS
          by_cases q : v (18 + 3 * f) = 1
          · rw [if_pos q]
            exact ⟨fun _ => rfl, fun _ => Or.inr ⟨q, e2⟩⟩
          · rw [if_neg q]
            exact ⟨fun z => z.elim id (fun z => absurd z.1 q), Or.inl⟩
        · rw [in1, co 4 (by decide) (by decide) (by decide), g.tak]
          unfold pS
          by_cases q : v (18 + 3 * f) = 1
          · rw [if_pos q, q]; decide
          · rw [if_neg q]
        · rw [in1, co 5 (by decide) (by decide) (by decide), g.hel]
          unfold pS
          by_cases q : v (18 + 3 * f) = 1
          · rw [if_pos q, q]; decide
          · rw [if_neg q]
        · rw [o1 f hf, co 6 (by decide) (by decide) (by decide)]; exact g.blk
        · rw [o2 f hf, co 7 (by decide) (by decide) (by decide)]; exact g.val
      · have out0 := out0 f hf (Or.inr e2)
        refine ⟨by rw [out0]; exact g.rng, ?_, ?_, ?_, ?_, ?_, ?_⟩
        · rw [out0, c2, e, u_at, bit_and, bit_not hi, bit_and, mk, b2]
          exact ⟨fun z => z.1, fun z => ⟨z, fun y => e2 y.2⟩⟩
        · rw [out0, c3, e, u_at, bit_or, bit_and, mk, b2, b3]
          exact ⟨fun z => z.elim id (fun z => absurd z.2 e2), Or.inl⟩
        · rw [out0, co 4 (by decide) (by decide) (by decide)]; exact g.tak
        · rw [out0, co 5 (by decide) (by decide) (by decide)]; exact g.hel
        · rw [o1 f hf, co 6 (by decide) (by decide) (by decide)]; exact g.blk
        · rw [o2 f hf, co 7 (by decide) (by decide) (by decide)]; exact g.val
    · exact g.cg (by rw [c2, u_ne e]) (by rw [c3, u_ne e]) (by rw [co 4 (by decide) (by decide) (by decide)]) (by rw [co 5 (by decide) (by decide) (by decide)]) (by rw [co 6 (by decide) (by decide) (by decide)]) (by rw [co 7 (by decide) (by decide) (by decide)]) (out0 f hf (Or.inl e)) (o1 f hf) (o2 f hf)
  · by_cases e : t = s
    · subst e
      have ek : ∀ k, k < 8 → k ≠ 2 → shF v t pt (2358 + 8 * t + k) = v (2358 + 8 * t + k) := fun k k1 k2 => shF_o (by omega) (by omega)
      have ck : ∀ k, 18 ≤ k → k ≠ 20 → shC c t pt k = c k := fun k k1 k2 => co k (by omega) (by omega) k2
      refine ⟨?_, ?_, ?_, ?_, ?_, ?_, ?_, ?_, ?_, ?_, ?_⟩
      · rw [ek 0 (by decide) (by decide), ck 18 (by decide) (by decide)]; exact gs.sta
      · rw [ck 18 (by decide) (by decide), ck 19 (by decide) (by decide)]; exact gs.zof
      · rw [ek 1 (by decide) (by decide), ck 18 (by decide) (by decide), ck 19 (by decide) (by decide)]; exact gs.zon
      · rw [r2, c20, u_at, gs.par]
      · rw [ek 3 (by decide) (by decide), ck 21 (by decide) (by decide)]; exact gs.pas
      · rw [ek 4 (by decide) (by decide), ck 22 (by decide) (by decide)]; exact gs.pau
      · rw [ck 22 (by decide) (by decide)]; exact gs.pag
      · rw [ek 5 (by decide) (by decide), ck 18 (by decide) (by decide), ck 23 (by decide) (by decide)]; exact gs.rea
      · rw [ek 6 (by decide) (by decide), ck 24 (by decide) (by decide)]; exact gs.lea
      · rw [ek 7 (by decide) (by decide), ck 25 (by decide) (by decide)]; exact gs.why
      · rw [ck 18 (by decide) (by decide), h2]; exact fun z => absurd z (by decide)
    · refine (h.S t ht).cg (fun k h1 h2 => ?_) (fun k hk => shF_o (by omega) (by omega))
      by_cases q : k = 20
      · rw [q, c20, u_ne e]
      · rw [co k (by omega) (by omega) q]
  · refine h.O.st hk (fun f hf => ?_) o1 (fun b k h1 h2 => shF_o (by omega) (by omega)) (fun f hf => ?_)
    · by_cases e : f / 32 = s ∧ f % 32 / 8 = pt
      · rw [in1 f hf e.1 e.2]
        unfold pS
        by_cases q : v (18 + 3 * f) = 1
        · rw [if_pos q, q]; exact Or.inr (by decide)
        · rw [if_neg q]; exact Or.inl rfl
      · exact Or.inl (out0 f hf (by omega))
    · rw [shF_o (i := 2358 + 8 * (f / 32) + 0) (by omega) (by omega)]
      by_cases e : f / 32 = s ∧ f % 32 / 8 = pt
      · rw [in1 f hf e.1 e.2, ← h.O.of f hf]
        unfold pS
        by_cases q : v (18 + 3 * f) = 1
        · rw [if_pos q, q]; decide
        · rw [if_neg q]
      · rw [out0 f hf (by omega)]
        exact h.O.of f hf
theorem sim_shM {c : sm_S} {v : Nat → Int32} {s : Nat} (h : sim0 c v) (hk : ∀ b, b < 96 → bk_ok v b) (hs : s < 8) (h2 : c 18 s = 2) : sim0 (shN c s) (shM v s) := by
  have gs := h.S s hs
  have vo : ∀ i, i ≠ 2358 + 8 * s + 0 → i ≠ 2358 + 8 * s + 3 → i ≠ 2358 + 8 * s + 5 → shM v s i = v i := fun i a b d => by
    unfold shM
    rw [u_ne d, u_ne b, u_ne a]
  have r0 : shM v s (2358 + 8 * s + 0) = 3 := by
    unfold shM
    rw [u_ne (by omega), u_ne (by omega), u_at]
  have r3 : shM v s (2358 + 8 * s + 3) = 1 := by
    unfold shM
    rw [u_ne (by omega), u_at]
  have r5 : shM v s (2358 + 8 * s + 5) = 0 := u_at
  have c18 : shN c s 18 = upd (c 18) s 3 := rfl
  have c21 : shN c s 21 = upd (c 21) s 1 := rfl
  have c23 : shN c s 23 = upd (c 23) s 0 := rfl
  have co : ∀ k, k ≠ 18 → k ≠ 21 → k ≠ 23 → shN c s k = c k := fun k a b d => by
    unfold shN
    rw [s_ne d, s_ne b, s_ne a]
  refine h.sv hk (fun t ht => ?_) (fun t ht => ?_) (fun k hk => co k (by omega) (by omega) (by omega)) (fun i hi => vo i (by omega) (by omega) (by omega))
  · by_cases e : t = s
    · subst e
      refine ⟨by rw [r0, c18, u_at], ?_, ?_, ?_, by rw [r3, c21, u_at], ?_, ?_, ?_, ?_, ?_, ?_⟩
      · rw [c18, u_at]; exact fun z => absurd z (by decide)
      · rw [vo _ (by omega) (by omega) (by omega), co 19 (by decide) (by decide) (by decide)]; exact fun _ => gs.zon (by rw [h2]; decide)
      · rw [vo _ (by omega) (by omega) (by omega), co 20 (by decide) (by decide) (by decide)]; exact gs.par
      · rw [vo _ (by omega) (by omega) (by omega), co 22 (by decide) (by decide) (by decide)]; exact gs.pau
      · rw [co 22 (by decide) (by decide) (by decide)]; exact gs.pag
      · rw [r5, c23, u_at]; exact fun _ => rfl
      · rw [vo _ (by omega) (by omega) (by omega), co 24 (by decide) (by decide) (by decide)]; exact gs.lea
      · rw [vo _ (by omega) (by omega) (by omega), co 25 (by decide) (by decide) (by decide)]; exact gs.why
      · rw [c18, u_at]; exact fun z => absurd z (by decide)
    · refine (h.S t ht).cg (fun k k1 k2 => ?_) (fun k hk => vo _ (by omega) (by omega) (by omega))
      rcases (show k = 18 ∨ k = 21 ∨ k = 23 ∨ (k ≠ 18 ∧ k ≠ 21 ∧ k ≠ 23) by omega) with q | q | q | q
      · rw [q, c18, u_ne e]
      · rw [q, c21, u_ne e]
      · rw [q, c23, u_ne e]
      · rw [co k q.1 q.2.1 q.2.2]
  · by_cases e : t = s
    · subst e
      rw [r0, gs.sta, h2]
      decide
    · rw [vo _ (by omega) (by omega) (by omega)]
end
section
/-! ===== the simulation: shutNextPart | shuts, oneTick | ticks ===== -/
theorem p_shuts {g : Prop} {N s : Nat} {c : sm_S} {v : Nat → Int32} {a1 : Int32} (h : tie g N c v) (hj : jj N v) (hx : jx v) (hN : N + 7 < 2000000000) (h1 : a1.toInt = s) (hs : s < 8) (hst : v (2358 + 8 * s + 0) = 2) : ∃ v' c' N', rd j_M_shuts [.ref 0, .int a1] v v' ∧ xC xD j_G_shutNextPart [.ref 41, .int a1] c (sm_V (fun σ' => σ' = c')) ∧ tie g N' c' v' ∧ jj N' v' ∧ jx v' ∧ N' ≤ N + 7 := by
  have gs := h.s.S s hs
  have c18 : c 18 s = 2 := by rw [← gs.sta]; exact hst
  obtain ⟨st, pt, at', q, g1, g2, g3, g4, g5, g6, g7, g8, g9⟩ := hj.2.1.2.2.1 s hs
  have st2 : st = 2 := by
    rw [hst] at g1
    have g1 : (2 : Int) = st := g1
    omega
  have hp := g5 st2
  have h6 : v (2358 + 8 * s + 6) = 0 := by
    rcases g9 with z | ⟨_, _, _, z, _⟩
    · subst z
      exact t_inj g8
    · omega
  have c20 : (c 20 s).toInt = pt := by rw [← gs.par]; exact g3
  have h2 : (2358 + 8 * a1).toInt = ((2358 + 8 * s : Nat) : Int) := by
    have e := t_ix (c := 2358) (m := 8) (C := 2358) (M := 8) (k := 0) (j := 0) rfl rfl h1 rfl (by omega)
    rw [Int32.add_zero] at e
    exact e
  have h32 : (32 * a1).toInt = ((32 * s : Nat) : Int) := by
    have e := t_ix (c := 0) (m := 32) (C := 0) (M := 32) (k := 0) (j := 0) rfl rfl h1 rfl (by omega)
    rw [Int32.zero_add, Int32.add_zero] at e
    rw [e]
    omega
  have i3 : (32 * a1 + 8 * v (2358 + 8 * s + 2)).toInt = ((32 * s + 8 * pt : Nat) : Int) := by
    rw [t_add h32 (t_mul (a := 8) (x := 8) rfl g3 (by omega) (by omega)) (by omega) (by omega)]
    omega
  have i3c : (a1 * 32 + c 20 s * 8).toInt = ((32 * s + 8 * pt : Nat) : Int) := by
    rw [t_add (t_mul h1 (y := 32) rfl (by omega) (by omega)) (t_mul c20 (y := 8) rfl (by omega) (by omega)) (by omega) (by omega)]
    omega
  have va := t_vp h1 hs
  obtain ⟨p2, q2⟩ := ixS (k := 2) (j := 2) h1 rfl (by omega)
  have run : ∀ v', ((∃ j, j < 8 ∧ unm v (32 * s + 8 * pt + j)) → rd j_M_fails [.ref 0, .int a1, .int 0] v v') → ((∀ j, j < 8 → ¬ unm v (32 * s + 8 * pt + j)) → v' = if pt + 1 < 4 then shF v s pt else shM (shF v s pt) s) → rd j_M_shuts [.ref 0, .int a1] v v' := fun v' y1 y2 σ e => by
    refine w_M_shuts a1 σ _ ((c_spanAt a1 σ).int ?_)
    rintro _ σ ⟨rfl, rfl⟩
    refine ⟨p2, ?_⟩
    rw [q2, e]
    exact l_shuts1 (a2 := 2358 + 8 * a1) i3 (by omega) h.s.O y1 (fun z σ e => l_shuts2 h1 hs h2 hp i3 g3 (y2 z) 8 0 _ σ (by rw [mpF_0]; exact e) i3 rfl) 8 0 _ σ e i3 rfl (fun j hj => by omega)
  obtain ⟨u, hu, ru⟩ := pick (d_G_hasUnmovable (a1 * 32 + c 20 s * 8) c _ (l_hasUn2 i3c (by omega) c h.s 8 0 _ .null i3c rfl (fun j hj => by omega)))
  rcases hu with ⟨hu, hno⟩ | ⟨hu, hyes⟩
  · have runS := run (if pt + 1 < 4 then shF v s pt else shM (shF v s pt) s) (fun ⟨j, j1, j2⟩ => absurd j2 (hno j j1)) (fun _ => rfl)
    obtain ⟨w, N', ew, jw, k1, k2, -⟩ := runS.det (c_shuts (N := N) h1 hs (by omega) (rz v) (by rw [rz_at]; exact hj) (by rw [rz_at]; exact hst))
    rw [rz_eq ew] at jw
    have s1 := sim_shut (pt := pt) h.s h.b hs (by omega) c18
    have bk1 : ∀ b, b < 96 → bk_ok (shF v s pt) b := fun b hb => bk_cong (fun k _ _ _ _ => shF_o (by omega) (by omega)) (h.b b hb)
    have t1 : tie g N (shC c s pt) (shF v s pt) := h.to s1 (fun k k1 k2 => by
      unfold shC
      rw [s_ne (by omega), s_ne (by omega), s_ne (by omega)]) (shF_o (by omega) (by omega)) (fun i hi => shF_o (by omega) (by omega)) bk1
    have x1 : jx (shF v s pt) := hx.cg (fun b k _ _ => shF_o (by omega) (by omega)) (fun s' hs' z => ⟨fun y => z ((shF_o (by omega) (by omega)).trans y), shF_o (by omega) (by omega)⟩) (shF_o (by omega) (by omega)) (fun i i1 i2 => shF_o (by omega) (by omega))
    have ec : nI pt = c 20 s := (t_nI c20).symm
    have upC : ∀ {Q : Option Value → sm_S → Prop}, ((((c 20 s + 1)) < 4 → Q none (shC c s pt)) ∧ (¬ ((c 20 s + 1) < 4) → Q none (shN (shC c s pt) s))) → xC xD j_G_shutNextPart [.ref 41, .int a1] c Q := fun {Q} hQ => by
      refine d_G_shutNextPart a1 c Q ?_
      rw [t_nat h1]
      refine ⟨va, ru.int ?_⟩
      rintro y σ1 ⟨ey, es⟩
      rw [ey, es]
      refine ⟨fun _ => ⟨va, va, va, fun σ3 e3 => ⟨va, va, fun σ4 e4 => ⟨va, va, fun σ5 e5 => ?_⟩⟩⟩, fun z => absurd hu z⟩
      have e5' : σ5 = shC c s pt := by
        rw [e5, e4, e3]
        unfold shC
        rw [ec]
        rfl
      have k20 : σ5 20 s = c 20 s + 1 := by
        rw [e5']
        exact u_at
      rw [k20, e5']
      refine ⟨va, hQ.1, fun z => ⟨va, fun σ6 e6 => ⟨va, fun σ7 e7 => ⟨va, fun σ8 e8 => ?_⟩⟩⟩⟩
      have e8' : σ8 = shN (shC c s pt) s := by
        rw [e8, e7, e6]
        rfl
      rw [e8']
      exact hQ.2 z
    have c201 : (c 20 s + 1).toInt = ((pt + 1 : Nat) : Int) := by
      rw [t_add c20 (y := 1) rfl (by omega) (by omega)]
      omega
    have nN : N' = N := by
      have a := jw.2.2
      have b := h.n
      by_cases q : pt + 1 < 4
      · rw [if_pos q, shF_o (by omega) (by omega)] at a
        omega
      · rw [if_neg q] at a
        unfold shM at a
        rw [u_ne (by omega), u_ne (by omega), u_ne (by omega), shF_o (by omega) (by omega)] at a
        omega
    by_cases q : pt + 1 < 4
    · rw [if_pos q] at runS jw
      refine ⟨_, _, N', runS, upC ⟨fun _ => ⟨rfl, rfl⟩, fun z => absurd (by rw [t_lt, c201]; show ((pt + 1 : Nat) : Int) < 4; omega) z⟩, by rw [nN]; exact t1, jw, x1, k2⟩
    · rw [if_neg q] at runS jw
      have vo : ∀ i, i ≠ 2358 + 8 * s + 0 → i ≠ 2358 + 8 * s + 3 → i ≠ 2358 + 8 * s + 5 → shM (shF v s pt) s i = shF v s pt i := fun i a b d => by
        unfold shM
        rw [u_ne d, u_ne b, u_ne a]
      refine ⟨_, _, N', runS, upC ⟨fun z => ?_, fun _ => ⟨rfl, rfl⟩⟩, ?_, jw, ?_, k2⟩
      · rw [t_lt, c201] at z
        have z : ((pt + 1 : Nat) : Int) < 4 := z
        omega
      · rw [nN]
        refine t1.to (sim_shM s1 bk1 hs (by unfold shC; rw [s_ne (by decide), s_ne (by decide), s_ne (by decide)]; exact c18)) (fun k k1 k2 => by
          unfold shN
          rw [s_ne (by omega), s_ne (by omega), s_ne (by omega)]) (vo 5 (by omega) (by omega) (by omega)) (fun i hi => vo i (by omega) (by omega) (by omega)) jw.2.1.1
      · refine x1.cg (fun b k _ _ => vo _ (by omega) (by omega) (by omega)) (fun s' hs' z => ⟨?_, vo _ (by omega) (by omega) (by omega)⟩) (vo _ (by omega) (by omega) (by omega)) (fun i i1 i2 => vo _ (by omega) (by omega) (by omega))
        by_cases e : s' = s
        · rw [e, shF_o (by omega) (by omega), hst]
          decide
        · exact fun y => z ((vo _ (by omega) (by omega) (by omega)).trans y)
  · obtain ⟨c', rc', t', j', -, -⟩ := p_fail (a1 := a1) 0 h hj (by omega) h1 hs h6 (by rw [c18]; decide)
    have rf := r_fails (w := 0) h1 hs (r_stays0 h1 hs h6) h.n
    obtain ⟨j0, j1, j2⟩ := hyes
    refine ⟨_, c', N + 1, run _ (fun _ => rf) (fun z => absurd j2 (z j0 j1)), ?_, t', j', jx_fl hx hs (by rw [hst]; decide), by omega⟩
    refine d_G_shutNextPart a1 c _ ?_
    rw [t_nat h1]
    refine ⟨va, ru.int ?_⟩
    rintro y σ1 ⟨ey, es⟩
    rw [ey, es]
    refine ⟨fun z => ?_, fun _ => rc'.void ?_⟩
    · rw [hu] at z
      exact absurd z (by decide)
    · rintro _ rfl
      exact ⟨rfl, rfl⟩
theorem sim_tick {c : sm_S} {v : Nat → Int32} (h : sim0 c v) (hk : ∀ b, b < 96 → bk_ok v b) : sim0 (sm_set c 0 (upd (c 0) 7 (c 0 7 + 1))) (upd v 4 (v 4 + 1)) := by
  have g := h.N
  refine h.n0 hk (fun k h1 h2 h3 => s_ne (by omega)) (fun i h1 h2 => u_ne (by omega)) ⟨?_, ?_, ?_, ?_, fun k hk => ?_, ?_, ?_⟩
  · rw [s_ne (by decide), u_ne (by decide)]; exact g.rat
  · rw [s_ne (by decide), u_ne (by decide)]; exact g.tri
  · rw [s_ne (by decide), u_ne (by decide)]; exact g.rto
  · rw [s_ne (by decide), u_ne (by decide)]; exact g.pau
  · rw [s_ne (by decide), u_ne (by omega)]; exact g.cnt k hk
  · rw [s_at, u_at, u_at, g.tic]
  · rw [s_ne (by decide), u_ne (by decide)]; exact g.use
theorem l_ticks2 {g : Prop} : ∀ (d k N : Nat) (a1 : Int32) (c : sm_S) (v : Nat → Int32), tie g N c v → jj N v → jx v → N + 1200 * d + 2000 < 1999990000 → a1.toInt = k → k + d = 8 → ∃ v' c' N', (∀ σ : sm_S, σ 1 = v → xE xM m_M_ticks 8 [.ref 0, .int a1] [] σ (sm_V (fun σ' => σ' = sm_set σ 1 v'))) ∧ xE xD m_G_oneTick 15 [.ref 41, .int a1] [] c (sm_V (fun σ' => σ' = c')) ∧ tie g N' c' v' ∧ jj N' v' ∧ jx v' ∧ N' ≤ N + 1200 * d := by
  intro d
  induction d with
  | zero =>
    intro k N a1 c v h hj hx hN h1 hk
    have q8 : (8 : Int32) ≤ a1 := by
      rw [t_le, h1]
      show (8 : Int) ≤ _
      omega
    exact ⟨v, c, N, fun σ e => w_M_ticks_8 a1 σ _ ⟨fun _ => ⟨rfl, by rw [← e, s_id]⟩, fun z => absurd q8 z⟩, d_G_oneTick_15 a1 c _ ⟨fun _ => ⟨rfl, rfl⟩, fun z => absurd q8 z⟩, h, hj, hx, by omega⟩
  | succ d ih =>
    intro k N a1 c v h hj hx hN h1 hk
    have n8 : ¬ (8 : Int32) ≤ a1 := by
      rw [t_le, h1]
      show ¬ (8 : Int) ≤ _
      omega
    have h1' : (a1 + 1).toInt = ((k + 1 : Nat) : Int) := by
      rw [t_add h1 (y := 1) rfl (by omega) (by omega)]
      omega
    have hs : k < 8 := by omega
    have va := t_vp h1 hs
    have gs := h.s.S k hs
    have st : v (2358 + 8 * k) = c 18 k := gs.sta
    have runS : ∀ σ : sm_S, σ 1 = v → xC xM j_M_spanState [.ref 0, .int a1] σ (sm_I (fun y σ' => y = c 18 k ∧ σ' = σ)) := fun σ e => by
      have := c_spanState h1 hs σ
      rw [e, st] at this
      exact this
    by_cases e2 : c 18 k = 2
    · obtain ⟨v1, c1, N1, rr, rc, t1, j1, x1, n1⟩ := p_shuts h hj hx (by omega) h1 hs (by rw [gs.sta]; exact e2)
      obtain ⟨v', c', N', qr, qc, t', j', x', n'⟩ := ih (k + 1) N1 (a1 + 1) c1 v1 t1 j1 x1 (by omega) h1' (by omega)
      refine ⟨v', c', N', fun σ e => ?_, ?_, t', j', x', by omega⟩
      · refine w_M_ticks_8 a1 σ _ ⟨fun z => absurd z n8, fun _ => (runS σ e).int ?_⟩
        rintro y σ1 ⟨ey, es⟩
        rw [ey, es]
        refine ⟨fun z => absurd e2 z, fun _ => (rr σ e).void ?_⟩
        rintro _ rfl
        have := qr _ (s_at (σ := σ) (k := 1) (f := v1))
        rw [s_ss] at this
        exact this
      · refine d_G_oneTick_15 a1 c _ ⟨fun z => absurd z n8, fun _ => ?_⟩
        rw [t_nat h1]
        refine ⟨va, fun z => absurd e2 z, fun _ => rc.void ?_⟩
        rintro _ rfl
        exact qc
    · by_cases e3 : c 18 k = 3
      · obtain ⟨v1, c1, N1, rr, rc, t1, j1, x1, n1⟩ := p_moves h hj hx (by omega) h1 hs (by rw [gs.sta]; exact e3)
        obtain ⟨v', c', N', qr, qc, t', j', x', n'⟩ := ih (k + 1) N1 (a1 + 1) c1 v1 t1 j1 x1 (by omega) h1' (by omega)
        refine ⟨v', c', N', fun σ e => ?_, ?_, t', j', x', by omega⟩
        · refine w_M_ticks_8 a1 σ _ ⟨fun z => absurd z n8, fun _ => (runS σ e).int ?_⟩
          rintro y σ1 ⟨ey, es⟩
          rw [ey, es]
          refine ⟨fun _ => (runS σ e).int ?_, fun z => absurd e2 z⟩
          rintro y2 σ2 ⟨ey2, es2⟩
          rw [ey2, es2]
          refine ⟨fun z => absurd e3 z, fun _ => (rr σ e).void ?_⟩
          rintro _ rfl
          have := qr _ (s_at (σ := σ) (k := 1) (f := v1))
          rw [s_ss] at this
          exact this
        · refine d_G_oneTick_15 a1 c _ ⟨fun z => absurd z n8, fun _ => ?_⟩
          rw [t_nat h1]
          refine ⟨va, fun _ => ⟨va, fun z => absurd e3 z, fun _ => rc.void ?_⟩, fun z => absurd e2 z⟩
          rintro _ rfl
          exact qc
      · obtain ⟨v', c', N', qr, qc, t', j', x', n'⟩ := ih (k + 1) N (a1 + 1) c v h hj hx (by omega) h1' (by omega)
        refine ⟨v', c', N', fun σ e => ?_, ?_, t', j', x', by omega⟩
        · refine w_M_ticks_8 a1 σ _ ⟨fun z => absurd z n8, fun _ => (runS σ e).int ?_⟩
          rintro y σ1 ⟨ey, es⟩
          rw [ey, es]
          refine ⟨fun _ => (runS σ e).int ?_, fun z => absurd e2 z⟩
          rintro y2 σ2 ⟨ey2, es2⟩
          rw [ey2, es2]
          exact ⟨fun _ => qr σ e, fun z => absurd e3 z⟩
        · refine d_G_oneTick_15 a1 c _ ⟨fun z => absurd z n8, fun _ => ?_⟩
          rw [t_nat h1]
          exact ⟨va, fun _ => ⟨va, fun _ => qc, fun z => absurd e3 z⟩, fun z => absurd e2 z⟩
/-- oneTick | ticks -/
theorem p_ticks {g : Prop} {N : Nat} {c : sm_S} {v : Nat → Int32} (h : tie g N c v) (hj : jj N v) (hx : jx v) (hN : N + 20000 < 1999990000) : ∃ v' c' N', rd j_M_ticks [.ref 0] v v' ∧ xC xD j_G_oneTick [.ref 41] c (sm_V (fun σ' => σ' = c')) ∧ tie g N' c' v' ∧ jj N' v' ∧ jx v' ∧ N' ≤ N + 9600 := by
  have e4 : ∀ i, i ≠ 4 → upd v 4 (v 4 + 1) i = v i := fun i hi => u_ne hi
  have j1 : jj N (upd v 4 (v 4 + 1)) := jj_low (by decide) (by decide) hj
  have t1 : tie g N (sm_set c 0 (upd (c 0) 7 (c 0 7 + 1))) (upd v 4 (v 4 + 1)) := h.to (sim_tick h.s h.b) (fun k k1 k2 => s_ne (by omega)) (e4 5 (by decide)) (fun i hi => e4 i (by omega)) j1.2.1.1
  have x1 : jx (upd v 4 (v 4 + 1)) := hx.cg (fun b k _ _ => e4 _ (by omega)) (fun s' hs' z => ⟨fun y => z ((e4 _ (by omega)).trans y), e4 _ (by omega)⟩) (e4 0 (by decide)) (fun i i1 i2 => e4 i (by omega))
  obtain ⟨v', c', N', qr, qc, t', j', x', n'⟩ := l_ticks2 8 0 N 0 _ _ t1 j1 x1 (by omega) rfl rfl
  refine ⟨v', c', N', fun σ e => ?_, ?_, t', j', x', by omega⟩
  · refine w_M_ticks σ _ ((c_more (j := 4) rfl (by decide) 1 σ).void ?_)
    rintro σ1 e1
    rw [e] at e1
    have := qr σ1 (by rw [e1, s_at])
    rw [e1, s_ss] at this
    rw [e1]
    exact this
  · refine d_G_oneTick c _ (fun σ1 e1 => ?_)
    rw [e1]
    exact qc
end
section
/-! ===== the simulation: moveAtOnce | movesTo ===== -/
def mwF (v : Nat → Int32) (n fr p o : Nat) (x y : Int32) : Nat → Int32 := upd (mvF v p fr x (2 ^ o)) (786 + 16 * n + 1) y
def mvC (c : sm_S) (n fr p o : Nat) (bI y : Int32) : sm_S := sm_set (lgC (sm_set (gvC c 4 bI p o) 7 (cvF (c 7) fr p (2 ^ o))) fr o 0) 9 (upd (c 9) n y)
theorem mwF_o {v : Nat → Int32} {n fr p o i : Nat} {x y : Int32} (hd : p + 2 ^ o ≤ fr ∨ fr + 2 ^ o ≤ p) (hp : p + 2 ^ o ≤ 256) (hf : fr + 2 ^ o ≤ 256) (h1 : i < 18 + 3 * fr ∨ 18 + 3 * (fr + 2 ^ o) ≤ i) (h2 : i < 18 + 3 * p ∨ 18 + 3 * (p + 2 ^ o) ≤ i) (h3 : i ≠ 786 + 16 * n + 1) : mwF v n fr p o x y i = v i := by
  unfold mwF
  rw [u_ne h3, mvF_at hp hf hd, if_neg (by omega), if_neg (by omega)]
theorem sim_move {c : sm_S} {v : Nat → Int32} {n fr p o : Nat} {bI y : Int32} (h : sim0 c v) (hk : ∀ b, b < 96 → bk_ok v b) (hn : n < 96) (h0 : v (786 + 16 * n + 0) = 1) (h1 : (v (786 + 16 * n + 1)).toInt = fr) (h6 : v (786 + 16 * n + 6) = 0) (h2 : (v (786 + 16 * n + 2)).toInt = o) (ho : o ≤ 4) (hfr : fr < 256) (hal : fr % 2 ^ o = 0) (hto : p < 256) (halt : p % 2 ^ o = 0) (hp : v (2358 + 8 * (fr / 32) + 2) = 0) (hfree : ∀ f, p ≤ f → f < p + 2 ^ o → v (18 + 3 * f) = 1) (hbI : bI.toInt = n) (hy : y.toInt = p) : sim0 (mvC c n fr p o bI y) (mwF v n fr p o (bI + 1) y) ∧ (p + 2 ^ o ≤ fr ∨ fr + 2 ^ o ≤ p) := by
  have hle := al_le ho hfr hal
  have hlt := al_le ho hto halt
  have hpw := t_pw (k := o) (by omega)
  have hb1 : (bI + 1).toInt = ((n + 1 : Nat) : Int) := by
    rw [t_add hbI (y := 1) rfl (by omega) (by omega)]
    omega
  have own3 := h.O.hs n fr o hn h0 h1 h2
  have in3 : ∀ f, fr ≤ f → f < fr + 2 ^ o → v (18 + 3 * f) = 3 ∧ (v (18 + 3 * f + 1)).toInt = ((n + 1 : Nat) : Int) := fun f a1 a2 => by
    have := own3 (f - fr) (by omega)
    rw [show fr + (f - fr) = f by omega] at this
    exact this
  have dis : ∀ f, fr ≤ f → f < fr + 2 ^ o → p ≤ f → f < p + 2 ^ o → False := fun f a1 a2 a3 a4 => by
    have z := (in3 f a1 a2).1
    rw [hfree f a3 a4] at z
    exact absurd z (by decide)
  have hd : p + 2 ^ o ≤ fr ∨ fr + 2 ^ o ≤ p := by
    have a1 : ¬ (fr ≤ p ∧ p < fr + 2 ^ o) := fun z => dis p z.1 z.2 (Nat.le_refl _) (by omega)
    have a2 : ¬ (p ≤ fr ∧ fr < p + 2 ^ o) := fun z => dis fr (Nat.le_refl _) (by omega) z.1 z.2
    omega
  refine ⟨?_, hd⟩
  have sh1 : ∀ f, fr ≤ f → f < fr + 2 ^ o → shV v f = 1 := fun f a1 a2 => by
    have e : f / 32 = fr / 32 := by
      have := t_al (k := o) (by omega) hal
      omega
    unfold shV
    rw [e, hp]
    exact if_neg (by show ¬ _ < (0 : Int); omega)
  have at0 : ∀ f, fr ≤ f → f < fr + 2 ^ o → mwF v n fr p o (bI + 1) y (18 + 3 * f) = 1 ∧ mwF v n fr p o (bI + 1) y (18 + 3 * f + 1) = 0 ∧ mwF v n fr p o (bI + 1) y (18 + 3 * f + 2) = 0 := fun f a1 a2 => by
    unfold mwF
    refine ⟨?_, ?_, ?_⟩
    · rw [u_ne (by omega), mvF_at hlt hle hd, if_pos (by omega), if_pos (by omega), show (18 + 3 * f - 18) / 3 = f by omega]
      exact sh1 f a1 a2
    · rw [u_ne (by omega), mvF_at hlt hle hd, if_pos (by omega), if_neg (by omega)]
    · rw [u_ne (by omega), mvF_at hlt hle hd, if_pos (by omega), if_neg (by omega)]
  have atP : ∀ f, p ≤ f → f < p + 2 ^ o → mwF v n fr p o (bI + 1) y (18 + 3 * f) = 3 ∧ mwF v n fr p o (bI + 1) y (18 + 3 * f + 1) = bI + 1 ∧ mwF v n fr p o (bI + 1) y (18 + 3 * f + 2) = v (18 + 3 * (fr + (f - p)) + 2) := fun f a1 a2 => by
    have nf : ¬ (fr ≤ f ∧ f < fr + 2 ^ o) := fun z => dis f z.1 z.2 a1 a2
    unfold mwF
    refine ⟨?_, ?_, ?_⟩
    · rw [u_ne (by omega), mvF_at hlt hle hd, if_neg (by omega), if_pos (by omega), if_pos (by omega)]
    · rw [u_ne (by omega), mvF_at hlt hle hd, if_neg (by omega), if_pos (by omega), if_neg (by omega), if_pos (by omega)]
    · rw [u_ne (by omega), mvF_at hlt hle hd, if_neg (by omega), if_pos (by omega), if_neg (by omega), if_neg (by omega)]
      exact congrArg v (by omega)
  have mo : ∀ i, (i < 18 + 3 * fr ∨ 18 + 3 * (fr + 2 ^ o) ≤ i) → (i < 18 + 3 * p ∨ 18 + 3 * (p + 2 ^ o) ≤ i) → i ≠ 786 + 16 * n + 1 → mwF v n fr p o (bI + 1) y i = v i := fun i a b d => mwF_o hd hlt hle a b d
  have co : ∀ k, k ≠ 9 → (k < 2 ∨ 7 < k) → mvC c n fr p o bI y k = c k := fun k a b => by
    unfold mvC
    rw [s_ne a, lgC_o b, s_ne (by omega), gvC_o (by omega)]
  have c9 : mvC c n fr p o bI y 9 = upd (c 9) n y := rfl
  have r1 : mwF v n fr p o (bI + 1) y (786 + 16 * n + 1) = y := u_at
  refine h.fb (fun f hf => ?_) (fun b hb => ?_) (fun t ht => ?_) ?_ (fun k hk => co k (by omega) (by omega)) (fun i hi => mo i (by omega) (by omega) (by omega)) (fun b k h1 h2 h3 => mo _ (by omega) (by omega) (by omega))
  · have g1 := sF_gv4 (b := bI) (h.F f hf) ho halt (hfree f)
    have g2 : sF (sm_set (gvC c 4 bI p o) 7 (cvF (c 7) fr p (2 ^ o))) (vcF (hsF v p (2 ^ o) 3 (bI + 1)) fr p (2 ^ o)) f := by
      have z0 : vcF (hsF v p (2 ^ o) 3 (bI + 1)) fr p (2 ^ o) (18 + 3 * f) = hsF v p (2 ^ o) 3 (bI + 1) (18 + 3 * f) := vcF_out (by omega)
      have z1 : vcF (hsF v p (2 ^ o) 3 (bI + 1)) fr p (2 ^ o) (18 + 3 * f + 1) = hsF v p (2 ^ o) 3 (bI + 1) (18 + 3 * f + 1) := vcF_out (by omega)
      refine ⟨by rw [z0]; exact g1.rng, by rw [z0, s_ne (by decide)]; exact g1.fre, by rw [z0, s_ne (by decide)]; exact g1.apa, by rw [z0, s_ne (by decide)]; exact g1.tak, by rw [z0, s_ne (by decide)]; exact g1.hel, by rw [z1, s_ne (by decide)]; exact g1.blk, ?_⟩
      rw [s_at]
      unfold cvF
      by_cases q : p ≤ f ∧ f < p + 2 ^ o
      · rw [if_pos q, vcF_in q.1 q.2, hsF_out (by omega)]
        exact (h.F (fr + (f - p)) (by omega)).val
      · rw [if_neg q, vcF_out (by omega), hsF_out (by omega)]
        exact (h.F f hf).val
    have g3 := sF_lv (sb := 0) (p := 0) g2 hf ho hfr hal (by rw [vcF_out (by omega), hsF_out (by omega), hp]; rfl) (fun i hi => ⟨fun z => absurd z bit_0, fun z => by omega⟩) (fun a1 a2 => by
      have nd : ¬ (p ≤ f ∧ f < p + 2 ^ o) := fun z => dis f a1 a2 z.1 z.2
      rw [vcF_out (by omega), hsF_out (by omega)]
      exact Or.inl (in3 f a1 a2).1)
    have eqs : ∀ j, j < 3 → mwF v n fr p o (bI + 1) y (18 + 3 * f + j) = lvF (vcF (hsF v p (2 ^ o) 3 (bI + 1)) fr p (2 ^ o)) fr (2 ^ o) (18 + 3 * f + j) := fun j hj => by
      by_cases q : fr ≤ f ∧ f < fr + 2 ^ o
      · obtain ⟨a0, a1, a2⟩ := at0 f q.1 q.2
        obtain ⟨b0, b1, b2⟩ := lvF_in (v := vcF (hsF v p (2 ^ o) 3 (bI + 1)) fr p (2 ^ o)) q.1 q.2
        rcases (show j = 0 ∨ j = 1 ∨ j = 2 by omega) with e | e | e <;> subst e
        · rw [Nat.add_zero, a0, b0, shV_cg (v := v) (by rw [vcF_out (by omega), hsF_out (by omega)]), sh1 f q.1 q.2]
        · rw [a1, b1]
        · rw [a2, b2]
      · rw [lvF_out (by omega)]
        by_cases q2 : p ≤ f ∧ f < p + 2 ^ o
        · obtain ⟨a0, a1, a2⟩ := atP f q2.1 q2.2
          obtain ⟨b0, b1, -⟩ := hsF_in (v := v) (s := 3) (x := bI + 1) q2.1 q2.2
          rcases (show j = 0 ∨ j = 1 ∨ j = 2 by omega) with e | e | e <;> subst e
          · rw [Nat.add_zero, a0, vcF_out (by omega), b0]
          · rw [a1, vcF_out (by omega), b1]
          · rw [a2, vcF_in q2.1 q2.2, hsF_out (by omega)]
        · rw [mo _ (by omega) (by omega) (by omega), vcF_out (by omega), hsF_out (by omega)]
    exact g3.cg (by unfold mvC; rw [s_ne (by decide)]) (by unfold mvC; rw [s_ne (by decide)]) (by unfold mvC; rw [s_ne (by decide)]) (by unfold mvC; rw [s_ne (by decide)]) (by unfold mvC; rw [s_ne (by decide)]) (by unfold mvC; rw [s_ne (by decide)]) (eqs 0 (by decide)) (eqs 1 (by decide)) (eqs 2 (by decide))
  · by_cases e : b = n
    · subst e
      have rk : ∀ k, k < 9 → k ≠ 1 → mwF v b fr p o (bI + 1) y (786 + 16 * b + k) = v (786 + 16 * b + k) := fun k h1 h2 => mo _ (by omega) (by omega) (by omega)
      obtain ⟨q, q1⟩ := (h.B b hb).al h0
      exact Or.inr ⟨by rw [c9, u_at]; exact ne_m1 hy, by rw [rk 0 (by decide) (by decide)]; exact h0, by rw [r1, c9, u_at], by rw [rk 2 (by decide) (by decide), co 10 (by decide) (by decide)]; exact q.ord, by rw [rk 3 (by decide) (by decide), co 11 (by decide) (by decide)]; exact q.kin, by rw [rk 4 (by decide) (by decide), co 12 (by decide) (by decide)]; exact q.own, by rw [rk 5 (by decide) (by decide), co 13 (by decide) (by decide)]; exact q.pin, by rw [rk 6 (by decide) (by decide), co 14 (by decide) (by decide)]; exact q.tgt, by rw [rk 7 (by decide) (by decide), co 15 (by decide) (by decide)]; exact q.cop, by rw [rk 8 (by decide) (by decide), co 16 (by decide) (by decide)]; exact q.use⟩
    · exact (h.B b hb).cg (by rw [c9, u_ne e]) (by rw [co 10 (by decide) (by decide)]) (by rw [co 11 (by decide) (by decide)]) (by rw [co 12 (by decide) (by decide)]) (by rw [co 13 (by decide) (by decide)]) (by rw [co 14 (by decide) (by decide)]) (by rw [co 15 (by decide) (by decide)]) (by rw [co 16 (by decide) (by decide)]) (fun k hk => mo _ (by omega) (by omega) (by omega))
  · exact (h.S t ht).cg (fun k a b => by rw [co k (by omega) (by omega)]) (fun k hk => mo _ (by omega) (by omega) (by omega))
  · have out0 : ∀ f, f < 256 → ¬ ((fr ≤ f ∧ f < fr + 2 ^ o) ∨ (p ≤ f ∧ f < p + 2 ^ o)) → mwF v n fr p o (bI + 1) y (18 + 3 * f) = v (18 + 3 * f) ∧ mwF v n fr p o (bI + 1) y (18 + 3 * f + 1) = v (18 + 3 * f + 1) := fun f a1 a2 => ⟨mo _ (by omega) (by omega) (by omega), mo _ (by omega) (by omega) (by omega)⟩
    have rb0 : mwF v n fr p o (bI + 1) y (786 + 16 * n + 0) = 1 := by rw [mo _ (by omega) (by omega) (by omega)]; exact h0
    have rb2 : (mwF v n fr p o (bI + 1) y (786 + 16 * n + 2)).toInt = o := by rw [mo _ (by omega) (by omega) (by omega)]; exact h2
    have rb6 : mwF v n fr p o (bI + 1) y (786 + 16 * n + 6) = 0 := by rw [mo _ (by omega) (by omega) (by omega)]; exact h6
    refine h.O.re (fun b => b = n) (fun f => (fr ≤ f ∧ f < fr + 2 ^ o) ∨ (p ≤ f ∧ f < p + 2 ^ o)) hk (fun b k a1 a2 a3 => mo _ (by omega) (by omega) (by omega)) out0 (fun f hf z => z.elim (fun z => Or.inr ⟨n, hn, rfl, (in3 f z.1 z.2).2⟩) (fun z => Or.inl (by rw [hfree f z.1 z.2]; decide))) (fun b fr' o' hb z g0 g1 g2 j hj => ?_) (fun b t o' hb z g0 g6 g2 => ?_) (fun f b hf hb z g3 g1 => ?_) (fun f b hf hb z g4 g1 => ?_) (fun f hf z => ?_) (fun f hf => ?_)
    · subst z
      rw [r1] at g1
      have e1 : fr' = p := by omega
      have e2 : o' = o := by omega
      subst e1 e2
      obtain ⟨q0, q1, -⟩ := atP (fr' + j) (by omega) (by omega)
      rw [q0, q1]
      exact ⟨rfl, hb1⟩
    · subst z
      rw [rb6] at g6
      have g6 : (0 : Int) = _ := g6
      omega
    · subst z
      refine ⟨rb0, p, o, by rw [r1]; exact hy, rb2, ?_⟩
      by_cases z : (fr ≤ f ∧ f < fr + 2 ^ o) ∨ (p ≤ f ∧ f < p + 2 ^ o)
      · rcases z with z | z
        · rw [(at0 f z.1 z.2).1] at g3
          exact absurd g3 (by decide)
        · exact z
      · rw [(out0 f hf z).1] at g3
        rw [(out0 f hf z).2] at g1
        obtain ⟨b', fr', o', p1, p2, p3, p4, p5, p6⟩ := h.O.tk f hf g3
        have e : b' = b := by omega
        subst e
        have e1 : fr' = fr := by omega
        have e2 : o' = o := by omega
        subst e1 e2
        exact absurd (Or.inl p6) z
    · subst z
      by_cases z : (fr ≤ f ∧ f < fr + 2 ^ o) ∨ (p ≤ f ∧ f < p + 2 ^ o)
      · rcases z with z | z
        · rw [(at0 f z.1 z.2).1] at g4
          exact absurd g4 (by decide)
        · rw [(atP f z.1 z.2).1] at g4
          exact absurd g4 (by decide)
      · rw [(out0 f hf z).1] at g4
        rw [(out0 f hf z).2] at g1
        obtain ⟨b', t, o', p1, p2, p3, p4, p5, p6⟩ := h.O.hl f hf g4
        have e : b' = b := by omega
        subst e
        rw [h6] at p4
        have p4 : (0 : Int) = _ := p4
        omega
    · rcases z with z | z
      · obtain ⟨q0, q1, -⟩ := at0 f z.1 z.2
        exact Or.inr ⟨by rw [q0]; decide, by rw [q0]; decide, q1⟩
      · obtain ⟨q0, q1, -⟩ := atP f z.1 z.2
        exact Or.inl ⟨n, hn, rfl, by rw [q1]; exact hb1, Or.inl q0⟩
    · rw [mo (2358 + 8 * (f / 32) + 0) (by omega) (by omega) (by omega)]
      by_cases z : (fr ≤ f ∧ f < fr + 2 ^ o) ∨ (p ≤ f ∧ f < p + 2 ^ o)
      · rw [← h.O.of f hf]
        rcases z with z | z
        · rw [(at0 f z.1 z.2).1, (in3 f z.1 z.2).1]
          decide
        · rw [(atP f z.1 z.2).1, hfree f z.1 z.2]
          decide
      · rw [(out0 f hf z).1]
        exact h.O.of f hf
/-- moveAtOnce | movesTo -/
theorem p_move {g : Prop} {N n fr p o : Nat} {c : sm_S} {v : Nat → Int32} {a1 a2 : Int32} (h : tie g N c v) (hj : jj N v) (hx : jx v) (h1 : a1.toInt = n) (hn : n < 96) (h0 : v (786 + 16 * n + 0) = 1) (e1 : (v (786 + 16 * n + 1)).toInt = fr) (h6 : v (786 + 16 * n + 6) = 0) (e2 : (v (786 + 16 * n + 2)).toInt = o) (hst : v (2358 + 8 * (fr / 32) + 0) = 1) (h2 : a2.toInt = p) (hto : p < 256) (halt : p % 2 ^ o = 0) (hfree : ∀ f, p ≤ f → f < p + 2 ^ o → v (18 + 3 * f) = 1) : ∃ c', rd j_M_movesTo [.ref 0, .int a1, .int a2] v (cnF (mwF v n fr p o (a1 + 1) a2) 10 1) ∧ xC xD j_Y_moveAtOnce [.ref 0, .int a1, .int a2] c (sm_V (fun σ' => σ' = c')) ∧ tie g N c' (cnF (mwF v n fr p o (a1 + 1) a2) 10 1) ∧ jj N (cnF (mwF v n fr p o (a1 + 1) a2) 10 1) ∧ jx (cnF (mwF v n fr p o (a1 + 1) a2) 10 1) ∧ (∀ i, (i < 18 + 3 * fr ∨ 18 + 3 * (fr + 2 ^ o) ≤ i) → (i < 18 + 3 * p ∨ 18 + 3 * (p + 2 ^ o) ≤ i) → i ≠ 786 + 16 * n + 1 → i ≠ 17 → cnF (mwF v n fr p o (a1 + 1) a2) 10 1 i = v i) ∧ (∀ f, fr ≤ f → f < fr + 2 ^ o → cnF (mwF v n fr p o (a1 + 1) a2) 10 1 (18 + 3 * f) = 1) ∧ (∀ f, p ≤ f → f < p + 2 ^ o → cnF (mwF v n fr p o (a1 + 1) a2) 10 1 (18 + 3 * f) = 3) ∧ cnF (mwF v n fr p o (a1 + 1) a2) 10 1 (786 + 16 * n + 1) = a2 := by
  obtain ⟨o', fr', b1, ho, b3, hfr, hal, -⟩ := hj.2.1.1 n hn
  have eo : o' = o := by omega
  have ef : fr' = fr := by omega
  subst eo ef
  have hle := al_le ho hfr hal
  have hlt := al_le ho hto halt
  have hpw := t_pw (k := o') (by omega)
  have hsal := t_al (k := o') (by omega) hal
  obtain ⟨gb, gb9⟩ := (h.s.B n hn).al h0
  have gs := h.s.S (fr' / 32) (by omega)
  have c18 : c 18 (fr' / 32) = 1 := by rw [← gs.sta]; exact hst
  have hp : v (2358 + 8 * (fr' / 32) + 2) = 0 := by rw [gs.par]; exact (gs.off (Or.inr c18)).1
  obtain ⟨s1, hd⟩ := sim_move h.s h.b hn h0 e1 h6 e2 ho hfr hal hto halt hp hfree h1 h2
  have c9 : (c 9 n).toInt = fr' := by rw [← gb.fir]; exact e1
  have c10 : (c 10 n).toInt = o' := by rw [← gb.ord]; exact e2
  have run : rd j_M_movesTo [.ref 0, .int a1, .int a2] v (cnF (mwF v n fr' p o' (a1 + 1) a2) 10 1) := fun σ e => by
    rw [← e]
    exact c_movesTo2 h1 hn h2 ho hlt hle hd σ (by rw [e]; exact e1) (by rw [e]; exact e2)
  have det := run.det (c_movesTo (N := N) h1 hn h2 hto (rz v) (by rw [rz_at]; exact e2) halt (by rw [rz_at]; exact h6) (by rw [rz_at]; exact h0) (by rw [rz_at]; exact hj))
  have jw : jj N (cnF (mwF v n fr' p o' (a1 + 1) a2) 10 1) := by
    obtain ⟨w, ew, jw, -⟩ := det
    rw [rz_eq ew] at jw
    exact jw
  have mo : ∀ i, (i < 18 + 3 * fr' ∨ 18 + 3 * (fr' + 2 ^ o') ≤ i) → (i < 18 + 3 * p ∨ 18 + 3 * (p + 2 ^ o') ≤ i) → i ≠ 786 + 16 * n + 1 → mwF v n fr' p o' (a1 + 1) a2 i = v i := fun i a b d => mwF_o hd hlt hle a b d
  have t1 : tie g N (mvC c n fr' p o' a1 a2) (mwF v n fr' p o' (a1 + 1) a2) := by
    refine h.to s1 (fun k k1 k2 => ?_) (mo 5 (by omega) (by omega) (by omega)) (fun i hi => mo i (by omega) (by omega) (by omega)) (fun b hb => bk_cong (fun k _ _ _ _ => (u_ne (by omega)).symm) (jw.2.1.1 b hb))
    unfold mvC
    rw [s_ne (by omega), lgC_o (by omega), s_ne (by omega), gvC_o (by omega)]
  have t2 := t1.cnt (k := 10) (by decide) 1
  refine ⟨_, run, ?_, t2, jw, ?_, fun i a b d e => (u_ne (by omega)).trans (mo i a b d), fun f a b => ?_, fun f a b => ?_, ?_⟩
  · refine d_Y_moveAtOnce a1 a2 c _ ⟨t_vp h1 hn, (c_size h1 hn c).int ?_⟩
    rintro y1 σ1 ⟨ey1, es1⟩
    rw [ey1, es1, t_nat h1]
    refine (e_give2 a1 h2 (t_pow c10 (by omega)) ho hlt c).void ?_
    rintro _ rfl
    refine (e_copyValues2 c9 h2 (t_pow c10 (by omega)) hle hlt (by omega) _).void ?_
    rintro _ rfl
    refine (e_letGo2 c9 (t_pow c10 (by omega)) ho hle 0 _).void ?_
    rintro _ rfl
    refine ⟨t_vp h1 hn, fun σ6 e6 => ⟨t_vp (n := 10) rfl (by omega), t_vp (n := 10) rfl (by omega), fun σ7 e7 => ⟨rfl, ?_⟩⟩⟩
    rw [e7, e6]
    rfl
  · refine hx.re (n := n) (fun b k q1 q2 q3 => (u_ne (by omega)).trans (mo _ (by omega) (by omega) (by omega))) (fun _ => ⟨fun _ => ?_, fun to2 fr2 o2 y1 y2 y3 => ?_⟩) (fun _ => ?_) (fun s' hs' z => ⟨fun y => z (((u_ne (by omega)).trans (mo _ (by omega) (by omega) (by omega))).trans y), (u_ne (by omega)).trans (mo _ (by omega) (by omega) (by omega))⟩) ((u_ne (by omega)).trans (mo _ (by omega) (by omega) (by omega))) (fun i i1 i2 => (u_ne (by omega)).trans (mo _ (by omega) (by omega) (by omega)))
    · exact ((u_ne (by omega)).trans (mo _ (by omega) (by omega) (by omega))).trans ((hx.1 n hn h0).1 h6)
    · have e6 : cnF (mwF v n fr' p o' (a1 + 1) a2) 10 1 (786 + 16 * n + 6) = v (786 + 16 * n + 6) := (u_ne (by omega)).trans (mo _ (by omega) (by omega) (by omega))
      rw [e6, h6] at y1
      have y1 : (0 : Int) = _ := y1
      omega
    · have e3 : cnF (mwF v n fr' p o' (a1 + 1) a2) 10 1 (786 + 16 * n + 3) = v (786 + 16 * n + 3) := (u_ne (by omega)).trans (mo _ (by omega) (by omega) (by omega))
      rw [e3]
      exact hx.2.1 n hn h0
  · have e : f / 32 = fr' / 32 := by omega
    refine (u_ne (by omega)).trans ?_
    unfold mwF
    rw [u_ne (by omega), mvF_at hlt hle hd, if_pos (by omega), if_pos (by omega), show (18 + 3 * f - 18) / 3 = f by omega]
    unfold shV
    rw [e, hp]
    exact if_neg (by show ¬ _ < (0 : Int); omega)
  · refine (u_ne (by omega)).trans ?_
    unfold mwF
    rw [u_ne (by omega), mvF_at hlt hle hd, if_neg (by omega), if_pos (by omega), if_pos (by omega)]
  · refine (u_ne (by omega)).trans ?_
    exact u_at
end
section
/-! ===== the simulation: gather ===== -/
theorem v6_iff {N n : Nat} {v : Nat → Int32} (hj : jj N v) (hn : n < 96) : v (786 + 16 * n + 6) ≤ 0 ↔ v (786 + 16 * n + 6) = 0 := by
  obtain ⟨_, _, _, _, _, _, _, _, ⟨q, b7, -⟩, -⟩ := hj.2.1.1 n hn
  rw [le0, b7]
  refine ⟨fun z => t_inj (by rw [b7]; show (q : Int) = 0; omega), fun z => ?_⟩
  rw [z] at b7
  have b7 : (0 : Int) = q := b7
  omega
theorem c14_iff {c : sm_S} {v : Nat → Int32} {n : Nat} (g : sBl c v n) : c 14 n = -1 ↔ v (786 + 16 * n + 6) = 0 := by
  have e := g.tgt
  refine ⟨fun z => by rw [e, z]; rfl, fun z => ?_⟩
  rw [z] at e
  have z2 : c 14 n = (c 14 n + 1) - 1 := by rw [Int32.add_sub_cancel]
  rw [z2, ← e]
  rfl
theorem r_loose {N n : Nat} {v : Nat → Int32} {b : Int32} (hj : jj N v) (hb : b.toInt = n) (hn : n < 96) (σ : sm_S) (e : σ 1 = v) : xC xM j_M_isLoose [.ref 0, .int b] σ (sm_I (fun x σ' => ((x = 1 ∧ v (786 + 16 * n + 3) = 0 ∧ v (786 + 16 * n + 5) = 0 ∧ v (786 + 16 * n + 6) = 0) ∨ (x = 0 ∧ ¬ (v (786 + 16 * n + 3) = 0 ∧ v (786 + 16 * n + 5) = 0 ∧ v (786 + 16 * n + 6) = 0))) ∧ σ' = σ)) := by
  refine w_M_isLoose b σ _ ((c_of (k := 3) (j := 3) hb rfl (by omega) σ).int ?_)
  rintro y σ1 ⟨ey, es⟩
  rw [ey, es, e]
  refine ⟨fun q => ⟨Or.inl rfl, _, rfl, Or.inr ⟨rfl, fun z => q z.1⟩, rfl⟩, fun q => (c_isPinned hb hn σ).int ?_⟩
  rintro y2 σ2 ⟨ey2, es2⟩
  rw [e] at ey2
  rw [es2]
  refine ⟨fun q2 => ⟨Or.inl rfl, _, rfl, Or.inr ⟨rfl, fun z => ?_⟩, rfl⟩, fun q2 => (c_isOnWay hb hn σ).int ?_⟩
  · rcases ey2 with ⟨w, -⟩ | ⟨-, w⟩
    · exact q2 w
    · exact w z.2.1
  · rintro y3 σ3 ⟨ey3, es3⟩
    rw [e] at ey3
    rw [es3]
    have p5 : v (786 + 16 * n + 5) = 0 := by
      rcases ey2 with ⟨-, w⟩ | ⟨w, -⟩
      · exact w
      · rw [w] at q2; exact absurd (by decide) q2
    refine ⟨fun q3 => ⟨Or.inl rfl, _, rfl, Or.inr ⟨rfl, fun z => ?_⟩, rfl⟩, fun q3 => ⟨Or.inr rfl, _, rfl, Or.inl ⟨rfl, Classical.not_not.mp q, p5, ?_⟩, rfl⟩⟩
    · rcases ey3 with ⟨w, -⟩ | ⟨-, w⟩
      · exact q3 w
      · exact w ((v6_iff hj hn).mpr z.2.2)
    · rcases ey3 with ⟨-, w⟩ | ⟨w, -⟩
      · exact (v6_iff hj hn).mp w
      · rw [w] at q3; exact absurd (by decide) q3
theorem e_isLoose2 {b : Int32} {n : Nat} (hb : b.toInt = n) (hn : n < 96) (σ : sm_S) : xC xD j_B_isLoose [.ref 8, .int b] σ (sm_I (fun x σ' => ((x = 1 ∧ σ 13 n = 0 ∧ σ 14 n = -1) ∨ (x = 0 ∧ ¬ (σ 13 n = 0 ∧ σ 14 n = -1))) ∧ σ' = σ)) := by
  refine d_B_isLoose b σ _ ?_
  rw [t_nat hb]
  refine ⟨t_vp hb hn, fun q => ⟨Or.inl rfl, _, rfl, Or.inr ⟨rfl, fun z => q z.1⟩, rfl⟩, fun q => ⟨t_vp hb hn, fun q2 => ⟨Or.inl rfl, _, rfl, Or.inr ⟨rfl, fun z => q2 z.2⟩, rfl⟩, fun q2 => ⟨Or.inr rfl, _, rfl, Or.inl ⟨rfl, Classical.not_not.mp q, Classical.not_not.mp q2⟩, rfl⟩⟩⟩
theorem e_has2 (b : Int32) (σ : sm_S) : xC xD j_B_has [.ref 8, .int b] σ (sm_I (fun x σ' => ((x = 1 ∧ ∃ n : Nat, n < 96 ∧ b.toInt = n ∧ σ 9 n ≠ -1) ∨ (x = 0 ∧ ((b.toInt < 0 ∨ 96 ≤ b.toInt) ∨ ∃ n : Nat, n < 96 ∧ b.toInt = n ∧ σ 9 n = -1))) ∧ σ' = σ)) := by
  refine d_B_has b σ _ ⟨fun q => ⟨Or.inl rfl, _, rfl, Or.inr ⟨rfl, Or.inl (Or.inl ?_)⟩, rfl⟩, fun q => ⟨fun q2 => ⟨Or.inl rfl, _, rfl, Or.inr ⟨rfl, Or.inl (Or.inr ?_)⟩, rfl⟩, fun q2 => ?_⟩⟩
  · rw [t_lt] at q; exact q
  · rw [t_le] at q2; exact q2
  · rw [t_lt] at q
    rw [t_le] at q2
    have q : ¬ b.toInt < (0 : Int) := q
    have q2 : ¬ (96 : Int) ≤ b.toInt := q2
    obtain ⟨n, hn⟩ := t_of (x := b) (by omega)
    have h96 : n < 96 := by omega
    rw [t_nat hn]
    exact ⟨t_vp hn h96, fun z => ⟨Or.inl rfl, _, rfl, Or.inr ⟨rfl, Or.inr ⟨n, h96, hn, z⟩⟩, rfl⟩, fun z => ⟨Or.inr rfl, _, rfl, Or.inl ⟨rfl, n, h96, hn, z⟩, rfl⟩⟩
/-- has | isBlock -/
theorem p_has {c : sm_S} {v : Nat → Int32} (b : Int32) (h : sim0 c v) : ∃ x : Int32, rdI j_M_isBlock [.ref 0, .int b] v x v ∧ xC xD j_B_has [.ref 8, .int b] c (sm_I (fun y σ' => y = x ∧ σ' = c)) ∧ ((x = 1 ∧ ∃ n : Nat, n < 96 ∧ b.toInt = n ∧ v (786 + 16 * n + 0) = 1) ∨ (x = 0 ∧ ∀ n : Nat, n < 96 → b.toInt = n → v (786 + 16 * n + 0) = 0)) := by
  obtain ⟨x, hx, rx⟩ := pick (e_has2 b c)
  refine ⟨x, fun σ e => (c_isBlock b σ).mono ?_, rx, ?_⟩
  · rintro r σ' ⟨y, rfl, hy, rfl⟩
    rw [e] at hy
    refine ⟨y, rfl, ?_, by rw [← e, s_id]⟩
    rcases hx with ⟨x1, n, n1, n2, n3⟩ | ⟨x0, hx⟩
    · rcases hy with ⟨y1, -⟩ | ⟨y0, hy⟩
      · rw [x1, y1]
      · rcases hy with hy | ⟨m, m1, m2, m3⟩
        · omega
        · have : m = n := by omega
          subst this
          exact absurd ((h.B m m1).one (fun z => n3 ((h.B m m1).iff.mpr z))) m3
    · rcases hy with ⟨y1, m, m1, m2, m3⟩ | ⟨y0, -⟩
      · rcases hx with hx | ⟨n, n1, n2, n3⟩
        · omega
        · have : m = n := by omega
          subst this
          have := (h.B m m1).iff.mp n3
          rw [show 786 + 16 * m + 0 = 786 + 16 * m from rfl, m3] at this
          exact absurd this (by decide)
      · rw [x0, y0]
  · rcases hx with ⟨x1, n, n1, n2, n3⟩ | ⟨x0, hx⟩
    · exact Or.inl ⟨x1, n, n1, n2, (h.B n n1).one (fun z => n3 ((h.B n n1).iff.mpr z))⟩
    · refine Or.inr ⟨x0, fun m m1 m2 => ?_⟩
      rcases hx with hx | ⟨n, n1, n2, n3⟩
      · omega
      · have : m = n := by omega
        subst this
        exact (h.B m m1).iff.mp n3
theorem c_spanOf2 {f : Int32} {n : Nat} (hf : f.toInt = n) (σ : sm_S) : xC xM j_M_spanOf [.ref 0, .int f] σ (sm_I (fun x σ' => x.toInt = ((n / 32 : Nat) : Int) ∧ σ' = σ)) := by
  refine w_M_spanOf f σ _ ⟨by decide, _, rfl, t_div hf (b := 32) rfl (by decide), rfl⟩
/-- nearerPlace, and what the reference asks in its place: block n of task w -/
theorem p_near {g : Prop} {N n fr o w : Nat} {c : sm_S} {v : Nat → Int32} {a1 a3 : Int32} (h : tie g N c v) (hj : jj N v) (hx : jx v) (h3 : a3.toInt = n) (hn : n < 96) (h0 : v (786 + 16 * n + 0) = 1) (e1 : (v (786 + 16 * n + 1)).toInt = fr) (e2 : (v (786 + 16 * n + 2)).toInt = o) (e4 : v (786 + 16 * n + 4) = a1) (h1 : a1.toInt = w) (hw : w < 6) : ∃ x : Int32, xC xD j_Y_nearerPlace [.ref 0, .int a3] c (sm_I (fun y σ' => y = x ∧ σ' = c)) ∧ (∀ (σ : sm_S) (a2 : Int32) (v4 : Value) (Q : Option Value → sm_S → Prop), σ 1 = v → (x = -1 → ∀ u, xE xM m_M_gather 19 [.ref 0, .int a1, .int a2, .int (a3 + 1), u] [] σ Q) → (x ≠ -1 → xC xM j_M_movesTo [.ref 0, .int a3, .int x] σ (sm_rv False (fun σ27 => xE xM m_M_gather 19 [.ref 0, .int a1, .int (a2 + 1), .int (a3 + 1), .int x] [] σ27 Q))) → xE xM m_M_gather 19 [.ref 0, .int a1, .int a2, .int a3, v4] [] σ Q) ∧ (x ≠ -1 → ∃ p : Nat, x.toInt = p ∧ p < 256 ∧ p % 2 ^ o = 0 ∧ (∀ f, p ≤ f → f < p + 2 ^ o → v (18 + 3 * f) = 1) ∧ v (786 + 16 * n + 6) = 0 ∧ v (2358 + 8 * (fr / 32) + 0) = 1) := by
  obtain ⟨o', fr', b1, ho, b3, hfr, hal, -⟩ := hj.2.1.1 n hn
  have eo : o' = o := by omega
  have ef : fr' = fr := by omega
  subst eo ef
  obtain ⟨gb, gb9⟩ := (h.s.B n hn).al h0
  have c9 : (c 9 n).toInt = fr' := by rw [← gb.fir]; exact e1
  have c10 : (c 10 n).toInt = o' := by rw [← gb.ord]; exact e2
  have c12 : c 12 n = a1 := by rw [← gb.own]; exact e4
  have gs := h.s.S (fr' / 32) (by omega)
  have vx := t_vp h3 hn
  have i32 : (c 9 n / (32 : Int32)).toInt = ((fr' / 32 : Nat) : Int) := t_div c9 (b := 32) rfl (by decide)
  -- the reference up to the looseness
  have rb : rdI j_M_isBlock [.ref 0, .int a3] v 1 v := fun σ e => (c_isBlock a3 σ).mono (by
    rintro r σ' ⟨y, rfl, hy, rfl⟩
    rw [e] at hy
    refine ⟨y, rfl, ?_, by rw [← e, s_id]⟩
    rcases hy with ⟨y1, -⟩ | ⟨y0, hy | ⟨m, m1, m2, m3⟩⟩
    · exact y1
    · omega
    · have : m = n := by omega
      subst this
      exact absurd h0 m3)
  have up1 : ∀ (σ : sm_S) (a2 : Int32) (v4 : Value) (Q : Option Value → sm_S → Prop), σ 1 = v → (¬ (v (786 + 16 * n + 3) = 0 ∧ v (786 + 16 * n + 5) = 0 ∧ v (786 + 16 * n + 6) = 0) → xE xM m_M_gather 19 [.ref 0, .int a1, .int a2, .int (a3 + 1), v4] [] σ Q) → ((v (786 + 16 * n + 3) = 0 ∧ v (786 + 16 * n + 5) = 0 ∧ v (786 + 16 * n + 6) = 0) → ((v (2358 + 8 * (fr' / 32)) = 1 → xC xM j_M_of [.ref 0, .int a3, .int 2] σ (sm_ri False (fun x14 σ13 => xC xM j_M_bestPlace [.ref 0, .int a1, .int 0, .int x14, .int 1] σ13 (sm_ri False (fun x16 σ15 => ((x16 = (-1) → xE xM m_M_gather 19 [.ref 0, .int a1, .int a2, .int (a3 + 1), .int x16] [] σ15 Q) ∧ (¬ (x16 = (-1)) → xC xM j_M_spanOf [.ref 0, .int x16] σ15 (sm_ri False (fun x18 σ17 => xC xM j_M_rankOf [.ref 0, .int x18, .int 0, .int a1] σ17 (sm_ri False (fun x20 σ19 => xC xM j_M_frameOf [.ref 0, .int a3] σ19 (sm_ri False (fun x22 σ21 => xC xM j_M_spanOf [.ref 0, .int x22] σ21 (sm_ri False (fun x24 σ23 => xC xM j_M_rankOf [.ref 0, .int x24, .int 0, .int a1] σ23 (sm_ri False (fun x26 σ25 => ((x20 < x26 → xC xM j_M_movesTo [.ref 0, .int a3, .int x16] σ25 (sm_rv False (fun σ27 => xE xM m_M_gather 19 [.ref 0, .int a1, .int (a2 + 1), .int (a3 + 1), .int x16] [] σ27 Q))) ∧ (¬ (x20 < x26) → xE xM m_M_gather 19 [.ref 0, .int a1, .int a2, .int (a3 + 1), .int x16] [] σ25 Q))))))))))))))))))) ∧ (¬ v (2358 + 8 * (fr' / 32)) = 1 → xE xM m_M_gather 19 [.ref 0, .int a1, .int a2, .int (a3 + 1), v4] [] σ Q))) → xE xM m_M_gather 19 [.ref 0, .int a1, .int a2, .int a3, v4] [] σ Q := fun σ a2 v4 Q e k1 k2 => by
    refine w_M_gather_19 a1 a2 a3 v4 σ Q ⟨fun z => ?_, fun _ => (rb σ e).int ?_⟩
    · rw [t_le, h3] at z
      have z : (96 : Int) ≤ n := z
      omega
    · rintro y σ1 ⟨ey, es⟩
      have es' : σ1 = σ := by rw [es, ← e, s_id]
      rw [ey, es']
      refine ⟨fun z => absurd z (by decide), fun _ => (c_of (k := 4) (j := 4) h3 rfl (by omega) σ).int ?_⟩
      rintro y2 σ2 ⟨ey2, es2⟩
      rw [ey2, es2, e, e4]
      refine ⟨fun z => absurd rfl z, fun _ => (r_loose hj h3 hn σ e).int ?_⟩
      rintro y3 σ3 ⟨ey3, es3⟩
      rw [es3]
      refine ⟨fun z => ?_, fun z => ?_⟩
      · rcases ey3 with ⟨w1, -⟩ | ⟨-, w1⟩
        · rw [w1] at z; exact absurd z (by decide)
        · exact k1 w1
      · have w1 : v (786 + 16 * n + 3) = 0 ∧ v (786 + 16 * n + 5) = 0 ∧ v (786 + 16 * n + 6) = 0 := by
          rcases ey3 with ⟨-, w1⟩ | ⟨w0, -⟩
          · exact w1
          · exact absurd w0 z
        refine (c_frameOf h3 hn σ).int ?_
        rintro y4 σ4 ⟨ey4, es4⟩
        rw [ey4, es4, e]
        refine (c_spanOf2 e1 σ).int ?_
        rintro y5 σ5 ⟨ey5, es5⟩
        rw [es5]
        refine (c_spanState ey5 (by omega) σ).int ?_
        rintro y6 σ6 ⟨ey6, es6⟩
        rw [ey6, es6, e]
        exact k2 w1
  by_cases lo : v (786 + 16 * n + 3) = 0 ∧ v (786 + 16 * n + 5) = 0 ∧ v (786 + 16 * n + 6) = 0
  · have upC : ∀ {Q : Option Value → sm_S → Prop}, (((c 18 (fr' / 32)) = 1 → (vp_in a3 96 ∧ (vp_in a3 96 ∧ xC xD j_Y_bestPlace [.ref 0, .int (c 12 n), .int 0, .int (c 10 n), .int 1] c (sm_ri False (fun x4 σ3 => ((x4 ≠ (-1) → (vp_in (c 12 n) 6 ∧ (¬ (32 : Int32) = 0 ∧ xC xD j_Y_rank [.ref 0, .int (x4 / (32 : Int32)), .int 0, .int (σ3 27 (c 12 n).toNatClampNeg)] σ3 (sm_ri False (fun x6 σ5 => xC xD j_Y_rank [.ref 0, .int ((c 9 n) / (32 : Int32)), .int 0, .int (σ3 27 (c 12 n).toNatClampNeg)] σ5 (sm_ri False (fun x8 σ7 => ((x8 ≤ x6 → (((0 : Int32) = 0 → Q (some (.int (-1))) σ7) ∧ (¬ ((0 : Int32) = 0) → Q (some (.int x4)) σ7))) ∧ (¬ (x8 ≤ x6) → (((1 : Int32) = 0 → Q (some (.int (-1))) σ7) ∧ (¬ ((1 : Int32) = 0) → Q (some (.int x4)) σ7))))))))))) ∧ (¬ (x4 ≠ (-1)) → Q (some (.int (-1))) σ3))))))) ∧ (¬ ((c 18 (fr' / 32)) = 1) → Q (some (.int (-1))) c)) → xC xD j_Y_nearerPlace [.ref 0, .int a3] c Q := fun {Q} hQ => by
      refine d_Y_nearerPlace a3 c Q ?_
      rw [t_nat h3]
      refine ⟨vx, by decide, vx, fun z => absurd (gb.kin.symm.trans lo.1) z, fun _ => (e_isLoose2 h3 hn c).int ?_⟩
      rintro y σ1 ⟨ey, es⟩
      rw [es]
      refine ⟨fun z => ?_, fun _ => ?_⟩
      · rcases ey with ⟨w1, -⟩ | ⟨-, w1⟩
        · rw [w1] at z; exact absurd z (by decide)
        · exact absurd ⟨gb.pin.symm.trans lo.2.1, (c14_iff gb).mpr lo.2.2⟩ w1
      · rw [t_nat i32]
        exact ⟨t_vp i32 (by omega), hQ⟩
    have st : v (2358 + 8 * (fr' / 32)) = c 18 (fr' / 32) := gs.sta
    by_cases on : c 18 (fr' / 32) = 1
    · obtain ⟨y, ry, rcy, hBP⟩ := p_best (a1 := a1) (a2 := 0) (a3 := c 10 n) (a4 := 1) h.s hx h1 hw c10 ho
      have hom : c 27 w = v (2322 + 6 * w) := (h.s.T w hw).hom.symm
      by_cases ym : y = -1
      · refine ⟨-1, upC ⟨fun _ => ⟨vx, vx, ?_⟩, fun z => absurd on z⟩, fun σ a2 v4 Q e k1 k2 => ?_, fun z => absurd rfl z⟩
        · rw [c12]
          refine rcy.int ?_
          rintro y1 σ1 ⟨ey1, es1⟩
          rw [ey1, es1]
          exact ⟨fun z => absurd ym z, fun _ => ⟨_, rfl, rfl, rfl⟩⟩
        · refine up1 σ a2 v4 Q e (fun z => absurd lo z) (fun _ => ⟨fun _ => (c_of (k := 2) (j := 2) h3 rfl (by omega) σ).int ?_, fun z => absurd (st.trans on) z⟩)
          rintro y1 σ1 ⟨ey1, es1⟩
          rw [ey1, es1, e, gb.ord]
          refine (ry σ e).int ?_
          rintro y2 σ2 ⟨ey2, es2⟩
          have es2' : σ2 = σ := by rw [es2, ← e, s_id]
          rw [ey2, es2']
          exact ⟨fun _ => k1 rfl _, fun z => absurd ym z⟩
      · rcases hBP with ⟨z, -⟩ | ⟨p, hp, ⟨hp2, hpa, -, hon, hfree⟩, -⟩
        · exact absurd z ym
        · have ip : (y / (32 : Int32)).toInt = ((p / 32 : Nat) : Int) := t_div hp (b := 32) rfl (by decide)
          have onp : v (2358 + 8 * (p / 32) + 0) = 1 := by
            rcases hon with z | z
            · exact absurd z (by decide)
            · exact z
          have rk1 : rkc (c 27 w) 0 (c 19 (p / 32)) (p / 32) = rkf (v (2322 + 6 * w)) 0 (zV v (p / 32)) (p / 32) := sim_rk (m := w) 0 h.s hx (by omega) hw (by rw [onp]; decide)
          have rk2 : rkc (c 27 w) 0 (c 19 (fr' / 32)) (fr' / 32) = rkf (v (2322 + 6 * w)) 0 (zV v (fr' / 32)) (fr' / 32) := sim_rk (m := w) 0 h.s hx (by omega) hw (by rw [gs.sta, on]; decide)
          have iw : (c 12 n).toInt = w := by rw [c12]; exact h1
          refine ⟨if rkf (v (2322 + 6 * w)) 0 (zV v (fr' / 32)) (fr' / 32) ≤ rkf (v (2322 + 6 * w)) 0 (zV v (p / 32)) (p / 32) then -1 else y, upC ⟨fun _ => ⟨vx, vx, ?_⟩, fun z => absurd on z⟩, fun σ a2 v4 Q e k1 k2 => ?_, fun z => ?_⟩
          · rw [c12]
            refine rcy.int ?_
            rintro y1 σ1 ⟨ey1, es1⟩
            rw [ey1, es1]
            refine ⟨fun _ => ⟨t_vp h1 hw, by decide, (e_rank2 ip (by omega) _ _ c).int ?_⟩, fun z => absurd ym z⟩
            rintro y2 σ2 ⟨ey2, es2⟩
            rw [es2]
            refine (e_rank2 i32 (by omega) _ _ c).int ?_
            rintro y3 σ3 ⟨ey3, es3⟩
            rw [es3, ey2, ey3, t_nat h1, rk1, rk2]
            refine ⟨fun z => ⟨fun _ => ⟨_, rfl, by rw [if_pos z], rfl⟩, fun w1 => absurd rfl w1⟩, fun z => ⟨fun w1 => absurd w1 (by decide), fun _ => ⟨_, rfl, by rw [if_neg z], rfl⟩⟩⟩
          · refine up1 σ a2 v4 Q e (fun z => absurd lo z) (fun _ => ⟨fun _ => (c_of (k := 2) (j := 2) h3 rfl (by omega) σ).int ?_, fun z => absurd (st.trans on) z⟩)
            rintro y1 σ1 ⟨ey1, es1⟩
            rw [ey1, es1, e, gb.ord]
            refine (ry σ e).int ?_
            rintro y2 σ2 ⟨ey2, es2⟩
            have es2' : σ2 = σ := by rw [es2, ← e, s_id]
            rw [ey2, es2']
            refine ⟨fun z => absurd z ym, fun _ => (c_spanOf2 hp σ).int ?_⟩
            rintro y3 σ3 ⟨ey3, es3⟩
            rw [es3]
            refine (c_rankOf2 ey3 (by omega) h1 hw σ).int ?_
            rintro y4 σ4 ⟨ey4, es4⟩
            rw [es4]
            refine (c_frameOf h3 hn σ).int ?_
            rintro y5 σ5 ⟨ey5, es5⟩
            rw [es5, ey5, e]
            refine (c_spanOf2 e1 σ).int ?_
            rintro y6 σ6 ⟨ey6, es6⟩
            rw [es6]
            refine (c_rankOf2 ey6 (by omega) h1 hw σ).int ?_
            rintro y7 σ7 ⟨ey7, es7⟩
            rw [es7, ey4, ey7, e]
            by_cases z : rkf (v (2322 + 6 * w)) 0 (zV v (fr' / 32)) (fr' / 32) ≤ rkf (v (2322 + 6 * w)) 0 (zV v (p / 32)) (p / 32)
            · rw [if_pos z] at k1 k2
              refine ⟨fun q => ?_, fun _ => k1 rfl _⟩
              rw [t_le] at z
              rw [t_lt] at q
              omega
            · rw [if_neg z] at k1 k2
              refine ⟨fun _ => k2 ym, fun q => absurd ?_ q⟩
              rw [t_le] at z
              rw [t_lt]
              omega
          · by_cases q : rkf (v (2322 + 6 * w)) 0 (zV v (fr' / 32)) (fr' / 32) ≤ rkf (v (2322 + 6 * w)) 0 (zV v (p / 32)) (p / 32)
            · rw [if_pos q] at z
              exact absurd rfl z
            · rw [if_neg q]
              refine ⟨p, hp, hp2, hpa, fun f f1 f2 => ?_, lo.2.2, st.trans on⟩
              have := hfree (f - p) (by omega)
              rw [al_pow hpa, show p + (f - p) = f by omega] at this
              exact this
    · refine ⟨-1, upC ⟨fun z => absurd z on, fun _ => ⟨_, rfl, rfl, rfl⟩⟩, fun σ a2 v4 Q e k1 k2 => ?_, fun z => absurd rfl z⟩
      exact up1 σ a2 v4 Q e (fun z => absurd lo z) (fun _ => ⟨fun z => absurd (st.symm.trans z) on, fun _ => k1 rfl _⟩)
  · refine ⟨-1, ?_, fun σ a2 v4 Q e k1 k2 => up1 σ a2 v4 Q e (fun _ => k1 rfl _) (fun z => absurd z lo), fun z => absurd rfl z⟩
    refine d_Y_nearerPlace a3 c _ ?_
    rw [t_nat h3]
    refine ⟨vx, by decide, vx, fun _ => ⟨_, rfl, rfl, rfl⟩, fun z => (e_isLoose2 h3 hn c).int ?_⟩
    rintro y σ1 ⟨ey, es⟩
    rw [es]
    refine ⟨fun _ => ⟨_, rfl, rfl, rfl⟩, fun q => ?_⟩
    rcases ey with ⟨-, w1, w2⟩ | ⟨w0, -⟩
    · exact absurd ⟨gb.kin.trans (Classical.not_not.mp z), gb.pin.trans w1, (c14_iff gb).mp w2⟩ lo
    · exact absurd w0 q
theorem l_gather2 {g : Prop} {w : Nat} {a1 : Int32} (h1 : a1.toInt = w) (hw : w < 6) : ∀ (d k N : Nat) (a2 a3 : Int32) (c : sm_S) (v : Nat → Int32), tie g N c v → jj N v → jx v → a3.toInt = k → k + d = 96 → ∃ v' c' y, (∀ (σ : sm_S) (v4 : Value), σ 1 = v → xE xM m_M_gather 19 [.ref 0, .int a1, .int a2, .int a3, v4] [] σ (sm_I (fun x σ' => x = y ∧ σ' = sm_set σ 1 v'))) ∧ (∀ v4 : Value, xE xD m_Y_bringNearer 4 [.ref 0, .int a1, .int a2, .int a3, v4] [] c (sm_I (fun x σ' => x = y ∧ σ' = c'))) ∧ tie g N c' v' ∧ jj N v' ∧ jx v' := by
  intro d
  induction d with
  | zero =>
    intro k N a2 a3 c v h hj hx h3 hk
    have q96 : (96 : Int32) ≤ a3 := by
      rw [t_le, h3]
      show (96 : Int) ≤ _
      omega
    exact ⟨v, c, a2, fun σ v4 e => w_M_gather_19 a1 a2 a3 v4 σ _ ⟨fun _ => ⟨_, rfl, rfl, by rw [← e, s_id]⟩, fun z => absurd q96 z⟩, fun v4 => d_Y_bringNearer_4 a1 a2 a3 v4 c _ ⟨fun _ => ⟨_, rfl, rfl, rfl⟩, fun z => absurd q96 z⟩, h, hj, hx⟩
  | succ d ih =>
    intro k N a2 a3 c v h hj hx h3 hk
    have n96 : ¬ (96 : Int32) ≤ a3 := by
      rw [t_le, h3]
      show ¬ (96 : Int) ≤ _
      omega
    have hn : k < 96 := by omega
    have h3' : (a3 + 1).toInt = ((k + 1 : Nat) : Int) := by
      rw [t_add h3 (y := 1) rfl (by omega) (by omega)]
      omega
    obtain ⟨x, rx, rcx, hxx⟩ := p_has a3 h.s
    rcases hxx with ⟨x1, n, n1, n2, h0⟩ | ⟨x0, hno⟩
    · have en : n = k := by omega
      subst en
      obtain ⟨o, fr, b1, ho, b3, hfr, hal, -⟩ := hj.2.1.1 n hn
      obtain ⟨gb, -⟩ := (h.s.B n hn).al h0
      by_cases ow : v (786 + 16 * n + 4) = a1
      · obtain ⟨y, rcy, ref, hy⟩ := p_near h hj hx h3 hn h0 b3 b1 ow h1 hw
        have upC : ∀ {Q : Option Value → sm_S → Prop} (v4 : Value), ((y = (-1) → xE xD m_Y_bringNearer 4 [.ref 0, .int a1, .int a2, .int (a3 + 1), .int y] [] c Q) ∧ (¬ (y = (-1)) → xC xD j_Y_moveAtOnce [.ref 0, .int a3, .int y] c (sm_rv False (fun σ7 => xE xD m_Y_bringNearer 4 [.ref 0, .int a1, .int (a2 + 1), .int (a3 + 1), .int y] [] σ7 Q)))) → xE xD m_Y_bringNearer 4 [.ref 0, .int a1, .int a2, .int a3, v4] [] c Q := fun {Q} v4 hQ => by
          refine d_Y_bringNearer_4 a1 a2 a3 v4 c Q ⟨fun z => absurd z n96, fun _ => rcx.int ?_⟩
          rintro y1 σ1 ⟨ey1, es1⟩
          rw [ey1, es1]
          refine ⟨fun z => ?_, fun _ => ⟨t_vp h3 hn, fun z => ?_, fun _ => rcy.int ?_⟩⟩
          · rw [x1] at z; exact absurd z (by decide)
          · rw [t_nat h3, ← gb.own] at z
            exact absurd ow z
          · rintro y2 σ2 ⟨ey2, es2⟩
            rw [ey2, es2]
            exact hQ
        by_cases ym : y = -1
        · obtain ⟨v', c', y', qr, qc, t', j', x'⟩ := ih (n + 1) N a2 (a3 + 1) c v h hj hx h3' (by omega)
          exact ⟨v', c', y', fun σ v4 e => ref σ a2 v4 _ e (fun _ u => qr σ u e) (fun z => absurd ym z), fun v4 => upC v4 ⟨fun _ => qc _, fun z => absurd ym z⟩, t', j', x'⟩
        · obtain ⟨p, hp, hp2, hpa, hfree, h6, hst⟩ := hy ym
          obtain ⟨c1, rr, rc, t1, j1, x1', -⟩ := p_move h hj hx h3 hn h0 b3 h6 b1 hst hp hp2 hpa hfree
          obtain ⟨v', c', y', qr, qc, t', j', x'⟩ := ih (n + 1) N (a2 + 1) (a3 + 1) c1 _ t1 j1 x1' h3' (by omega)
          refine ⟨v', c', y', fun σ v4 e => ref σ a2 v4 _ e (fun z => absurd z ym) (fun _ => (rr σ e).void ?_), fun v4 => upC v4 ⟨fun z => absurd z ym, fun _ => rc.void ?_⟩, t', j', x'⟩
          · rintro _ rfl
            have := qr _ (.int y) (s_at (σ := σ) (k := 1) (f := cnF (mwF v n fr p o (a3 + 1) y) 10 1))
            rw [s_ss] at this
            exact this
          · rintro _ rfl
            exact qc _
      · obtain ⟨v', c', y', qr, qc, t', j', x'⟩ := ih (n + 1) N a2 (a3 + 1) c v h hj hx h3' (by omega)
        refine ⟨v', c', y', fun σ v4 e => ?_, fun v4 => ?_, t', j', x'⟩
        · refine w_M_gather_19 a1 a2 a3 v4 σ _ ⟨fun z => absurd z n96, fun _ => (rx σ e).int ?_⟩
          rintro y1 σ1 ⟨ey1, es1⟩
          have es1' : σ1 = σ := by rw [es1, ← e, s_id]
          rw [ey1, es1']
          refine ⟨fun _ => qr σ v4 e, fun _ => (c_of (k := 4) (j := 4) h3 rfl (by omega) σ).int ?_⟩
          rintro y2 σ2 ⟨ey2, es2⟩
          rw [ey2, es2, e]
          exact ⟨fun _ => qr σ v4 e, fun z => absurd ow z⟩
        · refine d_Y_bringNearer_4 a1 a2 a3 v4 c _ ⟨fun z => absurd z n96, fun _ => rcx.int ?_⟩
          rintro y1 σ1 ⟨ey1, es1⟩
          rw [ey1, es1]
          refine ⟨fun _ => ⟨fun _ => qc _, fun z => absurd rfl z⟩, fun _ => ⟨t_vp h3 hn, fun _ => ⟨fun _ => qc _, fun z => absurd rfl z⟩, fun z => ?_⟩⟩
          rw [t_nat h3, ← gb.own] at z
          exact absurd ow z
    · obtain ⟨v', c', y', qr, qc, t', j', x'⟩ := ih (k + 1) N a2 (a3 + 1) c v h hj hx h3' (by omega)
      refine ⟨v', c', y', fun σ v4 e => ?_, fun v4 => ?_, t', j', x'⟩
      · refine w_M_gather_19 a1 a2 a3 v4 σ _ ⟨fun z => absurd z n96, fun _ => (rx σ e).int ?_⟩
        rintro y1 σ1 ⟨ey1, es1⟩
        have es1' : σ1 = σ := by rw [es1, ← e, s_id]
        rw [ey1, es1']
        exact ⟨fun _ => qr σ v4 e, fun z => absurd x0 z⟩
      · refine d_Y_bringNearer_4 a1 a2 a3 v4 c _ ⟨fun z => absurd z n96, fun _ => rcx.int ?_⟩
        rintro y1 σ1 ⟨ey1, es1⟩
        rw [ey1, es1]
        exact ⟨fun _ => ⟨fun _ => qc _, fun z => absurd rfl z⟩, fun z => absurd x0 z⟩
end
section
/-! ===== the simulation: take ===== -/
def lucV (v : Nat → Int32) (x : Int32) : Prop := x = -1 ∨ ∃ n : Nat, n < 96 ∧ x.toInt = n ∧ v (786 + 16 * n + 0) = 1 ∧ v (786 + 16 * n + 3) = 2 ∧ v (786 + 16 * n + 6) = 0
theorem l_luc2 {N : Nat} {c : sm_S} {v : Nat → Int32} (h : sim0 c v) (hj : jj N v) : ∀ (d k : Nat) (a1 a2 : Int32), a2.toInt = k → k + d = 96 → lucV v a1 → ∃ y : Int32, (∀ σ : sm_S, σ 1 = v → xE xM m_M_leastUsed 4 [.ref 0, .int a1, .int a2] [] σ (sm_I (fun x σ' => x = y ∧ σ' = σ))) ∧ xE xD m_B_leastUsedCache 4 [.ref 8, .int a1, .int a2] [] c (sm_I (fun x σ' => x = y ∧ σ' = c)) ∧ lucV v y := by
  intro d
  induction d with
  | zero =>
    intro k a1 a2 h2 hk ha
    have q96 : (96 : Int32) ≤ a2 := by
      rw [t_le, h2]
      show (96 : Int) ≤ _
      omega
    exact ⟨a1, fun σ e => w_M_leastUsed_4 a1 a2 σ _ ⟨fun _ => ⟨_, rfl, rfl, rfl⟩, fun z => absurd q96 z⟩, d_B_leastUsedCache_4 a1 a2 c _ ⟨fun _ => ⟨_, rfl, rfl, rfl⟩, fun z => absurd q96 z⟩, ha⟩
  | succ d ih =>
    intro k a1 a2 h2 hk ha
    have n96 : ¬ (96 : Int32) ≤ a2 := by
      rw [t_le, h2]
      show ¬ (96 : Int) ≤ _
      omega
    have hn : k < 96 := by omega
    have h2' : (a2 + 1).toInt = ((k + 1 : Nat) : Int) := by
      rw [t_add h2 (y := 1) rfl (by omega) (by omega)]
      omega
    have vx := t_vp h2 hn
    obtain ⟨y0, r0, e0, l0⟩ := ih (k + 1) a1 (a2 + 1) h2' (by omega) ha
    have run : ∀ j : Nat, j < 16 → ∀ kI : Int32, kI.toInt = j → ∀ σ : sm_S, σ 1 = v → xC xM j_M_of [.ref 0, .int a2, .int kI] σ (sm_I (fun y σ' => y = v (786 + 16 * k + j) ∧ σ' = σ)) := fun j hj kI hk σ e => by
      have := c_of h2 hk (by omega) σ
      rw [e] at this
      exact this
    by_cases al : v (786 + 16 * k + 0) = 1
    · obtain ⟨gb, gb9⟩ := (h.B k hn).al al
      by_cases kd : v (786 + 16 * k + 3) = 2
      · by_cases lo : v (786 + 16 * k + 5) = 0 ∧ v (786 + 16 * k + 6) = 0
        · have new : lucV v a2 := Or.inr ⟨k, hn, h2, al, kd, lo.2⟩
          obtain ⟨y1, r1, e1, l1⟩ := ih (k + 1) a2 (a2 + 1) h2' (by omega) new
          have upR : ∀ (σ : sm_S) (Q : Option Value → sm_S → Prop), σ 1 = v → ((a1 = (-1) → xE xM m_M_leastUsed 4 [.ref 0, .int a2, .int (a2 + 1)] [] σ Q) ∧ (¬ (a1 = (-1)) → xC xM j_M_of [.ref 0, .int a2, .int 8] σ (sm_ri False (fun x10 σ9 => xC xM j_M_of [.ref 0, .int a1, .int 8] σ9 (sm_ri False (fun x12 σ11 => ((x12 ≤ x10 → xE xM m_M_leastUsed 4 [.ref 0, .int a1, .int (a2 + 1)] [] σ11 Q) ∧ (¬ (x12 ≤ x10) → xE xM m_M_leastUsed 4 [.ref 0, .int a2, .int (a2 + 1)] [] σ11 Q)))))))) → xE xM m_M_leastUsed 4 [.ref 0, .int a1, .int a2] [] σ Q := fun σ Q e hQ => by
            refine w_M_leastUsed_4 a1 a2 σ Q ⟨fun z => absurd z n96, fun _ => (run 0 (by decide) 0 rfl σ e).int ?_⟩
            rintro z1 σ1 ⟨ez1, es1⟩
            rw [ez1, es1, al]
            refine ⟨fun z => absurd rfl z, fun _ => (run 3 (by decide) 3 rfl σ e).int ?_⟩
            rintro z2 σ2 ⟨ez2, es2⟩
            rw [ez2, es2, kd]
            refine ⟨fun z => absurd rfl z, fun _ => (c_isPinned h2 hn σ).int ?_⟩
            rintro z3 σ3 ⟨ez3, es3⟩
            rw [e] at ez3
            rw [es3]
            refine ⟨fun z => ?_, fun _ => (c_isOnWay h2 hn σ).int ?_⟩
            · rcases ez3 with ⟨w, -⟩ | ⟨-, w⟩
              · exact absurd w z
              · exact absurd lo.1 w
            · rintro z4 σ4 ⟨ez4, es4⟩
              rw [e] at ez4
              rw [es4]
              refine ⟨fun z => ?_, fun _ => hQ⟩
              rcases ez4 with ⟨w, -⟩ | ⟨-, w⟩
              · exact absurd w z
              · exact absurd ((v6_iff hj hn).mpr lo.2) w
          have upC : ∀ {Q : Option Value → sm_S → Prop}, ((a1 = (-1) → xE xD m_B_leastUsedCache 4 [.ref 8, .int a2, .int (a2 + 1)] [] c Q) ∧ (¬ (a1 = (-1)) → (vp_in a2 96 ∧ (vp_in a1 96 ∧ (((c 16 (a1).toNatClampNeg) ≤ (c 16 k) → xE xD m_B_leastUsedCache 4 [.ref 8, .int a1, .int (a2 + 1)] [] c Q) ∧ (¬ ((c 16 (a1).toNatClampNeg) ≤ (c 16 k)) → xE xD m_B_leastUsedCache 4 [.ref 8, .int a2, .int (a2 + 1)] [] c Q)))))) → xE xD m_B_leastUsedCache 4 [.ref 8, .int a1, .int a2] [] c Q := fun {Q} hQ => by
            refine d_B_leastUsedCache_4 a1 a2 c Q ⟨fun z => absurd z n96, fun _ => ?_⟩
            rw [t_nat h2]
            refine ⟨vx, fun z => absurd z gb9, fun _ => ⟨vx, fun z => absurd (gb.kin.symm.trans kd) z, fun _ => (e_isLoose2 h2 hn c).int ?_⟩⟩
            rintro z1 σ1 ⟨ez1, es1⟩
            rw [es1]
            refine ⟨fun z => ?_, fun _ => hQ⟩
            rcases ez1 with ⟨w, -⟩ | ⟨-, w⟩
            · rw [w] at z; exact absurd z (by decide)
            · exact absurd ⟨gb.pin.symm.trans lo.1, (c14_iff gb).mpr lo.2⟩ w
          by_cases am : a1 = -1
          · exact ⟨y1, fun σ e => upR σ _ e ⟨fun _ => r1 σ e, fun z => absurd am z⟩, upC ⟨fun _ => e1, fun z => absurd am z⟩, l1⟩
          · rcases ha with z | ⟨m, m1, m2, m3, -⟩
            · exact absurd z am
            · obtain ⟨gm, -⟩ := (h.B m m1).al m3
              have run8 : ∀ σ : sm_S, σ 1 = v → xC xM j_M_of [.ref 0, .int a1, .int 8] σ (sm_I (fun y σ' => y = v (786 + 16 * m + 8) ∧ σ' = σ)) := fun σ e => by
                have := c_of (k := 8) (j := 8) m2 rfl (by omega) σ
                rw [e] at this
                exact this
              by_cases le : v (786 + 16 * m + 8) ≤ v (786 + 16 * k + 8)
              · refine ⟨y0, fun σ e => upR σ _ e ⟨fun z => absurd z am, fun _ => (run 8 (by decide) 8 rfl σ e).int ?_⟩, upC ⟨fun z => absurd z am, fun _ => ⟨vx, t_vp m2 m1, fun _ => e0, fun z => absurd ?_ z⟩⟩, l0⟩
                · rintro z1 σ1 ⟨ez1, es1⟩
                  rw [ez1, es1]
                  refine (run8 σ e).int ?_
                  rintro z2 σ2 ⟨ez2, es2⟩
                  rw [ez2, es2]
                  exact ⟨fun _ => r0 σ e, fun z => absurd le z⟩
                · rw [t_nat m2, ← gm.use, ← gb.use]
                  exact le
              · refine ⟨y1, fun σ e => upR σ _ e ⟨fun z => absurd z am, fun _ => (run 8 (by decide) 8 rfl σ e).int ?_⟩, upC ⟨fun z => absurd z am, fun _ => ⟨vx, t_vp m2 m1, fun z => absurd ?_ le, fun _ => e1⟩⟩, l1⟩
                · rintro z1 σ1 ⟨ez1, es1⟩
                  rw [ez1, es1]
                  refine (run8 σ e).int ?_
                  rintro z2 σ2 ⟨ez2, es2⟩
                  rw [ez2, es2]
                  exact ⟨fun z => absurd z le, fun _ => r1 σ e⟩
                · rw [t_nat m2, ← gm.use, ← gb.use] at z
                  exact z
        · refine ⟨y0, fun σ e => ?_, ?_, l0⟩
          · refine w_M_leastUsed_4 a1 a2 σ _ ⟨fun z => absurd z n96, fun _ => (run 0 (by decide) 0 rfl σ e).int ?_⟩
            rintro z1 σ1 ⟨ez1, es1⟩
            rw [ez1, es1, al]
            refine ⟨fun z => absurd rfl z, fun _ => (run 3 (by decide) 3 rfl σ e).int ?_⟩
            rintro z2 σ2 ⟨ez2, es2⟩
            rw [ez2, es2, kd]
            refine ⟨fun z => absurd rfl z, fun _ => (c_isPinned h2 hn σ).int ?_⟩
            rintro z3 σ3 ⟨ez3, es3⟩
            rw [e] at ez3
            rw [es3]
            refine ⟨fun _ => r0 σ e, fun q => (c_isOnWay h2 hn σ).int ?_⟩
            rintro z4 σ4 ⟨ez4, es4⟩
            rw [e] at ez4
            rw [es4]
            refine ⟨fun _ => r0 σ e, fun q2 => absurd ⟨?_, ?_⟩ lo⟩
            · rcases ez3 with ⟨-, w⟩ | ⟨w, -⟩
              · exact w
              · rw [w] at q; exact absurd (by decide) q
            · rcases ez4 with ⟨-, w⟩ | ⟨w, -⟩
              · exact (v6_iff hj hn).mp w
              · rw [w] at q2; exact absurd (by decide) q2
          · refine d_B_leastUsedCache_4 a1 a2 c _ ⟨fun z => absurd z n96, fun _ => ?_⟩
            rw [t_nat h2]
            refine ⟨vx, fun z => absurd z gb9, fun _ => ⟨vx, fun _ => e0, fun _ => (e_isLoose2 h2 hn c).int ?_⟩⟩
            rintro z1 σ1 ⟨ez1, es1⟩
            rw [es1]
            refine ⟨fun _ => e0, fun q => ?_⟩
            rcases ez1 with ⟨-, w1, w2⟩ | ⟨w, -⟩
            · exact absurd ⟨gb.pin.trans w1, (c14_iff gb).mp w2⟩ lo
            · exact absurd w q
      · refine ⟨y0, fun σ e => ?_, ?_, l0⟩
        · refine w_M_leastUsed_4 a1 a2 σ _ ⟨fun z => absurd z n96, fun _ => (run 0 (by decide) 0 rfl σ e).int ?_⟩
          rintro z1 σ1 ⟨ez1, es1⟩
          rw [ez1, es1]
          refine ⟨fun _ => r0 σ e, fun _ => (run 3 (by decide) 3 rfl σ e).int ?_⟩
          rintro z2 σ2 ⟨ez2, es2⟩
          rw [ez2, es2]
          exact ⟨fun _ => r0 σ e, fun z => absurd kd z⟩
        · refine d_B_leastUsedCache_4 a1 a2 c _ ⟨fun z => absurd z n96, fun _ => ?_⟩
          rw [t_nat h2]
          refine ⟨vx, fun _ => e0, fun _ => ⟨vx, fun _ => e0, fun z => absurd ?_ z⟩⟩
          rw [← gb.kin]
          exact kd
    · refine ⟨y0, fun σ e => ?_, ?_, l0⟩
      · refine w_M_leastUsed_4 a1 a2 σ _ ⟨fun z => absurd z n96, fun _ => (run 0 (by decide) 0 rfl σ e).int ?_⟩
        rintro z1 σ1 ⟨ez1, es1⟩
        rw [ez1, es1]
        exact ⟨fun _ => r0 σ e, fun z => absurd al z⟩
      · refine d_B_leastUsedCache_4 a1 a2 c _ ⟨fun z => absurd z n96, fun _ => ?_⟩
        rw [t_nat h2]
        refine ⟨vx, fun _ => e0, fun z => absurd ((h.B k hn).iff.mpr ?_) z⟩
        exact Classical.byContradiction (fun w => al ((h.B k hn).one w))
/-- leastUsedCache | leastUsed -/
theorem p_luc {N : Nat} {c : sm_S} {v : Nat → Int32} (h : sim0 c v) (hj : jj N v) : ∃ y : Int32, rdI j_M_leastUsed [.ref 0] v y v ∧ xC xD j_B_leastUsedCache [.ref 8] c (sm_I (fun x σ' => x = y ∧ σ' = c)) ∧ lucV v y := by
  obtain ⟨y, r, e, l⟩ := l_luc2 h hj 96 0 (-1) 0 rfl rfl (Or.inl rfl)
  refine ⟨y, fun σ es => (w_M_leastUsed σ _ (r σ es)).mono ?_, d_B_leastUsedCache c _ e, l⟩
  rintro r0 σ' ⟨x, rfl, hx, rfl⟩
  exact ⟨x, rfl, hx, by rw [← es, s_id]⟩
/-- the values of a block that comes -/
def tvF (v : Nat → Int32) (p : Nat) (x : Int32) : Nat → Nat → Int32
  | 0 => v
  | k + 1 => upd (tvF v p x k) (18 + 3 * (p + k) + 2) (x + nI k)
def tvC (w : Nat → Int32) (p : Nat) (x : Int32) : Nat → Nat → Int32
  | 0 => w
  | k + 1 => upd (tvC w p x k) (p + k) (x + nI k)
theorem tvF_o {v : Nat → Int32} {p i : Nat} {x : Int32} : ∀ {k : Nat}, (i < 18 ∨ 786 ≤ i ∨ i % 3 ≠ 2) → p + k ≤ 256 → tvF v p x k i = v i
  | 0, _, _ => rfl
  | k + 1, h, hp => by
    show upd (tvF v p x k) (18 + 3 * (p + k) + 2) (x + nI k) i = v i
    rw [u_ne (by omega), tvF_o h (by omega)]
theorem tie_tv {g : Prop} {N p : Nat} {x : Int32} {c : sm_S} {v : Nat → Int32} (h : tie g N c v) : ∀ k, p + k ≤ 256 → tie g N (sm_set c 7 (tvC (c 7) p x k)) (tvF v p x k)
  | 0, _ => by
    show tie g N (sm_set c 7 (c 7)) v
    rw [s_id]
    exact h
  | k + 1, hp => by
    have t := tie_tv (p := p) (x := x) h k (by omega)
    have s := sim_val (f := p + k) (x + nI k) t.s t.b (by omega)
    rw [s_at, s_ss] at s
    exact t.to s (fun j h1 h2 => by rw [s_ne (by omega), s_ne (by omega)]) (u_ne (by omega)) (fun i hi => u_ne (by omega)) (fun b hb => bk_cong (fun j _ _ _ _ => u_ne (by omega)) (t.b b hb))
theorem l_tv2 {a1 a2 a3 a4 a5 a6 : Int32} {o p : Nat} (h3 : a3.toInt = o) (ho : o ≤ 4) (h5 : a5.toInt = p) (hp : p + 2 ^ o ≤ 256) (v : Nat → Int32) : ∀ (d k : Nat) (a7 : Int32) (σ : sm_S), σ 1 = tvF v p a4 k → a7.toInt = k → k + d = 2 ^ o → xE xM m_M_take 135 [.ref 0, .int a1, .int a2, .int a3, .int a4, .int a5, .int a6, .int a7] [] σ (sm_I (fun y σ' => y = a6 ∧ σ' = sm_set σ 1 (cnF (tvF v p a4 (2 ^ o)) 0 1))) := by
  have hpw := t_pw (k := o) (by omega)
  intro d
  induction d with
  | zero =>
    intro k a7 σ hσ h7 hk
    have hk : k = 2 ^ o := by omega
    subst hk
    refine w_M_take_135 a1 a2 a3 a4 a5 a6 a7 σ _ ⟨fun _ => (c_counts (j := 0) rfl (by decide) 1 σ).void ?_, fun z => absurd ?_ z⟩
    · rintro _ rfl
      exact ⟨_, rfl, rfl, by rw [hσ]; rfl⟩
    · rw [t_le, t_pow h3 (by omega), h7]
      omega
  | succ d ih =>
    intro k a7 σ hσ h7 hk
    have h7' : (a7 + 1).toInt = ((k + 1 : Nat) : Int) := by
      rw [t_add h7 (y := 1) rfl (by omega) (by omega)]
      omega
    have hq : (a5 + a7).toInt = ((p + k : Nat) : Int) := by
      rw [t_add h5 h7 (by omega) (by omega)]
      omega
    refine w_M_take_135 a1 a2 a3 a4 a5 a6 a7 σ _ ⟨fun z => ?_, fun _ => (c_lays hq (by omega) _ σ).void ?_⟩
    · rw [t_le, t_pow h3 (by omega), h7] at z
      omega
    · rintro _ rfl
      have e : upd (σ 1) (18 + 3 * (p + k) + 2) (a4 + a7) = tvF v p a4 (k + 1) := by
        rw [hσ, t_nI h7]
        rfl
      rw [e]
      have := ih (k + 1) (a7 + 1) (sm_set σ 1 (tvF v p a4 (k + 1))) s_at h7' (by omega)
      rw [s_ss] at this
      exact this
theorem l_tvC2 {a1 a2 a3 a4 a5 a6 : Int32} {o p : Nat} (h3 : a3.toInt = o) (ho : o ≤ 4) (h5 : a5.toInt = p) (hp : p + 2 ^ o ≤ 256) (c : sm_S) : ∀ (d k : Nat) (a7 : Int32), a7.toInt = k → k + d = 2 ^ o → xE xD m_Y_bring 166 [.ref 0, .int a1, .int a2, .int a3, .int a4, .int a5, .int a6, .int a7] [] (sm_set c 7 (tvC (c 7) p a4 k)) (sm_I (fun y σ' => y = a6 ∧ σ' = sm_set (sm_set c 7 (tvC (c 7) p a4 (2 ^ o))) 40 (upd (c 40) 0 (c 40 0 + 1)))) := by
  have hpw := t_pw (k := o) (by omega)
  intro d
  induction d with
  | zero =>
    intro k a7 h7 hk
    have hk : k = 2 ^ o := by omega
    subst hk
    refine d_Y_bring_166 a1 a2 a3 a4 a5 a6 a7 _ _ ⟨fun _ => ⟨t_vp (n := 0) rfl (by omega), t_vp (n := 0) rfl (by omega), fun σ1 e1 => ⟨_, rfl, rfl, ?_⟩⟩, fun z => absurd ?_ z⟩
    · rw [e1]
      rfl
    · rw [t_le, t_pow h3 (by omega), h7]
      omega
  | succ d ih =>
    intro k a7 h7 hk
    have h7' : (a7 + 1).toInt = ((k + 1 : Nat) : Int) := by
      rw [t_add h7 (y := 1) rfl (by omega) (by omega)]
      omega
    have hq : (a5 + a7).toInt = ((p + k : Nat) : Int) := by
      rw [t_add h5 h7 (by omega) (by omega)]
      omega
    refine d_Y_bring_166 a1 a2 a3 a4 a5 a6 a7 _ _ ⟨fun z => ?_, fun _ => ⟨t_vp hq (by omega), fun σ2 e2 => ?_⟩⟩
    · rw [t_le, t_pow h3 (by omega), h7] at z
      omega
    · rw [t_nat hq, s_at, s_ss, t_nI h7] at e2
      rw [e2]
      have := ih (k + 1) (a7 + 1) h7' (by omega)
      exact this
end
section
/-! ===== the simulation: bring | take ===== -/
theorem bnC_s {c : sm_S} {b k : Nat} {x2 x3 x4 x5 : Int32} {w : Nat → Int32} (h : k < 9 ∨ 15 < k) : bnC (sm_set c k w) b x2 x3 x4 x5 = sm_set (bnC c b x2 x3 x4 x5) k w := by
  unfold bnC
  rw [s_ne (show 9 ≠ k by omega), s_ne (show 10 ≠ k by omega), s_ne (show 11 ≠ k by omega), s_ne (show 12 ≠ k by omega), s_ne (show 13 ≠ k by omega), s_ne (show 14 ≠ k by omega), s_ne (show 15 ≠ k by omega), s_com (show k ≠ 9 by omega), s_com (show k ≠ 10 by omega), s_com (show k ≠ 11 by omega), s_com (show k ≠ 12 by omega), s_com (show k ≠ 13 by omega), s_com (show k ≠ 14 by omega), s_com (show k ≠ 15 by omega)]
theorem sim_us {c : sm_S} {v : Nat → Int32} (h : sim0 c v) (hk : ∀ b, b < 96 → bk_ok v b) : sim0 (sm_set c 8 (upd (c 8) 8 (c 8 8 + 1))) (upd v 6 (v 6 + 1)) := by
  have g := h.N
  refine h.n0 hk (fun k h1 h2 h3 => s_ne h3) (fun i h1 h2 => u_ne (by omega)) ⟨?_, ?_, ?_, ?_, fun k hk => ?_, ?_, ?_⟩
  · rw [s_ne (by decide), u_ne (by decide)]; exact g.rat
  · rw [s_ne (by decide), u_ne (by decide)]; exact g.tri
  · rw [s_ne (by decide), u_ne (by decide)]; exact g.rto
  · rw [s_ne (by decide), u_ne (by decide)]; exact g.pau
  · rw [s_ne (by decide), u_ne (by omega)]; exact g.cnt k hk
  · rw [s_ne (by decide), u_ne (by decide)]; exact g.tic
  · rw [s_at, u_at, u_at, g.use]
/-- where a place is found, or none: the block begins, or none does -/
theorem p_end {g : Prop} {N m o : Nat} {c : sm_S} {v : Nat → Int32} {a1 a2 a3 a4 a5 : Int32} (h : tie g N c v) (hj : jj N v) (hx : jx v) (h1 : a1.toInt = m) (hm : m < 6) (h2 : a2 = 0 ∨ a2 = 1 ∨ a2 = 2) (h3 : a3.toInt = o) (ho : o ≤ 4) (hp : a5 = -1 ∨ ∃ p : Nat, a5.toInt = p ∧ p < 256 ∧ p % 2 ^ o = 0 ∧ ∀ f, p ≤ f → f < p + 2 ^ o → v (18 + 3 * f) = 1) : ∃ v' c' y,
    (∀ (σ : sm_S) (Q : Option Value → sm_S → Prop), σ 1 = v → Q (some (.int y)) (sm_set σ 1 v') → xC xM j_M_freeNumber [.ref 0] σ (sm_ri False (fun x2 σ1 => ((a5 = (-1) → xC xM j_M_counts [.ref 0, .int 1, .int 1] σ1 (sm_rv False (fun σ3 => Q (some (.int (-1))) σ3))) ∧ (¬ (a5 = (-1)) → ((x2 ≠ (-1) → xC xM j_M_more [.ref 0, .int 6, .int 1] σ1 (sm_rv False (fun σ4 => (vp_in (6 : Int32) 2662 ∧ xC xM j_M_comes [.ref 0, .int x2, .int a5, .int a3, .int a2, .int a1, .int (σ4 1 ((6 : Int32)).toNatClampNeg)] σ4 (sm_rv False (fun σ5 => xE xM m_M_take 135 [.ref 0, .int a1, .int a2, .int a3, .int a4, .int a5, .int x2, .int 0] [] σ5 Q)))))) ∧ (¬ (x2 ≠ (-1)) → xC xM j_M_counts [.ref 0, .int 1, .int 1] σ1 (sm_rv False (fun σ6 => Q (some (.int (-1))) σ6))))))))) ∧
    (∀ Q : Option Value → sm_S → Prop, Q (some (.int y)) c' → xC xD j_B_leastNumber [.ref 8] c (sm_ri False (fun x2 σ1 => ((a5 = (-1) → (vp_in (1 : Int32) 11 ∧ (vp_in (1 : Int32) 11 ∧ ∀ σ3, σ3 = sm_set σ1 40 (upd (σ1 40) ((1 : Int32)).toNatClampNeg ((σ1 40 ((1 : Int32)).toNatClampNeg) + 1)) → Q (some (.int (-1))) σ3))) ∧ (¬ (a5 = (-1)) → ((x2 ≠ (-1) → xC xD j_B_begin [.ref 8, .int x2, .int a5, .int a3, .int a2, .int a1] σ1 (sm_rv False (fun σ4 => (∀ σ5, σ5 = sm_set σ4 8 (upd (σ4 8) 8 ((σ4 8 8) + 1)) → (vp_in x2 96 ∧ ∀ σ6, σ6 = sm_set σ5 16 (upd (σ5 16) (x2).toNatClampNeg (σ5 8 8)) → xC xD j_F_give [.ref 1, .int x2, .int a5, .int ((1 : Int32) <<< (a3 &&& 31))] σ6 (sm_rv False (fun σ7 => xE xD m_Y_bring 166 [.ref 0, .int a1, .int a2, .int a3, .int a4, .int a5, .int x2, .int 0] [] σ7 Q))))))) ∧ (¬ (x2 ≠ (-1)) → (vp_in (1 : Int32) 11 ∧ (vp_in (1 : Int32) 11 ∧ ∀ σ8, σ8 = sm_set σ1 40 (upd (σ1 40) ((1 : Int32)).toNatClampNeg ((σ1 40 ((1 : Int32)).toNatClampNeg) + 1)) → Q (some (.int (-1))) σ8))))))))) ∧
    tie g N c' v' ∧ jj N v' ∧ jx v' := by
  obtain ⟨x, rx, rcx, hxx⟩ := p_num h.s
  have v1 : vp_in (1 : Int32) 11 := t_vp (n := 1) rfl (by omega)
  by_cases none : a5 = -1 ∨ x = -1
  · have t1 := h.cnt (k := 1) (by decide) 1
    refine ⟨cnF v 1 1, _, -1, fun σ Q e hQ => (rx σ e).int ?_, fun Q hQ => rcx.int ?_, t1, jj_cn hj (by decide), hx.cg (fun b k _ _ => u_ne (by omega)) (fun s' hs' z => ⟨fun y => z ((u_ne (by omega)).trans y), u_ne (by omega)⟩) (u_ne (by omega)) (fun i i1 i2 => u_ne (by omega))⟩
    · rintro y σ1 ⟨ey, es⟩
      have es' : σ1 = σ := by rw [es, ← e, s_id]
      rw [ey, es']
      have fin : xC xM j_M_counts [.ref 0, .int 1, .int 1] σ (sm_rv False (fun σ3 => Q (some (.int (-1))) σ3)) := by
        refine (c_counts (j := 1) rfl (by decide) 1 σ).void ?_
        rintro _ rfl
        rw [e]
        exact hQ
      exact ⟨fun _ => fin, fun q => ⟨fun q2 => absurd none (fun z => z.elim q q2), fun _ => fin⟩⟩
    · rintro y σ1 ⟨ey, es⟩
      rw [ey, es]
      have fin : vp_in (1 : Int32) 11 ∧ (vp_in (1 : Int32) 11 ∧ ∀ σ3, σ3 = sm_set c 40 (upd (c 40) ((1 : Int32)).toNatClampNeg ((c 40 ((1 : Int32)).toNatClampNeg) + 1)) → Q (some (.int (-1))) σ3) := ⟨v1, v1, fun σ3 e3 => by rw [e3]; exact hQ⟩
      exact ⟨fun _ => fin, fun q => ⟨fun q2 => absurd none (fun z => z.elim q q2), fun _ => fin⟩⟩
  · have am : a5 ≠ -1 := fun z => none (Or.inl z)
    have xm : x ≠ -1 := fun z => none (Or.inr z)
    rcases hp with z | ⟨p, p1, p2, p3, p4⟩
    · exact absurd z am
    rcases hxx with ⟨z, -⟩ | ⟨n, n1, n2, n0⟩
    · exact absurd z xm
    have hle := al_le ho p2 p3
    have hpw := t_pw (k := o) (by omega)
    have n9 := hj.dead n1 n0
    have s1 := sim_us h.s h.b
    have u6 : ∀ i, i ≠ 6 → upd v 6 (v 6 + 1) i = v i := fun i hi => u_ne hi
    have j1 : jj N (upd v 6 (v 6 + 1)) := jj_low (by decide) (by decide) hj
    have s2 := sim_comes (x4 := a2) (x5 := a1) (x6 := v 6 + 1) s1 j1.2.1.1 n1 n2 (by rw [u6 _ (by omega)]; exact n0) (by rw [u6 _ (by omega)]; exact n9) p1 h3 ho p2 p3 (fun j hj => by rw [u6 _ (by omega)]; exact p4 _ (by omega) (by omega))
    have runC : rd j_M_comes [.ref 0, .int x, .int a5, .int a3, .int a2, .int a1, .int (v 6 + 1)] (upd v 6 (v 6 + 1)) (hsF (blF (upd v 6 (v 6 + 1)) n a5 a3 a2 a1 (v 6 + 1)) p (2 ^ o) 3 (x + 1)) := fun σ e => by
      rw [← e]
      exact c_comes2 n2 n1 p1 h3 ho hle _ _ _ σ
    obtain ⟨w, ew, jw, -⟩ := runC.det (c_comes (N := N) n2 n1 p1 p2 h3 ho p3 h1 hm (rz (upd v 6 (v 6 + 1))) (by rw [rz_at]; exact j1) (by rw [rz_at, u6 _ (by omega)]; exact n0))
    rw [rz_eq ew] at jw
    have o2 : ∀ i, i < 18 ∨ 2322 ≤ i → hsF (blF (upd v 6 (v 6 + 1)) n a5 a3 a2 a1 (v 6 + 1)) p (2 ^ o) 3 (x + 1) i = upd v 6 (v 6 + 1) i := fun i hi => by rw [hsF_out (by omega), blF_out (by omega)]
    have t2 : tie g N (gvC (cmC (sm_set c 8 (upd (c 8) 8 (c 8 8 + 1))) n a5 a3 a2 a1 (v 6 + 1)) 4 x p o) (hsF (blF (upd v 6 (v 6 + 1)) n a5 a3 a2 a1 (v 6 + 1)) p (2 ^ o) 3 (x + 1)) := by
      refine h.to s2 (fun k k1 k2 => ?_) ((o2 5 (by omega)).trans (u6 5 (by decide))) (fun i hi => (o2 i (by omega)).trans (u6 i (by omega))) jw.2.1.1
      rw [gvC_o (by omega), cmC_o (by omega), s_ne (by omega)]
    have t3 := tie_tv (x := a4) t2 (2 ^ o) hle
    have t4 := t3.cnt (k := 0) (by decide) 1
    have lo : ∀ i, (i < 18 ∨ 786 ≤ i ∨ i % 3 ≠ 2) → i ≠ 7 → cnF (tvF (hsF (blF (upd v 6 (v 6 + 1)) n a5 a3 a2 a1 (v 6 + 1)) p (2 ^ o) 3 (x + 1)) p a4 (2 ^ o)) 0 1 i = hsF (blF (upd v 6 (v 6 + 1)) n a5 a3 a2 a1 (v 6 + 1)) p (2 ^ o) 3 (x + 1) i := fun i hi h7 => (u_ne (by omega)).trans (tvF_o hi hle)
    have row : ∀ k, hsF (blF (upd v 6 (v 6 + 1)) n a5 a3 a2 a1 (v 6 + 1)) p (2 ^ o) 3 (x + 1) (786 + 16 * n + k) = blF (upd v 6 (v 6 + 1)) n a5 a3 a2 a1 (v 6 + 1) (786 + 16 * n + k) := fun k => hsF_out (by omega)
    obtain ⟨r0, r1, r2, r3, -, -⟩ := blF_0 (v := upd v 6 (v 6 + 1)) (n := n) (a2 := a5) (a3 := a3) (a4 := a2) (a5 := a1) (a6 := v 6 + 1)
    refine ⟨_, _, x, fun σ Q e hQ => (rx σ e).int ?_, fun Q hQ => rcx.int ?_, t4, ?_, ?_⟩
    · rintro y σ1 ⟨ey, es⟩
      have es' : σ1 = σ := by rw [es, ← e, s_id]
      rw [ey, es']
      refine ⟨fun z => absurd z am, fun _ => ⟨fun _ => (c_more (j := 6) rfl (by decide) 1 σ).void ?_, fun z => absurd xm z⟩⟩
      rintro σ4 e4
      rw [e] at e4
      have k6 : σ4 1 ((6 : Int32)).toNatClampNeg = v 6 + 1 := by
        rw [e4, s_at]
        exact u_at
      rw [k6]
      refine ⟨t_vp (n := 6) rfl (by omega), (runC σ4 (by rw [e4, s_at])).void ?_⟩
      rintro σ5 e5
      refine (l_tv2 (a1 := a1) (a2 := a2) (a4 := a4) (a6 := x) h3 ho p1 hle (hsF (blF (upd v 6 (v 6 + 1)) n a5 a3 a2 a1 (v 6 + 1)) p (2 ^ o) 3 (x + 1)) (2 ^ o) 0 0 σ5 (by rw [e5, s_at]; rfl) rfl (by omega)).mono ?_
      rintro r σ' ⟨y2, rfl, hy2, hs'⟩
      rw [hy2, hs', e5, s_ss, e4, s_ss]
      exact hQ
    · rintro y σ1 ⟨ey, es⟩
      rw [ey, es]
      refine ⟨fun z => absurd z am, fun _ => ⟨fun _ => (e_begin2 n2 n1 _ _ _ _ c).void ?_, fun z => absurd xm z⟩⟩
      rintro σ4 e4
      intro σ5 e5
      rw [t_nat n2]
      refine ⟨t_vp n2 n1, fun σ6 e6 => ?_⟩
      have e6' : σ6 = cmC (sm_set c 8 (upd (c 8) 8 (c 8 8 + 1))) n a5 a3 a2 a1 (v 6 + 1) := by
        have k8 : σ4 8 = c 8 := by rw [e4, bnC_o (by omega)]
        have k16 : σ5 16 = c 16 := by rw [e5, s_ne (by decide), e4, bnC_o (by omega)]
        have k88 : σ5 8 8 = c 8 8 + 1 := by
          rw [e5, s_at, k8]
          exact u_at
        rw [e6, k16, k88, e5, k8, e4]
        unfold cmC
        rw [bnC_s (by omega), ← h.s.N.use]
        rfl
      rw [e6']
      refine (e_give2 x p1 (t_pow h3 (by omega)) ho hle _).void ?_
      rintro σ7 e7
      have := l_tvC2 (a1 := a1) (a2 := a2) (a4 := a4) (a6 := x) h3 ho p1 hle σ7 (2 ^ o) 0 0 rfl (by omega)
      have z0 : sm_set σ7 7 (tvC (σ7 7) p a4 0) = σ7 := s_id
      rw [z0] at this
      refine this.mono ?_
      rintro r σ' ⟨y2, rfl, hy2, hs'⟩
      rw [hy2, hs', e7]
      exact hQ
    · have jt : jj N (tvF (hsF (blF (upd v 6 (v 6 + 1)) n a5 a3 a2 a1 (v 6 + 1)) p (2 ^ o) 3 (x + 1)) p a4 (2 ^ o)) := by
        have to : ∀ i, (i < 18 ∨ 786 ≤ i ∨ i % 3 ≠ 2) → tvF (hsF (blF (upd v 6 (v 6 + 1)) n a5 a3 a2 a1 (v 6 + 1)) p (2 ^ o) 3 (x + 1)) p a4 (2 ^ o) i = hsF (blF (upd v 6 (v 6 + 1)) n a5 a3 a2 a1 (v 6 + 1)) p (2 ^ o) 3 (x + 1) i := fun i hi => tvF_o hi hle
        refine ⟨fr_mono (fun f hf => by rw [to _ (by omega)]; exact jw.1.1 f hf) (fun b k _ _ => to _ (by omega)) (fun f hf z => ?_) jw.1, jr_cong (ceq.of (fun i i1 i2 => to i (by omega))) jw.2.1, by rw [to 5 (by omega)]; exact jw.2.2⟩
        rw [to _ (by omega)] at z
        exact ⟨z, to _ (by omega)⟩
      exact jj_cn jt (by decide)
    · refine hx.re (n := n) (fun b k q1 q2 q3 => ?_) (fun _ => ⟨fun _ => ?_, fun to2 fr2 o2 y1 y2 y3 => ?_⟩) (fun _ => ?_) (fun s' hs' z => ?_) ?_ (fun i i1 i2 => by rw [lo _ (by omega) (by omega), o2 _ (by omega), u6 _ (by omega)])
      · rw [lo _ (by omega) (by omega), hsF_out (by omega), blF_out (by omega), u6 _ (by omega)]
      · rw [lo _ (by omega) (by omega), row 7]
        exact blF_z (by decide) (by decide) (by decide)
      · rw [lo _ (by omega) (by omega), row 6, blF_z (by decide) (by decide) (by decide)] at y1
        have y1 : (0 : Int) = _ := y1
        omega
      · rw [lo _ (by omega) (by omega), row 3, r3]
        exact h2
      · rw [lo _ (by omega) (by omega), o2 _ (by omega), u6 _ (by omega)] at z
        exact ⟨z, by rw [lo _ (by omega) (by omega), o2 _ (by omega), u6 _ (by omega)]⟩
      · rw [lo _ (by omega) (by omega), o2 _ (by omega), u6 _ (by omega)]
theorem bp_fr {v : Nat → Int32} {rk : Nat → Int32} {on : Nat → Prop} {o : Nat} {x : Int32} (h : BP (frV v) rk on o x) : x = -1 ∨ ∃ p : Nat, x.toInt = p ∧ p < 256 ∧ p % 2 ^ o = 0 ∧ ∀ f, p ≤ f → f < p + 2 ^ o → v (18 + 3 * f) = 1 := by
  rcases h with ⟨z, -⟩ | ⟨p, hp, ⟨hp2, hpa, -, -, hfree⟩, -⟩
  · exact Or.inl z
  · refine Or.inr ⟨p, hp, hp2, hpa, fun f f1 f2 => ?_⟩
    have := hfree (f - p) (by omega)
    rw [al_pow hpa, show p + (f - p) = f by omega] at this
    exact this
theorem l_take2 {g : Prop} {m o : Nat} {a1 a2 a3 a4 : Int32} (h1 : a1.toInt = m) (hm : m < 6) (h2 : a2 = 0 ∨ a2 = 1 ∨ a2 = 2) (h3 : a3.toInt = o) (ho : o ≤ 4) : ∀ (K N j : Nat) (a5 a6 : Int32) (c : sm_S) (v : Nat → Int32), tie g N c v → jj N v → jx v → cn (isB v) 96 ≤ K → j + K ≤ 96 → a6.toInt = j → N + K < 2000000000 → BP (frV v) (rkV v a2 m) (onV v 0) o a5 → ∃ v' c' N' y, (∀ (σ : sm_S) (v6 v7 : Value), σ 1 = v → xE xM m_M_take 46 [.ref 0, .int a1, .int a2, .int a3, .int a4, .int a5, v6, v7] [] σ (sm_I (fun x σ' => x = y ∧ σ' = sm_set σ 1 v'))) ∧ (∀ v7 : Value, xE xD m_Y_bring 13 [.ref 0, .int a1, .int a2, .int a3, .int a4, .int a5, .int a6, v7] [] c (sm_I (fun x σ' => x = y ∧ σ' = c'))) ∧ tie g N' c' v' ∧ jj N' v' ∧ jx v' ∧ N' ≤ N + K := by
  intro K
  induction K with
  | zero =>
    intro N j a5 a6 c v h hj hx hK hj2 h6 hN hB
    obtain ⟨v', c', y, qr, qc, t', j', x'⟩ := p_end (a4 := a4) h hj hx h1 hm h2 h3 ho (bp_fr hB)
    obtain ⟨u, ru, rcu, lu⟩ := p_luc h.s hj
    have um : u = -1 := by
      rcases lu with z | ⟨n, n1, n2, n3, -⟩
      · exact z
      · have := cn_lt (P := isB v) (P' := fun _ => false) (j := n) (decide_eq_true n3) rfl (N := 96) n1 (fun i _ q => by cases q)
        omega
    refine ⟨v', c', N, y, fun σ v6 v7 e => w_M_take_46 a1 a2 a3 a4 a5 v6 v7 σ _ ⟨fun _ => qr σ _ e ⟨_, rfl, rfl, rfl⟩, fun z => (ru σ e).int ?_⟩, fun v7 => d_Y_bring_13 a1 a2 a3 a4 a5 a6 v7 c _ ⟨fun _ => qc _ ⟨_, rfl, rfl, rfl⟩, fun _ => ⟨fun _ => qc _ ⟨_, rfl, rfl, rfl⟩, fun z => rcu.int ?_⟩⟩, t', j', x', by omega⟩
    · rintro z1 σ1 ⟨ez1, es1⟩
      have es1' : σ1 = σ := by rw [es1, ← e, s_id]
      rw [ez1, es1']
      exact ⟨fun _ => qr σ _ e ⟨_, rfl, rfl, rfl⟩, fun w => absurd um w⟩
    · rintro z1 σ1 ⟨ez1, es1⟩
      rw [ez1, es1]
      exact ⟨fun w => absurd um w, fun _ => qc _ ⟨_, rfl, rfl, rfl⟩⟩
  | succ K ih =>
    intro N j a5 a6 c v h hj hx hK hj2 h6 hN hB
    have n96 : ¬ (96 : Int32) ≤ a6 := by
      rw [t_le, h6]
      show ¬ (96 : Int) ≤ _
      omega
    obtain ⟨u, ru, rcu, lu⟩ := p_luc h.s hj
    by_cases endd : a5 ≠ -1 ∨ u = -1
    · obtain ⟨v', c', y, qr, qc, t', j', x'⟩ := p_end (a4 := a4) h hj hx h1 hm h2 h3 ho (bp_fr hB)
      refine ⟨v', c', N, y, fun σ v6 v7 e => w_M_take_46 a1 a2 a3 a4 a5 v6 v7 σ _ ⟨fun _ => qr σ _ e ⟨_, rfl, rfl, rfl⟩, fun z => (ru σ e).int ?_⟩, fun v7 => d_Y_bring_13 a1 a2 a3 a4 a5 a6 v7 c _ ⟨fun z => absurd z n96, fun _ => ⟨fun _ => qc _ ⟨_, rfl, rfl, rfl⟩, fun z => rcu.int ?_⟩⟩, t', j', x', by omega⟩
      · rintro z1 σ1 ⟨ez1, es1⟩
        have es1' : σ1 = σ := by rw [es1, ← e, s_id]
        rw [ez1, es1']
        exact ⟨fun _ => qr σ _ e ⟨_, rfl, rfl, rfl⟩, fun w => absurd endd (fun q => q.elim z w)⟩
      · rintro z1 σ1 ⟨ez1, es1⟩
        rw [ez1, es1]
        exact ⟨fun w => absurd endd (fun q => q.elim z w), fun _ => qc _ ⟨_, rfl, rfl, rfl⟩⟩
    · have am : ¬ a5 ≠ -1 := fun z => endd (Or.inl z)
      have um : u ≠ -1 := fun z => endd (Or.inr z)
      rcases lu with z | ⟨n, n1, n2, n3, n4, n5⟩
      · exact absurd z um
      obtain ⟨v1, c1, c2, rr, rc1, rc2, t1, j1, x1, sp, q0, qB, -⟩ := p_drop h hj hx (by omega) n2 n1 n3 n5
      have lt : cn (isB v1) 96 < cn (isB v) 96 := cn_lt (j := n) (decide_eq_true n3) (decide_eq_false (by rw [q0]; decide)) n1 (fun i hi w => by
        have w := of_decide_eq_true w
        by_cases e : i = n
        · subst e
          rw [q0] at w
          exact absurd w (by decide)
        · rw [qB _ (by omega) (by omega) (by omega)] at w
          exact decide_eq_true w)
      obtain ⟨y, ry, rcy, hB1⟩ := p_best (a1 := a1) (a2 := a2) (a3 := a3) (a4 := 0) t1.s x1 h1 hm h3 ho
      have h6' : (a6 + 1).toInt = ((j + 1 : Nat) : Int) := by
        rw [t_add h6 (y := 1) rfl (by omega) (by omega)]
        omega
      obtain ⟨v', c', N', y', qr, qc, t', j', x', n'⟩ := ih (N + 1) (j + 1) y (a6 + 1) c2 v1 t1 j1 x1 (by omega) (by omega) h6' (by omega) hB1
      refine ⟨v', c', N', y', fun σ v6 v7 e => w_M_take_46 a1 a2 a3 a4 a5 v6 v7 σ _ ⟨fun z => absurd z am, fun _ => (ru σ e).int ?_⟩, fun v7 => d_Y_bring_13 a1 a2 a3 a4 a5 a6 v7 c _ ⟨fun z => absurd z n96, fun _ => ⟨fun z => absurd z am, fun _ => rcu.int ?_⟩⟩, t', j', x', by omega⟩
      · rintro z1 σ1 ⟨ez1, es1⟩
        have es1' : σ1 = σ := by rw [es1, ← e, s_id]
        rw [ez1, es1']
        refine ⟨fun w => absurd w um, fun _ => (ru σ e).int ?_⟩
        rintro z2 σ2 ⟨ez2, es2⟩
        have es2' : σ2 = σ := by rw [es2, ← e, s_id]
        rw [ez2, es2']
        refine (rr σ e).void ?_
        rintro σ3 e3
        refine (ry σ3 (by rw [e3, s_at])).int ?_
        rintro z4 σ4 ⟨ez4, es4⟩
        rw [ez4, es4, e3, s_ss]
        have := qr _ v6 v7 (s_at (σ := σ) (k := 1) (f := v1))
        rw [s_ss] at this
        exact this
      · rintro z1 σ1 ⟨ez1, es1⟩
        rw [ez1, es1]
        refine ⟨fun _ => rc1.void ?_, fun w => absurd um w⟩
        rintro _ rfl
        refine rc2.void ?_
        rintro _ rfl
        refine rcy.int ?_
        rintro z4 σ4 ⟨ez4, es4⟩
        rw [ez4, es4]
        exact qc _
end
section
/-! ===== the simulation: zones by ratio, spans by turns, who can go ===== -/
def cnZ (v : Nat → Int32) (z : Int32) : Nat := sumN (fun s => if zV v s = z then 1 else 0) 8
theorem cnZ_le (v : Nat → Int32) (z : Int32) : cnZ v z ≤ 8 := by
  have := sumN_bd (F := fun s => if zV v s = z then 1 else 0) (K := 1) (n := 8) (fun i => by split <;> omega)
  unfold cnZ
  omega
theorem l_frames2 {a1 : Int32} (σ : sm_S) : ∀ (d k : Nat) (a2 a3 : Int32), a3.toInt = k → k + d = 8 → a2.toInt = ((32 * sumN (fun s => if zV (σ 1) s = a1 then 1 else 0) k : Nat) : Int) → xE xM m_M_framesOf 4 [.ref 0, .int a1, .int a2, .int a3] [] σ (sm_I (fun x σ' => x.toInt = ((32 * cnZ (σ 1) a1 : Nat) : Int) ∧ σ' = σ)) := by
  have bd : ∀ k, sumN (fun s => if zV (σ 1) s = a1 then 1 else 0) k ≤ 1 * k := fun k => sumN_bd (fun i => by split <;> omega)
  intro d
  induction d with
  | zero =>
    intro k a2 a3 h3 hk h2
    have hk : k = 8 := by omega
    subst hk
    exact w_M_framesOf_4 a1 a2 a3 σ _ ⟨fun _ => ⟨_, rfl, h2, rfl⟩, fun h => absurd (by rw [t_le, h3]; show (8 : Int) ≤ _; omega) h⟩
  | succ d ih =>
    intro k a2 a3 h3 hk h2
    have h3' : (a3 + 1).toInt = ((k + 1 : Nat) : Int) := by
      rw [t_add h3 (y := 1) rfl (by omega) (by omega)]
      omega
    have b := bd k
    refine w_M_framesOf_4 a1 a2 a3 σ _ ⟨fun h => ?_, fun _ => (c_zoneOf2 h3 (by omega) σ).int ?_⟩
    · rw [t_le, h3] at h
      have h : (8 : Int) ≤ k := h
      omega
    · rintro y σ1 ⟨ey, es⟩
      rw [ey, es]
      refine ⟨fun q => ih (k + 1) a2 (a3 + 1) h3' (by omega) ?_, fun q => ih (k + 1) (a2 + 32) (a3 + 1) h3' (by omega) ?_⟩
      · rw [h2]
        show _ = ((32 * (sumN (fun s => if zV (σ 1) s = a1 then 1 else 0) k + (if zV (σ 1) k = a1 then 1 else 0)) : Nat) : Int)
        rw [if_neg q]
        rfl
      · rw [t_add h2 (y := 32) rfl (by omega) (by omega)]
        show _ = ((32 * (sumN (fun s => if zV (σ 1) s = a1 then 1 else 0) k + (if zV (σ 1) k = a1 then 1 else 0)) : Nat) : Int)
        rw [if_pos (Classical.not_not.mp q)]
        omega
theorem c_framesOf2 (a1 : Int32) (σ : sm_S) : xC xM j_M_framesOf [.ref 0, .int a1] σ (sm_I (fun x σ' => x.toInt = ((32 * cnZ (σ 1) a1 : Nat) : Int) ∧ σ' = σ)) := w_M_framesOf a1 σ _ (l_frames2 σ 8 0 0 0 rfl rfl rfl)
theorem l_inZone2 {a1 : Int32} {v : Nat → Int32} (σ : sm_S) (h : sim0 σ v) : ∀ (d k : Nat) (a2 a3 : Int32), a3.toInt = k → k + d = 8 → a2.toInt = ((sumN (fun s => if zV v s = a1 then 1 else 0) k : Nat) : Int) → xE xD m_S_inZone 4 [.ref 17, .int a1, .int a2, .int a3] [] σ (sm_I (fun x σ' => x.toInt = ((cnZ v a1 : Nat) : Int) ∧ σ' = σ)) := by
  have bd : ∀ k, sumN (fun s => if zV v s = a1 then 1 else 0) k ≤ 1 * k := fun k => sumN_bd (fun i => by split <;> omega)
  intro d
  induction d with
  | zero =>
    intro k a2 a3 h3 hk h2
    have hk : k = 8 := by omega
    subst hk
    exact d_S_inZone_4 a1 a2 a3 σ _ ⟨fun _ => ⟨_, rfl, h2, rfl⟩, fun h => absurd (by rw [t_le, h3]; show (8 : Int) ≤ _; omega) h⟩
  | succ d ih =>
    intro k a2 a3 h3 hk h2
    have h3' : (a3 + 1).toInt = ((k + 1 : Nat) : Int) := by
      rw [t_add h3 (y := 1) rfl (by omega) (by omega)]
      omega
    have b := bd k
    refine d_S_inZone_4 a1 a2 a3 σ _ ⟨fun z => ?_, fun _ => ?_⟩
    · rw [t_le, h3] at z
      have z : (8 : Int) ≤ k := z
      omega
    · rw [t_nat h3, sim_zone h (by omega)]
      refine ⟨t_vp h3 (by omega), fun q => ih (k + 1) (a2 + 0) (a3 + 1) h3' (by omega) ?_, fun q => ih (k + 1) (a2 + 1) (a3 + 1) h3' (by omega) ?_⟩
      · rw [Int32.add_zero, h2]
        show _ = ((sumN (fun s => if zV v s = a1 then 1 else 0) k + (if zV v k = a1 then 1 else 0) : Nat) : Int)
        rw [if_neg q]
        rfl
      · rw [t_add h2 (y := 1) rfl (by omega) (by omega)]
        show _ = ((sumN (fun s => if zV v s = a1 then 1 else 0) k + (if zV v k = a1 then 1 else 0) : Nat) : Int)
        rw [if_pos (Classical.not_not.mp q)]
        rfl
theorem e_inZone2 {c : sm_S} {v : Nat → Int32} (a1 : Int32) (h : sim0 c v) : xC xD j_S_inZone [.ref 17, .int a1] c (sm_I (fun x σ' => x.toInt = ((cnZ v a1 : Nat) : Int) ∧ σ' = c)) := d_S_inZone a1 c _ (l_inZone2 c h 8 0 0 0 rfl rfl rfl)
/-- staysInRatio, with how many spans -/
theorem e_stays2 {c : sm_S} {v : Nat → Int32} {a1 a2 : Int32} {x y R : Nat} (h : sim0 c v) (hR : (v 2 + 150).toInt = R) (hR2 : R ≤ 400) (h1 : a1.toInt = x) (h2 : a2.toInt = y) (hx : x ≤ 20) (hy : y ≤ 20) : xC xD j_Y_staysInRatio [.ref 0, .int a1, .int a2] c (sm_I (fun z σ' => z = (if 100 * x ≤ R * y then 1 else 0) ∧ σ' = c)) := by
  have e2 : c 39 2 = v 2 + 150 := h.N.rto
  have b : R * y ≤ 400 * 20 := Nat.mul_le_mul hR2 hy
  have m1 : (c 39 2 * a2).toInt = ((R * y : Nat) : Int) := by
    rw [e2, t_mul hR h2 (by have := Int.natCast_mul R y; omega) (by have := Int.natCast_mul R y; omega)]
    exact (Int.natCast_mul R y).symm
  have m2 : (100 * a1).toInt = ((100 * x : Nat) : Int) := by
    rw [t_mul (a := 100) (x := 100) rfl h1 (by omega) (by omega)]
    omega
  refine d_Y_staysInRatio a1 a2 c _ ⟨t_vp (n := 2) rfl (by omega), fun q => ⟨Or.inl rfl, _, rfl, ?_, rfl⟩, fun q => ⟨Or.inr rfl, _, rfl, ?_, rfl⟩⟩
  · have q : c 39 2 * a2 < 100 * a1 := q
    rw [t_lt, m1, m2] at q
    rw [if_neg (by omega)]
  · have q : ¬ c 39 2 * a2 < 100 * a1 := q
    rw [t_lt, m1, m2] at q
    rw [if_pos (by omega)]
/-- zoneByRatio | zoneByRatio -/
theorem p_zbr {c : sm_S} {v : Nat → Int32} (h : sim0 c v) (hx : jx v) : ∃ z : Int32, rdI j_M_zoneByRatio [.ref 0] v z v ∧ xC xD j_Y_zoneByRatio [.ref 0] c (sm_I (fun y σ' => y = z ∧ σ' = c)) ∧ (z = 0 ∨ z = 1) ∧ z = (if 100 * (cnZ v 1 + 1) ≤ (v 2 + 150).toInt.toNat * cnZ v 0 then 1 else 0) := by
  obtain ⟨R, hR⟩ := t_of (x := v 2 + 150) hx.2.2.2.2.2.1
  have hR2 : R ≤ 400 := by have := hx.2.2.2.2.2.2; omega
  have hRn : (v 2 + 150).toInt.toNat = R := by omega
  have b0 := cnZ_le v 0
  have b1 := cnZ_le v 1
  have b : R * cnZ v 0 ≤ 400 * 8 := Nat.mul_le_mul hR2 b0
  refine ⟨if 100 * (cnZ v 1 + 1) ≤ R * cnZ v 0 then 1 else 0, fun σ e => ?_, ?_, ?_, by rw [hRn]⟩
  · refine w_M_zoneByRatio σ _ ((c_framesOf2 1 σ).int ?_)
    rintro y1 σ1 ⟨ey1, es1⟩
    rw [es1]
    refine (r_set2 v σ e).int ?_
    rintro y2 σ2 ⟨ey2, es2⟩
    rw [ey2, es2]
    refine (c_framesOf2 0 σ).int ?_
    rintro y3 σ3 ⟨ey3, es3⟩
    rw [es3]
    rw [e] at ey1 ey3
    have ml : R * (32 * cnZ v 0) = 32 * (R * cnZ v 0) := Nat.mul_left_comm R 32 (cnZ v 0)
    have m1 : ((v 2 + 150) * y3).toInt = ((R * (32 * cnZ v 0) : Nat) : Int) := by
      rw [t_mul hR ey3 (by have := Int.natCast_mul R (32 * cnZ v 0); omega) (by have := Int.natCast_mul R (32 * cnZ v 0); omega)]
      exact (Int.natCast_mul R (32 * cnZ v 0)).symm
    have m2 : (100 * (y1 + 32)).toInt = ((100 * (32 * cnZ v 1 + 32) : Nat) : Int) := by
      rw [t_mul (a := 100) (x := 100) rfl (t_add ey1 (y := 32) rfl (by omega) (by omega)) (by omega) (by omega)]
      omega
    refine ⟨fun q => ⟨_, rfl, ?_, by rw [← e, s_id]⟩, fun q => ⟨_, rfl, ?_, by rw [← e, s_id]⟩⟩
    · rw [t_lt, m1, m2, ml] at q
      rw [if_neg (by omega)]
    · rw [t_lt, m1, m2, ml] at q
      rw [if_pos (by omega)]
  · refine d_Y_zoneByRatio c _ ((e_inZone2 1 h).int ?_)
    rintro y1 σ1 ⟨ey1, es1⟩
    rw [es1]
    refine (e_inZone2 0 h).int ?_
    rintro y2 σ2 ⟨ey2, es2⟩
    rw [es2]
    have e1 : (y1 + 1).toInt = ((cnZ v 1 + 1 : Nat) : Int) := by
      rw [t_add ey1 (y := 1) rfl (by omega) (by omega)]
      omega
    refine (e_stays2 h hR hR2 e1 ey2 (by omega) (by omega)).int ?_
    rintro y3 σ3 ⟨ey3, es3⟩
    rw [es3, ey3]
    by_cases q : 100 * (cnZ v 1 + 1) ≤ R * cnZ v 0
    · rw [if_pos q]
      exact ⟨fun z => absurd z (by decide), fun _ => ⟨_, rfl, rfl, rfl⟩⟩
    · rw [if_neg q]
      exact ⟨fun _ => ⟨_, rfl, rfl, rfl⟩, fun z => absurd rfl z⟩
  · by_cases q : 100 * (cnZ v 1 + 1) ≤ R * cnZ v 0
    · rw [if_pos q]; exact Or.inr rfl
    · rw [if_neg q]; exact Or.inl rfl
/-- how many spans of a node are off (w = 1) or there (w = 0) -/
def mnN (v : Nat → Int32) (nd w : Nat) (k : Nat) : Nat := sumN (fun i => if (if v (2358 + 8 * (nd + 2 * i)) = 0 then 1 else 0) = w then 1 else 0) k
theorem ite1 (p : Prop) [Decidable p] : (if p then 1 else 0 : Nat) ≤ 1 := by split <;> omega
theorem mnN_le (v : Nat → Int32) (nd w k : Nat) : mnN v nd w k ≤ k := by
  have := sumN_bd (F := fun i => if (if v (2358 + 8 * (nd + 2 * i)) = 0 then 1 else 0) = w then 1 else 0) (K := 1) (n := k) (fun i => ite1 _)
  unfold mnN
  omega
theorem l_many2 {a1 a2 : Int32} {nd w : Nat} (hnd : nd < 2) (h2 : a2.toInt = w) (hw : w < 2) (σ : sm_S) : ∀ (d k : Nat) (a3 a4 : Int32), a4.toInt = ((nd + 2 * k : Nat) : Int) → k + d = 4 → a3.toInt = ((mnN (σ 1) nd w k : Nat) : Int) → xE xM m_M_manyOfNode 5 [.ref 0, .int a1, .int a2, .int a3, .int a4] [] σ (sm_I (fun x σ' => x.toInt = ((mnN (σ 1) nd w 4 : Nat) : Int) ∧ σ' = σ)) := by
  intro d
  induction d with
  | zero =>
    intro k a3 a4 h4 hk h3
    have hk : k = 4 := by omega
    subst hk
    exact w_M_manyOfNode_5 a1 a2 a3 a4 σ _ ⟨fun _ => ⟨_, rfl, h3, rfl⟩, fun h => absurd (by rw [t_le, h4]; show (8 : Int) ≤ _; omega) h⟩
  | succ d ih =>
    intro k a3 a4 h4 hk h3
    have h4' : (a4 + 2).toInt = ((nd + 2 * (k + 1) : Nat) : Int) := by
      rw [t_add h4 (y := 2) rfl (by omega) (by omega)]
      omega
    have b := mnN_le (σ 1) nd w k
    have hs : mnN (σ 1) nd w (k + 1) = mnN (σ 1) nd w k + (if (if σ 1 (2358 + 8 * (nd + 2 * k)) = 0 then 1 else 0) = w then 1 else 0) := rfl
    have h3' : (a3 + 1).toInt = ((mnN (σ 1) nd w k + 1 : Nat) : Int) := by
      rw [t_add h3 (y := 1) rfl (by omega) (by omega)]
      omega
    refine w_M_manyOfNode_5 a1 a2 a3 a4 σ _ ⟨fun h => ?_, fun _ => (c_spanState h4 (by omega) σ).int ?_⟩
    · rw [t_le, h4] at h
      have h : (8 : Int) ≤ ((nd + 2 * k : Nat) : Int) := h
      omega
    · rintro y σ1 ⟨ey, es⟩
      rw [ey, es]
      refine ⟨fun q => ⟨fun q2 => ih (k + 1) a3 (a4 + 2) h4' (by omega) ?_, fun q2 => ih (k + 1) (a3 + 1) (a4 + 2) h4' (by omega) ?_⟩, fun q => ⟨fun q2 => ih (k + 1) a3 (a4 + 2) h4' (by omega) ?_, fun q2 => ih (k + 1) (a3 + 1) (a4 + 2) h4' (by omega) ?_⟩⟩
      · rw [h3, hs, if_neg q, if_neg (fun z => q2 (t_inj (by rw [h2, ← z]; rfl)))]
        rfl
      · have z := congrArg Int32.toInt (Classical.not_not.mp q2)
        rw [h2] at z
        have z : (0 : Int) = w := z
        rw [h3', hs, if_neg q, if_pos (by omega)]
      · rw [h3, hs, if_pos (Classical.not_not.mp q), if_neg (fun z => q2 (t_inj (by rw [h2, ← z]; rfl)))]
        rfl
      · have z := congrArg Int32.toInt (Classical.not_not.mp q2)
        rw [h2] at z
        have z : (1 : Int) = w := z
        rw [h3', hs, if_pos (Classical.not_not.mp q), if_pos (by omega)]
/-- the first span of a node that is off -/
def fof (v : Nat → Int32) (nd : Nat) (x : Int32) : Prop := (x = -1 ∧ ∀ i, i < 4 → v (2358 + 8 * (nd + 2 * i)) ≠ 0) ∨ ∃ i : Nat, i < 4 ∧ x.toInt = ((nd + 2 * i : Nat) : Int) ∧ v (2358 + 8 * (nd + 2 * i)) = 0 ∧ ∀ j, j < i → v (2358 + 8 * (nd + 2 * j)) ≠ 0
theorem fof_un {v : Nat → Int32} {nd : Nat} {x y : Int32} (a : fof v nd x) (b : fof v nd y) : x = y := by
  rcases a with ⟨a1, a2⟩ | ⟨i, i1, i2, i3, i4⟩
  · rcases b with ⟨b1, -⟩ | ⟨j, j1, j2, j3, -⟩
    · rw [a1, b1]
    · exact absurd j3 (a2 j j1)
  · rcases b with ⟨-, b2⟩ | ⟨j, j1, j2, j3, j4⟩
    · exact absurd i3 (b2 i i1)
    · have : i = j := by
        have c1 : ¬ i < j := fun z => j4 i z i3
        have c2 : ¬ j < i := fun z => i4 j z j3
        omega
      subst this
      exact t_inj (by rw [i2, j2])
theorem l_turn2 {a1 : Int32} {nd : Nat} (hnd : nd < 2) (σ : sm_S) : ∀ (d k : Nat) (a2 : Int32), a2.toInt = ((nd + 2 * k : Nat) : Int) → k + d = 4 → (∀ j, j < k → σ 1 (2358 + 8 * (nd + 2 * j)) ≠ 0) → xE xM m_M_turnOf 41 [.ref 0, .int a1, .int a2] [] σ (sm_I (fun x σ' => fof (σ 1) nd x ∧ σ' = σ)) := by
  intro d
  induction d with
  | zero =>
    intro k a2 h2 hk hb
    refine w_M_turnOf_41 a1 a2 σ _ ⟨fun _ => ⟨_, rfl, Or.inl ⟨rfl, fun i hi => hb i (by omega)⟩, rfl⟩, fun h => absurd (by rw [t_le, h2]; show (8 : Int) ≤ _; omega) h⟩
  | succ d ih =>
    intro k a2 h2 hk hb
    have h2' : (a2 + 2).toInt = ((nd + 2 * (k + 1) : Nat) : Int) := by
      rw [t_add h2 (y := 2) rfl (by omega) (by omega)]
      omega
    refine w_M_turnOf_41 a1 a2 σ _ ⟨fun h => ?_, fun _ => (c_spanState h2 (by omega) σ).int ?_⟩
    · rw [t_le, h2] at h
      have h : (8 : Int) ≤ ((nd + 2 * k : Nat) : Int) := h
      omega
    · rintro y σ1 ⟨ey, es⟩
      rw [ey, es]
      refine ⟨fun q => ih (k + 1) (a2 + 2) h2' (by omega) (fun j hj => ?_), fun q => ⟨_, rfl, Or.inr ⟨k, by omega, h2, Classical.not_not.mp q, hb⟩, rfl⟩⟩
      by_cases e : j = k
      · rw [e]; exact q
      · exact hb j (by omega)
theorem mn0 {v : Nat → Int32} {nd : Nat} {x : Int32} (h : fof v nd x) : mnN v nd 1 4 = 0 ↔ x = -1 := by
  unfold mnN
  rw [sumN_z]
  refine ⟨fun q => ?_, fun q i hi => ?_⟩
  · rcases h with ⟨z, -⟩ | ⟨i, i1, i2, i3, -⟩
    · exact z
    · have := q i i1
      rw [if_pos i3, if_pos rfl] at this
      exact absurd this (by decide)
  · rcases h with ⟨-, z⟩ | ⟨i2, -, z, -⟩
    · rw [if_neg (z i hi), if_neg (by decide)]
    · exact absurd q (ne_m1 z)
/-- a node's part of nextByTurns: how many are there, which is the first that is off -/
theorem l_node2 {nd : Nat} {v : Nat → Int32} (hnd : nd < 2) (c : sm_S) (h : sim0 c v) {a1 a2 a3 : Int32} {Q : Option Value → sm_S → Prop} {x : Int32} (hx : fof v nd x) (k7 : ∀ (y : Int32) (u4 u5 u6 : Value), y.toInt = ((mnN v nd 0 4 : Nat) : Int) → xE xD m_S_nextByTurns 7 [.ref 17, .int (if x = -1 then a1 else if a2 ≤ y then a1 else x), .int (if x = -1 then a2 else if a2 ≤ y then a2 else y), .int (a3 + 1), u4, u5, u6] [] c Q) : ∀ (d k : Nat) (a4 a5 a6 : Int32), a6.toInt = ((nd + 2 * k : Nat) : Int) → k + d = 4 → a4.toInt = ((mnN v nd 0 k : Nat) : Int) → ((a5 = -1 ∧ ∀ j, j < k → v (2358 + 8 * (nd + 2 * j)) ≠ 0) ∨ ∃ i : Nat, i < k ∧ a5.toInt = ((nd + 2 * i : Nat) : Int) ∧ v (2358 + 8 * (nd + 2 * i)) = 0 ∧ ∀ j, j < i → v (2358 + 8 * (nd + 2 * j)) ≠ 0) → xE xD m_S_nextByTurns 21 [.ref 17, .int a1, .int a2, .int a3, .int a4, .int a5, .int a6] [] c Q := by
  intro d
  induction d with
  | zero =>
    intro k a4 a5 a6 h6 hk h4 h5
    have hk : k = 4 := by omega
    subst hk
    have e5 : a5 = x := fof_un (v := v) (nd := nd) h5 hx
    refine d_S_nextByTurns_21 a1 a2 a3 a4 a5 a6 c Q ⟨fun _ => ?_, fun z => absurd (by rw [t_le, h6]; show (8 : Int) ≤ _; omega) z⟩
    rw [e5]
    refine ⟨fun q => ?_, fun q => ⟨fun q2 => ?_, fun q2 => ?_⟩⟩
    · have := k7 a4 (.int a4) (.int x) (.int a6) h4
      rw [if_pos q, if_pos q] at this
      exact this
    · have := k7 a4 (.int a4) (.int x) (.int a6) h4
      rw [if_neg q, if_pos q2, if_neg q, if_pos q2] at this
      exact this
    · have := k7 a4 (.int a4) (.int x) (.int a6) h4
      rw [if_neg q, if_neg q2, if_neg q, if_neg q2] at this
      exact this
  | succ d ih =>
    intro k a4 a5 a6 h6 hk h4 h5
    have h6' : (a6 + 2).toInt = ((nd + 2 * (k + 1) : Nat) : Int) := by
      rw [t_add h6 (y := 2) rfl (by omega) (by omega)]
      omega
    have b := mnN_le v nd 0 k
    have hs : mnN v nd 0 (k + 1) = mnN v nd 0 k + (if (if v (2358 + 8 * (nd + 2 * k)) = 0 then 1 else 0) = 0 then 1 else 0) := rfl
    have st : v (2358 + 8 * (nd + 2 * k)) = c 18 (nd + 2 * k) := (h.S (nd + 2 * k) (by omega)).sta
    refine d_S_nextByTurns_21 a1 a2 a3 a4 a5 a6 c Q ⟨fun z => ?_, fun _ => ?_⟩
    · rw [t_le, h6] at z
      have z : (8 : Int) ≤ ((nd + 2 * k : Nat) : Int) := z
      omega
    · rw [t_nat h6, ← st]
      refine ⟨t_vp h6 (by omega), fun q => ⟨fun q2 => ih (k + 1) a4 a5 (a6 + 2) h6' (by omega) ?_ ?_, fun q2 => ih (k + 1) a4 a6 (a6 + 2) h6' (by omega) ?_ ?_⟩, fun q => ih (k + 1) (a4 + 1) a5 (a6 + 2) h6' (by omega) ?_ ?_⟩
      · rw [h4, hs, if_pos q, if_neg (by decide)]
        rfl
      · rcases h5 with ⟨z, -⟩ | ⟨i, i1, i2, i3, i4⟩
        · exact absurd z q2
        · exact Or.inr ⟨i, by omega, i2, i3, i4⟩
      · rw [h4, hs, if_pos q, if_neg (by decide)]
        rfl
      · rcases h5 with ⟨-, z⟩ | ⟨i, i1, i2, -⟩
        · exact Or.inr ⟨k, by omega, h6, q, z⟩
        · exact absurd (ne_m1 i2) q2
      · rw [t_add h4 (y := 1) rfl (by omega) (by omega), hs, if_neg q, if_pos rfl]
        omega
      · rcases h5 with ⟨z, z2⟩ | ⟨i, i1, i2, i3, i4⟩
        · refine Or.inl ⟨z, fun j hj => ?_⟩
          by_cases e : j = k
          · rw [e]; exact q
          · exact z2 j (by omega)
        · exact Or.inr ⟨i, by omega, i2, i3, i4⟩
/-- nextByTurns | turnOf -/
theorem p_turn {c : sm_S} {v : Nat → Int32} (h : sim0 c v) : ∃ x : Int32, rdI j_M_turnOf [.ref 0] v x v ∧ xC xD j_S_nextByTurns [.ref 17] c (sm_I (fun y σ' => y = x ∧ σ' = c)) ∧ (x = -1 ∨ ∃ s : Nat, s < 8 ∧ x.toInt = s ∧ v (2358 + 8 * s + 0) = 0) := by
  have ex : ∀ nd, nd < 2 → ∃ x, fof v nd x := fun nd hnd => by
    obtain ⟨n, r, σ', -, x, -, hx, -⟩ := l_turn2 (a1 := 0) hnd (rz v) 4 0 (nI nd) (by rw [nI_toInt (by omega)]; omega) rfl (fun j hj => by omega)
    rw [rz_at] at hx
    exact ⟨x, hx⟩
  obtain ⟨x0, f0⟩ := ex 0 (by decide)
  obtain ⟨x1, f1⟩ := ex 1 (by decide)
  have m00 := mnN_le v 0 0 4
  have m10 := mnN_le v 1 0 4
  have m01 := mnN_le v 0 1 4
  have m11 := mnN_le v 1 1 4
  have z0 := mn0 f0
  have z1 := mn0 f1
  have off : ∀ nd x, nd < 2 → fof v nd x → x = -1 ∨ ∃ s : Nat, s < 8 ∧ x.toInt = s ∧ v (2358 + 8 * s + 0) = 0 := fun nd x hnd hf => by
    rcases hf with ⟨z, -⟩ | ⟨i, i1, i2, i3, -⟩
    · exact Or.inl z
    · exact Or.inr ⟨nd + 2 * i, by omega, i2, i3⟩
  have many : ∀ (σ : sm_S) (aI wI : Int32) (nd w : Nat), σ 1 = v → aI.toInt = nd → nd < 2 → wI.toInt = w → w < 2 → xC xM j_M_manyOfNode [.ref 0, .int aI, .int wI] σ (sm_I (fun x σ' => x.toInt = ((mnN v nd w 4 : Nat) : Int) ∧ σ' = σ)) := fun σ aI wI nd w e e1 e2 e3 e4 => by
    have := w_M_manyOfNode aI wI σ _ (l_many2 (a1 := aI) e2 e3 e4 σ 4 0 0 aI (by rw [e1]; omega) rfl rfl)
    rw [e] at this
    exact this
  have go : ∀ (σ : sm_S) (aI : Int32) (nd : Nat) (x : Int32), σ 1 = v → aI.toInt = nd → nd < 2 → fof v nd x → xE xM m_M_turnOf 41 [.ref 0, .int aI, .int aI] [] σ (sm_I (fun y σ' => y = x ∧ σ' = sm_set σ 1 v)) := fun σ aI nd x e e1 e2 e3 => by
    refine (l_turn2 (a1 := aI) e2 σ 4 0 aI (by rw [e1]; omega) rfl (fun j hj => by omega)).mono ?_
    rintro r σ' ⟨y, rfl, hy, rfl⟩
    rw [e] at hy
    exact ⟨y, rfl, fof_un hy e3, by rw [← e, s_id]⟩
  refine ⟨if x0 ≠ -1 ∧ (x1 = -1 ∨ mnN v 0 0 4 ≤ mnN v 1 0 4) then x0 else x1, fun σ e => ?_, ?_, ?_⟩
  · refine w_M_turnOf σ _ ((many σ 0 1 0 1 e rfl (by decide) rfl (by decide)).int ?_)
    rintro y1 σ1 ⟨ey1, es1⟩
    rw [es1]
    refine ⟨fun q => ?_, fun q => (many σ 1 1 1 1 e rfl (by decide) rfl (by decide)).int ?_⟩
    · rw [le0, ey1] at q
      have : x0 = -1 := z0.mp (by omega)
      rw [if_neg (fun z => z.1 this)]
      exact go σ 1 1 x1 e rfl (by decide) f1
    · rw [le0, ey1] at q
      have n0 : x0 ≠ -1 := fun z => by have := z0.mpr z; omega
      rintro y2 σ2 ⟨ey2, es2⟩
      rw [es2]
      refine ⟨fun q2 => ?_, fun q2 => (many σ 0 0 0 0 e rfl (by decide) rfl (by decide)).int ?_⟩
      · have : x1 = -1 := z1.mp (by rw [q2] at ey2; have ey2 : (0 : Int) = _ := ey2; omega)
        rw [if_pos ⟨n0, Or.inl this⟩]
        exact go σ 0 0 x0 e rfl (by decide) f0
      · have n1 : x1 ≠ -1 := fun z => q2 (t_inj (by rw [ey2, z1.mpr z]; rfl))
        rintro y3 σ3 ⟨ey3, es3⟩
        rw [es3]
        refine (many σ 1 0 1 0 e rfl (by decide) rfl (by decide)).int ?_
        rintro y4 σ4 ⟨ey4, es4⟩
        rw [es4]
        refine ⟨fun q3 => ?_, fun q3 => ?_⟩
        · rw [t_lt, ey3, ey4] at q3
          rw [if_neg (fun z => z.2.elim n1 (fun z => by omega))]
          exact go σ 1 1 x1 e rfl (by decide) f1
        · rw [t_lt, ey3, ey4] at q3
          rw [if_pos ⟨n0, Or.inr (by omega)⟩]
          exact go σ 0 0 x0 e rfl (by decide) f0
  · refine d_S_nextByTurns c _ (d_S_nextByTurns_7 (-1) 8 0 _ _ _ c _ ⟨fun z => absurd z (by decide), fun _ => ?_⟩)
    refine l_node2 (nd := 0) (by decide) c h f0 (fun y0 u4 u5 u6 hy0 => ?_) 4 0 0 (-1) 0 rfl rfl rfl (Or.inl ⟨rfl, fun j hj => by omega⟩)
    refine d_S_nextByTurns_7 _ _ _ u4 u5 u6 c _ ⟨fun z => absurd z (by decide), fun _ => ?_⟩
    refine l_node2 (nd := 1) (by decide) c h f1 (fun y1 w4 w5 w6 hy1 => ?_) 4 0 0 (-1) _ rfl rfl rfl (Or.inl ⟨rfl, fun j hj => by omega⟩)
    refine d_S_nextByTurns_7 _ _ _ w4 w5 w6 c _ ⟨fun _ => ⟨_, rfl, ?_, rfl⟩, fun z => absurd (by decide) z⟩
    have n8 : ∀ y : Int32, y.toInt ≤ 4 → ¬ (8 : Int32) ≤ y := fun y hy => by
      rw [t_le]
      show ¬ (8 : Int) ≤ _
      omega
    by_cases a0 : x0 = -1
    · rw [if_pos a0, if_pos a0]
      have nn : ¬ (x0 ≠ -1 ∧ (x1 = -1 ∨ mnN v 0 0 4 ≤ mnN v 1 0 4)) := fun z => z.1 a0
      by_cases a1 : x1 = -1
      · rw [if_pos a1, if_neg nn, a1]
      · rw [if_neg a1, if_neg (n8 y1 (by omega)), if_neg nn]
    · rw [if_neg a0, if_neg a0, if_neg (n8 y0 (by omega)), if_neg (n8 y0 (by omega))]
      by_cases a1 : x1 = -1
      · rw [if_pos a1, if_pos ⟨a0, Or.inl a1⟩]
      · rw [if_neg a1]
        by_cases le : mnN v 0 0 4 ≤ mnN v 1 0 4
        · rw [if_pos (by rw [t_le, hy0, hy1]; omega), if_pos ⟨a0, Or.inr le⟩]
        · rw [if_neg (by rw [t_le, hy0, hy1]; omega), if_neg (fun z => z.2.elim a1 le)]
  · by_cases q : x0 ≠ -1 ∧ (x1 = -1 ∨ mnN v 0 0 4 ≤ mnN v 1 0 4)
    · rw [if_pos q]; exact off 0 x0 (by decide) f0
    · rw [if_neg q]; exact off 1 x1 (by decide) f1
end
section
/-! ===== the simulation: who can go; a span comes; spans come by turns ===== -/
/-- another span is on in the zone 0 -/
def elsN (v : Nat → Int32) (s t : Nat) : Prop := t ≠ s ∧ v (2358 + 8 * t) = 1 ∧ v (2358 + 8 * t + 1) = 0
theorem l_on2 {a2 : Int32} {s : Nat} (h2 : a2.toInt = s) (σ : sm_S) : ∀ (d k m : Nat) (a3 a4 : Int32), a4.toInt = k → k + d = 8 → a3.toInt = m → m ≤ k → (m = 0 ↔ ∀ t, t < k → ¬ elsN (σ 1) s t) → xE xM m_M_onMany 5 [.ref 0, .int 0, .int a2, .int a3, .int a4] [] σ (sm_I (fun x σ' => (∃ m : Nat, x.toInt = m ∧ (m = 0 ↔ ∀ t, t < 8 → ¬ elsN (σ 1) s t)) ∧ σ' = σ)) := by
  intro d
  induction d with
  | zero =>
    intro k m a3 a4 h4 hk h3 hm hb
    have hk : k = 8 := by omega
    subst hk
    exact w_M_onMany_5 0 a2 a3 a4 σ _ ⟨fun _ => ⟨_, rfl, ⟨m, h3, hb⟩, rfl⟩, fun h => absurd (by rw [t_le, h4]; show (8 : Int) ≤ _; omega) h⟩
  | succ d ih =>
    intro k m a3 a4 h4 hk h3 hm hb
    have h4' : (a4 + 1).toInt = ((k + 1 : Nat) : Int) := by
      rw [t_add h4 (y := 1) rfl (by omega) (by omega)]
      omega
    have h3' : (a3 + 1).toInt = ((m + 1 : Nat) : Int) := by
      rw [t_add h3 (y := 1) rfl (by omega) (by omega)]
      omega
    have no : ¬ elsN (σ 1) s k → (m = 0 ↔ ∀ t, t < k + 1 → ¬ elsN (σ 1) s t) := fun z => by
      rw [hb]
      refine ⟨fun q t ht => ?_, fun q t ht => q t (by omega)⟩
      by_cases e : t = k
      · rw [e]; exact z
      · exact q t (by omega)
    have yes : elsN (σ 1) s k → (m + 1 = 0 ↔ ∀ t, t < k + 1 → ¬ elsN (σ 1) s t) := fun z => ⟨fun q => by omega, fun q => absurd z (q k (by omega))⟩
    refine w_M_onMany_5 0 a2 a3 a4 σ _ ⟨fun h => ?_, fun _ => ⟨fun q => ih (k + 1) m a3 (a4 + 1) h4' (by omega) h3 (by omega) (no ?_), fun q => (c_spanState h4 (by omega) σ).int ?_⟩⟩
    · rw [t_le, h4] at h
      have h : (8 : Int) ≤ k := h
      omega
    · rintro ⟨z, -⟩
      have := congrArg Int32.toInt q
      rw [h4, h2] at this
      omega
    · rintro y σ1 ⟨ey, es⟩
      rw [ey, es]
      refine ⟨fun q2 => ih (k + 1) m a3 (a4 + 1) h4' (by omega) h3 (by omega) (no (fun z => q2 z.2.1)), fun q2 => (c_zoneOf2 h4 (by omega) σ).int ?_⟩
      rintro y2 σ2 ⟨ey2, es2⟩
      have st := Classical.not_not.mp q2
      have ez : zV (σ 1) k = σ 1 (2358 + 8 * k + 1) := by
        unfold zV
        rw [st]
        exact if_neg (by decide)
      rw [ey2, es2, ez]
      refine ⟨fun q3 => ih (k + 1) m a3 (a4 + 1) h4' (by omega) h3 (by omega) (no (fun z => q3 z.2.2)), fun q3 => ih (k + 1) (m + 1) (a3 + 1) (a4 + 1) h4' (by omega) h3' (by omega) (yes ⟨fun z => q (t_inj (by rw [h4, h2, z])), st, Classical.not_not.mp q3⟩)⟩
theorem l_canGo2 {a1 : Int32} {s : Nat} {v : Nat → Int32} (h1 : a1.toInt = s) (c : sm_S) (h : sim0 c v) : ∀ (d k : Nat) (a2 : Int32), a2.toInt = k → k + d = 8 → (∀ t, t < k → ¬ elsN v s t) → xE xD m_S_canGo 14 [.ref 17, .int a1, .int a2] [] c (sm_I (fun x σ' => ((x = 0 ∧ ∀ t, t < 8 → ¬ elsN v s t) ∨ (x = 1 ∧ ∃ t, t < 8 ∧ elsN v s t)) ∧ σ' = c)) := by
  intro d
  induction d with
  | zero =>
    intro k a2 h2 hk hb
    exact d_S_canGo_14 a1 a2 c _ ⟨fun _ => ⟨Or.inl rfl, _, rfl, Or.inl ⟨rfl, fun t ht => hb t (by omega)⟩, rfl⟩, fun z => absurd (by rw [t_le, h2]; show (8 : Int) ≤ _; omega) z⟩
  | succ d ih =>
    intro k a2 h2 hk hb
    have h2' : (a2 + 1).toInt = ((k + 1 : Nat) : Int) := by
      rw [t_add h2 (y := 1) rfl (by omega) (by omega)]
      omega
    have no : ¬ elsN v s k → ∀ t, t < k + 1 → ¬ elsN v s t := fun z t ht => by
      by_cases e : t = k
      · rw [e]; exact z
      · exact hb t (by omega)
    have st : v (2358 + 8 * k) = c 18 k := (h.S k (by omega)).sta
    refine d_S_canGo_14 a1 a2 c _ ⟨fun z => ?_, fun _ => ⟨fun q => ih (k + 1) (a2 + 1) h2' (by omega) (no ?_), fun q => ?_⟩⟩
    · rw [t_le, h2] at z
      have z : (8 : Int) ≤ k := z
      omega
    · rintro ⟨z, -⟩
      have := congrArg Int32.toInt q
      rw [h2, h1] at this
      omega
    · rw [t_nat h2, ← st]
      refine ⟨t_vp h2 (by omega), fun q2 => ih (k + 1) (a2 + 1) h2' (by omega) (no (fun z => q2 z.2.1)), fun q2 => ⟨t_vp h2 (by omega), fun q3 => ih (k + 1) (a2 + 1) h2' (by omega) (no ?_), fun q3 => ⟨Or.inr rfl, _, rfl, Or.inr ⟨rfl, k, by omega, fun z => q (t_inj (by rw [h2, h1, z])), Classical.not_not.mp q2, ?_⟩, rfl⟩⟩⟩
      all_goals
        have q2' := Classical.not_not.mp q2
        have ez : c 19 k = v (2358 + 8 * k + 1) := by
          rw [sim_zone h (by omega)]
          unfold zV
          rw [q2']
          exact if_neg (by decide)
        rw [ez] at q3
      · exact fun z => q3 z.2.2
      · exact Classical.not_not.mp q3
/-- canGo | canGo, of a span -/
theorem p_canGo {c : sm_S} {v : Nat → Int32} {a1 : Int32} {s : Nat} (h : sim0 c v) (h1 : a1.toInt = s) (hs : s < 8) : ∃ x : Int32, rdI j_M_canGo [.ref 0, .int a1] v x v ∧ xC xD j_S_canGo [.ref 17, .int a1] c (sm_I (fun y σ' => y = x ∧ σ' = c)) ∧ ((x = 1 ∧ c 18 s = 1) ∨ x = 0) := by
  have st : v (2358 + 8 * s) = c 18 s := (h.S s hs).sta
  have isS : ∀ σ : sm_S, xC xM j_M_isSpan [.ref 0, .int a1] σ (sm_I (fun y σ' => y = 1 ∧ σ' = σ)) := fun σ => (c_isSpan a1 σ).mono (by
    rintro r σ' ⟨y, rfl, hy, rfl⟩
    refine ⟨y, rfl, ?_, rfl⟩
    rcases hy with ⟨y1, -⟩ | ⟨-, hy⟩
    · exact y1
    · omega)
  by_cases on : c 18 s = 1
  · obtain ⟨x, hx, rx⟩ := pick (d_S_canGo a1 c _ ⟨t_vp h1 hs, fun _ => l_canGo2 h1 c h 8 0 0 rfl rfl (fun t ht => by omega), fun z => absurd (by rw [t_nat h1]; exact on) z⟩)
    refine ⟨x, fun σ e => ?_, rx, ?_⟩
    · refine w_M_canGo a1 σ _ ((isS σ).int ?_)
      rintro y1 σ1 ⟨ey1, es1⟩
      rw [ey1, es1]
      refine ⟨fun z => absurd z (by decide), fun _ => (c_spanState h1 hs σ).int ?_⟩
      rintro y2 σ2 ⟨ey2, es2⟩
      rw [ey2, es2, e, st]
      refine ⟨fun z => absurd on z, fun _ => (w_M_onMany 0 a1 σ _ (l_on2 h1 σ 8 0 0 0 0 rfl rfl rfl (Nat.le_refl 0) ⟨fun _ t ht => by omega, fun _ => rfl⟩)).int ?_⟩
      rintro y3 σ3 ⟨⟨m, ey3, hm⟩, es3⟩
      rw [e] at hm
      rw [es3]
      refine ⟨fun z => ⟨Or.inl rfl, _, rfl, ?_, by rw [← e, s_id]⟩, fun z => ⟨Or.inr rfl, _, rfl, ?_, by rw [← e, s_id]⟩⟩
      · rw [le0, ey3] at z
        rcases hx with ⟨w, -⟩ | ⟨-, t, t1, t2⟩
        · exact w.symm
        · exact absurd t2 (hm.mp (by omega) t t1)
      · rw [le0, ey3] at z
        rcases hx with ⟨-, w⟩ | ⟨w, -⟩
        · exact absurd (hm.mpr w) (by omega)
        · exact w.symm
    · rcases hx with ⟨w, -⟩ | ⟨w, -⟩
      · exact Or.inr w
      · exact Or.inl ⟨w, on⟩
  · refine ⟨0, fun σ e => ?_, d_S_canGo a1 c _ ⟨t_vp h1 hs, fun z => absurd (by rw [t_nat h1] at z; exact z) on, fun _ => ⟨Or.inl rfl, _, rfl, rfl, rfl⟩⟩, Or.inr rfl⟩
    refine w_M_canGo a1 σ _ ((isS σ).int ?_)
    rintro y1 σ1 ⟨ey1, es1⟩
    rw [ey1, es1]
    refine ⟨fun z => absurd z (by decide), fun _ => (c_spanState h1 hs σ).int ?_⟩
    rintro y2 σ2 ⟨ey2, es2⟩
    rw [ey2, es2, e, st]
    exact ⟨fun _ => ⟨Or.inl rfl, _, rfl, rfl, by rw [← e, s_id]⟩, fun z => absurd (Classical.not_not.mp z) on⟩
theorem opF_o {v : Nat → Int32} {s i : Nat} {z : Int32} (h1 : i < 18 + 3 * (32 * s) ∨ 18 + 3 * (32 * s + 32) ≤ i ∨ (i - 18) % 3 ≠ 0) (h2 : i ≠ 2358 + 8 * s + 0) (h3 : i ≠ 2358 + 8 * s + 1) : opF v s z i = v i := by
  unfold opF
  rw [fsF_out h1, u_ne h3, u_ne h2]
/-- open | comesOn -/
theorem p_on {g : Prop} {N s : Nat} {c : sm_S} {v : Nat → Int32} {a1 : Int32} (z : Int32) (h : tie g N c v) (hj : jj N v) (hx : jx v) (hN : N < 2000000000) (h1 : a1.toInt = s) (hs : s < 8) (h0 : v (2358 + 8 * s + 0) = 0) (hz : z = 0 ∨ z = 1) : ∃ v' c', rdI j_M_comesOn [.ref 0, .int a1, .int z] v z v' ∧ xC xD j_Y_open [.ref 0, .int a1, .int z] c (sm_V (fun σ' => σ' = c')) ∧ tie g (N + 1) c' v' ∧ jj (N + 1) v' ∧ jx v' := by
  have gs := h.s.S s hs
  have c0 : c 18 s = 0 := by rw [← gs.sta]; exact h0
  have run : rdI j_M_comesOn [.ref 0, .int a1, .int z] v z (wrF (opF v s z) N 3 a1 z) := fun σ e => by
    rw [← e]
    exact c_comesOn2 h1 hs z σ (by rw [e]; exact h.n)
  have det := run.det (c_comesOn (N := N) h1 hs (by omega) (rz v) (by rw [rz_at]; exact hj) (by rw [rz_at]; exact h0))
  have jw : jj (N + 1) (wrF (opF v s z) N 3 a1 z) := by
    obtain ⟨w, ew, jw, -⟩ := det
    rw [rz_eq ew] at jw
    exact jw
  have t1 : tie g N (opC c s z) (opF v s z) := by
    refine h.to (sim_on z h.s h.b hs c0) (fun k k1 k2 => ?_) (opF_o (by omega) (by omega) (by omega)) (fun i hi => opF_o (by omega) (by omega) (by omega)) (fun b hb => bk_cong (fun k _ _ _ _ => opF_o (by omega) (by omega) (by omega)) (h.b b hb))
    unfold opC
    rw [s_ne (by omega), s_ne (by omega), s_ne (by omega)]
  obtain ⟨nl, hnl, h5l, t2⟩ := t1.log hN 3 a1 z
  have lo : ∀ i, i < 2422 → i ≠ 5 → wrF (opF v s z) N 3 a1 z i = opF v s z i := fun i i1 i2 => wrF_lo i1 i2
  refine ⟨_, _, run, e_open2 h1 hs z c (n := nl) h5l hnl, t2, jw, ?_⟩
  refine ⟨fun b hb q => ?_, fun b hb q => ?_, fun t ht q => ?_, ?_, ?_⟩
  · rw [lo _ (by omega) (by omega), opF_o (by omega) (by omega) (by omega)] at q ⊢
    rw [lo _ (by omega) (by omega), opF_o (by omega) (by omega) (by omega), lo _ (by omega) (by omega), opF_o (by omega) (by omega) (by omega), lo _ (by omega) (by omega), opF_o (by omega) (by omega) (by omega)]
    exact hx.1 b hb q
  · rw [lo _ (by omega) (by omega), opF_o (by omega) (by omega) (by omega)] at q
    rw [lo _ (by omega) (by omega), opF_o (by omega) (by omega) (by omega)]
    exact hx.2.1 b hb q
  · by_cases e : t = s
    · subst e
      have : wrF (opF v t z) N 3 a1 z (2358 + 8 * t + 1) = z := by
        rw [lo _ (by omega) (by omega)]
        unfold opF
        rw [fsF_out (by omega), u_at]
      rw [this]
      exact hz
    · rw [lo _ (by omega) (by omega), opF_o (by omega) (by omega) (by omega)] at q
      rw [lo _ (by omega) (by omega), opF_o (by omega) (by omega) (by omega)]
      exact hx.2.2.1 t ht q
  · rw [lo _ (by omega) (by omega), opF_o (by omega) (by omega) (by omega)]
    exact hx.2.2.2.1
  · rw [lo _ (by omega) (by omega), opF_o (by omega) (by omega) (by omega), lo _ (by omega) (by omega), opF_o (by omega) (by omega) (by omega)]
    exact hx.2.2.2.2
end
section
/-! ===== the simulation: pack | presses ===== -/
def frp (v : Nat → Int32) (p o : Nat) : Prop := ∀ f, p ≤ f → f < p + 2 ^ o → v (18 + 3 * f) = 1
/-- a block of span s that is to be pressed and not done -/
def cand (v w : Nat → Int32) (s b fr : Nat) : Prop := b < 96 ∧ v (786 + 16 * b + 0) = 1 ∧ w b = 0 ∧ (v (786 + 16 * b + 1)).toInt = fr ∧ fr / 32 = s ∧ v (786 + 16 * b + 3) = 0 ∧ v (786 + 16 * b + 5) = 0 ∧ v (786 + 16 * b + 6) = 0
theorem l_ntp2 {N s : Nat} {a1 : Int32} {v w : Nat → Int32} (h1 : a1.toInt = s) (hj : jj N v) (σ : sm_S) (e : σ 1 = v) (e4 : σ 4 = w) : ∀ (d k : Nat) (a2 a3 : Int32), a3.toInt = k → k + d = 96 → ((a2 = -1 ∧ ∀ b fr, b < k → ¬ cand v w s b fr) ∨ ∃ n fr : Nat, a2.toInt = n ∧ cand v w s n fr ∧ ∀ b fr', b < k → cand v w s b fr' → fr' ≤ fr) → xE xM m_M_nextToPress 4 [.ref 0, .int a1, .int a2, .int a3] [] σ (sm_I (fun x σ' => ((x = -1 ∧ ∀ b fr, ¬ cand v w s b fr) ∨ ∃ n fr : Nat, x.toInt = n ∧ cand v w s n fr ∧ ∀ b fr', cand v w s b fr' → fr' ≤ fr) ∧ σ' = σ)) := by
  intro d
  induction d with
  | zero =>
    intro k a2 a3 h3 hk hb
    have q96 : (96 : Int32) ≤ a3 := by
      rw [t_le, h3]
      show (96 : Int) ≤ _
      omega
    refine w_M_nextToPress_4 a1 a2 a3 σ _ ⟨fun _ => ⟨_, rfl, ?_, rfl⟩, fun z => absurd q96 z⟩
    rcases hb with ⟨z1, z2⟩ | ⟨n, fr, z1, z2, z3⟩
    · exact Or.inl ⟨z1, fun b fr q => z2 b fr (by have := q.1; omega) q⟩
    · exact Or.inr ⟨n, fr, z1, z2, fun b fr' q => z3 b fr' (by have := q.1; omega) q⟩
  | succ d ih =>
    intro k a2 a3 h3 hk hb
    have n96 : ¬ (96 : Int32) ≤ a3 := by
      rw [t_le, h3]
      show ¬ (96 : Int) ≤ _
      omega
    have hn : k < 96 := by omega
    have h3' : (a3 + 1).toInt = ((k + 1 : Nat) : Int) := by
      rw [t_add h3 (y := 1) rfl (by omega) (by omega)]
      omega
    have no : (∀ fr, ¬ cand v w s k fr) → xE xM m_M_nextToPress 4 [.ref 0, .int a1, .int a2, .int (a3 + 1)] [] σ (sm_I (fun x σ' => ((x = -1 ∧ ∀ b fr, ¬ cand v w s b fr) ∨ ∃ n fr : Nat, x.toInt = n ∧ cand v w s n fr ∧ ∀ b fr', cand v w s b fr' → fr' ≤ fr) ∧ σ' = σ)) := fun z => by
      refine ih (k + 1) a2 (a3 + 1) h3' (by omega) ?_
      rcases hb with ⟨z1, z2⟩ | ⟨n, fr, z1, z2, z3⟩
      · refine Or.inl ⟨z1, fun b fr hb2 => ?_⟩
        by_cases q : b = k
        · rw [q]; exact z fr
        · exact z2 b fr (by omega)
      · refine Or.inr ⟨n, fr, z1, z2, fun b fr' hb2 q => ?_⟩
        by_cases q2 : b = k
        · rw [q2] at q; exact absurd q (z fr')
        · exact z3 b fr' (by omega) q
    obtain ⟨o, fr, b1, ho, b3, hfr, hal, -⟩ := hj.2.1.1 k hn
    refine w_M_nextToPress_4 a1 a2 a3 σ _ ⟨fun z => absurd z n96, fun _ => (c_isBlock a3 σ).int ?_⟩
    rintro y σ1 ⟨ey, es⟩
    rw [e] at ey
    rw [es]
    refine ⟨fun z => no (fun fr2 q => ?_), fun z => ?_⟩
    · rcases ey with ⟨y1, -⟩ | ⟨-, y0 | ⟨m, m1, m2, m3⟩⟩
      · rw [y1] at z; exact absurd z (by decide)
      · omega
      · have : m = k := by omega
        subst this
        exact m3 q.2.1
    · have al : v (786 + 16 * k + 0) = 1 := by
        rcases ey with ⟨-, m, m1, m2, m3⟩ | ⟨y0, -⟩
        · have : m = k := by omega
          subst this
          exact m3
        · exact absurd y0 z
      rw [t_nat h3, e4]
      refine ⟨t_vp h3 hn, fun q => no (fun fr2 z => q z.2.2.1), fun q => (c_frameOf h3 hn σ).int ?_⟩
      have q := Classical.not_not.mp q
      rintro y2 σ2 ⟨ey2, es2⟩
      rw [ey2, es2, e]
      refine (c_spanOf2 b3 σ).int ?_
      rintro y3 σ3 ⟨ey3, es3⟩
      rw [es3]
      refine ⟨fun q2 => no (fun fr2 z => q2 (t_inj ?_)), fun q2 => (r_loose hj h3 hn σ e).int ?_⟩
      · have e1 := z.2.2.2.1
        have e2 := z.2.2.2.2.1
        have : fr2 = fr := by omega
        subst this
        rw [ey3, h1, e2]
      · have q2 := congrArg Int32.toInt (Classical.not_not.mp q2)
        rw [ey3, h1] at q2
        have frs : fr / 32 = s := by omega
        rintro y4 σ4 ⟨ey4, es4⟩
        rw [es4]
        refine ⟨fun z2 => no (fun fr2 z => ?_), fun z2 => ?_⟩
        · rcases ey4 with ⟨w1, -⟩ | ⟨-, w1⟩
          · rw [w1] at z2; exact absurd z2 (by decide)
          · exact w1 ⟨z.2.2.2.2.2.1, z.2.2.2.2.2.2.1, z.2.2.2.2.2.2.2⟩
        · have lo : v (786 + 16 * k + 3) = 0 ∧ v (786 + 16 * k + 5) = 0 ∧ v (786 + 16 * k + 6) = 0 := by
            rcases ey4 with ⟨-, w1⟩ | ⟨w0, -⟩
            · exact w1
            · exact absurd w0 z2
          have ck : cand v w s k fr := ⟨hn, al, q, b3, frs, lo.1, lo.2.1, lo.2.2⟩
          have une : ∀ fr2, cand v w s k fr2 → fr2 = fr := fun fr2 z => by have := z.2.2.2.1; omega
          refine ⟨fun am => ih (k + 1) a3 (a3 + 1) h3' (by omega) (Or.inr ⟨k, fr, h3, ck, fun b fr' hb2 z => ?_⟩), fun am => (c_frameOf h3 hn σ).int ?_⟩
          · rcases hb with ⟨-, w2⟩ | ⟨n, _, w1, -⟩
            · by_cases e0 : b = k
              · rw [e0] at z
                exact Nat.le_of_eq (une fr' z)
              · exact absurd z (w2 b fr' (by omega))
            · exact absurd am (ne_m1 w1)
          · rcases hb with ⟨w1, -⟩ | ⟨n, frn, w1, w2, w3⟩
            · exact absurd w1 am
            · rintro y5 σ5 ⟨ey5, es5⟩
              rw [ey5, es5, e]
              refine (c_frameOf w1 w2.1 σ).int ?_
              rintro y6 σ6 ⟨ey6, es6⟩
              rw [ey6, es6, e]
              have efn := w2.2.2.2.1
              refine ⟨fun le => ih (k + 1) a2 (a3 + 1) h3' (by omega) (Or.inr ⟨n, frn, w1, w2, fun b fr' hb2 z => ?_⟩), fun le => ih (k + 1) a3 (a3 + 1) h3' (by omega) (Or.inr ⟨k, fr, h3, ck, fun b fr' hb2 z => ?_⟩)⟩
              · rw [t_le, b3, efn] at le
                by_cases e0 : b = k
                · rw [e0] at z
                  rw [une fr' z]
                  omega
                · exact w3 b fr' (by omega) z
              · rw [t_le, b3, efn] at le
                by_cases e0 : b = k
                · rw [e0] at z
                  exact Nat.le_of_eq (une fr' z)
                · have := w3 b fr' (by omega) z
                  omega
/-- the search for a place ahead of frame fr: its end is where the next is looked for -/
theorem l_p472 {s n o fr : Nat} {a1 a2 a3 : Int32} {v : Nat → Int32} {Q : Option Value → sm_S → Prop} (h3 : a3.toInt = n) (hn : n < 96) (b3 : (v (786 + 16 * n + 1)).toInt = fr) (b1 : (v (786 + 16 * n + 2)).toInt = o) (ho : o ≤ 4) (hfr : fr < 256) (hal : fr % 2 ^ o = 0) (hfs : fr / 32 = s) (σ : sm_S) (e : σ 1 = v)
    (kY : ∀ (p : Nat) (a4 : Int32), a4.toInt = p → 32 * s ≤ p → p < fr → p % 2 ^ o = 0 → frp v p o → (∀ q, 32 * s ≤ q → q < p → q % 2 ^ o = 0 → ¬ frp v q o) → xC xM j_M_movesTo [.ref 0, .int a3, .int a4] σ (sm_rv False (fun σ5 => xC xM j_M_nextToPress [.ref 0, .int a1] σ5 (sm_ri False (fun x7 σ6 => xE xM m_M_presses 29 [.ref 0, .int a1, .int (a2 + 1), .int x7, .int a4] [] σ6 Q)))))
    (kN : ∀ a4 : Int32, (∀ q, 32 * s ≤ q → q < fr → q % 2 ^ o = 0 → ¬ frp v q o) → xC xM j_M_nextToPress [.ref 0, .int a1] σ (sm_ri False (fun x9 σ8 => xE xM m_M_presses 29 [.ref 0, .int a1, .int a2, .int x9, .int a4] [] σ8 Q))) : ∀ (d i : Nat) (a4 : Int32), a4.toInt = ((32 * s + i * 2 ^ o : Nat) : Int) → 32 * s + (i + d) * 2 ^ o = fr → (∀ q, 32 * s ≤ q → q < 32 * s + i * 2 ^ o → q % 2 ^ o = 0 → ¬ frp v q o) → xE xM m_M_presses 47 [.ref 0, .int a1, .int a2, .int a3, .int a4] [] σ Q := by
  have hp := t_pw (k := o) (by omega)
  have rf : xC xM j_M_frameOf [.ref 0, .int a3] σ (sm_I (fun y σ' => y = v (786 + 16 * n + 1) ∧ σ' = σ)) := by
    have := c_frameOf h3 hn σ
    rw [e] at this
    exact this
  have dv32 : 2 ^ o ∣ 32 := by
    have : o = 0 ∨ o = 1 ∨ o = 2 ∨ o = 3 ∨ o = 4 := by omega
    rcases this with z | z | z | z | z <;> subst z <;> decide
  have al : ∀ i, (32 * s + i * 2 ^ o) % 2 ^ o = 0 := fun i => Nat.mod_eq_zero_of_dvd (Nat.dvd_add (Nat.dvd_trans dv32 ⟨s, rfl⟩) ⟨i, Nat.mul_comm _ _⟩)
  intro d
  induction d with
  | zero =>
    intro i a4 h4 hd hb
    refine w_M_presses_47 a1 a2 a3 a4 σ Q (rf.int ?_)
    rintro y σ1 ⟨ey, es⟩
    rw [ey, es]
    refine ⟨fun _ => rf.int ?_, fun z => absurd ?_ z⟩
    · rintro y2 σ2 ⟨ey2, es2⟩
      rw [ey2, es2]
      refine ⟨fun z => ?_, fun _ => kN a4 (fun q q1 q2 q3 => hb q q1 (by rw [Nat.add_zero] at hd; omega) q3)⟩
      rw [t_lt, h4, b3] at z
      rw [Nat.add_zero] at hd
      omega
    · rw [t_le, b3, h4]
      rw [Nat.add_zero] at hd
      omega
  | succ d ih =>
    intro i a4 h4 hd hb
    have hlt : 32 * s + i * 2 ^ o < fr := by
      have : (i + (d + 1)) * 2 ^ o = i * 2 ^ o + (d + 1) * 2 ^ o := Nat.add_mul _ _ _
      have : 1 * 2 ^ o ≤ (d + 1) * 2 ^ o := Nat.mul_le_mul_right _ (by omega)
      omega
    refine w_M_presses_47 a1 a2 a3 a4 σ Q (rf.int ?_)
    rintro y σ1 ⟨ey, es⟩
    rw [ey, es]
    refine ⟨fun z => ?_, fun _ => (c_of (k := 2) (j := 2) h3 rfl (by omega) σ).int ?_⟩
    · rw [t_le, b3, h4] at z
      omega
    · rintro y2 σ2 ⟨ey2, es2⟩
      rw [ey2, es2, e]
      refine (c_areFree h4 (by omega) b1 (by omega) σ).int ?_
      rintro y3 σ3 ⟨ey3, es3⟩
      rw [e, al_pow (al i)] at ey3
      rw [es3]
      refine ⟨fun z => rf.int ?_, fun z => (c_longOf h3 hn σ).int ?_⟩
      · have hfree : frp v (32 * s + i * 2 ^ o) o := by
          rcases ey3 with ⟨-, w⟩ | ⟨w, -⟩
          · intro f f1 f2
            have := w (f - (32 * s + i * 2 ^ o)) (by omega)
            rw [show 32 * s + i * 2 ^ o + (f - (32 * s + i * 2 ^ o)) = f by omega] at this
            exact this
          · exact absurd w z
        rintro y4 σ4 ⟨ey4, es4⟩
        rw [ey4, es4]
        refine ⟨fun _ => kY _ a4 h4 (by omega) hlt (al i) hfree hb, fun w => absurd ?_ w⟩
        rw [t_lt, h4, b3]
        omega
      · have nfree : ¬ frp v (32 * s + i * 2 ^ o) o := fun q => by
          rcases ey3 with ⟨w, -⟩ | ⟨-, j, j1, j2⟩
          · exact z (by rw [w]; decide)
          · exact j2 (q _ (by omega) (by omega))
        rintro y5 σ5 ⟨ey5, es5⟩
        rw [ey5, es5, e]
        have sm : (i + 1) * 2 ^ o = i * 2 ^ o + 2 ^ o := Nat.succ_mul i (2 ^ o)
        have h4' : (a4 + (1 : Int32) <<< (v (786 + 16 * n + 2) &&& 31)).toInt = ((32 * s + (i + 1) * 2 ^ o : Nat) : Int) := by
          rw [t_add h4 (t_pow b1 (by omega)) (by omega) (by omega)]
          omega
        refine ih (i + 1) _ h4' (by rw [show i + 1 + d = i + (d + 1) by omega]; exact hd) (fun q q1 q2 q3 => ?_)
        by_cases lt : q < 32 * s + i * 2 ^ o
        · exact hb q q1 lt q3
        · have : q = 32 * s + i * 2 ^ o := by
            have a1 := Nat.div_add_mod q (2 ^ o)
            have a2 := Nat.div_add_mod (32 * s + i * 2 ^ o) (2 ^ o)
            rw [q3] at a1
            rw [al i] at a2
            have a3 : 2 ^ o * (q / 2 ^ o) < 2 ^ o * ((32 * s + i * 2 ^ o) / 2 ^ o + 1) := by rw [Nat.mul_succ]; omega
            have a4 := Nat.lt_of_mul_lt_mul_left a3
            have a5 : 2 ^ o * ((32 * s + i * 2 ^ o) / 2 ^ o) ≤ 2 ^ o * (q / 2 ^ o) := by omega
            have a6 := Nat.le_of_mul_le_mul_left a5 (by omega)
            have : q / 2 ^ o = (32 * s + i * 2 ^ o) / 2 ^ o := by omega
            rw [this] at a1
            omega
          rw [this]
          exact nfree
theorem frp_iff {c : sm_S} {v : Nat → Int32} {s i o : Nat} (h : sim0 c v) (hs : s < 8) (hi : i < 32) (ho : o ≤ 4) : bit (st (c 2 s) o) i ↔ i % 2 ^ o = 0 ∧ frp v (32 * s + i) o := by
  rw [st_iff (by omega) hi]
  refine and_congr_right (fun al => ?_)
  have ha := t_al (k := o) (f := i) (by omega) al
  refine ⟨fun q f f1 f2 => ?_, fun q j hj => ?_⟩
  · have := q (f - (32 * s + i)) (by omega)
    rw [al_pow al] at this
    have e := (h.F f (by omega)).fre
    rw [show f / 32 = s by omega, show f % 32 = i + (f - (32 * s + i)) by omega] at e
    exact e.mp this
  · rw [al_pow al]
    have e := (h.F (32 * s + i + j) (by omega)).fre
    rw [show (32 * s + i + j) / 32 = s by omega, show (32 * s + i + j) % 32 = i + j by omega] at e
    exact e.mpr (q _ (by omega) (by omega))
end
section
/-! ===== the simulation: pack | presses, side by side ===== -/
theorem al_gap {q p o : Nat} (h1 : q % 2 ^ o = 0) (h2 : p % 2 ^ o = 0) (h : q < p) : q + 2 ^ o ≤ p := by
  have a1 := Nat.div_add_mod q (2 ^ o)
  have a2 := Nat.div_add_mod p (2 ^ o)
  rw [h1] at a1
  rw [h2] at a2
  have a3 : 2 ^ o * (q / 2 ^ o) < 2 ^ o * (p / 2 ^ o) := by omega
  have a4 := Nat.lt_of_mul_lt_mul_left a3
  have a5 : 2 ^ o * (q / 2 ^ o + 1) ≤ 2 ^ o * (p / 2 ^ o) := Nat.mul_le_mul_left _ a4
  rw [Nat.mul_succ] at a5
  omega
theorem e_blockAt2 {a1 : Int32} {f : Nat} {v : Nat → Int32} (h1 : a1.toInt = f) (hf : f < 256) (σ : sm_S) (h : sim0 σ v) : xC xD j_Y_blockAt [.ref 0, .int a1] σ (sm_I (fun x σ' => ((x = -1 ∧ wt v f ≠ 1) ∨ ∃ n : Nat, n < 96 ∧ x.toInt = n ∧ v (786 + 16 * n + 0) = 1 ∧ (v (786 + 16 * n + 1)).toInt = f ∧ v (18 + 3 * f) = 3 ∧ (v (18 + 3 * f + 1)).toInt = ((n + 1 : Nat) : Int)) ∧ σ' = σ)) := by
  have gF := h.F f hf
  refine d_Y_blockAt a1 σ _ ?_
  rw [t_nat h1]
  refine ⟨t_vp h1 hf, fun z => ⟨_, rfl, Or.inl ⟨rfl, ?_⟩, rfl⟩, fun z => ?_⟩
  · have e := gF.blk
    rw [z] at e
    have e : v (18 + 3 * f + 1) = 0 := e
    by_cases q : v (18 + 3 * f) = 3
    · obtain ⟨b, _, _, p1, p2, -⟩ := h.O.tk _ hf q
      rw [e] at p2
      have p2 : (0 : Int) = _ := p2
      omega
    · rw [wt_0 q]; decide
  · have s34 : v (18 + 3 * f) = 3 ∨ v (18 + 3 * f) = 4 := by
      refine Classical.byContradiction (fun q => z ?_)
      have e := h.O.no f hf (fun y => q (Or.inl y)) (fun y => q (Or.inr y))
      rw [gF.blk] at e
      have e2 : σ 6 f = (σ 6 f + 1) - 1 := by rw [Int32.add_sub_cancel]
      rw [e2, e]
      rfl
    have bb : ∃ b : Nat, b < 96 ∧ (v (18 + 3 * f + 1)).toInt = ((b + 1 : Nat) : Int) ∧ v (786 + 16 * b + 0) = 1 ∧ (v (18 + 3 * f) ≠ 3 → (v (786 + 16 * b + 1)).toInt ≠ f) := by
      rcases s34 with q | q
      · obtain ⟨b, _, _, p1, p2, p3, -⟩ := h.O.tk _ hf q
        exact ⟨b, p1, p2, p3, fun y => absurd q y⟩
      · obtain ⟨b, t, o, p1, p2, p3, p4, p5, p6⟩ := h.O.hl _ hf q
        refine ⟨b, p1, p2, p3, fun _ y => ?_⟩
        have := (h.O.hs b f o p1 p3 y p5 0 (Nat.two_pow_pos o)).1
        rw [Nat.add_zero, q] at this
        exact absurd this (by decide)
    obtain ⟨b, p1, p2, p3, p4⟩ := bb
    have c6 : (σ 6 f).toInt = b := m1_add (by rw [← gF.blk]; exact p2) (by omega)
    obtain ⟨gb, -⟩ := (h.B b p1).al p3
    rw [t_nat c6, ← gb.fir]
    refine ⟨t_vp c6 p1, fun w => ⟨_, rfl, Or.inl ⟨rfl, ?_⟩, rfl⟩, fun w => ?_⟩
    · by_cases q : v (18 + 3 * f) = 3
      · rw [wt_1 q p2 p1, if_neg (fun y => w (t_inj (by rw [y, h1])))]
        decide
      · rw [wt_0 q]; decide
    · have w := congrArg Int32.toInt (Classical.not_not.mp w)
      rw [h1] at w
      have q : v (18 + 3 * f) = 3 := Classical.byContradiction (fun q => p4 q w)
      exact ⟨_, rfl, Or.inr ⟨b, p1, c6, p3, w, q, p2⟩, rfl⟩
/-- what is done of a press -/
def prs (v w : Nat → Int32) (s k : Nat) : Prop := (∀ b fr, cand v w s b fr → fr % 32 < k) ∧ ∀ b fr o : Nat, b < 96 → v (786 + 16 * b + 0) = 1 → w b ≠ 0 → (v (786 + 16 * b + 1)).toInt = fr → fr / 32 = s → fr % 32 < k → (v (786 + 16 * b + 2)).toInt = o → v (786 + 16 * b + 3) = 0 → v (786 + 16 * b + 5) = 0 → v (786 + 16 * b + 6) = 0 → ∀ q, 32 * s ≤ q → q < fr → q % 2 ^ o = 0 → ¬ frp v q o
theorem cand_at {v w : Nat → Int32} {s b fr : Nat} (ow : own v) (hk : ∀ b, b < 96 → bk_ok v b) (h : cand v w s b fr) : v (18 + 3 * fr) = 3 ∧ (v (18 + 3 * fr + 1)).toInt = ((b + 1 : Nat) : Int) ∧ wt v fr = 1 := by
  obtain ⟨o, fr', b1, ho, b3, -⟩ := hk b h.1
  have e := h.2.2.2.1
  have := ow.hs b fr o h.1 h.2.1 e b1 0 (Nat.two_pow_pos o)
  rw [Nat.add_zero] at this
  exact ⟨this.1, this.2, by rw [wt_1 this.1 this.2 h.1, if_pos e]⟩
theorem l_pack2 {g : Prop} {s : Nat} {a1 : Int32} (h1 : a1.toInt = s) (hs : s < 8) : ∀ (k N : Nat) (a2 a3 : Int32) (c : sm_S) (v w : Nat → Int32), tie g N c v → jj N v → jx v → v (2358 + 8 * s + 0) = 1 → a3.toInt = (k : Int) - 1 → k ≤ 32 → prs v w s k →
    ∃ v' c' y, (∀ (σ : sm_S) (v4 : Value), σ 1 = v → σ 4 = w → xC xM j_M_nextToPress [.ref 0, .int a1] σ (sm_ri False (fun x σ1 => xE xM m_M_presses 29 [.ref 0, .int a1, .int a2, .int x, v4] [] σ1 (sm_I (fun z σ' => z = y ∧ ∃ w', σ' = sm_set (sm_set σ 4 w') 1 v'))))) ∧ (∀ v4 v5 v6 : Value, xE xD m_Y_pack 5 [.ref 0, .int a1, .int a2, .int a3, v4, v5, v6] [] c (sm_I (fun z σ' => z = y ∧ σ' = c'))) ∧ tie g N c' v' ∧ jj N v' ∧ jx v' ∧ v' (2358 + 8 * s + 0) = 1 := by
  intro k
  induction k with
  | zero =>
    intro N a2 a3 c v w h hj hx hst h3 hk hp
    have a3n : a3 < 0 := by
      rw [t_lt, h3]
      show _ < (0 : Int)
      omega
    refine ⟨v, c, a2, fun σ v4 e e4 => (w_M_nextToPress a1 σ _ (l_ntp2 h1 hj σ e e4 96 0 (-1) 0 rfl rfl (Or.inl ⟨rfl, fun b fr hb => by omega⟩))).int ?_, fun v4 v5 v6 => d_Y_pack_5 a1 a2 a3 v4 v5 v6 c _ ⟨fun _ => ⟨_, rfl, rfl, rfl⟩, fun z => absurd a3n z⟩, h, hj, hx, hst⟩
    rintro x σ1 ⟨hx1, es⟩
    rw [es]
    have xm : x = -1 := by
      rcases hx1 with ⟨z, -⟩ | ⟨n, fr, -, z, -⟩
      · exact z
      · have := hp.1 n fr z
        omega
    refine w_M_presses_29 a1 a2 x v4 σ _ ⟨fun _ => ⟨_, rfl, rfl, w, ?_⟩, fun z => absurd xm z⟩
    rw [← e4, s_id, ← e, s_id]
  | succ k ih =>
    intro N a2 a3 c v w h hj hx hst h3 hk hp
    have h3k : a3.toInt = k := by rw [h3]; omega
    have h3' : (a3 + (-1)).toInt = (k : Int) - 1 := by
      rw [t_add h3k (y := -1) rfl (by omega) (by omega)]
      omega
    have a3n : ¬ a3 < 0 := by
      rw [t_lt, h3k]
      show ¬ _ < (0 : Int)
      omega
    have hfI : (a1 * 32 + a3).toInt = ((32 * s + k : Nat) : Int) := by
      rw [t_add (t_mul h1 (y := 32) rfl (by omega) (by omega)) h3k (by omega) (by omega)]
      omega
    obtain ⟨x, hxx, rx⟩ := pick (e_blockAt2 hfI (by omega) c h.s)
    -- down: the same, one offset on
    have down : (∀ b fr, cand v w s b fr → fr ≠ 32 * s + k) → prs v w s k := fun z => ⟨fun b fr q => by
      have := hp.1 b fr q
      have := z b fr q
      have := q.2.2.2.2.1
      omega, fun b fr o q1 q2 q3 q4 q5 q6 q7 q8 q9 q10 => hp.2 b fr o q1 q2 q3 q4 q5 (by omega) q7 q8 q9 q10⟩
    rcases hxx with ⟨xm, wn⟩ | ⟨n, hn, hxn, h0, b3, f3, fb⟩
    · obtain ⟨v', c', y, qr, qc, t', j', x', s'⟩ := ih N a2 (a3 + (-1)) c v w h hj hx hst h3' (by omega) (down (fun b fr q e => by
        have := (cand_at h.s.O h.b q).2.2
        rw [e] at this
        exact wn this))
      refine ⟨v', c', y, qr, fun v4 v5 v6 => d_Y_pack_5 a1 a2 a3 v4 v5 v6 c _ ⟨fun z => absurd z a3n, fun _ => rx.int ?_⟩, t', j', x', s'⟩
      rintro z1 σ1 ⟨ez1, es1⟩
      rw [ez1, es1]
      exact ⟨fun _ => qc _ _ _, fun z => absurd xm z⟩
    · have xm : x ≠ -1 := ne_m1 hxn
      obtain ⟨gb, gb9⟩ := (h.s.B n hn).al h0
      obtain ⟨o, fr', b1, ho, b3', hfr, hal, -⟩ := hj.2.1.1 n hn
      have ef : fr' = 32 * s + k := by omega
      subst ef
      have only : ∀ b fr, cand v w s b fr → fr = 32 * s + k → b = n := fun b fr q e => by
        have := (cand_at h.s.O h.b q).2.1
        rw [e] at this
        omega
      have vx := t_vp hxn hn
      by_cases lo : v (786 + 16 * n + 3) = 0 ∧ v (786 + 16 * n + 5) = 0 ∧ v (786 + 16 * n + 6) = 0
      · have c10 : (c 10 n).toInt = o := by rw [← gb.ord]; exact b1
        have hpw := t_pw (k := o) (by omega)
        -- the class up to the place
        obtain ⟨y8, hy8, ry8⟩ := pick (c_ntz2 (st (c 2 s) o) c)
        have upC : ∀ {Q : Option Value → sm_S → Prop} (v4 v5 v6 : Value), ((a3 ≤ y8 → xE xD m_Y_pack 5 [.ref 0, .int a1, .int a2, .int (a3 + (-1)), .int x, .int (st (c 2 s) o), .int y8] [] c Q) ∧ (¬ (a3 ≤ y8) → xC xD j_Y_moveAtOnce [.ref 0, .int x, .int ((a1 * 32) + y8)] c (sm_rv False (fun σ9 => xE xD m_Y_pack 5 [.ref 0, .int a1, .int (a2 + 1), .int (a3 + (-1)), .int x, .int (st (c 2 s) o), .int y8] [] σ9 Q)))) → xE xD m_Y_pack 5 [.ref 0, .int a1, .int a2, .int a3, v4, v5, v6] [] c Q := fun {Q} v4 v5 v6 hQ => by
          refine d_Y_pack_5 a1 a2 a3 v4 v5 v6 c Q ⟨fun z => absurd z a3n, fun _ => rx.int ?_⟩
          rintro z1 σ1 ⟨ez1, es1⟩
          rw [ez1, es1, t_nat hxn, t_nat h1]
          refine ⟨fun z => absurd z xm, fun _ => ⟨vx, fun z => absurd (gb.kin.symm.trans lo.1) z, fun _ => (e_isLoose2 hxn hn c).int ?_⟩⟩
          rintro z2 σ2 ⟨ez2, es2⟩
          rw [es2]
          refine ⟨fun _ => ⟨t_vp h1 hs, vx, (c_starts c10 (by omega) (c 2 s) c).int ?_⟩, fun z => ?_⟩
          · rintro z3 σ3 ⟨ez3, es3⟩
            rw [ez3, es3]
            refine ry8.int ?_
            rintro z4 σ4 ⟨ez4, es4⟩
            rw [ez4, es4]
            exact hQ
          · rcases ez2 with ⟨w1, -⟩ | ⟨-, w1⟩
            · rw [w1] at z; exact absurd (by decide) z
            · exact absurd ⟨gb.pin.symm.trans lo.2.1, (c14_iff gb).mpr lo.2.2⟩ w1
        -- is there a place ahead
        have place : (a3 ≤ y8 ∧ ∀ q, 32 * s ≤ q → q < 32 * s + k → q % 2 ^ o = 0 → ¬ frp v q o) ∨ ∃ i : Nat, i < k ∧ y8.toInt = i ∧ ¬ a3 ≤ y8 ∧ (32 * s + i) % 2 ^ o = 0 ∧ frp v (32 * s + i) o ∧ ∀ q, 32 * s ≤ q → q < 32 * s + i → q % 2 ^ o = 0 → ¬ frp v q o := by
          have dv32 : 2 ^ o ∣ 32 := by
            have : o = 0 ∨ o = 1 ∨ o = 2 ∨ o = 3 ∨ o = 4 := by omega
            rcases this with z | z | z | z | z <;> subst z <;> decide
          have md : ∀ i, (32 * s + i) % 2 ^ o = i % 2 ^ o := fun i => by
            obtain ⟨t, ht⟩ := dv32
            rw [ht, Nat.mul_assoc, Nat.add_comm, Nat.add_mul_mod_self_left]
          rcases hy8 with ⟨z1, z2⟩ | ⟨p, p1, p2, p3, p4⟩
          · refine Or.inl ⟨by rw [t_le, h3k, z2]; show _ ≤ (32 : Int); omega, fun q q1 q2 q3 q4 => ?_⟩
            have := (frp_iff (i := q - 32 * s) h.s hs (by omega) ho).mpr ⟨by rw [← md, show 32 * s + (q - 32 * s) = q by omega]; exact q3, by rw [show 32 * s + (q - 32 * s) = q by omega]; exact q4⟩
            rw [z1] at this
            exact bit_0 this
          · obtain ⟨z3, z4⟩ := (frp_iff h.s hs p1 ho).mp p3
            have less : ∀ q, 32 * s ≤ q → q < 32 * s + p → q % 2 ^ o = 0 → ¬ frp v q o := fun q q1 q2 q3 q4 => by
              have := (frp_iff (i := q - 32 * s) h.s hs (by omega) ho).mpr ⟨by rw [← md, show 32 * s + (q - 32 * s) = q by omega]; exact q3, by rw [show 32 * s + (q - 32 * s) = q by omega]; exact q4⟩
              exact p4 (q - 32 * s) (by omega) this
            by_cases le : k ≤ p
            · exact Or.inl ⟨by rw [t_le, h3k, p2]; omega, fun q q1 q2 => less q q1 (by omega)⟩
            · exact Or.inr ⟨p, by omega, p2, by rw [t_le, h3k, p2]; omega, by rw [md]; exact z3, z4, less⟩
        by_cases wz : w n = 0
        · -- it is its turn on both sides
          have cn0 : cand v w s n (32 * s + k) := ⟨hn, h0, wz, b3, by omega, lo.1, lo.2.1, lo.2.2⟩
          have w1n : upd w n 1 n = 1 := u_at
          have w1o : ∀ b, b ≠ n → upd w n 1 b = w b := fun b hb => u_ne hb
          have cw : ∀ b fr, cand v (upd w n 1) s b fr → b ≠ n ∧ cand v w s b fr := fun b fr q => by
            have bn : b ≠ n := fun e => by
              have := q.2.2.1
              rw [e, w1n] at this
              exact absurd this (by decide)
            exact ⟨bn, q.1, q.2.1, by rw [← w1o b bn]; exact q.2.2.1, q.2.2.2⟩
          -- the reference up to the search
          have upR : ∀ (σ : sm_S) (v4 : Value) (Q : Option Value → sm_S → Prop), σ 1 = v → σ 4 = w → xE xM m_M_presses 47 [.ref 0, .int a1, .int a2, .int x, .int (32 * a1)] [] (sm_set σ 4 (upd w n 1)) Q → xC xM j_M_nextToPress [.ref 0, .int a1] σ (sm_ri False (fun x σ1 => xE xM m_M_presses 29 [.ref 0, .int a1, .int a2, .int x, v4] [] σ1 Q)) := fun σ v4 Q e e4 hQ => by
            refine (w_M_nextToPress a1 σ _ (l_ntp2 h1 hj σ e e4 96 0 (-1) 0 rfl rfl (Or.inl ⟨rfl, fun b fr hb => by omega⟩))).int ?_
            rintro z1 σ1 ⟨hz1, es1⟩
            have ez1 : z1 = x := by
              rcases hz1 with ⟨-, z⟩ | ⟨m, fr, z1', z2, z3⟩
              · exact absurd cn0 (z n _)
              · have a := z3 n _ cn0
                have b := hp.1 m fr z2
                have d := z2.2.2.2.2.1
                have : fr = 32 * s + k := by omega
                have := only m fr z2 this
                subst this
                exact t_inj (by rw [z1', hxn])
            rw [ez1, es1]
            refine w_M_presses_29 a1 a2 x v4 σ Q ⟨fun z => absurd z xm, fun _ => ⟨vx, Or.inr rfl, fun σ2 e2 => ?_⟩⟩
            rw [t_nat hxn, e4] at e2
            rw [e2]
            exact hQ
          have i32 : (32 * a1).toInt = ((32 * s + 0 * 2 ^ o : Nat) : Int) := by
            have e := t_ix (c := 0) (m := 32) (C := 0) (M := 32) (k := 0) (j := 0) rfl rfl h1 rfl (by omega)
            rw [Int32.zero_add, Int32.add_zero] at e
            rw [e, Nat.zero_mul]
            omega
          have kd : 32 * s + (0 + k / 2 ^ o) * 2 ^ o = 32 * s + k := by
            have dv32 : 2 ^ o ∣ 32 := by
              have : o = 0 ∨ o = 1 ∨ o = 2 ∨ o = 3 ∨ o = 4 := by omega
              rcases this with z | z | z | z | z <;> subst z <;> decide
            have : k % 2 ^ o = 0 := by
              obtain ⟨t, ht⟩ := dv32
              rw [ht, Nat.mul_assoc, Nat.add_comm, Nat.add_mul_mod_self_left] at hal
              exact hal
            rw [Nat.zero_add, al_pow this]
          rcases place with ⟨le, none⟩ | ⟨i, ik, iy, nle, ial, ifr, imin⟩
          · have pr1 : prs v (upd w n 1) s k := ⟨fun b fr q => by
              obtain ⟨q1, q2⟩ := cw b fr q
              have a := hp.1 b fr q2
              have d := q2.2.2.2.2.1
              have : fr ≠ 32 * s + k := fun e => q1 (only b fr q2 e)
              omega, fun b fr o' q1 q2 q3 q4 q5 q6 q7 q8 q9 q10 => by
              have bn : b ≠ n := fun e => by
                subst e
                omega
              exact hp.2 b fr o' q1 q2 (by rw [w1o b bn] at q3; exact q3) q4 q5 (by omega) q7 q8 q9 q10⟩
            obtain ⟨v', c', y, qr, qc, t', j', x', s'⟩ := ih N a2 (a3 + (-1)) c v (upd w n 1) h hj hx hst h3' (by omega) pr1
            refine ⟨v', c', y, fun σ v4 e e4 => upR σ v4 _ e e4 ?_, fun v4 v5 v6 => upC v4 v5 v6 ⟨fun _ => qc _ _ _, fun z => absurd le z⟩, t', j', x', s'⟩
            refine l_p472 (s := s) hxn hn b3 b1 ho hfr hal (by omega) (sm_set σ 4 (upd w n 1)) (by rw [s_ne (by decide)]; exact e) (fun p a4 p1 p2 p3 p4 p5 _ => absurd p5 (none p p2 p3 p4)) (fun a4 _ => ?_) (k / 2 ^ o) 0 (32 * a1) i32 kd (fun q q1 q2 => by rw [Nat.zero_mul] at q2; omega)
            have := qr (sm_set σ 4 (upd w n 1)) (.int a4) (by rw [s_ne (by decide)]; exact e) s_at
            refine this.mono ?_
            intro r τ hτ
            cases r with
            | none => exact hτ
            | some rv =>
              cases rv with
              | int z =>
                refine sm_E.mono hτ ?_
                rintro r2 σ2 ⟨z2, rfl, hz2, w2, hs2⟩
                exact ⟨z2, rfl, hz2, w2, by rw [hs2, s_ss]⟩
              | _ => exact hτ
          · have hP : (a1 * 32 + y8).toInt = ((32 * s + i : Nat) : Int) := by
              rw [t_add (t_mul h1 (y := 32) rfl (by omega) (by omega)) iy (by omega) (by omega)]
              omega
            have gap := al_gap ial hal (show 32 * s + i < 32 * s + k by omega)
            obtain ⟨c1, rr, rc, t1, j1, x1, vo, vf, vp, v1⟩ := p_move h hj hx hxn hn h0 b3 lo.2.2 b1 (by rw [show (32 * s + k) / 32 = s by omega]; exact hst) hP (by omega) ial ifr
            have hle := al_le ho hfr hal
            have bo : ∀ b k', b < 96 → k' < 16 → (b ≠ n ∨ k' ≠ 1) → cnF (mwF v n (32 * s + k) (32 * s + i) o (x + 1) (a1 * 32 + y8)) 10 1 (786 + 16 * b + k') = v (786 + 16 * b + k') := fun b k' q1 q2 q3 => vo _ (by omega) (by omega) (by omega) (by omega)
            have fre : ∀ f, f < 32 * s + k → cnF (mwF v n (32 * s + k) (32 * s + i) o (x + 1) (a1 * 32 + y8)) 10 1 (18 + 3 * f) = 1 → v (18 + 3 * f) = 1 := fun f f1 f2 => by
              by_cases q : 32 * s + i ≤ f ∧ f < 32 * s + i + 2 ^ o
              · exact ifr f q.1 q.2
              · rw [vo _ (by omega) (by omega) (by omega) (by omega)] at f2
                exact f2
            have pr1 : prs (cnF (mwF v n (32 * s + k) (32 * s + i) o (x + 1) (a1 * 32 + y8)) 10 1) (upd w n 1) s k := by
              refine ⟨fun b fr q => ?_, fun b fr o' q1 q2 q3 q4 q5 q6 q7 q8 q9 q10 q11 q12 q13 q14 q15 => ?_⟩
              · have bn : b ≠ n := fun e => by
                  have := q.2.2.1
                  rw [e, w1n] at this
                  exact absurd this (by decide)
                have hb := q.1
                have q2 : cand v w s b fr := ⟨hb, by rw [← bo b 0 hb (by omega) (Or.inl bn)]; exact q.2.1, by rw [← w1o b bn]; exact q.2.2.1, by rw [← bo b 1 hb (by omega) (Or.inl bn)]; exact q.2.2.2.1, q.2.2.2.2.1, by rw [← bo b 3 hb (by omega) (Or.inl bn)]; exact q.2.2.2.2.2.1, by rw [← bo b 5 hb (by omega) (Or.inl bn)]; exact q.2.2.2.2.2.2.1, by rw [← bo b 6 hb (by omega) (Or.inl bn)]; exact q.2.2.2.2.2.2.2⟩
                have a := hp.1 b fr q2
                have d := q2.2.2.2.2.1
                have : fr ≠ 32 * s + k := fun e => bn (only b fr q2 e)
                omega
              · by_cases bn : b = n
                · subst bn
                  rw [v1] at q4
                  rw [bo b 2 hn (by omega) (Or.inr (by omega))] at q7
                  have e1 : fr = 32 * s + i := by omega
                  have e2 : o' = o := by omega
                  subst e1 e2
                  refine imin q11 q12 q13 q14 (fun f f1 f2 => ?_)
                  have := al_gap q14 ial q13
                  exact fre f (by omega) (q15 f f1 f2)
                · rw [bo b 0 q1 (by omega) (Or.inl bn)] at q2
                  rw [w1o b bn] at q3
                  rw [bo b 1 q1 (by omega) (Or.inl bn)] at q4
                  rw [bo b 2 q1 (by omega) (Or.inl bn)] at q7
                  rw [bo b 3 q1 (by omega) (Or.inl bn)] at q8
                  rw [bo b 5 q1 (by omega) (Or.inl bn)] at q9
                  rw [bo b 6 q1 (by omega) (Or.inl bn)] at q10
                  obtain ⟨o2, fr2, z1, z2, z3, z4, z5, -⟩ := hj.2.1.1 b q1
                  have e1 : o2 = o' := by omega
                  have e2 : fr2 = fr := by omega
                  subst e1 e2
                  refine hp.2 b fr2 o2 q1 q2 q3 q4 q5 (by omega) q7 q8 q9 q10 q11 q12 q13 q14 (fun f f1 f2 => ?_)
                  have := al_gap q14 z5 q13
                  exact fre f (by omega) (q15 f f1 f2)
            obtain ⟨v', c', y, qr, qc, t', j', x', s'⟩ := ih N (a2 + 1) (a3 + (-1)) c1 _ (upd w n 1) t1 j1 x1 (by rw [vo _ (by omega) (by omega) (by omega) (by omega)]; exact hst) h3' (by omega) pr1
            refine ⟨v', c', y, fun σ v4 e e4 => upR σ v4 _ e e4 ?_, fun v4 v5 v6 => upC v4 v5 v6 ⟨fun z => absurd z nle, fun _ => rc.void ?_⟩, t', j', x', s'⟩
            · refine l_p472 (s := s) hxn hn b3 b1 ho hfr hal (by omega) (sm_set σ 4 (upd w n 1)) (by rw [s_ne (by decide)]; exact e) (fun p a4 p1 p2 p3 p4 p5 p6 => ?_) (fun a4 q => absurd ifr (q _ (by omega) (by omega) ial)) (k / 2 ^ o) 0 (32 * a1) i32 kd (fun q q1 q2 => by rw [Nat.zero_mul] at q2; omega)
              have ep : p = 32 * s + i := by
                have d1 : ¬ p < 32 * s + i := fun z => imin p p2 z p4 p5
                have d2 : ¬ 32 * s + i < p := fun z => p6 _ (by omega) z ial ifr
                omega
              have ea4 : a4 = a1 * 32 + y8 := t_inj (by rw [p1, hP, ep])
              rw [ea4]
              refine (rr _ (by rw [s_ne (by decide)]; exact e)).void ?_
              rintro σ5 e5
              have := qr σ5 (.int (a1 * 32 + y8)) (by rw [e5, s_at]) (by rw [e5, s_ne (by decide), s_at])
              refine this.mono ?_
              intro r τ hτ
              cases r with
              | none => exact hτ
              | some rv =>
                cases rv with
                | int z =>
                  refine sm_E.mono hτ ?_
                  rintro r2 σ2 ⟨z2, rfl, hz2, w2, hs2⟩
                  refine ⟨z2, rfl, hz2, w2, ?_⟩
                  rw [hs2, e5, s_com (show 1 ≠ 4 by decide), s_ss, s_ss]
                | _ => exact hτ
            · rintro _ rfl
              exact qc _ _ _
        · -- it was done: no place ahead
          have none := hp.2 n (32 * s + k) o hn h0 wz b3 (by omega) (by omega) b1 lo.1 lo.2.1 lo.2.2
          obtain ⟨v', c', y, qr, qc, t', j', x', s'⟩ := ih N a2 (a3 + (-1)) c v w h hj hx hst h3' (by omega) (down (fun b fr q e => by
            have := only b fr q e
            subst this
            exact wz q.2.2.1))
          refine ⟨v', c', y, qr, fun v4 v5 v6 => upC v4 v5 v6 ⟨fun _ => qc _ _ _, fun z => ?_⟩, t', j', x', s'⟩
          rcases place with ⟨le, -⟩ | ⟨i, ik, -, -, ial, ifr, -⟩
          · exact absurd le z
          · exact absurd ifr (none _ (by omega) (by omega) ial)
      · obtain ⟨v', c', y, qr, qc, t', j', x', s'⟩ := ih N a2 (a3 + (-1)) c v w h hj hx hst h3' (by omega) (down (fun b fr q e => by
          have := only b fr q e
          subst this
          exact lo ⟨q.2.2.2.2.2.1, q.2.2.2.2.2.2.1, q.2.2.2.2.2.2.2⟩))
        refine ⟨v', c', y, qr, fun v4 v5 v6 => d_Y_pack_5 a1 a2 a3 v4 v5 v6 c _ ⟨fun z => absurd z a3n, fun _ => rx.int ?_⟩, t', j', x', s'⟩
        rintro z1 σ1 ⟨ez1, es1⟩
        rw [ez1, es1, t_nat hxn]
        refine ⟨fun _ => qc _ _ _, fun _ => ⟨vx, fun _ => qc _ _ _, fun z => (e_isLoose2 hxn hn c).int ?_⟩⟩
        rintro z2 σ2 ⟨ez2, es2⟩
        rw [es2]
        refine ⟨fun z3 => ?_, fun _ => qc _ _ _⟩
        rcases ez2 with ⟨-, w1, w2⟩ | ⟨w0, -⟩
        · exact absurd ⟨gb.kin.trans (Classical.not_not.mp z), gb.pin.trans w1, (c14_iff gb).mp w2⟩ lo
        · exact absurd w0 z3
end
