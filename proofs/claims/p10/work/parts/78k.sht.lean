/-! ===== the simulation: shutNextPart | shuts; a tick ===== -/
def pS (x : Int32) : Int32 := if x = 1 then 2 else x
theorem sM_dec : ∀ p, p < 4 → ∀ i, i < 32 → (((255 : Int32) <<< ((nI p * 8) &&& 31)).toBitVec.getLsbD i = true ↔ i / 8 = p) := by decide +kernel
/-- an unmovable block has the frame f -/
def unm (v : Nat → Int32) (f : Nat) : Prop := v (18 + 3 * f) = 3 ∧ ∃ b : Nat, b < 96 ∧ (v (18 + 3 * f + 1)).toInt = ((b + 1 : Nat) : Int) ∧ v (786 + 16 * b + 3) = 1
theorem l_hasUn2 {a1 : Int32} {q : Nat} {v : Nat → Int32} (h1 : a1.toInt = q) (hq : q + 8 ≤ 256) (σ : sm_S) (h : sim0 σ v) : ∀ (d k : Nat) (a2 : Int32) (v3 : Value), a2.toInt = ((q + k : Nat) : Int) → k + d = 8 → (∀ j, j < k → ¬ unm v (q + j)) → xE xD m_G_hasUnmovable 2 [.ref 41, .int a1, .int a2, v3] [] σ (sm_I (fun x σ' => ((x = 0 ∧ ∀ j, j < 8 → ¬ unm v (q + j)) ∨ (x = 1 ∧ ∃ j, j < 8 ∧ unm v (q + j))) ∧ σ' = σ)) := by
  have h8 : (a1 + 8).toInt = ((q + 8 : Nat) : Int) := by
    rw [t_add h1 (y := 8) rfl (by omega) (by omega)]
    omega
  intro d
  induction d with
  | zero =>
    intro k a2 v3 h2 hk hb
    refine d_G_hasUnmovable_2 a1 a2 v3 σ _ ⟨fun _ => ⟨Or.inl rfl, _, rfl, Or.inl ⟨rfl, fun j hj => hb j (by omega)⟩, rfl⟩, fun z => absurd ?_ z⟩
    rw [t_le, h8, h2]
    omega
  | succ d ih =>
    intro k a2 v3 h2 hk hb
    have h2' : (a2 + 1).toInt = ((q + (k + 1) : Nat) : Int) := by
      rw [t_add h2 (y := 1) rfl (by omega) (by omega)]
      omega
    have nxt : ¬ unm v (q + k) → ∀ j, j < k + 1 → ¬ unm v (q + j) := fun z j hj => by
      by_cases e : j = k
      · rw [e]; exact z
      · exact hb j (by omega)
    have gF := h.F (q + k) (by omega)
    refine d_G_hasUnmovable_2 a1 a2 v3 σ _ ⟨fun z => ?_, fun _ => ⟨fun z => ?_, fun _ => ?_⟩⟩
    · rw [t_le, h8, h2] at z
      omega
    · rw [t_le, h2] at z
      have z : (256 : Int) ≤ ((q + k : Nat) : Int) := z
      omega
    · rw [t_nat h2]
      refine ⟨t_vp h2 (by omega), fun z => ih (k + 1) _ _ h2' (by omega) (nxt ?_), fun z => ?_⟩
      · rintro ⟨u1, b, b1, b2, -⟩
        have e := gF.blk
        rw [z] at e
        have e : v (18 + 3 * (q + k) + 1) = 0 := e
        rw [e] at b2
        have b2 : (0 : Int) = _ := b2
        omega
      · have s34 : v (18 + 3 * (q + k)) = 3 ∨ v (18 + 3 * (q + k)) = 4 := by
          refine Classical.byContradiction (fun w => z ?_)
          have e := h.O.no (q + k) (by omega) (fun y => w (Or.inl y)) (fun y => w (Or.inr y))
          rw [gF.blk] at e
          have e2 : σ 6 (q + k) = (σ 6 (q + k) + 1) - 1 := by rw [Int32.add_sub_cancel]
          rw [e2, e]
          rfl
        have bb : ∃ b : Nat, b < 96 ∧ (v (18 + 3 * (q + k) + 1)).toInt = ((b + 1 : Nat) : Int) ∧ v (786 + 16 * b + 0) = 1 ∧ (v (18 + 3 * (q + k)) = 3 ∨ v (786 + 16 * b + 3) = 0) := by
          rcases s34 with w | w
          · obtain ⟨b, _, _, p1, p2, p3, -⟩ := h.O.tk _ (by omega) w
            exact ⟨b, p1, p2, p3, Or.inl w⟩
          · obtain ⟨b, t, o, p1, p2, p3, p4, p5, -⟩ := h.O.hl _ (by omega) w
            exact ⟨b, p1, p2, p3, Or.inr (h.O.hd b t o p1 p3 p4 p5).1⟩
        obtain ⟨b, p1, p2, p3, p4⟩ := bb
        have c6 : (σ 6 (q + k)).toInt = b := m1_add (by rw [← gF.blk]; exact p2) (by omega)
        obtain ⟨gb, -⟩ := (h.B b p1).al p3
        rw [t_nat c6, ← gb.kin]
        refine ⟨t_vp c6 p1, fun w => ih (k + 1) _ _ h2' (by omega) (nxt ?_), fun w => ⟨Or.inr rfl, _, rfl, Or.inr ⟨rfl, k, by omega, ?_⟩, rfl⟩⟩
        · rintro ⟨-, b', b1', b2', b3'⟩
          have : b' = b := by omega
          subst this
          exact w b3'
        · have w := Classical.not_not.mp w
          refine ⟨?_, b, p1, p2, w⟩
          rcases p4 with p4 | p4
          · exact p4
          · rw [w] at p4
            exact absurd p4 (by decide)
/-- the part pt of span s is shut -/
def shF (v : Nat → Int32) (s pt : Nat) : Nat → Int32 := upd (mpF pS v (32 * s + 8 * pt) 8) (2358 + 8 * s + 2) (v (2358 + 8 * s + 2) + 1)
def shM (v : Nat → Int32) (s : Nat) : Nat → Int32 := upd (upd (upd v (2358 + 8 * s + 0) 3) (2358 + 8 * s + 3) 1) (2358 + 8 * s + 5) 0
theorem l_shuts2 {a1 a2 a3 : Int32} {s pt : Nat} {v v' : Nat → Int32} (h1 : a1.toInt = s) (hs : s < 8) (h2 : a2.toInt = ((2358 + 8 * s : Nat) : Int)) (hp : pt ≤ 3) (h3 : a3.toInt = ((32 * s + 8 * pt : Nat) : Int)) (hpt : (v (2358 + 8 * s + 2)).toInt = pt) (hv' : v' = if pt + 1 < 4 then shF v s pt else shM (shF v s pt) s) : ∀ (d k : Nat) (a4 : Int32) (σ : sm_S), σ 1 = mpF pS v (32 * s + 8 * pt) k → a4.toInt = ((32 * s + 8 * pt + k : Nat) : Int) → k + d = 8 → xE xM m_M_shuts 88 [.ref 0, .int a1, .int a2, .int a3, .int a4] [] σ (sm_V (fun σ' => σ' = sm_set σ 1 v')) := by
  have h8 : (a3 + 8).toInt = ((32 * s + 8 * pt + 8 : Nat) : Int) := by
    rw [t_add h3 (y := 8) rfl (by omega) (by omega)]
    omega
  obtain ⟨p0, q0⟩ := ix5 h2 hs (k := 0) (j := 0) rfl (by decide)
  obtain ⟨p2, q2⟩ := ix5 h2 hs (k := 2) (j := 2) rfl (by decide)
  obtain ⟨p3, q3⟩ := ix5 h2 hs (k := 3) (j := 3) rfl (by decide)
  obtain ⟨p5, q5⟩ := ix5 h2 hs (k := 5) (j := 5) rfl (by decide)
  have i2 : (a2 + 2).toInt = ((2358 + 8 * s + 2 : Nat) : Int) := by
    rw [t_add h2 (y := 2) rfl (by omega) (by omega)]
    omega
  intro d
  induction d with
  | zero =>
    intro k a4 σ hσ h4 hk
    have hk : k = 8 := by omega
    subst hk
    refine w_M_shuts_88 a1 a2 a3 a4 σ _ ⟨fun _ => (c_more i2 (by omega) 1 σ).void ?_, fun h => absurd (by rw [t_le, h8, h4]; omega) h⟩
    rintro σ1 e1
    have e1' : σ1 = sm_set σ 1 (shF v s pt) := by
      rw [e1, hσ]
      unfold shF
      rw [mpF_out (i := 2358 + 8 * s + 2) (by omega)]
    have pt1 : (σ1 1 (2358 + 8 * s + 2)).toInt = ((pt + 1 : Nat) : Int) := by
      rw [e1', s_at]
      show (upd _ _ _ _).toInt = _
      rw [u_at, t_add hpt (y := 1) rfl (by omega) (by omega)]
      omega
    rw [q0, q2, q3, q5]
    refine ⟨p2, fun z => ⟨p0, fun σ2 e2 => ⟨p3, fun σ3 e3 => ⟨p5, fun σ4 e4 => ⟨rfl, ?_⟩⟩⟩⟩, fun z => ⟨rfl, ?_⟩⟩
    · rw [t_le, pt1] at z
      have z : (4 : Int) ≤ ((pt + 1 : Nat) : Int) := z
      rw [e1', s_at, s_ss] at e2
      rw [e2, s_at, s_ss] at e3
      rw [e3, s_at, s_ss] at e4
      rw [e4, hv', if_neg (by omega)]
      rfl
    · rw [t_le, pt1] at z
      have z : ¬ (4 : Int) ≤ ((pt + 1 : Nat) : Int) := z
      rw [e1', hv', if_pos (by omega)]
  | succ d ih =>
    intro k a4 σ hσ h4 hk
    have h4' : (a4 + 1).toInt = ((32 * s + 8 * pt + (k + 1) : Nat) : Int) := by
      rw [t_add h4 (y := 1) rfl (by omega) (by omega)]
      omega
    refine w_M_shuts_88 a1 a2 a3 a4 σ _ ⟨fun h => ?_, fun _ => (c_isFree h4 (by omega) σ).int ?_⟩
    · rw [t_le, h8, h4] at h
      omega
    · rintro y σ1 ⟨hy, es⟩
      rw [es]
      rw [hσ, mpF_out (by omega)] at hy
      refine ⟨fun q => ?_, fun q => (c_frameAt a4 σ).int ?_⟩
      · have n1 : v (18 + 3 * (32 * s + 8 * pt + k)) ≠ 1 := by
          rcases hy with ⟨z, -⟩ | ⟨-, z⟩
          · rw [z] at q; exact absurd q (by decide)
          · exact z
        exact ih (k + 1) (a4 + 1) σ (by rw [hσ, mpF_k (p := pS) (show pS (v (18 + 3 * (32 * s + 8 * pt + k))) = v (18 + 3 * (32 * s + 8 * pt + k)) from if_neg n1)]) h4' (by omega)
      · have y1 : v (18 + 3 * (32 * s + 8 * pt + k)) = 1 := by
          rcases hy with ⟨-, z⟩ | ⟨z, -⟩
          · exact z
          · exact absurd z q
        rintro _ σ ⟨rfl, rfl⟩
        obtain ⟨p1, p2⟩ := ixF (k := 0) (j := 0) h4 rfl (by omega)
        refine ⟨p1, fun σ4 e4 => ?_⟩
        have e := mpF_s pS v (32 * s + 8 * pt) k
        rw [show pS (v (18 + 3 * (32 * s + 8 * pt + k))) = 2 from if_pos y1] at e
        rw [p2, hσ, Nat.add_zero, ← e] at e4
        have := ih (k + 1) (a4 + 1) σ4 (by rw [e4, s_at]) h4' (by omega)
        rw [e4, s_ss] at this
        rw [e4]
        exact this
theorem l_shuts1 {a1 a2 a3 : Int32} {q : Nat} {v v' : Nat → Int32} (h3 : a3.toInt = q) (hq : q + 8 ≤ 256) (ow : own v) (hf : (∃ j, j < 8 ∧ unm v (q + j)) → rd j_M_fails [.ref 0, .int a1, .int 0] v v') (hn : (∀ j, j < 8 → ¬ unm v (q + j)) → ∀ σ : sm_S, σ 1 = v → xE xM m_M_shuts 88 [.ref 0, .int a1, .int a2, .int a3, .int a3] [] σ (sm_V (fun σ' => σ' = sm_set σ 1 v'))) : ∀ (d k : Nat) (a4 : Int32) (σ : sm_S), σ 1 = v → a4.toInt = ((q + k : Nat) : Int) → k + d = 8 → (∀ j, j < k → ¬ unm v (q + j)) → xE xM m_M_shuts 26 [.ref 0, .int a1, .int a2, .int a3, .int a4] [] σ (sm_V (fun σ' => σ' = sm_set σ 1 v')) := by
  have h8 : (a3 + 8).toInt = ((q + 8 : Nat) : Int) := by
    rw [t_add h3 (y := 8) rfl (by omega) (by omega)]
    omega
  intro d
  induction d with
  | zero =>
    intro k a4 σ e h4 hk hb
    exact w_M_shuts_26 a1 a2 a3 a4 σ _ ⟨fun _ => hn (fun j hj => hb j (by omega)) σ e, fun h => absurd (by rw [t_le, h8, h4]; omega) h⟩
  | succ d ih =>
    intro k a4 σ e h4 hk hb
    have h4' : (a4 + 1).toInt = ((q + (k + 1) : Nat) : Int) := by
      rw [t_add h4 (y := 1) rfl (by omega) (by omega)]
      omega
    have nxt : ¬ unm v (q + k) → ∀ j, j < k + 1 → ¬ unm v (q + j) := fun z j hj => by
      by_cases e : j = k
      · rw [e]; exact z
      · exact hb j (by omega)
    refine w_M_shuts_26 a1 a2 a3 a4 σ _ ⟨fun h => ?_, fun _ => (c_stateOf h4 (by omega) σ).int ?_⟩
    · rw [t_le, h8, h4] at h
      omega
    · rintro y σ1 ⟨ey, es⟩
      rw [ey, es, e]
      refine ⟨fun z => ih (k + 1) (a4 + 1) σ e h4' (by omega) (nxt (fun u => z u.1)), fun z => (c_frameAt a4 σ).int ?_⟩
      have z := Classical.not_not.mp z
      obtain ⟨b, _, _, b1, b2, -⟩ := ow.tk (q + k) (by omega) z
      rintro _ σ ⟨rfl, rfl⟩
      obtain ⟨p1, p2⟩ := ixF (k := 1) (j := 1) h4 rfl (by omega)
      refine ⟨p1, ?_⟩
      rw [p2, e]
      refine (c_of (k := 3) (j := 3) (t_m1 b2 (by omega)) rfl (by omega) σ).int ?_
      rintro y2 σ2 ⟨ey2, es2⟩
      rw [ey2, es2, e]
      refine ⟨fun w => (hf ⟨k, by omega, z, b, b1, b2, w⟩ σ e).void ?_, fun w => ih (k + 1) (a4 + 1) σ e h4' (by omega) (nxt ?_)⟩
      · rintro _ rfl
        exact ⟨rfl, rfl⟩
      · rintro ⟨-, b', b1', b2', b3'⟩
        have : b' = b := by omega
        subst this
        exact w b3'
def shC (c : sm_S) (s pt : Nat) : sm_S := sm_set (sm_set (sm_set c 2 (upd (c 2) s (c 2 s &&& ((c 2 s &&& ((255 : Int32) <<< ((nI pt * 8) &&& 31))) ^^^ (-1))))) 3 (upd (c 3) s (c 3 s ||| (c 2 s &&& ((255 : Int32) <<< ((nI pt * 8) &&& 31)))))) 20 (upd (c 20) s (c 20 s + 1))
def shN (c : sm_S) (s : Nat) : sm_S := sm_set (sm_set (sm_set c 18 (upd (c 18) s 3)) 21 (upd (c 21) s 1)) 23 (upd (c 23) s 0)
theorem shF_o {v : Nat → Int32} {s pt i : Nat} (h1 : i < 18 + 3 * (32 * s + 8 * pt) ∨ 18 + 3 * (32 * s + 8 * pt + 8) ≤ i ∨ (i - 18) % 3 ≠ 0) (h2 : i ≠ 2358 + 8 * s + 2) : shF v s pt i = v i := by
  unfold shF
  rw [u_ne h2, mpF_out h1]
theorem sim_shut {c : sm_S} {v : Nat → Int32} {s pt : Nat} (h : sim0 c v) (hk : ∀ b, b < 96 → bk_ok v b) (hs : s < 8) (hp : pt < 4) (h2 : c 18 s = 2) : sim0 (shC c s pt) (shF v s pt) := by
  have gs := h.S s hs
  have in1 : ∀ f, f < 256 → f / 32 = s → f % 32 / 8 = pt → shF v s pt (18 + 3 * f) = pS (v (18 + 3 * f)) := fun f hf e e2 => by
    unfold shF
    rw [u_ne (by omega), mpF_in (by omega) (by omega)]
  have out0 : ∀ f, f < 256 → (f / 32 ≠ s ∨ f % 32 / 8 ≠ pt) → shF v s pt (18 + 3 * f) = v (18 + 3 * f) := fun f hf e => shF_o (by omega) (by omega)
  have o1 : ∀ f, f < 256 → shF v s pt (18 + 3 * f + 1) = v (18 + 3 * f + 1) := fun f hf => shF_o (by omega) (by omega)
  have o2 : ∀ f, f < 256 → shF v s pt (18 + 3 * f + 2) = v (18 + 3 * f + 2) := fun f hf => shF_o (by omega) (by omega)
  have r2 : shF v s pt (2358 + 8 * s + 2) = v (2358 + 8 * s + 2) + 1 := u_at
  have c2 : shC c s pt 2 = upd (c 2) s (c 2 s &&& ((c 2 s &&& ((255 : Int32) <<< ((nI pt * 8) &&& 31))) ^^^ (-1))) := rfl
  have c3 : shC c s pt 3 = upd (c 3) s (c 3 s ||| (c 2 s &&& ((255 : Int32) <<< ((nI pt * 8) &&& 31)))) := rfl
  have c20 : shC c s pt 20 = upd (c 20) s (c 20 s + 1) := rfl
  have co : ∀ k, k ≠ 2 → k ≠ 3 → k ≠ 20 → shC c s pt k = c k := fun k a b d => by
    unfold shC
    rw [s_ne d, s_ne b, s_ne a]
  have v0 : v (2358 + 8 * s + 0) ≠ 0 := by rw [gs.sta, h2]; decide
  refine h.fs (fun f hf => ?_) (fun t ht => ?_) ?_ (fun k hk => co k (by omega) (by omega) (by omega)) (fun i hi => shF_o (by omega) (by omega))
  · have g := h.F f hf
    by_cases e : f / 32 = s
    · have hi : f % 32 < 32 := Nat.mod_lt _ (by decide)
      have mk : bit ((255 : Int32) <<< ((nI pt * 8) &&& 31)) (f % 32) ↔ f % 32 / 8 = pt := sM_dec pt hp (f % 32) hi
      have b2 := g.fre
      have b3 := g.apa
      rw [e] at b2 b3
      by_cases e2 : f % 32 / 8 = pt
      · have in1 := in1 f hf e e2
        refine ⟨?_, ?_, ?_, ?_, ?_, ?_, ?_⟩
        · rw [in1]
          unfold pS
          by_cases q : v (18 + 3 * f) = 1
          · rw [if_pos q]; decide
          · rw [if_neg q]; exact g.rng
        · rw [in1, c2, e, u_at, bit_and, bit_not hi, bit_and, mk, b2]
          unfold pS
          by_cases q : v (18 + 3 * f) = 1
          · rw [if_pos q]
            exact ⟨fun z => absurd ⟨z.1, e2⟩ z.2, fun z => absurd z (by decide)⟩
          · rw [if_neg q]
            exact ⟨fun z => absurd z.1 q, fun z => absurd z q⟩
        · rw [in1, c3, e, u_at, bit_or, bit_and, mk, b2, b3]
          unfold pS
          by_cases q : v (18 + 3 * f) = 1
          · rw [if_pos q]
            exact ⟨fun _ => rfl, fun _ => Or.inr ⟨q, e2⟩⟩
          · rw [if_neg q]
            exact ⟨fun z => z.elim id (fun z => absurd z.1 q), Or.inl⟩
        · rw [in1, co 4 (by decide) (by decide) (by decide), g.tak]
          unfold pS
          by_cases q : v (18 + 3 * f) = 1
          · rw [if_pos q, q]; decide
          · rw [if_neg q]
        · rw [in1, co 5 (by decide) (by decide) (by decide), g.hel]
          unfold pS
          by_cases q : v (18 + 3 * f) = 1
          · rw [if_pos q, q]; decide
          · rw [if_neg q]
        · rw [o1 f hf, co 6 (by decide) (by decide) (by decide)]; exact g.blk
        · rw [o2 f hf, co 7 (by decide) (by decide) (by decide)]; exact g.val
      · have out0 := out0 f hf (Or.inr e2)
        refine ⟨by rw [out0]; exact g.rng, ?_, ?_, ?_, ?_, ?_, ?_⟩
        · rw [out0, c2, e, u_at, bit_and, bit_not hi, bit_and, mk, b2]
          exact ⟨fun z => z.1, fun z => ⟨z, fun y => e2 y.2⟩⟩
        · rw [out0, c3, e, u_at, bit_or, bit_and, mk, b2, b3]
          exact ⟨fun z => z.elim id (fun z => absurd z.2 e2), Or.inl⟩
        · rw [out0, co 4 (by decide) (by decide) (by decide)]; exact g.tak
        · rw [out0, co 5 (by decide) (by decide) (by decide)]; exact g.hel
        · rw [o1 f hf, co 6 (by decide) (by decide) (by decide)]; exact g.blk
        · rw [o2 f hf, co 7 (by decide) (by decide) (by decide)]; exact g.val
    · exact g.cg (by rw [c2, u_ne e]) (by rw [c3, u_ne e]) (by rw [co 4 (by decide) (by decide) (by decide)]) (by rw [co 5 (by decide) (by decide) (by decide)]) (by rw [co 6 (by decide) (by decide) (by decide)]) (by rw [co 7 (by decide) (by decide) (by decide)]) (out0 f hf (Or.inl e)) (o1 f hf) (o2 f hf)
  · by_cases e : t = s
    · subst e
      have ek : ∀ k, k < 8 → k ≠ 2 → shF v t pt (2358 + 8 * t + k) = v (2358 + 8 * t + k) := fun k k1 k2 => shF_o (by omega) (by omega)
      have ck : ∀ k, 18 ≤ k → k ≠ 20 → shC c t pt k = c k := fun k k1 k2 => co k (by omega) (by omega) k2
      refine ⟨?_, ?_, ?_, ?_, ?_, ?_, ?_, ?_, ?_, ?_, ?_⟩
      · rw [ek 0 (by decide) (by decide), ck 18 (by decide) (by decide)]; exact gs.sta
      · rw [ck 18 (by decide) (by decide), ck 19 (by decide) (by decide)]; exact gs.zof
      · rw [ek 1 (by decide) (by decide), ck 18 (by decide) (by decide), ck 19 (by decide) (by decide)]; exact gs.zon
      · rw [r2, c20, u_at, gs.par]
      · rw [ek 3 (by decide) (by decide), ck 21 (by decide) (by decide)]; exact gs.pas
      · rw [ek 4 (by decide) (by decide), ck 22 (by decide) (by decide)]; exact gs.pau
      · rw [ck 22 (by decide) (by decide)]; exact gs.pag
      · rw [ek 5 (by decide) (by decide), ck 18 (by decide) (by decide), ck 23 (by decide) (by decide)]; exact gs.rea
      · rw [ek 6 (by decide) (by decide), ck 24 (by decide) (by decide)]; exact gs.lea
      · rw [ek 7 (by decide) (by decide), ck 25 (by decide) (by decide)]; exact gs.why
      · rw [ck 18 (by decide) (by decide), h2]; exact fun z => absurd z (by decide)
    · refine (h.S t ht).cg (fun k h1 h2 => ?_) (fun k hk => shF_o (by omega) (by omega))
      by_cases q : k = 20
      · rw [q, c20, u_ne e]
      · rw [co k (by omega) (by omega) q]
  · refine h.O.st hk (fun f hf => ?_) o1 (fun b k h1 h2 => shF_o (by omega) (by omega)) (fun f hf => ?_)
    · by_cases e : f / 32 = s ∧ f % 32 / 8 = pt
      · rw [in1 f hf e.1 e.2]
        unfold pS
        by_cases q : v (18 + 3 * f) = 1
        · rw [if_pos q, q]; exact Or.inr (by decide)
        · rw [if_neg q]; exact Or.inl rfl
      · exact Or.inl (out0 f hf (by omega))
    · rw [shF_o (i := 2358 + 8 * (f / 32) + 0) (by omega) (by omega)]
      by_cases e : f / 32 = s ∧ f % 32 / 8 = pt
      · rw [in1 f hf e.1 e.2, ← h.O.of f hf]
        unfold pS
        by_cases q : v (18 + 3 * f) = 1
        · rw [if_pos q, q]; decide
        · rw [if_neg q]
      · rw [out0 f hf (by omega)]
        exact h.O.of f hf
theorem sim_shM {c : sm_S} {v : Nat → Int32} {s : Nat} (h : sim0 c v) (hk : ∀ b, b < 96 → bk_ok v b) (hs : s < 8) (h2 : c 18 s = 2) : sim0 (shN c s) (shM v s) := by
  have gs := h.S s hs
  have vo : ∀ i, i ≠ 2358 + 8 * s + 0 → i ≠ 2358 + 8 * s + 3 → i ≠ 2358 + 8 * s + 5 → shM v s i = v i := fun i a b d => by
    unfold shM
    rw [u_ne d, u_ne b, u_ne a]
  have r0 : shM v s (2358 + 8 * s + 0) = 3 := by
    unfold shM
    rw [u_ne (by omega), u_ne (by omega), u_at]
  have r3 : shM v s (2358 + 8 * s + 3) = 1 := by
    unfold shM
    rw [u_ne (by omega), u_at]
  have r5 : shM v s (2358 + 8 * s + 5) = 0 := u_at
  have c18 : shN c s 18 = upd (c 18) s 3 := rfl
  have c21 : shN c s 21 = upd (c 21) s 1 := rfl
  have c23 : shN c s 23 = upd (c 23) s 0 := rfl
  have co : ∀ k, k ≠ 18 → k ≠ 21 → k ≠ 23 → shN c s k = c k := fun k a b d => by
    unfold shN
    rw [s_ne d, s_ne b, s_ne a]
  refine h.sv hk (fun t ht => ?_) (fun t ht => ?_) (fun k hk => co k (by omega) (by omega) (by omega)) (fun i hi => vo i (by omega) (by omega) (by omega))
  · by_cases e : t = s
    · subst e
      refine ⟨by rw [r0, c18, u_at], ?_, ?_, ?_, by rw [r3, c21, u_at], ?_, ?_, ?_, ?_, ?_, ?_⟩
      · rw [c18, u_at]; exact fun z => absurd z (by decide)
      · rw [vo _ (by omega) (by omega) (by omega), co 19 (by decide) (by decide) (by decide)]; exact fun _ => gs.zon (by rw [h2]; decide)
      · rw [vo _ (by omega) (by omega) (by omega), co 20 (by decide) (by decide) (by decide)]; exact gs.par
      · rw [vo _ (by omega) (by omega) (by omega), co 22 (by decide) (by decide) (by decide)]; exact gs.pau
      · rw [co 22 (by decide) (by decide) (by decide)]; exact gs.pag
      · rw [r5, c23, u_at]; exact fun _ => rfl
      · rw [vo _ (by omega) (by omega) (by omega), co 24 (by decide) (by decide) (by decide)]; exact gs.lea
      · rw [vo _ (by omega) (by omega) (by omega), co 25 (by decide) (by decide) (by decide)]; exact gs.why
      · rw [c18, u_at]; exact fun z => absurd z (by decide)
    · refine (h.S t ht).cg (fun k k1 k2 => ?_) (fun k hk => vo _ (by omega) (by omega) (by omega))
      rcases (show k = 18 ∨ k = 21 ∨ k = 23 ∨ (k ≠ 18 ∧ k ≠ 21 ∧ k ≠ 23) by omega) with q | q | q | q
      · rw [q, c18, u_ne e]
      · rw [q, c21, u_ne e]
      · rw [q, c23, u_ne e]
      · rw [co k q.1 q.2.1 q.2.2]
  · by_cases e : t = s
    · subst e
      rw [r0, gs.sta, h2]
      decide
    · rw [vo _ (by omega) (by omega) (by omega)]
