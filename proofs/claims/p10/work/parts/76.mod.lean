/-! ===== the model in the world of all ===== -/
def mQ (B : Nat) (σ σ' : sm_S) : Prop := lw B (bs 168 σ') ∧ (∀ a, a < 168 ∨ 174 ≤ a → σ' a = σ a) ∧ σ' 168 6 = σ 168 6
theorem lw.up {B B' : Nat} {σ : sm_S} (h : lw B σ) (hB : B ≤ B') : lw B' σ := by
  obtain ⟨⟨N, h1, h2⟩, h3⟩ := h
  exact ⟨⟨N, by omega, h2⟩, fun z => by
    obtain ⟨M, m1, m2⟩ := h3 z
    exact ⟨M, by omega, m2⟩⟩
theorem rM_out {a : Nat} (h : a < 168 ∨ 174 ≤ a) : ∀ k, k < 6 → rM k ≠ a := by
  intro k hk
  unfold rM
  rw [if_pos hk]
  omega
theorem lw_bs {B : Nat} {σ : sm_S} (h : lw B (bs 168 σ)) : lw B (sh rM σ) := h
theorem bs_lw {B : Nat} {σ : sm_S} (h : lw B (sh rM σ)) : lw B (bs 168 σ) := h
theorem stM {τ σ' : sm_S} {B : Nat} (h : sm_stR rM xM τ σ') (hl : lw B τ) : lw B (bs 168 σ') := by
  have e1 : σ' 169 = τ 1 := h.1 1 (0, 2662) rfl
  have e5 : σ' 173 = τ 5 := h.1 5 (0, 2662) rfl
  have e6 : σ' 168 6 = τ 0 6 := h.2 0 9 _ 6 1 rfl rfl (by omega)
  obtain ⟨⟨N, h1, h2⟩, h3⟩ := hl
  refine ⟨⟨N, h1, ?_⟩, fun z => ?_⟩
  · show jj N (σ' 169)
    rw [e1]; exact h2
  · have z : σ' 168 6 ≠ 0 := z
    rw [e6] at z
    obtain ⟨M, m1, m2⟩ := h3 z
    exact ⟨M, m1, by show jj M (σ' 173); rw [e5]; exact m2⟩
theorem stN {τ σ' : sm_S} {B : Nat} (h : sm_stR rM xN τ σ') (hl : lw B τ) : lw B (bs 168 σ') := by
  have e1 : σ' 169 = τ 1 := h.1 1 (0, 2662) rfl
  have e5 : σ' 173 = τ 5 := h.1 5 (0, 2662) rfl
  have e6 : σ' 168 6 = τ 0 6 := h.2 0 9 _ 6 1 rfl rfl (by omega)
  obtain ⟨⟨N, h1, h2⟩, h3⟩ := hl
  refine ⟨⟨N, h1, ?_⟩, fun z => ?_⟩
  · show jj N (σ' 169)
    rw [e1]; exact h2
  · have z : σ' 168 6 ≠ 0 := z
    rw [e6] at z
    obtain ⟨M, m1, m2⟩ := h3 z
    exact ⟨M, m1, by show jj M (σ' 173); rw [e5]; exact m2⟩
theorem pub6 {N D : Nat} {σ τ : sm_S} {x : Int32} (h : pubX N D (sh rM σ) x τ) : τ 0 6 = σ 168 6 := by
  obtain ⟨N', h1, h2, h3, h4, h5, -⟩ := h
  exact h5
theorem mUx {j B : Nat} {as as' : List Value} {σ : sm_S} {P : Int32 → Prop} {R : Int32 → sm_S → Prop} (ha : as.map (sm_cv rM) = as') (hR : ∀ x τ, R x τ → P x ∧ lw B τ ∧ τ 0 6 = σ 168 6) (h : xC xM j as (sh rM σ) (sm_I R)) : xC xF j as' σ (sm_I (fun x σ' => P x ∧ mQ B σ σ')) := by
  subst ha
  refine (x_up shMF h).mono ?_
  rintro r σ' ⟨r1, τ, rfl, ⟨x, rfl, hx⟩, hs, ho⟩
  exact ⟨x, rfl, (hR x τ hx).1, stM hs (hR x τ hx).2.1, fun a ha => off_out (n := 6) rfl ho (rM_out ha), (hs.2 0 9 _ 6 1 rfl rfl (by omega) : σ' 168 6 = τ 0 6).trans (hR x τ hx).2.2⟩
theorem mU {j B D N : Nat} {as as' : List Value} {σ : sm_S} (ha : as.map (sm_cv rM) = as') (hl : lw B (bs 168 σ)) (hN : N ≤ B) (hD : D ≤ 1488000) (h : xC xM j as (sh rM σ) (sm_I (pubX N D (sh rM σ)))) : xC xF j as' σ (sm_I (fun _ σ' => mQ (B + 1488000) σ σ')) := by
  refine (mUx (B := B + 1488000) (P := fun _ => True) ha (fun x τ hx => ⟨trivial, (lw.pub (lw_bs hl) hN hx).up (by omega), pub6 hx⟩) h).mono ?_
  rintro r σ' ⟨x, rfl, -, q⟩
  exact ⟨x, rfl, q⟩
theorem mUN {j B D N : Nat} {as as' : List Value} {σ : sm_S} (ha : as.map (sm_cv rM) = as') (hl : lw B (bs 168 σ)) (hN : N ≤ B) (hD : D ≤ 1488000) (h : xC xN j as (sh rM σ) (sm_I (pubX N D (sh rM σ)))) : xC xF j as' σ (sm_I (fun _ σ' => mQ (B + 1488000) σ σ')) := by
  subst ha
  refine (x_up shNF h).mono ?_
  rintro r σ' ⟨r1, τ, rfl, ⟨x, rfl, hx⟩, hs, ho⟩
  exact ⟨x, rfl, stN hs ((lw.pub (lw_bs hl) hN hx).up (by omega)), fun a ha => off_out (n := 6) rfl ho (rM_out ha), (hs.2 0 9 _ 6 1 rfl rfl (by omega) : σ' 168 6 = τ 0 6).trans (pub6 hx)⟩
theorem m_take {B : Nat} (a1 a2 a3 a4 : Int32) (σ : sm_S) (hB : B < 1500000000) (hl : lw B (bs 168 σ)) : xC xF j_M_take [.ref 168, .int a1, .int a2, .int a3, .int a4] σ (sm_I (fun _ σ' => mQ (B + 1488000) σ σ')) := by
  obtain ⟨N, hN, hj⟩ := (lw_bs hl).1
  exact mU (as := [.ref 0, .int a1, .int a2, .int a3, .int a4]) (D := 96) rfl hl hN (by omega) ((c_take a1 a2 a3 a4 (sh rM σ) hj (by omega)).mono (by rintro r σ' ⟨x, rfl, q⟩; exact ⟨x, rfl, pub_X (x := x) q⟩))
theorem m_free {B : Nat} (a1 : Int32) (σ : sm_S) (hB : B < 1500000000) (hl : lw B (bs 168 σ)) : xC xF j_M_free [.ref 168, .int a1] σ (sm_I (fun _ σ' => mQ (B + 1488000) σ σ')) := by
  obtain ⟨N, hN, hj⟩ := (lw_bs hl).1
  exact mU (as := [.ref 0, .int a1]) (D := 0) rfl hl hN (by omega) ((c_free a1 (sh rM σ) hj).mono (by rintro r σ' ⟨x, rfl, q⟩; exact ⟨x, rfl, pub_X q⟩))
theorem m_read {B : Nat} (a1 a2 a3 : Int32) (σ : sm_S) (hB : B < 1500000000) (hl : lw B (bs 168 σ)) : xC xF j_M_read [.ref 168, .int a1, .int a2, .int a3] σ (sm_I (fun _ σ' => mQ (B + 1488000) σ σ')) := by
  obtain ⟨N, hN, hj⟩ := (lw_bs hl).1
  exact mU (as := [.ref 0, .int a1, .int a2, .int a3]) (D := 1) rfl hl hN (by omega) ((c_read a1 a2 a3 (sh rM σ) hj (by omega)).mono (by rintro r σ' ⟨x, rfl, q⟩; exact ⟨x, rfl, pub_X q⟩))
theorem m_write {B : Nat} (a1 a2 a3 a4 : Int32) (σ : sm_S) (hB : B < 1500000000) (hl : lw B (bs 168 σ)) : xC xF j_M_write [.ref 168, .int a1, .int a2, .int a3, .int a4] σ (sm_I (fun _ σ' => mQ (B + 1488000) σ σ')) := by
  obtain ⟨N, hN, hj⟩ := (lw_bs hl).1
  exact mU (as := [.ref 0, .int a1, .int a2, .int a3, .int a4]) (D := 1) rfl hl hN (by omega) ((c_write a1 a2 a3 a4 (sh rM σ) hj (by omega)).mono (by rintro r σ' ⟨x, rfl, q⟩; exact ⟨x, rfl, pub_X q⟩))
theorem m_pin {B : Nat} (a1 a2 : Int32) (σ : sm_S) (hB : B < 1500000000) (hl : lw B (bs 168 σ)) : xC xF j_M_pin [.ref 168, .int a1, .int a2] σ (sm_I (fun _ σ' => mQ (B + 1488000) σ σ')) := by
  obtain ⟨N, hN, hj⟩ := (lw_bs hl).1
  exact mU (as := [.ref 0, .int a1, .int a2]) (D := 1) rfl hl hN (by omega) ((c_pin a1 a2 (sh rM σ) hj (by omega)).mono (by rintro r σ' ⟨x, rfl, q⟩; exact ⟨x, rfl, pub_X q⟩))
theorem m_unpin {B : Nat} (a1 a2 : Int32) (σ : sm_S) (hB : B < 1500000000) (hl : lw B (bs 168 σ)) : xC xF j_M_unpin [.ref 168, .int a1, .int a2] σ (sm_I (fun _ σ' => mQ (B + 1488000) σ σ')) := by
  obtain ⟨N, hN, hj⟩ := (lw_bs hl).1
  exact mU (as := [.ref 0, .int a1, .int a2]) (D := 0) rfl hl hN (by omega) ((c_unpin a1 a2 (sh rM σ) hj).mono (by rintro r σ' ⟨x, rfl, q⟩; exact ⟨x, rfl, pub_X q⟩))
theorem m_come {B : Nat} (a1 a2 : Int32) (σ : sm_S) (hB : B < 1500000000) (hl : lw B (bs 168 σ)) : xC xF j_M_come [.ref 168, .int a1, .int a2] σ (sm_I (fun _ σ' => mQ (B + 1488000) σ σ')) := by
  obtain ⟨N, hN, hj⟩ := (lw_bs hl).1
  exact mU (as := [.ref 0, .int a1, .int a2]) (D := 1) rfl hl hN (by omega) ((c_come a1 a2 (sh rM σ) hj (by omega)).mono (by rintro r σ' ⟨x, rfl, q⟩; exact ⟨x, rfl, pub_X q⟩))
theorem m_byTurns {B : Nat} (a1 : Int32) (σ : sm_S) (hB : B < 1500000000) (hl : lw B (bs 168 σ)) : xC xF j_M_byTurns [.ref 168, .int a1] σ (sm_I (fun _ σ' => mQ (B + 1488000) σ σ')) := by
  obtain ⟨N, hN, hj⟩ := (lw_bs hl).1
  exact mU (as := [.ref 0, .int a1]) (D := 8) rfl hl hN (by omega) ((c_byTurns a1 (sh rM σ) hj (by omega)).mono (by rintro r σ' ⟨x, rfl, q⟩; exact ⟨x, rfl, pub_X q⟩))
theorem m_press {B : Nat} (a1 : Int32) (σ : sm_S) (hB : B < 1500000000) (hl : lw B (bs 168 σ)) : xC xF j_M_press [.ref 168, .int a1] σ (sm_I (fun _ σ' => mQ (B + 1488000) σ σ')) := by
  obtain ⟨N, hN, hj⟩ := (lw_bs hl).1
  exact mU (as := [.ref 0, .int a1]) (D := 0) rfl hl hN (by omega) (c_press a1 (sh rM σ) hj)
theorem m_gather {B : Nat} (a1 : Int32) (σ : sm_S) (hB : B < 1500000000) (hl : lw B (bs 168 σ)) : xC xF j_M_gather [.ref 168, .int a1] σ (sm_I (fun _ σ' => mQ (B + 1488000) σ σ')) := by
  obtain ⟨N, hN, hj⟩ := (lw_bs hl).1
  exact mU (as := [.ref 0, .int a1]) (D := 0) rfl hl hN (by omega) (c_gather a1 (sh rM σ) hj)
theorem m_go {B : Nat} (a1 : Int32) (σ : sm_S) (hB : B < 1500000000) (hl : lw B (bs 168 σ)) : xC xF j_M_go [.ref 168, .int a1] σ (sm_I (fun _ σ' => mQ (B + 1488000) σ σ')) := by
  obtain ⟨N, hN, hj⟩ := (lw_bs hl).1
  exact mU (as := [.ref 0, .int a1]) (D := 1) rfl hl hN (by omega) ((c_go a1 (sh rM σ) hj (by omega)).mono (by rintro r σ' ⟨x, rfl, q⟩; exact ⟨x, rfl, pub_X q⟩))
theorem m_giveUp {B : Nat} (a1 : Int32) (σ : sm_S) (hB : B < 1500000000) (hl : lw B (bs 168 σ)) : xC xF j_M_giveUp [.ref 168, .int a1] σ (sm_I (fun _ σ' => mQ (B + 1488000) σ σ')) := by
  obtain ⟨N, hN, hj⟩ := (lw_bs hl).1
  exact mU (as := [.ref 0, .int a1]) (D := 7) rfl hl hN (by omega) ((c_giveUp a1 (sh rM σ) hj (by omega)).mono (by rintro r σ' ⟨x, rfl, q⟩; exact ⟨x, rfl, pub_X q⟩))
theorem m_tick {B : Nat} (a1 : Int32) (σ : sm_S) (hB : B < 1500000000) (hl : lw B (bs 168 σ)) : xC xF j_M_tick [.ref 168, .int a1] σ (sm_I (fun _ σ' => mQ (B + 1488000) σ σ')) := by
  obtain ⟨N, hN, hj⟩ := (lw_bs hl).1
  exact mU (as := [.ref 0, .int a1]) (D := 1488000) rfl hl hN (by omega) (c_tick (N := N) a1 (by omega) (sh rM σ) hj)
theorem m_frame {B : Nat} (a1 a2 : Int32) (σ : sm_S) (hB : B < 1500000000) (hl : lw B (bs 168 σ)) : xC xF j_M_frame [.ref 168, .int a1, .int a2] σ (sm_I (fun _ σ' => mQ (B + 1488000) σ σ')) := by
  obtain ⟨N, hN, hj⟩ := (lw_bs hl).1
  exact mU (as := [.ref 0, .int a1, .int a2]) (D := 0) rfl hl hN (by omega) (c_frame a1 a2 (sh rM σ) hj)
theorem m_block {B : Nat} (a1 a2 : Int32) (σ : sm_S) (hB : B < 1500000000) (hl : lw B (bs 168 σ)) : xC xF j_M_block [.ref 168, .int a1, .int a2] σ (sm_I (fun _ σ' => mQ (B + 1488000) σ σ')) := by
  obtain ⟨N, hN, hj⟩ := (lw_bs hl).1
  exact mU (as := [.ref 0, .int a1, .int a2]) (D := 0) rfl hl hN (by omega) (c_block a1 a2 (sh rM σ) hj)
theorem m_span {B : Nat} (a1 a2 : Int32) (σ : sm_S) (hB : B < 1500000000) (hl : lw B (bs 168 σ)) : xC xF j_M_span [.ref 168, .int a1, .int a2] σ (sm_I (fun _ σ' => mQ (B + 1488000) σ σ')) := by
  obtain ⟨N, hN, hj⟩ := (lw_bs hl).1
  exact mU (as := [.ref 0, .int a1, .int a2]) (D := 0) rfl hl hN (by omega) (c_span a1 a2 (sh rM σ) hj)
theorem m_task {B : Nat} (a1 a2 : Int32) (σ : sm_S) (hB : B < 1500000000) (hl : lw B (bs 168 σ)) : xC xF j_M_task [.ref 168, .int a1, .int a2] σ (sm_I (fun _ σ' => mQ (B + 1488000) σ σ')) := by
  obtain ⟨N, hN, hj⟩ := (lw_bs hl).1
  exact mU (as := [.ref 0, .int a1, .int a2]) (D := 0) rfl hl hN (by omega) (c_task a1 a2 (sh rM σ) hj)
theorem m_zone {B : Nat} (a1 a2 : Int32) (σ : sm_S) (hB : B < 1500000000) (hl : lw B (bs 168 σ)) : xC xF j_M_zone [.ref 168, .int a1, .int a2] σ (sm_I (fun _ σ' => mQ (B + 1488000) σ σ')) := by
  obtain ⟨N, hN, hj⟩ := (lw_bs hl).1
  exact mU (as := [.ref 0, .int a1, .int a2]) (D := 0) rfl hl hN (by omega) (c_zone a1 a2 (sh rM σ) hj)
theorem m_loose {B : Nat} (a1 a2 : Int32) (σ : sm_S) (hB : B < 1500000000) (hl : lw B (bs 168 σ)) : xC xF j_M_loose [.ref 168, .int a1, .int a2] σ (sm_I (fun _ σ' => mQ (B + 1488000) σ σ')) := by
  obtain ⟨N, hN, hj⟩ := (lw_bs hl).1
  exact mU (as := [.ref 0, .int a1, .int a2]) (D := 0) rfl hl hN (by omega) (c_loose a1 a2 (sh rM σ) hj)
theorem m_place {B : Nat} (a1 a2 a3 : Int32) (σ : sm_S) (hB : B < 1500000000) (hl : lw B (bs 168 σ)) : xC xF j_M_place [.ref 168, .int a1, .int a2, .int a3] σ (sm_I (fun _ σ' => mQ (B + 1488000) σ σ')) := by
  obtain ⟨N, hN, hj⟩ := (lw_bs hl).1
  exact mU (as := [.ref 0, .int a1, .int a2, .int a3]) (D := 0) rfl hl hN (by omega) (c_place a1 a2 a3 (sh rM σ) hj)
theorem m_hole {B : Nat} (a1 : Int32) (σ : sm_S) (hB : B < 1500000000) (hl : lw B (bs 168 σ)) : xC xF j_M_hole [.ref 168, .int a1] σ (sm_I (fun _ σ' => mQ (B + 1488000) σ σ')) := by
  obtain ⟨N, hN, hj⟩ := (lw_bs hl).1
  exact mU (as := [.ref 0, .int a1]) (D := 0) rfl hl hN (by omega) (c_hole a1 (sh rM σ) hj)
theorem m_keeps {B : Nat} (a1 a2 a3 : Int32) (σ : sm_S) (hB : B < 1500000000) (hl : lw B (bs 168 σ)) : xC xF j_M_keeps [.ref 168, .int a1, .int a2, .int a3] σ (sm_I (fun _ σ' => mQ (B + 1488000) σ σ')) := by
  obtain ⟨N, hN, hj⟩ := (lw_bs hl).1
  exact mU (as := [.ref 0, .int a1, .int a2, .int a3]) (D := 0) rfl hl hN (by omega) (c_keeps a1 a2 a3 (sh rM σ) hj)
theorem m_holders {B : Nat} (a1 : Int32) (σ : sm_S) (hB : B < 1500000000) (hl : lw B (bs 168 σ)) : xC xF j_M_holders [.ref 168, .int a1] σ (sm_I (fun _ σ' => mQ (B + 1488000) σ σ')) := by
  obtain ⟨N, hN, hj⟩ := (lw_bs hl).1
  exact mU (as := [.ref 0, .int a1]) (D := 0) rfl hl hN (by omega) (c_holders a1 (sh rM σ) hj)
theorem m_pressed {B : Nat} (a1 : Int32) (σ : sm_S) (hB : B < 1500000000) (hl : lw B (bs 168 σ)) : xC xF j_M_pressed [.ref 168, .int a1] σ (sm_I (fun _ σ' => mQ (B + 1488000) σ σ')) := by
  obtain ⟨N, hN, hj⟩ := (lw_bs hl).1
  exact mU (as := [.ref 0, .int a1]) (D := 0) rfl hl hN (by omega) (c_pressed a1 (sh rM σ) hj)
theorem m_at {B : Nat} (a1 a2 : Int32) (σ : sm_S) (hB : B < 1500000000) (hl : lw B (bs 168 σ)) : xC xF j_M_at [.ref 168, .int a1, .int a2] σ (sm_I (fun _ σ' => mQ (B + 1488000) σ σ')) := by
  obtain ⟨N, hN, hj⟩ := (lw_bs hl).1
  exact mU (as := [.ref 0, .int a1, .int a2]) (D := 0) rfl hl hN (by omega) (c_at a1 a2 (sh rM σ) hj)
theorem m_movable {B : Nat} (σ : sm_S) (hB : B < 1500000000) (hl : lw B (bs 168 σ)) : xC xF j_M_movable [.ref 168] σ (sm_I (fun _ σ' => mQ (B + 1488000) σ σ')) := by
  obtain ⟨N, hN, hj⟩ := (lw_bs hl).1
  exact mU (as := [.ref 0]) (D := 0) rfl hl hN (by omega) (c_movable (N := N)  (by omega) (sh rM σ) hj)
theorem m_would {B : Nat} (a1 a2 : Int32) (σ : sm_S) (hB : B < 1500000000) (hl : lw B (bs 168 σ)) : xC xF j_M_would [.ref 168, .int a1, .int a2] σ (sm_I (fun _ σ' => mQ (B + 1488000) σ σ')) := by
  obtain ⟨N, hN, hj⟩ := (lw_bs hl).1
  exact mU (as := [.ref 0, .int a1, .int a2]) (D := 0) rfl hl hN (by omega) (c_would (N := N) a1 a2 (by omega) (sh rM σ) hj)
theorem m_easiest {B : Nat} (a1 : Int32) (σ : sm_S) (hB : B < 1500000000) (hl : lw B (bs 168 σ)) : xC xF j_M_easiest [.ref 168, .int a1] σ (sm_I (fun _ σ' => mQ (B + 1488000) σ σ')) := by
  obtain ⟨N, hN, hj⟩ := (lw_bs hl).1
  exact mUN (as := [.ref 0, .int a1]) (D := 0) rfl hl hN (by omega) (n_easiest (N := N) a1 (by omega) (sh rM σ) hj)
theorem m_givenBack {B : Nat} (σ : sm_S) (hB : B < 1500000000) (hl : lw B (bs 168 σ)) : xC xF j_M_givenBack [.ref 168] σ (sm_I (fun _ σ' => mQ (B + 1488000) σ σ')) := by
  obtain ⟨N, hN, hj⟩ := (lw_bs hl).1
  exact mUN (as := [.ref 0]) (D := 0) rfl hl hN (by omega) (n_givenBack (N := N)  (by omega) (sh rM σ) hj)
theorem m_log {B : Nat} (a1 a2 : Int32) (σ : sm_S) (hB : B < 1500000000) (hl : lw B (bs 168 σ)) : xC xF j_M_log [.ref 168, .int a1, .int a2] σ (sm_I (fun _ σ' => mQ (B + 1488000) σ σ')) := by
  obtain ⟨N, hN, hj⟩ := (lw_bs hl).1
  exact mU (as := [.ref 0, .int a1, .int a2]) (D := 0) rfl hl hN (by omega) (c_log a1 a2 (sh rM σ) hj)
theorem m_count {B : Nat} (a1 : Int32) (σ : sm_S) (hB : B < 1500000000) (hl : lw B (bs 168 σ)) : xC xF j_M_count [.ref 168, .int a1] σ (sm_I (fun _ σ' => mQ (B + 1488000) σ σ')) := by
  obtain ⟨N, hN, hj⟩ := (lw_bs hl).1
  exact mU (as := [.ref 0, .int a1]) (D := 0) rfl hl hN (by omega) (c_count a1 (sh rM σ) hj)
theorem m_look {B : Nat} (a1 : Int32) (σ : sm_S) (hB : B < 1500000000) (hl : lw B (bs 168 σ)) : xC xF j_M_look [.ref 168, .int a1] σ (sm_I (fun _ σ' => mQ (B + 1488000) σ σ')) := by
  obtain ⟨N, hN, hj⟩ := (lw_bs hl).1
  exact mU (as := [.ref 0, .int a1]) (D := 0) rfl hl hN (by omega) (c_look a1 (sh rM σ) hj)
theorem m_set {B : Nat} (a1 a2 : Int32) (σ : sm_S) (hl : lw B (bs 168 σ)) : xC xF j_M_set [.ref 168, .int a1, .int a2] σ (sm_I (fun x σ' => isYes (ansSet a1 a2) x ∧ mQ (B + 1488000) σ σ')) := by
  obtain ⟨N, hN, hj⟩ := (lw_bs hl).1
  exact mUx (as := [.ref 0, .int a1, .int a2]) (P := isYes (ansSet a1 a2)) rfl (fun x τ hx => ⟨hx.1, (lw.pub (lw_bs hl) hN (pub_X hx.2)).up (by omega), pub6 (pub_X hx.2)⟩) (c_set a1 a2 (sh rM σ) hj)
theorem m_home {B : Nat} (a1 a2 : Int32) (σ : sm_S) (hl : lw B (bs 168 σ)) : xC xF j_M_home [.ref 168, .int a1, .int a2] σ (sm_I (fun x σ' => isYes (ansHome a1 a2) x ∧ mQ (B + 1488000) σ σ')) := by
  obtain ⟨N, hN, hj⟩ := (lw_bs hl).1
  exact mUx (as := [.ref 0, .int a1, .int a2]) (P := isYes (ansHome a1 a2)) rfl (fun x τ hx => ⟨hx.1, (lw.pub (lw_bs hl) hN (pub_X hx.2)).up (by omega), pub6 (pub_X hx.2)⟩) (c_home a1 a2 (sh rM σ) hj)
theorem l_imageA {a1 : Int32} : ∀ (d k : Nat) (a2 : Int32) (σ : sm_S), a2.toInt = k → k + d = 2662 → xE xM m_M_image 25 [.ref 0, .int a1, .int a2] [] σ (sm_I (fun x σ' => x = 1 ∧ σ' 0 = σ 0)) := by
  intro d
  induction d with
  | zero =>
    intro k a2 σ h2 hk
    refine w_M_image_25 a1 a2 σ _ ⟨fun _ => ⟨Or.inr rfl, _, rfl, rfl, rfl⟩, fun h => absurd ?_ h⟩
    rw [t_le, h2]
    show (2662 : Int) ≤ _
    omega
  | succ d ih =>
    intro k a2 σ h2 hk
    have h2' : (a2 + 1).toInt = ((k + 1 : Nat) : Int) := by
      rw [t_add h2 (y := 1) rfl (by omega) (by omega)]
      omega
    refine w_M_image_25 a1 a2 σ _ ⟨fun h => ?_, fun _ => ⟨fun _ => ⟨t_vp h2 (by omega), t_vp h2 (by omega), fun σ1 e1 => ?_⟩, fun _ => ⟨t_vp h2 (by omega), t_vp h2 (by omega), fun σ1 e1 => ?_⟩⟩⟩
    · rw [t_le, h2] at h
      have h : (2662 : Int) ≤ k := h
      omega
    · refine (ih (k + 1) (a2 + 1) σ1 h2' (by omega)).mono ?_
      rintro r σ' ⟨x, rfl, hx, e⟩
      exact ⟨x, rfl, hx, by rw [e, e1, s_ne (by decide)]⟩
    · refine (ih (k + 1) (a2 + 1) σ1 h2' (by omega)).mono ?_
      rintro r σ' ⟨x, rfl, hx, e⟩
      exact ⟨x, rfl, hx, by rw [e, e1, s_ne (by decide)]⟩
theorem c_imageA (a1 : Int32) (σ : sm_S) : xC xM j_M_image [.ref 0, .int a1] σ (sm_I (fun x σ' => isYes (a1 ≠ 0 ∨ σ 0 6 ≠ 0) x ∧ (σ' 0 6 ≠ 0 ↔ (a1 ≠ 0 ∨ σ 0 6 ≠ 0)))) := by
  refine w_M_image a1 σ _ (fun σ1 e1 => ⟨fun n1 => ⟨Or.inr rfl, fun σ2 e2 => ?_⟩, fun n1 => ⟨fun n6 => ⟨Or.inr rfl, fun σ2 e2 => ?_⟩, fun n6 => ⟨Or.inl rfl, _, rfl, ?_⟩⟩⟩)
  · refine (l_imageA 2662 0 0 σ2 rfl (Nat.zero_add _)).mono ?_
    rintro r σ' ⟨x, rfl, hx, e⟩
    refine ⟨x, rfl, Or.inl ⟨hx, Or.inl n1⟩, fun _ => Or.inl n1, fun _ => ?_⟩
    rw [e, e2, s_at, u_at]; decide
  · have n6' : σ 0 6 ≠ 0 := by rw [e1, s_at, u_ne (by decide)] at n6; exact n6
    refine (l_imageA 2662 0 0 σ2 rfl (Nat.zero_add _)).mono ?_
    rintro r σ' ⟨x, rfl, hx, e⟩
    refine ⟨x, rfl, Or.inl ⟨hx, Or.inr n6'⟩, fun _ => Or.inr n6', fun _ => ?_⟩
    rw [e, e2, s_at, u_at]; decide
  · have e6 : σ1 0 6 = σ 0 6 := by rw [e1, s_at, u_ne (by decide)]
    have z6 : ¬ (a1 ≠ 0 ∨ σ 0 6 ≠ 0) := fun h => h.elim n1 (fun h => n6 (by rw [e6]; exact h))
    exact ⟨Or.inr ⟨rfl, z6⟩, fun h => absurd h n6, fun h => absurd h z6⟩
theorem m_image {B : Nat} (a1 : Int32) (σ : sm_S) (hl : lw B (bs 168 σ)) : xC xF j_M_image [.ref 168, .int a1] σ (sm_I (fun x σ' => isYes (a1 ≠ 0 ∨ σ 168 6 ≠ 0) x ∧ lw (B + 1488000) (bs 168 σ') ∧ (∀ a, a < 168 ∨ 174 ≤ a → σ' a = σ a) ∧ (σ' 168 6 ≠ 0 ↔ (a1 ≠ 0 ∨ σ 168 6 ≠ 0)))) := by
  refine (x_up shMF (as := [.ref 0, .int a1]) (σ := σ) ((c_image a1 (sh rM σ) (lw_bs hl)).and (c_imageA a1 (sh rM σ)))).mono ?_
  rintro r σ' ⟨r1, τ, rfl, ⟨⟨x, rfl, hx⟩, ⟨y, hy, hi, h6⟩⟩, hs, ho⟩
  cases hy
  have e6 : σ' 168 6 = τ 0 6 := hs.2 0 9 _ 6 1 rfl rfl (by omega)
  exact ⟨x, rfl, hi, (stM hs hx.1).up (by omega), fun a ha => off_out (n := 6) rfl ho (rM_out ha), by rw [e6]; exact h6⟩
/-- what holds between the law's rounds -/
def LQ (B : Nat) (σ : sm_S) : Prop := WW σ ∧ lw B (bs 168 σ) ∧ (σ 42 4 ≠ 0 ↔ σ 168 6 ≠ 0)
theorem lw_off {B : Nat} {σ σ' : sm_S} (h : lw B (bs 168 σ)) (q : ∀ a, 168 ≤ a → σ' a = σ a) : lw B (bs 168 σ') := by
  obtain ⟨⟨N, h1, h2⟩, h3⟩ := h
  refine ⟨⟨N, h1, by show jj N (σ' 169); rw [q 169 (by omega)]; exact h2⟩, fun z => ?_⟩
  have z : σ' 168 6 ≠ 0 := z
  rw [q 168 (by omega)] at z
  obtain ⟨M, m1, m2⟩ := h3 z
  exact ⟨M, m1, by show jj M (σ' 173); rw [q 173 (by omega)]; exact m2⟩
theorem WW_off {σ σ' : sm_S} (h : WW σ) (q : ∀ a, a < 168 → σ' a = σ a) : WW σ' := by
  obtain ⟨h1, h2, h3, h4, h5⟩ := h
  refine ⟨kk_of (fun k hk => q k (by omega)) h1, kl_of (σ := bs 43 σ) (by show σ' 77 5 = σ 77 5; rw [q 77 (by omega)]) h2, kl_of (σ := bs 86 σ) (by show σ' 120 5 = σ 120 5; rw [q 120 (by omega)]) h3, by rw [q 42 (by omega)]; exact h4, fun hn => ?_⟩
  rw [q 42 (by omega)] at hn
  exact kk_of (fun k hk => by show σ' (127 + k) = σ (127 + k); exact q _ (by omega)) (h5 hn)
theorem LQ.a {B : Nat} {σ σ' : sm_S} (h : LQ B σ) (q : AQ σ σ') : LQ B σ' := ⟨q.1, lw_off h.2.1 q.2.1, by rw [q.2.2, q.2.1 168 (by omega)]; exact h.2.2⟩
theorem LQ.m {B B' : Nat} {σ σ' : sm_S} (h : LQ B σ) (q : mQ B' σ σ') : LQ B' σ' := ⟨WW_off h.1 (fun a ha => q.2.1 a (Or.inl ha)), q.1, by rw [q.2.1 42 (by omega), q.2.2]; exact h.2.2⟩
