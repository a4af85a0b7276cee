/-! ===== the simulation: the pairs of calls ===== -/
def tw (N : Nat) (c : sm_S) (v : Nat → Int32) : Prop := tie True N c v ∧ jj N v ∧ jx v
theorem tw.eq {N : Nat} {c c' : sm_S} {v v' : Nat → Int32} (h : tw N c v) (e : eqT c c') (hv : ∀ i, i < 2662 → v' i = v i) : tw N c' v' := ⟨h.1.eq e hv, jj_eq hv h.2.1, h.2.2.eq hv⟩
def LR (B : Nat) (σ : sm_S) : Prop := LQ B σ ∧ (∃ N, N ≤ B ∧ tw N σ (σ 169)) ∧ (σ 42 4 ≠ 0 → ∃ N, N ≤ B ∧ tw N (bs 127 σ) (σ 173))
def kQ (σ σ' : sm_S) : Prop := (∀ i, i < 2662 → σ' 169 i = σ 169 i) ∧ σ' 173 = σ 173
theorem qU {j N D : Nat} {as as' : List Value} {σ : sm_S} (ha : as.map (sm_cv rM) = as') (h : xC xM j as (sh rM σ) (sm_I (puQ N D (sh rM σ)))) : xC xF j as' σ (sm_I (fun _ σ' => kQ σ σ')) := by
  subst ha
  refine (x_up shMF h).mono ?_
  rintro r σ' ⟨r1, τ, rfl, ⟨x, rfl, ⟨N', h1, h2, h3, h4, -⟩, hx⟩, hs, ho⟩
  refine ⟨x, rfl, fun i hi => ?_, ?_⟩
  · have e1 : σ' 169 = τ 1 := hs.1 1 (0, 2662) rfl
    rw [e1, hx i hi]
    rfl
  · have e5 : σ' 173 = τ 5 := hs.1 5 (0, 2662) rfl
    rw [e5, h4]
    rfl
theorem qUN {j N D : Nat} {as as' : List Value} {σ : sm_S} (ha : as.map (sm_cv rM) = as') (h : xC xN j as (sh rM σ) (sm_I (puQ N D (sh rM σ)))) : xC xF j as' σ (sm_I (fun _ σ' => kQ σ σ')) := by
  subst ha
  refine (x_up shNF h).mono ?_
  rintro r σ' ⟨r1, τ, rfl, ⟨x, rfl, ⟨N', h1, h2, h3, h4, -⟩, hx⟩, hs, ho⟩
  refine ⟨x, rfl, fun i hi => ?_, ?_⟩
  · have e1 : σ' 169 = τ 1 := hs.1 1 (0, 2662) rfl
    rw [e1, hx i hi]
    rfl
  · have e5 : σ' 173 = τ 5 := hs.1 5 (0, 2662) rfl
    rw [e5, h4]
    rfl
/-- two calls, one after the other -/
def two (C : Int32 → Int32 → Prop) (jA jM : Nat) (asA asM : List Value) (B : Nat) (σ : sm_S) : Prop := xC xF jA asA σ (sm_I (fun x σ1 => xC xF jM asM σ1 (sm_I (fun y σ2 => C x y ∧ LR (B + 1488000) σ2))))
theorem LR.up {B B' : Nat} {σ : sm_S} (h : LR B σ) (hB : B ≤ B') : LR B' σ := by
  obtain ⟨⟨h1, h2, h3⟩, ⟨N, hN, t⟩, h4⟩ := h
  refine ⟨⟨h1, h2.up hB, h3⟩, ⟨N, by omega, t⟩, fun z => ?_⟩
  obtain ⟨N2, hN2, t2⟩ := h4 z
  exact ⟨N2, by omega, t2⟩
theorem CLm {jA jM B : Nat} {asA asM asM' : List Value} {σ : sm_S} (h : LR B σ) (ha : asM.map (sm_cv rM) = asM') (pr : ∀ N, N ≤ B → tw N σ (σ 169) → prC jA jM asA asM N σ) (a : xC xF jA asA σ (sm_I (fun _ σ' => AQ σ σ'))) (m : ∀ σ1, LQ B σ1 → xC xF jM asM' σ1 (sm_I (fun _ σ' => mQ (B + 1488000) σ1 σ'))) : two (fun x y => x = y) jA jM asA asM' B σ := by
  obtain ⟨hL, ⟨N, hN, ht⟩, him⟩ := h
  obtain ⟨r, v', N', n', j', x', C, R⟩ := pr N hN ht
  refine (C.and a).mono ?_
  rintro r0 σ1 ⟨⟨x, e0, hx, t1, o1⟩, x2, -, hA⟩
  refine ⟨x, e0, ?_⟩
  have hL1 := hL.a hA
  refine ((R.up ha σ1 (o1 169 (by omega)) (o1 172 (by omega))).and (m σ1 hL1)).mono ?_
  rintro r3 σ2 ⟨⟨y, e3, hy, w1, w2⟩, y2, -, hm⟩
  refine ⟨y, e3, hx.trans hy.symm, hL1.m hm, ⟨N', by omega, ?_⟩, fun z => ?_⟩
  · rw [w1]
    exact ⟨t1.eq (eqT.of (fun k hk => hm.2.1 k (by omega))) (fun _ _ => rfl), j', x'⟩
  · rw [hm.2.1 42 (by omega), o1 42 (by omega)] at z
    obtain ⟨N2, hN2, t2⟩ := him z
    refine ⟨N2, by omega, ?_⟩
    rw [w2, o1 173 (by omega)]
    refine t2.eq (eqT.of (fun k hk => ?_)) (fun _ _ => rfl)
    show σ2 (127 + k) = σ (127 + k)
    rw [hm.2.1 _ (by omega), o1 _ (by omega)]
theorem CLq {jA jM B : Nat} {asA asM : List Value} {σ : sm_S} (h : LR B σ) (a : xC xF jA asA σ (sm_I (fun _ σ' => BQ σ σ'))) (m : ∀ σ1, LQ B σ1 → xC xF jM asM σ1 (sm_I (fun _ σ' => mQ (B + 1488000) σ1 σ'))) (k : ∀ σ1, LQ B σ1 → xC xF jM asM σ1 (sm_I (fun _ σ' => kQ σ1 σ'))) : two (fun _ _ => True) jA jM asA asM B σ := by
  obtain ⟨hL, ⟨N, hN, ht⟩, him⟩ := h
  refine a.mono ?_
  rintro r0 σ1 ⟨x, e0, hA, o1⟩
  refine ⟨x, e0, ?_⟩
  have hL1 := hL.a hA
  refine ((m σ1 hL1).and (k σ1 hL1)).mono ?_
  rintro r3 σ2 ⟨⟨y, e3, hm⟩, y2, -, w1, w2⟩
  refine ⟨y, e3, trivial, hL1.m hm, ⟨N, by omega, ?_⟩, fun z => ?_⟩
  · refine ht.eq (eqT.of (fun k hk => ?_)) (fun i hi => ?_)
    · rw [hm.2.1 k (by omega), o1 k (by omega)]
    · rw [w1 i hi, o1 169 (by omega)]
  · rw [hm.2.1 42 (by omega), o1 42 (by omega)] at z
    obtain ⟨N2, hN2, t2⟩ := him z
    refine ⟨N2, by omega, ?_⟩
    rw [w2, o1 173 (by omega)]
    refine t2.eq (eqT.of (fun k hk => ?_)) (fun _ _ => rfl)
    show σ2 (127 + k) = σ (127 + k)
    rw [hm.2.1 _ (by omega), o1 _ (by omega)]
theorem cl_take {B : Nat} (a1 a2 a3 a4 : Int32) (σ : sm_S) (hB : B < 1500000000) (h : LR B σ) : two (fun x y => x = y) j_A_take j_M_take [.ref 42, .int a1, .int a2, .int a3, .int a4] [.ref 168, .int a1, .int a2, .int a3, .int a4] B σ :=
  CLm (asM := [.ref 0, .int a1, .int a2, .int a3, .int a4]) h rfl (fun N hN t => pr_take a1 a2 a3 a4 t.1 t.2.1 t.2.2 (by omega)) (a_take a1 a2 a3 a4 σ h.1.1) (fun σ1 q => (m_take a1 a2 a3 a4 σ1 hB q.2.1))
theorem cl_free {B : Nat} (a1 : Int32) (σ : sm_S) (hB : B < 1500000000) (h : LR B σ) : two (fun x y => x = y) j_A_free j_M_free [.ref 42, .int a1] [.ref 168, .int a1] B σ :=
  CLm (asM := [.ref 0, .int a1]) h rfl (fun N hN t => pr_free a1 t.1 t.2.1 t.2.2) (a_free a1 σ h.1.1) (fun σ1 q => (m_free a1 σ1 hB q.2.1))
theorem cl_read {B : Nat} (a1 a2 a3 : Int32) (σ : sm_S) (hB : B < 1500000000) (h : LR B σ) : two (fun x y => x = y) j_A_read j_M_read [.ref 42, .int a1, .int a2, .int a3] [.ref 168, .int a1, .int a2, .int a3] B σ :=
  CLm (asM := [.ref 0, .int a1, .int a2, .int a3]) h rfl (fun N hN t => pr_read a1 a2 a3 t.1 t.2.1 t.2.2 (by omega)) (a_read a1 a2 a3 σ h.1.1) (fun σ1 q => (m_read a1 a2 a3 σ1 hB q.2.1))
theorem cl_write {B : Nat} (a1 a2 a3 a4 : Int32) (σ : sm_S) (hB : B < 1500000000) (h : LR B σ) : two (fun x y => x = y) j_A_write j_M_write [.ref 42, .int a1, .int a2, .int a3, .int a4] [.ref 168, .int a1, .int a2, .int a3, .int a4] B σ :=
  CLm (asM := [.ref 0, .int a1, .int a2, .int a3, .int a4]) h rfl (fun N hN t => pr_write a1 a2 a3 a4 t.1 t.2.1 t.2.2 (by omega)) (a_write a1 a2 a3 a4 σ h.1.1) (fun σ1 q => (m_write a1 a2 a3 a4 σ1 hB q.2.1))
theorem cl_pin {B : Nat} (a1 a2 : Int32) (σ : sm_S) (hB : B < 1500000000) (h : LR B σ) : two (fun x y => x = y) j_A_pin j_M_pin [.ref 42, .int a1, .int a2] [.ref 168, .int a1, .int a2] B σ :=
  CLm (asM := [.ref 0, .int a1, .int a2]) h rfl (fun N hN t => pr_pin a1 a2 t.1 t.2.1 t.2.2 (by omega)) (a_pin a1 a2 σ h.1.1) (fun σ1 q => (m_pin a1 a2 σ1 hB q.2.1))
theorem cl_unpin {B : Nat} (a1 a2 : Int32) (σ : sm_S) (hB : B < 1500000000) (h : LR B σ) : two (fun x y => x = y) j_A_unpin j_M_unpin [.ref 42, .int a1, .int a2] [.ref 168, .int a1, .int a2] B σ :=
  CLm (asM := [.ref 0, .int a1, .int a2]) h rfl (fun N hN t => pr_unpin a1 a2 t.1 t.2.1 t.2.2) (a_unpin a1 a2 σ h.1.1) (fun σ1 q => (m_unpin a1 a2 σ1 hB q.2.1))
theorem cl_come {B : Nat} (a1 a2 : Int32) (σ : sm_S) (hB : B < 1500000000) (h : LR B σ) : two (fun x y => x = y) j_A_come j_M_come [.ref 42, .int a1, .int a2] [.ref 168, .int a1, .int a2] B σ :=
  CLm (asM := [.ref 0, .int a1, .int a2]) h rfl (fun N hN t => pr_come a1 a2 t.1 t.2.1 t.2.2 (by omega)) (a_come a1 a2 σ h.1.1) (fun σ1 q => (m_come a1 a2 σ1 hB q.2.1))
theorem cl_byTurns {B : Nat} (a1 : Int32) (σ : sm_S) (hB : B < 1500000000) (h : LR B σ) : two (fun x y => x = y) j_A_byTurns j_M_byTurns [.ref 42, .int a1] [.ref 168, .int a1] B σ :=
  CLm (asM := [.ref 0, .int a1]) h rfl (fun N hN t => pr_byTurns a1 t.1 t.2.1 t.2.2 (by omega)) (a_byTurns a1 σ h.1.1) (fun σ1 q => (m_byTurns a1 σ1 hB q.2.1))
theorem cl_press {B : Nat} (a1 : Int32) (σ : sm_S) (hB : B < 1500000000) (h : LR B σ) : two (fun x y => x = y) j_A_press j_M_press [.ref 42, .int a1] [.ref 168, .int a1] B σ :=
  CLm (asM := [.ref 0, .int a1]) h rfl (fun N hN t => pr_press a1 t.1 t.2.1 t.2.2) (a_press a1 σ h.1.1) (fun σ1 q => (m_press a1 σ1 hB q.2.1))
theorem cl_gather {B : Nat} (a1 : Int32) (σ : sm_S) (hB : B < 1500000000) (h : LR B σ) : two (fun x y => x = y) j_A_gather j_M_gather [.ref 42, .int a1] [.ref 168, .int a1] B σ :=
  CLm (asM := [.ref 0, .int a1]) h rfl (fun N hN t => pr_gather a1 t.1 t.2.1 t.2.2) (a_gather a1 σ h.1.1) (fun σ1 q => (m_gather a1 σ1 hB q.2.1))
theorem cl_go {B : Nat} (a1 : Int32) (σ : sm_S) (hB : B < 1500000000) (h : LR B σ) : two (fun x y => x = y) j_A_go j_M_go [.ref 42, .int a1] [.ref 168, .int a1] B σ :=
  CLm (asM := [.ref 0, .int a1]) h rfl (fun N hN t => pr_go a1 t.1 t.2.1 t.2.2 (by omega)) (a_go a1 σ h.1.1) (fun σ1 q => (m_go a1 σ1 hB q.2.1))
theorem cl_giveUp {B : Nat} (a1 : Int32) (σ : sm_S) (hB : B < 1500000000) (h : LR B σ) : two (fun x y => x = y) j_A_giveUp j_M_giveUp [.ref 42, .int a1] [.ref 168, .int a1] B σ :=
  CLm (asM := [.ref 0, .int a1]) h rfl (fun N hN t => pr_giveUp a1 t.1 t.2.1 t.2.2 (by omega)) (a_giveUp a1 σ h.1.1) (fun σ1 q => (m_giveUp a1 σ1 hB q.2.1))
theorem cl_tick {B : Nat} (a1 : Int32) (σ : sm_S) (hB : B < 1500000000) (h : LR B σ) : two (fun x y => x = y) j_A_tick j_M_tick [.ref 42, .int a1] [.ref 168, .int a1] B σ :=
  CLm (asM := [.ref 0, .int a1]) h rfl (fun N hN t => pr_tick a1 t.1 t.2.1 t.2.2 (by omega)) (a_tick a1 σ h.1.1) (fun σ1 q => (m_tick a1 σ1 hB q.2.1))
theorem cl_set {B : Nat} (a1 a2 : Int32) (σ : sm_S) (hB : B < 1500000000) (h : LR B σ) : two (fun x y => x = y) j_A_set j_M_set [.ref 42, .int a1, .int a2] [.ref 168, .int a1, .int a2] B σ :=
  CLm (asM := [.ref 0, .int a1, .int a2]) h rfl (fun N hN t => pr_set a1 a2 t.1 t.2.1 t.2.2) ((a_set a1 a2 σ h.1.1).mono (by rintro r0 σ1 ⟨x, e, -, q⟩; exact ⟨x, e, q⟩)) (fun σ1 q => ((m_set a1 a2 σ1 q.2.1).mono (by rintro r0 σ2 ⟨x, e, -, q⟩; exact ⟨x, e, q⟩)))
theorem cl_home {B : Nat} (a1 a2 : Int32) (σ : sm_S) (hB : B < 1500000000) (h : LR B σ) : two (fun x y => x = y) j_A_home j_M_home [.ref 42, .int a1, .int a2] [.ref 168, .int a1, .int a2] B σ :=
  CLm (asM := [.ref 0, .int a1, .int a2]) h rfl (fun N hN t => pr_home a1 a2 t.1 t.2.1 t.2.2) ((a_home a1 a2 σ h.1.1).mono (by rintro r0 σ1 ⟨x, e, -, q⟩; exact ⟨x, e, q⟩)) (fun σ1 q => ((m_home a1 a2 σ1 q.2.1).mono (by rintro r0 σ2 ⟨x, e, -, q⟩; exact ⟨x, e, q⟩)))
theorem cl_frame {B : Nat} (a1 a2 : Int32) (σ : sm_S) (hB : B < 1500000000) (h : LR B σ) : two (fun _ _ => True) j_A_frame j_M_frame [.ref 42, .int a1, .int a2] [.ref 168, .int a1, .int a2] B σ :=
  CLq h (a_frameQ a1 a2 σ h.1.1) (fun σ1 q => m_frame a1 a2 σ1 hB q.2.1) (fun σ1 q => by
    obtain ⟨N, hN, hj⟩ := (lw_bs q.2.1).1
    exact qU (as := [.ref 0, .int a1, .int a2]) rfl (k_frame (N := N) a1 a2 (sh rM σ1) hj))
theorem cl_block {B : Nat} (a1 a2 : Int32) (σ : sm_S) (hB : B < 1500000000) (h : LR B σ) : two (fun _ _ => True) j_A_block j_M_block [.ref 42, .int a1, .int a2] [.ref 168, .int a1, .int a2] B σ :=
  CLq h (a_blockQ a1 a2 σ h.1.1) (fun σ1 q => m_block a1 a2 σ1 hB q.2.1) (fun σ1 q => by
    obtain ⟨N, hN, hj⟩ := (lw_bs q.2.1).1
    exact qU (as := [.ref 0, .int a1, .int a2]) rfl (k_block (N := N) a1 a2 (sh rM σ1) hj))
theorem cl_span {B : Nat} (a1 a2 : Int32) (σ : sm_S) (hB : B < 1500000000) (h : LR B σ) : two (fun _ _ => True) j_A_span j_M_span [.ref 42, .int a1, .int a2] [.ref 168, .int a1, .int a2] B σ :=
  CLq h (a_spanQ a1 a2 σ h.1.1) (fun σ1 q => m_span a1 a2 σ1 hB q.2.1) (fun σ1 q => by
    obtain ⟨N, hN, hj⟩ := (lw_bs q.2.1).1
    exact qU (as := [.ref 0, .int a1, .int a2]) rfl (k_span (N := N) a1 a2 (sh rM σ1) hj))
theorem cl_task {B : Nat} (a1 a2 : Int32) (σ : sm_S) (hB : B < 1500000000) (h : LR B σ) : two (fun _ _ => True) j_A_task j_M_task [.ref 42, .int a1, .int a2] [.ref 168, .int a1, .int a2] B σ :=
  CLq h (a_taskQ a1 a2 σ h.1.1) (fun σ1 q => m_task a1 a2 σ1 hB q.2.1) (fun σ1 q => by
    obtain ⟨N, hN, hj⟩ := (lw_bs q.2.1).1
    exact qU (as := [.ref 0, .int a1, .int a2]) rfl (k_task (N := N) a1 a2 (sh rM σ1) hj))
theorem cl_zone {B : Nat} (a1 a2 : Int32) (σ : sm_S) (hB : B < 1500000000) (h : LR B σ) : two (fun _ _ => True) j_A_zone j_M_zone [.ref 42, .int a1, .int a2] [.ref 168, .int a1, .int a2] B σ :=
  CLq h (a_zoneQ a1 a2 σ h.1.1) (fun σ1 q => m_zone a1 a2 σ1 hB q.2.1) (fun σ1 q => by
    obtain ⟨N, hN, hj⟩ := (lw_bs q.2.1).1
    exact qU (as := [.ref 0, .int a1, .int a2]) rfl (k_zone (N := N) a1 a2 (sh rM σ1) hj))
theorem cl_loose {B : Nat} (a1 a2 : Int32) (σ : sm_S) (hB : B < 1500000000) (h : LR B σ) : two (fun _ _ => True) j_A_loose j_M_loose [.ref 42, .int a1, .int a2] [.ref 168, .int a1, .int a2] B σ :=
  CLq h (a_looseQ a1 a2 σ h.1.1) (fun σ1 q => m_loose a1 a2 σ1 hB q.2.1) (fun σ1 q => by
    obtain ⟨N, hN, hj⟩ := (lw_bs q.2.1).1
    exact qU (as := [.ref 0, .int a1, .int a2]) rfl (k_loose (N := N) a1 a2 (sh rM σ1) hj))
theorem cl_place {B : Nat} (a1 a2 a3 : Int32) (σ : sm_S) (hB : B < 1500000000) (h : LR B σ) : two (fun _ _ => True) j_A_place j_M_place [.ref 42, .int a1, .int a2, .int a3] [.ref 168, .int a1, .int a2, .int a3] B σ :=
  CLq h (a_placeQ a1 a2 a3 σ h.1.1) (fun σ1 q => m_place a1 a2 a3 σ1 hB q.2.1) (fun σ1 q => by
    obtain ⟨N, hN, hj⟩ := (lw_bs q.2.1).1
    exact qU (as := [.ref 0, .int a1, .int a2, .int a3]) rfl (k_place (N := N) a1 a2 a3 (sh rM σ1) hj))
theorem cl_hole {B : Nat} (a1 : Int32) (σ : sm_S) (hB : B < 1500000000) (h : LR B σ) : two (fun _ _ => True) j_A_hole j_M_hole [.ref 42, .int a1] [.ref 168, .int a1] B σ :=
  CLq h (a_holeQ a1 σ h.1.1) (fun σ1 q => m_hole a1 σ1 hB q.2.1) (fun σ1 q => by
    obtain ⟨N, hN, hj⟩ := (lw_bs q.2.1).1
    exact qU (as := [.ref 0, .int a1]) rfl (k_hole (N := N) a1 (sh rM σ1) hj))
theorem cl_keeps {B : Nat} (a1 a2 a3 : Int32) (σ : sm_S) (hB : B < 1500000000) (h : LR B σ) : two (fun _ _ => True) j_A_keeps j_M_keeps [.ref 42, .int a1, .int a2, .int a3] [.ref 168, .int a1, .int a2, .int a3] B σ :=
  CLq h (a_keepsQ a1 a2 a3 σ h.1.1) (fun σ1 q => m_keeps a1 a2 a3 σ1 hB q.2.1) (fun σ1 q => by
    obtain ⟨N, hN, hj⟩ := (lw_bs q.2.1).1
    exact qU (as := [.ref 0, .int a1, .int a2, .int a3]) rfl (k_keeps (N := N) a1 a2 a3 (sh rM σ1) hj))
theorem cl_holders {B : Nat} (a1 : Int32) (σ : sm_S) (hB : B < 1500000000) (h : LR B σ) : two (fun _ _ => True) j_A_holders j_M_holders [.ref 42, .int a1] [.ref 168, .int a1] B σ :=
  CLq h (a_holdersQ a1 σ h.1.1) (fun σ1 q => m_holders a1 σ1 hB q.2.1) (fun σ1 q => by
    obtain ⟨N, hN, hj⟩ := (lw_bs q.2.1).1
    exact qU (as := [.ref 0, .int a1]) rfl (k_holders (N := N) a1 (sh rM σ1) hj))
theorem cl_pressed {B : Nat} (a1 : Int32) (σ : sm_S) (hB : B < 1500000000) (h : LR B σ) : two (fun _ _ => True) j_A_pressed j_M_pressed [.ref 42, .int a1] [.ref 168, .int a1] B σ :=
  CLq h (a_pressedQ a1 σ h.1.1) (fun σ1 q => m_pressed a1 σ1 hB q.2.1) (fun σ1 q => by
    obtain ⟨N, hN, hj⟩ := (lw_bs q.2.1).1
    exact qU (as := [.ref 0, .int a1]) rfl (k_pressed (N := N) a1 (sh rM σ1) hj))
theorem cl_at {B : Nat} (a1 a2 : Int32) (σ : sm_S) (hB : B < 1500000000) (h : LR B σ) : two (fun _ _ => True) j_A_at j_M_at [.ref 42, .int a1, .int a2] [.ref 168, .int a1, .int a2] B σ :=
  CLq h (a_atQ a1 a2 σ h.1.1) (fun σ1 q => m_at a1 a2 σ1 hB q.2.1) (fun σ1 q => by
    obtain ⟨N, hN, hj⟩ := (lw_bs q.2.1).1
    exact qU (as := [.ref 0, .int a1, .int a2]) rfl (k_at (N := N) a1 a2 (sh rM σ1) hj))
theorem cl_movable {B : Nat} (σ : sm_S) (hB : B < 1500000000) (h : LR B σ) : two (fun _ _ => True) j_A_movable j_M_movable [.ref 42] [.ref 168] B σ :=
  CLq h (a_movableQ σ h.1.1) (fun σ1 q => m_movable σ1 hB q.2.1) (fun σ1 q => by
    obtain ⟨N, hN, hj⟩ := (lw_bs q.2.1).1
    exact qU (as := [.ref 0]) rfl (k_movable (N := N) (by omega) (sh rM σ1) hj))
theorem cl_would {B : Nat} (a1 a2 : Int32) (σ : sm_S) (hB : B < 1500000000) (h : LR B σ) : two (fun _ _ => True) j_A_would j_M_would [.ref 42, .int a1, .int a2] [.ref 168, .int a1, .int a2] B σ :=
  CLq h (a_wouldQ a1 a2 σ h.1.1) (fun σ1 q => m_would a1 a2 σ1 hB q.2.1) (fun σ1 q => by
    obtain ⟨N, hN, hj⟩ := (lw_bs q.2.1).1
    exact qU (as := [.ref 0, .int a1, .int a2]) rfl (k_would (N := N) a1 a2 (by omega) (sh rM σ1) hj))
theorem cl_easiest {B : Nat} (a1 : Int32) (σ : sm_S) (hB : B < 1500000000) (h : LR B σ) : two (fun _ _ => True) j_A_easiest j_M_easiest [.ref 42, .int a1] [.ref 168, .int a1] B σ :=
  CLq h (a_easiestQ a1 σ h.1.1) (fun σ1 q => m_easiest a1 σ1 hB q.2.1) (fun σ1 q => by
    obtain ⟨N, hN, hj⟩ := (lw_bs q.2.1).1
    exact qUN (as := [.ref 0, .int a1]) rfl (k_easiest (N := N) a1 (by omega) (sh rM σ1) hj))
theorem cl_givenBack {B : Nat} (σ : sm_S) (hB : B < 1500000000) (h : LR B σ) : two (fun _ _ => True) j_A_givenBack j_M_givenBack [.ref 42] [.ref 168] B σ :=
  CLq h (a_givenBackQ σ h.1.1) (fun σ1 q => m_givenBack σ1 hB q.2.1) (fun σ1 q => by
    obtain ⟨N, hN, hj⟩ := (lw_bs q.2.1).1
    exact qUN (as := [.ref 0]) rfl (k_givenBack (N := N) (by omega) (sh rM σ1) hj))
theorem cl_log {B : Nat} (a1 a2 : Int32) (σ : sm_S) (hB : B < 1500000000) (h : LR B σ) : two (fun _ _ => True) j_A_log j_M_log [.ref 42, .int a1, .int a2] [.ref 168, .int a1, .int a2] B σ :=
  CLq h (a_logQ a1 a2 σ h.1.1) (fun σ1 q => m_log a1 a2 σ1 hB q.2.1) (fun σ1 q => by
    obtain ⟨N, hN, hj⟩ := (lw_bs q.2.1).1
    exact qU (as := [.ref 0, .int a1, .int a2]) rfl (k_log (N := N) a1 a2 (sh rM σ1) hj))
theorem cl_count {B : Nat} (a1 : Int32) (σ : sm_S) (hB : B < 1500000000) (h : LR B σ) : two (fun _ _ => True) j_A_count j_M_count [.ref 42, .int a1] [.ref 168, .int a1] B σ :=
  CLq h (a_countQ a1 σ h.1.1) (fun σ1 q => m_count a1 σ1 hB q.2.1) (fun σ1 q => by
    obtain ⟨N, hN, hj⟩ := (lw_bs q.2.1).1
    exact qU (as := [.ref 0, .int a1]) rfl (k_count (N := N) a1 (sh rM σ1) hj))
theorem cl_look {B : Nat} (a1 : Int32) (σ : sm_S) (hB : B < 1500000000) (h : LR B σ) : two (fun _ _ => True) j_A_look j_M_look [.ref 42, .int a1] [.ref 168, .int a1] B σ :=
  CLq h (a_lookQ a1 σ h.1.1) (fun σ1 q => m_look a1 σ1 hB q.2.1) (fun σ1 q => by
    obtain ⟨N, hN, hj⟩ := (lw_bs q.2.1).1
    exact qU (as := [.ref 0, .int a1]) rfl (k_look (N := N) a1 (sh rM σ1) hj))
