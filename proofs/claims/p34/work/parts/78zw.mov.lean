/-! ===== the simulation: movable answers the same ===== -/
theorem c_turn3 (σ : sm_S) : xC xM j_M_turnOf [.ref 0] σ (sm_I (fun x σ' => (x = -1 → ∀ s, s < 8 → σ 1 (2358 + 8 * s) ≠ 0) ∧ σ' = σ)) := by
  have ex : ∀ nd, nd < 2 → ∃ x, fof (σ 1) nd x := fun nd hnd => by
    obtain ⟨n, r, σ', -, x, -, hx, -⟩ := l_turn2 (a1 := 0) hnd (rz (σ 1)) 4 0 (nI nd) (by rw [nI_toInt (by omega)]; omega) rfl (fun j hj => by omega)
    rw [rz_at] at hx
    exact ⟨x, hx⟩
  obtain ⟨x0, f0⟩ := ex 0 (by decide)
  obtain ⟨x1, f1⟩ := ex 1 (by decide)
  have z0 := mn0 f0
  have z1 := mn0 f1
  have all : ∀ (nd : Nat) (x : Int32), fof (σ 1) nd x → x = -1 → ∀ i, i < 4 → σ 1 (2358 + 8 * (nd + 2 * i)) ≠ 0 := fun nd x hf e i hi => by
    rcases hf with ⟨-, z⟩ | ⟨j, j1, j2, -⟩
    · exact z i hi
    · rw [e] at j2
      have j2 : (-1 : Int) = _ := j2
      omega
  have both : x0 = -1 → x1 = -1 → ∀ s, s < 8 → σ 1 (2358 + 8 * s) ≠ 0 := fun e0 e1 s hs => by
    by_cases q : s % 2 = 0
    · have w := all 0 x0 f0 e0 (s / 2) (by omega)
      rw [show 0 + 2 * (s / 2) = s by omega] at w
      exact w
    · have w := all 1 x1 f1 e1 (s / 2) (by omega)
      rw [show 1 + 2 * (s / 2) = s by omega] at w
      exact w
  have many : ∀ (aI wI : Int32) (nd w : Nat), aI.toInt = nd → nd < 2 → wI.toInt = w → w < 2 → xC xM j_M_manyOfNode [.ref 0, .int aI, .int wI] σ (sm_I (fun x σ' => x.toInt = ((mnN (σ 1) nd w 4 : Nat) : Int) ∧ σ' = σ)) := fun aI wI nd w e1 e2 e3 e4 => w_M_manyOfNode aI wI σ _ (l_many2 (a1 := aI) e2 e3 e4 σ 4 0 0 aI (by rw [e1]; omega) rfl rfl)
  have go : ∀ (aI : Int32) (nd : Nat) (x : Int32), aI.toInt = nd → nd < 2 → fof (σ 1) nd x → (x = -1 → x0 = -1 ∧ x1 = -1) → xE xM m_M_turnOf 41 [.ref 0, .int aI, .int aI] [] σ (sm_I (fun x σ' => (x = -1 → ∀ s, s < 8 → σ 1 (2358 + 8 * s) ≠ 0) ∧ σ' = σ)) := fun aI nd x e1 e2 e3 e4 => by
    refine (l_turn2 (a1 := aI) e2 σ 4 0 aI (by rw [e1]; omega) rfl (fun j hj => by omega)).mono ?_
    rintro r σ' ⟨y, rfl, hy, es⟩
    have ey := fof_un hy e3
    refine ⟨y, rfl, fun z => ?_, es⟩
    rw [ey] at z
    exact both (e4 z).1 (e4 z).2
  refine w_M_turnOf σ _ ((many 0 1 0 1 rfl (by decide) rfl (by decide)).int ?_)
  rintro y1 σ1 ⟨ey1, es1⟩
  rw [es1]
  refine ⟨fun q => ?_, fun q => (many 1 1 1 1 rfl (by decide) rfl (by decide)).int ?_⟩
  · rw [le0, ey1] at q
    have w : x0 = -1 := z0.mp (by omega)
    exact go 1 1 x1 rfl (by decide) f1 (fun z => ⟨w, z⟩)
  · rw [le0, ey1] at q
    have n0 : x0 ≠ -1 := fun z => by have := z0.mpr z; omega
    rintro y2 σ2 ⟨ey2, es2⟩
    rw [es2]
    refine ⟨fun q2 => go 0 0 x0 rfl (by decide) f0 (fun z => absurd z n0), fun q2 => (many 0 0 0 0 rfl (by decide) rfl (by decide)).int ?_⟩
    have n1 : x1 ≠ -1 := fun z => q2 (t_inj (by rw [ey2, z1.mpr z]; rfl))
    rintro y3 σ3 ⟨ey3, es3⟩
    rw [es3]
    refine (many 1 0 1 0 rfl (by decide) rfl (by decide)).int ?_
    rintro y4 σ4 ⟨ey4, es4⟩
    rw [es4]
    exact ⟨fun q3 => go 1 1 x1 rfl (by decide) f1 (fun z => absurd z n1), fun q3 => go 0 0 x0 rfl (by decide) f0 (fun z => absurd z n0)⟩
theorem sumN_ch {F G : Nat → Nat} {s : Nat} : ∀ {n : Nat}, (∀ i, i < n → i ≠ s → G i = F i) → (s < n → sumN G n + F s = sumN F n + G s) ∧ (n ≤ s → sumN G n = sumN F n) := by
  intro n
  induction n with
  | zero => exact fun _ => ⟨fun h => by omega, fun _ => rfl⟩
  | succ n ih =>
    intro h
    obtain ⟨i1, i2⟩ := ih (fun i hi => h i (by omega))
    refine ⟨fun hs => ?_, fun hs => ?_⟩
    · show sumN G n + G n + F s = sumN F n + F n + G s
      by_cases e : s = n
      · have e1 := i2 (by omega)
        rw [e]
        omega
      · have e1 := i1 (by omega)
        have e2 := h n (by omega) (by omega)
        omega
    · show sumN G n + G n = sumN F n + F n
      have e1 := i2 (by omega)
      have e2 := h n (by omega) (by omega)
      omega
theorem sumN_ge {F : Nat → Nat} {s n : Nat} (h : s < n) : F s ≤ sumN F n := by
  have m : sumN F s + F s ≤ sumN F n := sumN_mo (F := F) (a := s + 1) (b := n) (by omega)
  omega
theorem zV_off {v : Nat → Int32} {s : Nat} (h : v (2358 + 8 * s) = 0) : zV v s = -1 := if_pos h
theorem zV_on {v : Nat → Int32} {s : Nat} (h : v (2358 + 8 * s) ≠ 0) : zV v s = v (2358 + 8 * s + 1) := if_neg h
theorem cn8 {v : Nat → Int32} (hx : jx v) : cnZ v 0 + cnZ v 1 + cnZ v (-1) = 8 := by
  have one : ∀ s, s < 8 → (if zV v s = 0 then 1 else 0) + (if zV v s = 1 then 1 else 0) + (if zV v s = -1 then 1 else 0) = 1 := fun s hs => by
    by_cases q : v (2358 + 8 * s) = 0
    · rw [zV_off q]
      decide
    · rw [zV_on q]
      rcases hx.2.2.1 s hs q with z | z
      · rw [z]
        decide
      · rw [z]
        decide
  have e1 : sumN (fun s => (if zV v s = 0 then 1 else 0) + (if zV v s = 1 then 1 else 0) + (if zV v s = -1 then 1 else 0)) 8 = sumN (fun s => (if zV v s = 0 then 1 else 0) + (if zV v s = 1 then 1 else 0)) 8 + cnZ v (-1) := sumN_add (F := fun s => (if zV v s = 0 then 1 else 0) + (if zV v s = 1 then 1 else 0)) (G := fun s => if zV v s = -1 then 1 else 0) 8
  have e2 : sumN (fun s => (if zV v s = 0 then 1 else 0) + (if zV v s = 1 then 1 else 0)) 8 = cnZ v 0 + cnZ v 1 := sumN_add (F := fun s => if zV v s = 0 then 1 else 0) (G := fun s => if zV v s = 1 then 1 else 0) 8
  rw [← e2, ← e1]
  refine Nat.le_antisymm ?_ ?_
  · have q := sumN_le (F := fun s => (if zV v s = 0 then 1 else 0) + (if zV v s = 1 then 1 else 0) + (if zV v s = -1 then 1 else 0)) (G := fun _ => 1) (n := 8) (fun i hi => Nat.le_of_eq (one i hi))
    rw [sumN_c] at q
    exact q
  · have q := sumN_le (G := fun s => (if zV v s = 0 then 1 else 0) + (if zV v s = 1 then 1 else 0) + (if zV v s = -1 then 1 else 0)) (F := fun _ => 1) (n := 8) (fun i hi => Nat.le_of_eq (one i hi).symm)
    rw [sumN_c] at q
    exact q
theorem l_mov {n0 n1 R : Nat} {σ : sm_S} {v0 : Nat → Int32} (ht : sim0 σ v0) (hR : (v0 2 + 150).toInt = R) (hR2 : R ≤ 400) : ∀ (d k N : Nat) (aK : Int32) (c : sm_S) (v : Nat → Int32), tie False N c v → jj N v → jx v → cnZ v 0 = n0 → cnZ v 1 = n1 + k → v 2 = v0 2 → aK.toInt = ((k : Nat) : Int) → n0 + n1 + k + d = 8 → N + d < 1999000000 → ∃ r : Int32, (∀ σ2 : sm_S, σ2 1 = v → xE xM m_M_movable 11 [.ref 0, .int aK] [] σ2 (sm_I (fun y _ => y = r))) ∧ xE xF m_A_movable 34 [.ref 42, .int (nI n0), .int (nI n1), .int ((8 - nI n0) - nI n1), .int aK] [] σ (sm_I (fun x _ => x = r)) := by
  intro d
  induction d with
  | zero =>
    intro k N aK c v h hj hx c0 c1 h2 hK hd hN
    have h0I : (nI n0).toInt = ((n0 : Nat) : Int) := nI_toInt (by omega)
    have h1I : (nI n1).toInt = ((n1 : Nat) : Int) := nI_toInt (by omega)
    have e8 := cn8 hx
    obtain ⟨x, rx, -, hxx⟩ := p_turn h.s
    have xm : x = -1 := by
      rcases hxx with z | ⟨s, hs, -, z⟩
      · exact z
      · exfalso
        have q : (if zV v s = -1 then 1 else 0) ≤ cnZ v (-1) := sumN_ge (F := fun s => if zV v s = -1 then 1 else 0) hs
        rw [if_pos (zV_off z)] at q
        omega
    have h3I : ((8 - nI n0) - nI n1).toInt = ((k : Nat) : Int) := by
      rw [t_sub (t_sub (x := 8) rfl h0I (by omega) (by omega)) h1I (by omega) (by omega)]
      omega
    refine ⟨aK, fun σ2 e => w_M_movable_11 aK σ2 _ ((rx.s e).int ?_), f_A_movable_34 _ _ _ aK σ _ ⟨fun _ => an_ rfl, fun z => absurd (by rw [t_le, h3I, hK]; exact Int.le_refl _) z⟩⟩
    rintro y1 σ1 ⟨ey1, es1⟩
    rw [ey1, es1]
    exact ⟨fun _ => (c_forgets σ2).void (fun _ _ => an_ rfl), fun z => absurd xm z⟩
  | succ d ih =>
    intro k N aK c v h hj hx c0 c1 h2 hK hd hN
    have h0I : (nI n0).toInt = ((n0 : Nat) : Int) := nI_toInt (by omega)
    have h1I : (nI n1).toInt = ((n1 : Nat) : Int) := nI_toInt (by omega)
    have e8 := cn8 hx
    have hK' : (aK + 1).toInt = ((k + 1 : Nat) : Int) := by
      rw [t_add hK (y := 1) rfl (by omega) (by omega)]
      omega
    have h3I : ((8 - nI n0) - nI n1).toInt = ((k + (d + 1) : Nat) : Int) := by
      rw [t_sub (t_sub (x := 8) rfl h0I (by omega) (by omega)) h1I (by omega) (by omega)]
      omega
    have nle : ¬ ((8 - nI n0) - nI n1) ≤ aK := by rw [t_le, h3I, hK]; omega
    have hqI : ((nI n1 + aK) + 1).toInt = ((n1 + k + 1 : Nat) : Int) := by
      rw [t_add (t_add h1I hK (by omega) (by omega)) (y := 1) rfl (by omega) (by omega)]
      omega
    obtain ⟨x, rx, -, hxx⟩ := p_turn h.s
    have xs : ∃ s : Nat, s < 8 ∧ x.toInt = s ∧ v (2358 + 8 * s + 0) = 0 := by
      rcases hxx with z | z
      · exfalso
        obtain ⟨q, -⟩ := rx.det (c_turn3 (rz v))
        rw [rz_at] at q
        have all := q z
        have : cnZ v (-1) = 0 := by
          have w := sumN_eq (F := fun s => if zV v s = -1 then 1 else 0) (a := 0) (b := 8) (by omega) (fun s _ hs => by
            have on := all s hs
            show (if zV v s = -1 then 1 else 0) = 0
            rw [zV_on on]
            rcases hx.2.2.1 s hs on with y | y
            · rw [y]
              decide
            · rw [y]
              decide)
          exact w
        omega
      · exact z
    obtain ⟨s, hs, hxs, h0⟩ := xs
    have xn : x ≠ -1 := ne_m1 hxs
    obtain ⟨z, rzz, -, -, hz⟩ := p_zbr h.s hx
    have hRn : (v 2 + 150).toInt.toNat = R := by rw [h2]; omega
    rw [hRn, c0, c1] at hz
    have stays := e_stays2 ht hR hR2 hqI h0I (by omega) (by omega)
    by_cases le : 100 * (n1 + k + 1) ≤ R * n0
    · rw [if_pos le] at hz
      obtain ⟨v', c', ro, -, t1, j1, x1⟩ := p_on 1 h hj hx (by omega) hxs hs h0 (Or.inr rfl)
      obtain ⟨-, ev⟩ := ro.det (c_comesOn2 (N := N) hxs hs 1 (rz v) (by rw [rz_at]; exact h.n))
      have ev := rz_eq ev
      rw [rz_at] at ev
      have z2 : v' 2 = v0 2 := by rw [← ev, wrF_lo (by omega) (by omega), opF_o (by omega) (by omega) (by omega)]; exact h2
      have zo : ∀ t, t < 8 → t ≠ s → zV v' t = zV v t := fun t ht q => by
        unfold zV
        rw [← ev, wrF_lo (by omega) (by omega), opF_o (by omega) (by omega) (by omega), wrF_lo (by omega) (by omega), opF_o (by omega) (by omega) (by omega)]
      have zs : zV v' s = 1 := by
        have a : v' (2358 + 8 * s + 0) = 1 := by
          rw [← ev, wrF_lo (by omega) (by omega)]
          unfold opF
          rw [fsF_out (by omega), u_ne (by omega), u_at]
        have b : v' (2358 + 8 * s + 1) = 1 := by
          rw [← ev, wrF_lo (by omega) (by omega)]
          unfold opF
          rw [fsF_out (by omega), u_at]
        have a' : v' (2358 + 8 * s) ≠ 0 := fun q => by
          have q : v' (2358 + 8 * s + 0) = 0 := q
          rw [a] at q
          exact absurd q (by decide)
        rw [zV_on a', b]
      have zv : zV v s = -1 := zV_off h0
      have k0 : cnZ v' 0 = n0 := by
        have q := (sumN_ch (F := fun s => if zV v s = 0 then 1 else 0) (G := fun s => if zV v' s = 0 then 1 else 0) (s := s) (n := 8) (fun i hi q => by show (if zV v' i = 0 then 1 else 0) = (if zV v i = 0 then 1 else 0); rw [zo i hi q])).1 hs
        have q : cnZ v' 0 + (if zV v s = 0 then 1 else 0) = cnZ v 0 + (if zV v' s = 0 then 1 else 0) := q
        rw [zv, zs, if_neg (by decide), if_neg (by decide)] at q
        omega
      have k1 : cnZ v' 1 = n1 + (k + 1) := by
        have q := (sumN_ch (F := fun s => if zV v s = 1 then 1 else 0) (G := fun s => if zV v' s = 1 then 1 else 0) (s := s) (n := 8) (fun i hi q => by show (if zV v' i = 1 then 1 else 0) = (if zV v i = 1 then 1 else 0); rw [zo i hi q])).1 hs
        have q : cnZ v' 1 + (if zV v s = 1 then 1 else 0) = cnZ v 1 + (if zV v' s = 1 then 1 else 0) := q
        rw [zv, zs, if_neg (by decide), if_pos rfl] at q
        omega
      obtain ⟨r, R1, C1⟩ := ih (k + 1) (N + 1) (aK + 1) c' v' t1 j1 x1 k0 k1 z2 hK' (by omega) (by omega)
      refine ⟨r, fun σ2 e => w_M_movable_11 aK σ2 _ ((rx.s e).int ?_), f_A_movable_34 _ _ _ aK σ _ ⟨fun q => absurd q nle, fun _ => (nw0 stays).int ?_⟩⟩
      · rintro y1 σ1 ⟨ey1, es1⟩
        rw [ey1, es1]
        refine ⟨fun q => absurd q xn, fun _ => (rzz.s e).int ?_⟩
        rintro y5 σ4 ⟨ey5, es4⟩
        rw [ey5, es4, hz]
        refine ⟨fun q => absurd rfl q, fun _ => (rx.s e).int ?_⟩
        rintro y8 σ7 ⟨ey8, es7⟩
        rw [ey8, es7]
        refine (ro σ2 e).int ?_
        rintro y10 σ9 ⟨-, es9⟩
        rw [es9]
        exact R1 (sm_set σ2 1 v') s_at
      · rintro y1 σ1 ⟨ey1, es1⟩
        rw [ey1, es1, if_pos le]
        exact ⟨fun q => absurd q (by decide), fun _ => C1⟩
    · rw [if_neg le] at hz
      refine ⟨aK, fun σ2 e => w_M_movable_11 aK σ2 _ ((rx.s e).int ?_), f_A_movable_34 _ _ _ aK σ _ ⟨fun q => absurd q nle, fun _ => (nw0 stays).int ?_⟩⟩
      · rintro y1 σ1 ⟨ey1, es1⟩
        rw [ey1, es1]
        refine ⟨fun q => absurd q xn, fun _ => (rzz.s e).int ?_⟩
        rintro y5 σ4 ⟨ey5, es4⟩
        rw [ey5, es4, hz]
        exact ⟨fun _ => (c_forgets σ2).void (fun _ _ => an_ rfl), fun q => absurd (by decide) q⟩
      · rintro y1 σ1 ⟨ey1, es1⟩
        rw [ey1, es1, if_neg le]
        exact ⟨fun _ => an_ rfl, fun q => absurd rfl q⟩
theorem ky_movable {N : Nat} (σ : sm_S) (hN : N < 1600000000) (h : tw N σ (σ 169)) : ky j_A_movable j_M_movable [.ref 42] [.ref 0] σ := by
  obtain ⟨ht, hj, hx⟩ := h
  obtain ⟨R, hR⟩ := t_of (x := σ 169 2 + 150) hx.2.2.2.2.2.1
  have hR2 : R ≤ 400 := by have := hx.2.2.2.2.2.2; omega
  have e8 := cn8 hx
  obtain ⟨r, R1, C1⟩ := l_mov (n0 := cnZ (σ 169) 0) (n1 := cnZ (σ 169) 1) ht.s hR hR2 (cnZ (σ 169) (-1)) 0 N 0 σ (σ 169) ht.no hj hx rfl rfl rfl rfl (by omega) (by omega)
  refine ⟨r, f_A_movable σ _ ((nw0 (e_inZone2 0 ht.s)).int ?_), fun σ2 e2 => w_M_movable σ2 _ (fun σ1 e1 => (c_thinks σ1).void ?_)⟩
  · rintro x2 σ1 ⟨hx2, es⟩
    rw [es, t_nI hx2]
    refine (nw0 (e_inZone2 1 ht.s)).int ?_
    rintro x4 σ3 ⟨hx4, es3⟩
    rw [es3, t_nI hx4]
    exact C1
  · obtain ⟨f1, -⟩ := told1 e2 e1
    rintro σ3 ⟨f, es3, -⟩
    exact R1 σ3 (by rw [es3, s_ne (by decide)]; exact f1)
theorem ce_movable {B : Nat} (σ : sm_S) (hB : B < 1500000000) (h : LR B σ) : two (fun x y => x = y) j_A_movable j_M_movable [.ref 42] [.ref 168] B σ := by
  have h2 := h
  obtain ⟨hL, ⟨N, hN, ht⟩, -⟩ := h2
  exact CLk h (a_movableQ σ h.1.1) (fun σ1 q => m_movable σ1 hB q.2.1) (fun σ1 q => by
    obtain ⟨N, hN, hj⟩ := (lw_bs q.2.1).1
    exact qU (as := [.ref 0]) rfl (k_movable (N := N) (by omega) (sh rM σ1) hj)) (asM := [.ref 0]) rfl (ky_movable σ (by omega) ht)
