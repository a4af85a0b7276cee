/-! ===== the simulation: questions with one answer ===== -/
theorem CLe {jA jM B : Nat} {asA asM : List Value} {σ : sm_S} (h : LR B σ) (a : xC xF jA asA σ (sm_I (fun _ σ' => BQ σ σ'))) (m : ∀ σ1, LQ B σ1 → xC xF jM asM σ1 (sm_I (fun _ σ' => mQ (B + 1488000) σ1 σ'))) (k : ∀ σ1, LQ B σ1 → xC xF jM asM σ1 (sm_I (fun _ σ' => kQ σ1 σ'))) (r : Int32) (ra : xC xF jA asA σ (sm_I (fun x _ => x = r))) (rm : ∀ σ1 : sm_S, σ1 169 = σ 169 → xC xF jM asM σ1 (sm_I (fun y _ => y = r))) : two (fun x y => x = y) jA jM asA asM B σ := by
  obtain ⟨hL, ⟨N, hN, ht⟩, him⟩ := h
  refine (a.and ra).mono ?_
  rintro r0 σ1 ⟨⟨x0, e9, hA, o1⟩, x, e0, hx⟩
  refine ⟨x, e0, ?_⟩
  have hL1 := hL.a hA
  refine (((m σ1 hL1).and (k σ1 hL1)).and (rm σ1 (o1 169 (by omega)))).mono ?_
  rintro r3 σ2 ⟨⟨⟨y0, e8, hm⟩, y2, -, w1, w2⟩, y, e3, hy⟩
  refine ⟨y, e3, hx.trans hy.symm, hL1.m hm, ⟨N, by omega, ?_⟩, fun z => ?_⟩
  · refine ht.eq (eqT.of (fun k hk => ?_)) (fun i hi => ?_)
    · rw [hm.2.1 k (by omega), o1 k (by omega)]
    · rw [w1 i hi, o1 169 (by omega)]
  · rw [hm.2.1 42 (by omega), o1 42 (by omega)] at z
    obtain ⟨N2, hN2, t2⟩ := him z
    refine ⟨N2, by omega, ?_⟩
    rw [w2, o1 173 (by omega)]
    refine t2.eq (eqT.of (fun k hk => ?_)) (fun _ _ => rfl)
    show σ2 (127 + k) = σ (127 + k)
    rw [hm.2.1 _ (by omega), o1 _ (by omega)]
/-- an answer of the reference, in the world of all -/
theorem rmU {j : Nat} {as as' : List Value} {r : Int32} {v : Nat → Int32} (ha : as.map (sm_cv rM) = as') (h : ∀ σ : sm_S, σ 1 = v → xC xM j as σ (sm_I (fun y _ => y = r))) : ∀ σ1 : sm_S, σ1 169 = v → xC xF j as' σ1 (sm_I (fun y _ => y = r)) := fun σ1 e => by
  subst ha
  refine (x_up shMF (h (sh rM σ1) e)).mono ?_
  rintro r1 σ' ⟨r2, τ, rfl, ⟨x, rfl, hx⟩, -, -⟩
  exact ⟨x, rfl, hx⟩
