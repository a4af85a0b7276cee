/-! ===== lifting, for the methods that there are ===== -/
def gs_ok : List (Nat × sm_R) → Bool
  | [] => true
  | (_, (.getstatic _, _, tgt, _, _)) :: t => Nat.ble 1000 tgt && gs_ok t
  | _ :: t => gs_ok t
theorem gs_find : ∀ (L : List (Nat × sm_R)), gs_ok L = true → ∀ pc i aux tgt nn sw, sm_find L pc = some (.getstatic i, aux, tgt, nn, sw) → 1000 ≤ tgt
  | [], _, _, _, _, _, _, _, h => by cases h
  | (a, r) :: t, hk, pc, i, aux, tgt, nn, sw, h => by
    unfold sm_find at h
    cases hb : Nat.beq a pc with
    | true =>
      rw [hb] at h
      have h : some r = _ := h
      cases h
      simp only [gs_ok, Bool.and_eq_true] at hk
      exact Nat.le_of_ble_eq_true hk.1
    | false =>
      rw [hb] at h
      have h : sm_find t pc = _ := h
      refine gs_find t ?_ pc i aux tgt nn sw h
      unfold gs_ok at hk
      split at hk
      · next h1 => cases h1
      · next h1 => cases h1; exact (Bool.and_eq_true _ _ ▸ hk).2
      · next h1 => cases h1; exact hk
set_option maxRecDepth 100000 in
theorem gs_all : (sm_MS.all (fun M => gs_ok M.2.2.2.2.2)) = true := by decide +kernel
theorem sm_gs : ∀ M ∈ sm_MS, ∀ pc i aux tgt nn sw, sm_find M.2.2.2.2.2 pc = some (.getstatic i, aux, tgt, nn, sw) → 1000 ≤ tgt := by
  intro M hM pc i aux tgt nn sw h
  exact gs_find _ (List.all_eq_true.mp gs_all M hM) pc i aux tgt nn sw h
theorem sm_cv_id (v : Value) : sm_cv id v = v := by cases v <;> rfl
theorem sm_cv_ids (as : List Value) : as.map (sm_cv id) = as := by
  have : sm_cv id = id := funext sm_cv_id
  rw [this, List.map_id]
theorem sm_cv_ido (r : Option Value) : r.map (sm_cv id) = r := by cases r <;> simp [sm_cv_id]
/-- the same call in a world that shows more -/
theorem x_lift {SH1 SH2 : List sm_Sh} (hR : sm_shR id SH1 SH2) {j : Nat} {as : List Value} {σ : sm_S} {Q : Option Value → sm_S → Prop} (h : sm_C sm_TB sm_MS SH1 j as σ Q) (hp : ∀ r σ', Q r σ' → ∀ a i, ¬ sm_vis id SH1 a i → σ' a i = σ a i) : sm_C sm_TB sm_MS SH2 j as σ Q := by
  obtain ⟨M, hM, n, r, σ', hr, hq⟩ := h
  have hmem : M ∈ sm_MS := List.mem_of_getElem? hM
  obtain ⟨σ2, g1, g2, g3⟩ := sm_lift hR sm_gs n M hmem 0 _ _ σ r σ' hr σ ⟨fun _ _ _ => rfl, fun _ _ _ _ _ _ _ _ => rfl⟩
  rw [sm_ent_map, sm_cv_ids, sm_cv_ido, List.map_nil] at g1
  have e : σ2 = σ' := by
    funext a i
    by_cases hv : sm_vis id SH1 a i
    · obtain ⟨k, hk, hv⟩ := hv
      have hk : k = a := hk
      subst hk
      rcases hv with ⟨q, hq⟩ | ⟨ci, fl, t, f1, f2, f3⟩
      · exact congrFun (g2.1 k q hq) i
      · exact g2.2 k ci fl i t f1 f2 f3
    · rw [g3 a i hv, hp r σ' hq a i hv]
  rw [e] at g1
  exact ⟨M, hM, n, r, σ', g1, hq⟩
/-- what it comes to from another store that agrees -/
theorem x_det {SH1 SH2 : List sm_Sh} (hR : sm_shR id SH1 SH2) {j : Nat} {as : List Value} {σ : sm_S} {Q : Option Value → sm_S → Prop} (h : sm_C sm_TB sm_MS SH1 j as σ Q) : sm_C sm_TB sm_MS SH1 j as σ (fun r σ' => Q r σ' ∧ ∀ τ, sm_stW id SH1 σ τ → sm_C sm_TB sm_MS SH2 j as τ (fun r2 τ' => r2 = r ∧ sm_stW id SH1 σ' τ')) := by
  obtain ⟨M, hM, n, r, σ', hr, hq⟩ := h
  have hmem : M ∈ sm_MS := List.mem_of_getElem? hM
  refine ⟨M, hM, n, r, σ', hr, hq, fun τ hτ => ?_⟩
  obtain ⟨σ2, g1, g2, g3⟩ := sm_liftW hR sm_gs n M hmem 0 _ _ σ r σ' hr τ hτ
  rw [sm_ent_map, sm_cv_ids, sm_cv_ido, List.map_nil] at g1
  exact ⟨M, hM, n, r, σ2, g1, rfl, g2⟩
