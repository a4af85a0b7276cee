section
/-! ===== a run in a small world is a run in a bigger one: cells under other numbers, slots that aren't touched ===== -/
def sm_cv (ad : Nat → Nat) (v : Value) : Value := match v with
  | .ref k => .ref (ad k)
  | v => v
theorem sm_arr_at {SH : List sm_Sh} {a : Nat} {q : Nat × Nat} (h : sm_arr SH a = some q) : SH[a]? = some (.inl q) := by
  unfold sm_arr at h
  split at h
  · next h2 => cases h; exact h2
  · cases h
theorem sm_cv_i (ad : Nat → Nat) (x : Int32) : sm_cv ad (.int x) = .int x := rfl
theorem sm_cv_r (ad : Nat → Nat) (k : Nat) : sm_cv ad (.ref k) = .ref (ad k) := rfl
def sm_slR (ρ : Nat → Nat) (o o' : sm_Sl) : Prop := match o with
  | .inl t => t ≤ 1 → o' = .inl t
  | .inr k => o' = .inr (ρ k)
/-- SH1's cells stand in SH2, under their numbers by ρ; tables keep theirs -/
def sm_shR (ρ : Nat → Nat) (SH1 SH2 : List sm_Sh) : Prop :=
  (∀ (k : Nat) (q : Nat × Nat), SH1[k]? = some (.inl q) → SH2[ρ k]? = some (.inl q)) ∧ (∀ (k ci : Nat) (fl : List sm_Sl), SH1[k]? = some (.inr (ci, fl)) → ∃ fl' : List sm_Sl, SH2[ρ k]? = some (.inr (ci, fl')) ∧ ∀ (j : Nat) (o : sm_Sl), fl[j]? = some o → ∃ o', fl'[j]? = some o' ∧ sm_slR ρ o o') ∧
  (∀ i j, i < SH1.length → j < SH1.length → ρ i = ρ j → i = j) ∧ (∀ a, 1000 ≤ a → ρ a = a) ∧ SH2.length ≤ 1000
/-- slot j of cell a is seen from the small world -/
def sm_vis (ρ : Nat → Nat) (SH1 : List sm_Sh) (a j : Nat) : Prop := ∃ k : Nat, ρ k = a ∧ ((∃ q : Nat × Nat, SH1[k]? = some (.inl q)) ∨ ∃ (ci : Nat) (fl : List sm_Sl) (t : Nat), SH1[k]? = some (.inr (ci, fl)) ∧ fl[j]? = some (.inl t) ∧ t ≤ 1)
def sm_stR (ρ : Nat → Nat) (SH1 : List sm_Sh) (σ1 σ2 : sm_S) : Prop :=
  (∀ (k : Nat) (q : Nat × Nat), SH1[k]? = some (.inl q) → σ2 (ρ k) = σ1 k) ∧ ∀ (k ci : Nat) (fl : List sm_Sl) (j t : Nat), SH1[k]? = some (.inr (ci, fl)) → fl[j]? = some (.inl t) → t ≤ 1 → σ2 (ρ k) j = σ1 k j
def sm_off (ρ : Nat → Nat) (SH1 : List sm_Sh) (σ2 σ2' : sm_S) : Prop := ∀ a j, ¬ sm_vis ρ SH1 a j → σ2' a j = σ2 a j
theorem sm_stR_arr {ρ : Nat → Nat} {SH1 : List sm_Sh} {σ1 σ2 : sm_S} (h : sm_stR ρ SH1 σ1 σ2) (hinj : ∀ i j, i < SH1.length → j < SH1.length → ρ i = ρ j → i = j) {k : Nat} {q : Nat × Nat} (hk : SH1[k]? = some (.inl q)) (f : Nat → Int32) : sm_stR ρ SH1 (sm_set σ1 k f) (sm_set σ2 (ρ k) f) ∧ sm_off ρ SH1 σ2 (sm_set σ2 (ρ k) f) := by
  have hl := (List.getElem?_eq_some_iff.mp hk).1
  refine ⟨⟨fun k2 q2 h2 => ?_, fun k2 ci fl j t h2 h3 h4 => ?_⟩, fun a j hv => ?_⟩
  · have hl2 := (List.getElem?_eq_some_iff.mp h2).1
    by_cases e : k2 = k
    · subst e; simp [sm_set]
    · have : ρ k2 ≠ ρ k := fun z => e (hinj _ _ hl2 hl z)
      simp only [sm_set, if_neg this, if_neg e]
      exact h.1 k2 q2 h2
  · have hl2 := (List.getElem?_eq_some_iff.mp h2).1
    have e : k2 ≠ k := fun z => by subst z; rw [hk] at h2; cases h2
    have : ρ k2 ≠ ρ k := fun z => e (hinj _ _ hl2 hl z)
    simp only [sm_set, if_neg this, if_neg e]
    exact h.2 k2 ci fl j t h2 h3 h4
  · have : a ≠ ρ k := fun z => hv ⟨k, z.symm, Or.inl ⟨q, hk⟩⟩
    simp only [sm_set, if_neg this]
theorem sm_stR_put {ρ : Nat → Nat} {SH1 : List sm_Sh} {σ1 σ2 : sm_S} (h : sm_stR ρ SH1 σ1 σ2) (hinj : ∀ i j, i < SH1.length → j < SH1.length → ρ i = ρ j → i = j) {k ci : Nat} {fl : List sm_Sl} (hk : SH1[k]? = some (.inr (ci, fl))) {j t : Nat} (hj : fl[j]? = some (.inl t)) (ht : t ≤ 1) (x : Int32) : sm_stR ρ SH1 (sm_set σ1 k (upd (σ1 k) j x)) (sm_set σ2 (ρ k) (upd (σ2 (ρ k)) j x)) ∧ sm_off ρ SH1 σ2 (sm_set σ2 (ρ k) (upd (σ2 (ρ k)) j x)) := by
  have hl := (List.getElem?_eq_some_iff.mp hk).1
  refine ⟨⟨fun k2 q2 h2 => ?_, fun k2 ci2 fl2 j2 t2 h2 h3 h4 => ?_⟩, fun a j2 hv => ?_⟩
  · have hl2 := (List.getElem?_eq_some_iff.mp h2).1
    have e : k2 ≠ k := fun z => by subst z; rw [hk] at h2; cases h2
    have : ρ k2 ≠ ρ k := fun z => e (hinj _ _ hl2 hl z)
    simp only [sm_set, if_neg this, if_neg e]
    exact h.1 k2 q2 h2
  · have hl2 := (List.getElem?_eq_some_iff.mp h2).1
    by_cases e : k2 = k
    · subst e
      simp only [sm_set, if_pos, upd]
      by_cases e2 : j2 = j
      · simp only [if_pos e2]
      · simp only [if_neg e2]
        exact h.2 k2 ci2 fl2 j2 t2 h2 h3 h4
    · have : ρ k2 ≠ ρ k := fun z => e (hinj _ _ hl2 hl z)
      simp only [sm_set, if_neg this, if_neg e]
      exact h.2 k2 ci2 fl2 j2 t2 h2 h3 h4
  · by_cases e : a = ρ k
    · subst e
      have : j2 ≠ j := fun z => by subst z; exact hv ⟨k, rfl, Or.inr ⟨ci, fl, t, hk, hj, ht⟩⟩
      simp only [sm_set, if_pos, upd, if_neg this]
    · simp only [sm_set, if_neg e]
theorem sm_off.trans {ρ : Nat → Nat} {SH1 : List sm_Sh} {a b c : sm_S} (h1 : sm_off ρ SH1 a b) (h2 : sm_off ρ SH1 b c) : sm_off ρ SH1 a c := fun x j hv => (h2 x j hv).trans (h1 x j hv)
theorem sm_pop_map (f : Value → Value) : ∀ (n : Nat) (acc st as r : List Value), sm_pop n acc st = some (as, r) → sm_pop n (acc.map f) (st.map f) = some (as.map f, r.map f)
  | 0, acc, st, as, r, h => by cases h; rfl
  | n + 1, acc, [], as, r, h => by cases h
  | n + 1, acc, v :: st, as, r, h => sm_pop_map f n (v :: acc) st as r h
theorem sm_irs_map (ρ : Nat → Nat) : ∀ (as : List Value), sm_irs as = true → sm_irs (as.map (sm_cv ρ)) = true
  | [], _ => rfl
  | .int _ :: t, h => sm_irs_map ρ t h
  | .ref _ :: t, h => sm_irs_map ρ t h
  | .null :: t, h => by cases h
  | .long _ :: t, h => by cases h
  | .float _ :: t, h => by cases h
  | .double _ :: t, h => by cases h
theorem sm_ent_map (ρ : Nat → Nat) (M : sm_M) (as : List Value) : (sm_ent M as).map (sm_cv ρ) = sm_ent M (as.map (sm_cv ρ)) := by
  unfold sm_ent
  rw [List.map_append, List.map_replicate, List.length_map]
  rfl
set_option maxHeartbeats 16000000 in
set_option maxRecDepth 100000 in
theorem sm_lift {TB : List (List Int32)} {MS : List sm_M} {ρ : Nat → Nat} {SH1 SH2 : List sm_Sh} (hR : sm_shR ρ SH1 SH2) (hMS : ∀ M ∈ MS, ∀ pc i aux tgt nn sw, sm_find M.2.2.2.2.2 pc = some (.getstatic i, aux, tgt, nn, sw) → 1000 ≤ tgt) : ∀ (n : Nat) (M : sm_M), M ∈ MS → ∀ (pc : Nat) (ls st : List Value) (σ1 : sm_S) (r : Option Value) (σ1' : sm_S), sm_run TB MS SH1 n M pc ls st σ1 = some (r, σ1') →
    ∀ σ2, sm_stR ρ SH1 σ1 σ2 → ∃ σ2', sm_run TB MS SH2 n M pc (ls.map (sm_cv ρ)) (st.map (sm_cv ρ)) σ2 = some (r.map (sm_cv ρ), σ2') ∧ sm_stR ρ SH1 σ1' σ2' ∧ sm_off ρ SH1 σ2 σ2'
  | 0, M, _, pc, ls, st, σ1, r, σ1', h => by cases h
  | n + 1, M, hM, pc, ls, st, σ1, r, σ1', h => by
    intro σ2 hσ
    have ih := sm_lift (TB := TB) (MS := MS) hR hMS n
    have go : ∀ (pc : Nat) (ls st : List Value) (σ1 : sm_S), sm_run TB MS SH1 n M pc ls st σ1 = some (r, σ1') → ∀ σ2, sm_stR ρ SH1 σ1 σ2 → ∃ σ2', sm_run TB MS SH2 n M pc (ls.map (sm_cv ρ)) (st.map (sm_cv ρ)) σ2 = some (r.map (sm_cv ρ), σ2') ∧ sm_stR ρ SH1 σ1' σ2' ∧ sm_off ρ SH1 σ2 σ2' := fun pc ls st σ1 h => ih M hM pc ls st σ1 r σ1' h
    have go2 : ∀ (pc : Nat) (ls st : List Value) (σa : sm_S) (σ2 σb : sm_S), sm_run TB MS SH1 n M pc ls st σa = some (r, σ1') → sm_stR ρ SH1 σa σb ∧ sm_off ρ SH1 σ2 σb → ∃ σ2', sm_run TB MS SH2 n M pc (ls.map (sm_cv ρ)) (st.map (sm_cv ρ)) σb = some (r.map (sm_cv ρ), σ2') ∧ sm_stR ρ SH1 σ1' σ2' ∧ sm_off ρ SH1 σ2 σ2' := by
      intro pc ls st σa σ2 σb h hh
      obtain ⟨σ2', h1, h2, h3⟩ := go pc ls st σa h σb hh.1
      exact ⟨σ2', h1, h2, hh.2.trans h3⟩
    obtain ⟨R1, R2, hinj, R4, R5⟩ := id hR
    have hcl : ∀ (tgt : Nat) (as : List Value) (σ1 σ2 : sm_S) (k : Option Value → sm_S → sm_X) (k' : Option Value → sm_S → sm_X), sm_stR ρ SH1 σ1 σ2 → sm_cll MS (sm_run TB MS SH1 n) tgt as σ1 k = some (r, σ1') → (∀ rr σa σb, k rr σa = some (r, σ1') → sm_stR ρ SH1 σa σb → ∃ σ2', k' (rr.map (sm_cv ρ)) σb = some (r.map (sm_cv ρ), σ2') ∧ sm_stR ρ SH1 σ1' σ2' ∧ sm_off ρ SH1 σb σ2') → ∃ σ2', sm_cll MS (sm_run TB MS SH2 n) tgt (as.map (sm_cv ρ)) σ2 k' = some (r.map (sm_cv ρ), σ2') ∧ sm_stR ρ SH1 σ1' σ2' ∧ sm_off ρ SH1 σ2 σ2' := by
      intro tgt as σ1 σ2 k k' hσ h hk
      unfold sm_cll at h ⊢
      cases hj : MS[tgt]? with
      | none => rw [hj] at h; cases h
      | some M' =>
        rw [hj] at h
        dsimp only at h ⊢
        split at h
        · cases h
        · next rr σa h1 =>
          obtain ⟨σb, h2, h3, h4⟩ := ih M' (List.mem_of_getElem? hj) 0 (sm_ent M' as) [] σ1 rr σa h1 σ2 hσ
          rw [sm_ent_map] at h2
          obtain ⟨σ2', h5, h6, h7⟩ := hk rr σa σb h h3
          refine ⟨σ2', ?_, h6, h4.trans h7⟩
          have h2' : sm_run TB MS SH2 n M' 0 (sm_ent M' (as.map (sm_cv ρ))) [] σ2 = some (rr.map (sm_cv ρ), σb) := h2
          rw [h2']
          exact h5
    have hinv : ∀ (ok1 ok2 : List Value → Bool) (pc tgt nn : Nat) (sw : List (Int32 × Nat)), (∀ as, ok1 as = true → ok2 (as.map (sm_cv ρ)) = true) → sm_inv none (sm_cll MS (sm_run TB MS SH1 n)) (fun pc ls st σ => sm_run TB MS SH1 n M pc ls st σ) ok1 pc tgt nn sw ls st σ1 = some (r, σ1') → ∃ σ2', sm_inv none (sm_cll MS (sm_run TB MS SH2 n)) (fun pc ls st σ => sm_run TB MS SH2 n M pc ls st σ) ok2 pc tgt nn sw (ls.map (sm_cv ρ)) (st.map (sm_cv ρ)) σ2 = some (r.map (sm_cv ρ), σ2') ∧ sm_stR ρ SH1 σ1' σ2' ∧ sm_off ρ SH1 σ2 σ2' := by
      intro ok1 ok2 pc tgt nn sw hok h
      unfold sm_inv at h ⊢
      split at h
      · next as r0 hpop =>
        have hp2 := sm_pop_map (sm_cv ρ) _ _ _ _ _ hpop
        rw [List.map_nil] at hp2
        rw [hp2]
        cases hq : (ok1 as && (sm_irs as && (sm_irs r0 && Nat.ble r0.length 8))) with
        | false => rw [hq] at h; cases h
        | true =>
          rw [hq] at h
          simp only [Bool.and_eq_true] at hq
          obtain ⟨q1, q2, q3, q4⟩ := hq
          have hq' : (ok2 (as.map (sm_cv ρ)) && (sm_irs (as.map (sm_cv ρ)) && (sm_irs (r0.map (sm_cv ρ)) && Nat.ble (r0.map (sm_cv ρ)).length 8))) = true := by
            rw [hok _ q1, sm_irs_map ρ _ q2, sm_irs_map ρ _ q3, List.length_map, q4]; rfl
          dsimp only
          rw [hq']
          dsimp only [cond] at h ⊢
          split at h
          · refine hcl _ _ _ _ _ _ hσ h (fun rr σa σb hk hs => ?_)
            unfold sm_rv at hk ⊢
            split at hk
            · exact go _ _ _ _ hk σb hs
            · cases hk
          · refine hcl _ _ _ _ _ _ hσ h (fun rr σa σb hk hs => ?_)
            unfold sm_ri at hk ⊢
            split at hk
            · exact go _ _ (.int _ :: _) _ hk σb hs
            · cases hk
      · cases h
    have harr : ∀ (a : Nat) (q : Nat × Nat), sm_arr SH1 a = some q → sm_arr SH2 (ρ a) = some q ∧ SH1[a]? = some (.inl q) := by
      intro a q ha
      have h1 := sm_arr_at ha
      refine ⟨?_, h1⟩
      unfold sm_arr
      rw [R1 a q h1]
    have hmm : ∀ (f : Int32 → Int32 → Int32) (pc : Nat), sm_mm none (fun pc ls st σ => sm_run TB MS SH1 n M pc ls st σ) f pc ls st σ1 = some (r, σ1') → ∃ σ2', sm_mm none (fun pc ls st σ => sm_run TB MS SH2 n M pc ls st σ) f pc (ls.map (sm_cv ρ)) (st.map (sm_cv ρ)) σ2 = some (r.map (sm_cv ρ), σ2') ∧ sm_stR ρ SH1 σ1' σ2' ∧ sm_off ρ SH1 σ2 σ2' := by
      intro f pc h
      unfold sm_mm at h ⊢
      split at h
      · next y x r0 h00 =>
        cases hq : (sm_irs r0 && Nat.ble r0.length 8) with
        | false => rw [hq] at h; cases h
        | true =>
          rw [hq] at h
          have hq' : (sm_irs (r0.map (sm_cv ρ)) && Nat.ble (r0.map (sm_cv ρ)).length 8) = true := by
            simp only [Bool.and_eq_true] at hq
            rw [sm_irs_map ρ _ hq.1, List.length_map, hq.2]; rfl
          simp only [List.map_cons, sm_cv_i, sm_cv_r]
          rw [hq']
          exact go _ _ (.int _ :: _) _ h σ2 hσ
      · cases h
    simp only [sm_run] at h ⊢
    unfold sm_g at h ⊢
    split at h
    · cases h
    next ins aux tgt nn sw hf =>
    cases ins with
    | iconst k => exact go _ _ (.int _ :: _) _ h σ2 hσ
    | bipush k => exact go _ _ (.int _ :: _) _ h σ2 hσ
    | sipush k => exact go _ _ (.int _ :: _) _ h σ2 hσ
    | ldc_w k => exact go _ _ (.int _ :: _) _ h σ2 hσ
    | goto k => exact go _ _ _ _ h σ2 hσ
    | iload i =>
      dsimp only at h ⊢
      unfold sm_ld at h ⊢
      split at h
      · next x hi => rw [List.getElem?_map, hi]; exact go _ _ (.int _ :: _) _ h σ2 hσ
      · cases h
    | iload_n i =>
      dsimp only at h ⊢
      unfold sm_ld at h ⊢
      split at h
      · next x hi => rw [List.getElem?_map, hi]; exact go _ _ (.int _ :: _) _ h σ2 hσ
      · cases h
    | aload i =>
      dsimp only at h ⊢
      unfold sm_la at h ⊢
      split at h
      · next x hi => rw [List.getElem?_map, hi]; exact go _ _ (.ref _ :: _) _ h σ2 hσ
      · cases h
    | aload_n i =>
      dsimp only at h ⊢
      unfold sm_la at h ⊢
      split at h
      · next x hi => rw [List.getElem?_map, hi]; exact go _ _ (.ref _ :: _) _ h σ2 hσ
      · cases h
    | istore i =>
      dsimp only at h ⊢
      unfold sm_sti at h ⊢
      split at h
      · next x r0 =>
        cases hq : Nat.blt i ls.length with
        | false => rw [hq] at h; cases h
        | true =>
          rw [hq] at h
          have hq2 : Nat.blt i (ls.map (sm_cv ρ)).length = true := by rw [List.length_map]; exact hq
          have := go _ (ls.set i (.int x)) _ _ h σ2 hσ
          rw [List.map_set] at this
          obtain ⟨σ2', g1, g2⟩ := this
          refine ⟨σ2', ?_, g2⟩
          simp only [List.map_cons, sm_cv_i, sm_cv_r]
          rw [hq2]
          exact g1
      · cases h
    | istore_n i =>
      dsimp only at h ⊢
      unfold sm_sti at h ⊢
      split at h
      · next x r0 =>
        cases hq : Nat.blt i.val ls.length with
        | false => rw [hq] at h; cases h
        | true =>
          rw [hq] at h
          have hq2 : Nat.blt i.val (ls.map (sm_cv ρ)).length = true := by rw [List.length_map]; exact hq
          have := go _ (ls.set i.val (.int x)) _ _ h σ2 hσ
          rw [List.map_set] at this
          obtain ⟨σ2', g1, g2⟩ := this
          refine ⟨σ2', ?_, g2⟩
          simp only [List.map_cons, sm_cv_i, sm_cv_r]
          rw [hq2]
          exact g1
      · cases h
    | astore i =>
      dsimp only at h ⊢
      unfold sm_sta at h ⊢
      split at h
      · next x r0 =>
        cases hq : Nat.blt i ls.length with
        | false => rw [hq] at h; cases h
        | true =>
          rw [hq] at h
          have hq2 : Nat.blt i (ls.map (sm_cv ρ)).length = true := by rw [List.length_map]; exact hq
          have := go _ (ls.set i (.ref x)) _ _ h σ2 hσ
          rw [List.map_set] at this
          obtain ⟨σ2', g1, g2⟩ := this
          refine ⟨σ2', ?_, g2⟩
          simp only [List.map_cons, sm_cv_i, sm_cv_r]
          rw [hq2]
          exact g1
      · cases h
    | astore_n i =>
      dsimp only at h ⊢
      unfold sm_sta at h ⊢
      split at h
      · next x r0 =>
        cases hq : Nat.blt i.val ls.length with
        | false => rw [hq] at h; cases h
        | true =>
          rw [hq] at h
          have hq2 : Nat.blt i.val (ls.map (sm_cv ρ)).length = true := by rw [List.length_map]; exact hq
          have := go _ (ls.set i.val (.ref x)) _ _ h σ2 hσ
          rw [List.map_set] at this
          obtain ⟨σ2', g1, g2⟩ := this
          refine ⟨σ2', ?_, g2⟩
          simp only [List.map_cons, sm_cv_i, sm_cv_r]
          rw [hq2]
          exact g1
      · cases h
    | iadd =>
      dsimp only at h ⊢
      unfold sm_bin at h ⊢
      split at h
      · exact go _ _ (.int _ :: _) _ h σ2 hσ
      · cases h
    | isub =>
      dsimp only at h ⊢
      unfold sm_bin at h ⊢
      split at h
      · exact go _ _ (.int _ :: _) _ h σ2 hσ
      · cases h
    | imul =>
      dsimp only at h ⊢
      unfold sm_bin at h ⊢
      split at h
      · exact go _ _ (.int _ :: _) _ h σ2 hσ
      · cases h
    | iand =>
      dsimp only at h ⊢
      unfold sm_bin at h ⊢
      split at h
      · exact go _ _ (.int _ :: _) _ h σ2 hσ
      · cases h
    | ior =>
      dsimp only at h ⊢
      unfold sm_bin at h ⊢
      split at h
      · exact go _ _ (.int _ :: _) _ h σ2 hσ
      · cases h
    | ixor =>
      dsimp only at h ⊢
      unfold sm_bin at h ⊢
      split at h
      · exact go _ _ (.int _ :: _) _ h σ2 hσ
      · cases h
    | ishl =>
      dsimp only at h ⊢
      unfold sm_bin at h ⊢
      split at h
      · exact go _ _ (.int _ :: _) _ h σ2 hσ
      · cases h
    | ishr =>
      dsimp only at h ⊢
      unfold sm_bin at h ⊢
      split at h
      · exact go _ _ (.int _ :: _) _ h σ2 hσ
      · cases h
    | iushr =>
      dsimp only at h ⊢
      unfold sm_bin at h ⊢
      split at h
      · exact go _ _ (.int _ :: _) _ h σ2 hσ
      · cases h
    | iinc i k =>
      dsimp only at h ⊢
      split at h
      · next x hi =>
        cases hq : Nat.blt i ls.length with
        | false => rw [hq] at h; cases h
        | true =>
          rw [hq] at h
          rw [List.getElem?_map, hi]
          show ∃ σ2', (bif Nat.blt i (ls.map (sm_cv ρ)).length then _ else _) = _ ∧ _
          rw [List.length_map, hq]
          have := go _ (ls.set i (.int (x + aux))) _ _ h σ2 hσ
          rw [List.map_set] at this
          exact this
      · cases h
    | idiv =>
      dsimp only at h ⊢
      split at h
      · next y x r0 =>
        by_cases hy : ¬ y = 0
        · replace h := (sm_if_t hy).symm.trans h
          obtain ⟨σ2', h1, h2⟩ := go _ _ (.int _ :: _) _ h σ2 hσ
          exact ⟨σ2', (sm_if_t hy).trans h1, h2⟩
        · replace h := (sm_if_f hy).symm.trans h
          cases h
      · cases h
    | irem =>
      dsimp only at h ⊢
      split at h
      · next y x r0 =>
        by_cases hy : ¬ y = 0
        · replace h := (sm_if_t hy).symm.trans h
          obtain ⟨σ2', h1, h2⟩ := go _ _ (.int _ :: _) _ h σ2 hσ
          exact ⟨σ2', (sm_if_t hy).trans h1, h2⟩
        · replace h := (sm_if_f hy).symm.trans h
          cases h
      · cases h
    | ineg =>
      dsimp only at h ⊢
      split at h
      · exact go _ _ (.int _ :: _) _ h σ2 hσ
      · cases h
    | dup =>
      dsimp only at h ⊢
      split at h
      · exact go _ _ (.int _ :: .int _ :: _) _ h σ2 hσ
      · exact go _ _ (.ref _ :: .ref _ :: _) _ h σ2 hσ
      · cases h
    | dup2 =>
      dsimp only at h ⊢
      split at h
      · exact go _ _ (.int _ :: .ref _ :: .int _ :: .ref _ :: _) _ h σ2 hσ
      · cases h
    | pop =>
      dsimp only at h ⊢
      split at h
      · exact go _ _ _ _ h σ2 hσ
      · cases h
    | ifCond cc off =>
      dsimp only at h ⊢
      split at h
      · next x r0 =>
        by_cases hc : sm_cnd cc x 0
        · replace h := (sm_if_t hc).symm.trans h
          obtain ⟨σ2', h1, h2⟩ := go _ _ _ _ h σ2 hσ
          exact ⟨σ2', (sm_if_t hc).trans h1, h2⟩
        · replace h := (sm_if_f hc).symm.trans h
          obtain ⟨σ2', h1, h2⟩ := go _ _ _ _ h σ2 hσ
          exact ⟨σ2', (sm_if_f hc).trans h1, h2⟩
      · cases h
    | if_icmp cc off =>
      dsimp only at h ⊢
      split at h
      · next y x r0 =>
        by_cases hc : sm_cnd cc x y
        · replace h := (sm_if_t hc).symm.trans h
          obtain ⟨σ2', h1, h2⟩ := go _ _ _ _ h σ2 hσ
          exact ⟨σ2', (sm_if_t hc).trans h1, h2⟩
        · replace h := (sm_if_f hc).symm.trans h
          obtain ⟨σ2', h1, h2⟩ := go _ _ _ _ h σ2 hσ
          exact ⟨σ2', (sm_if_f hc).trans h1, h2⟩
      · cases h
    | tableswitch df lo hi offs =>
      dsimp only at h ⊢
      split at h
      · next x r0 =>
        clear hf
        revert h
        induction sw with
        | nil => intro h; exact go _ _ _ _ h σ2 hσ
        | cons q sw ihs =>
          obtain ⟨v, t⟩ := q
          intro h
          by_cases hc : x = v
          · replace h := (sm_if_t hc).symm.trans h
            obtain ⟨σ2', h1, h2⟩ := go _ _ _ _ h σ2 hσ
            exact ⟨σ2', (sm_if_t hc).trans h1, h2⟩
          · replace h := (sm_if_f hc).symm.trans h
            obtain ⟨σ2', h1, h2⟩ := ihs h
            exact ⟨σ2', (sm_if_f hc).trans h1, h2⟩
      · cases h
    | getfield i =>
      dsimp only at h ⊢
      unfold sm_getf at h ⊢
      split at h
      · next a r0 =>
        split at h
        · next ci fl ha =>
          obtain ⟨fl', h1, h2⟩ := R2 a ci fl ha
          simp only [List.map_cons, sm_cv_i, sm_cv_r]
          rw [h1]
          dsimp only
          cases hq : Nat.beq ci (tgt / 100) with
          | false => rw [hq] at h; cases h
          | true =>
            rw [hq] at h
            dsimp only [cond] at h ⊢
            split at h
            · next t0 ht =>
              cases hq2 : Nat.ble t0 1 with
              | false => rw [hq2] at h; cases h
              | true =>
                rw [hq2] at h
                have ht1 := Nat.le_of_ble_eq_true hq2
                obtain ⟨o', h3, h4⟩ := h2 _ _ ht
                rw [h3, h4 ht1]
                dsimp only
                rw [hq2]
                have := go _ _ (.int (σ1 a (tgt % 100)) :: r0) _ h σ2 hσ
                rw [← hσ.2 a ci fl (tgt % 100) t0 ha ht ht1] at this
                exact this
            · next k ht =>
              obtain ⟨o', h3, h4⟩ := h2 _ _ ht
              rw [h3, h4]
              exact go _ _ (.ref k :: r0) _ h σ2 hσ
            · cases h
        · cases h
      · cases h
    | putfield i =>
      dsimp only at h ⊢
      unfold sm_putf at h ⊢
      split at h
      · next x a r0 =>
        split at h
        · next ci fl ha =>
          obtain ⟨fl', h1, h2⟩ := R2 a ci fl ha
          simp only [List.map_cons, sm_cv_i, sm_cv_r]
          rw [h1]
          dsimp only
          cases hq : Nat.beq ci (tgt / 100) with
          | false => rw [hq] at h; cases h
          | true =>
            rw [hq] at h
            dsimp only [cond] at h ⊢
            split at h
            · next ht =>
              obtain ⟨o', h3, h4⟩ := h2 _ _ ht
              rw [h3, h4 (Nat.zero_le 1)]
              exact go2 _ _ _ _ σ2 _ h (sm_stR_put hσ hinj ha ht (Nat.zero_le 1) x)
            · next ht =>
              obtain ⟨o', h3, h4⟩ := h2 _ _ ht
              rw [h3, h4 (Nat.le_refl 1)]
              by_cases hx01 : x = 0 ∨ x = 1
              · replace h := (sm_if_t hx01).symm.trans h
                obtain ⟨σ2', g1, g2⟩ := go2 _ _ _ _ σ2 _ h (sm_stR_put hσ hinj ha ht (Nat.le_refl 1) x)
                exact ⟨σ2', (sm_if_t hx01).trans g1, g2⟩
              · replace h := (sm_if_f hx01).symm.trans h
                cases h
            · cases h
        · cases h
      · cases h
    | getstatic i =>
      dsimp only at h ⊢
      have hg : ∃ σ2', sm_run TB MS SH2 n M (pc + 3) (ls.map (sm_cv ρ)) (.ref (ρ tgt) :: st.map (sm_cv ρ)) σ2 = some (r.map (sm_cv ρ), σ2') ∧ sm_stR ρ SH1 σ1' σ2' ∧ sm_off ρ SH1 σ2 σ2' := go _ _ (.ref _ :: _) _ h σ2 hσ
      rw [R4 tgt (hMS M hM _ _ _ _ _ _ hf)] at hg
      exact hg
    | iaload =>
      dsimp only at h ⊢
      unfold sm_ald at h ⊢
      split at h
      · next i a r0 =>
        simp only [List.map_cons, sm_cv_i, sm_cv_r]
        split at h
        · next t nn2 ha =>
          obtain ⟨h1, h2⟩ := harr a _ ha
          rw [h1]
          dsimp only
          cases hq : Nat.beq t 0 with
          | false => rw [hq] at h; cases h
          | true =>
            rw [hq] at h
            by_cases hin : vp_in i nn2
            · replace h := (sm_if_t hin).symm.trans h
              have := go _ _ (.int (σ1 a i.toNatClampNeg) :: r0) _ h σ2 hσ
              rw [← hσ.1 a _ h2] at this
              obtain ⟨σ2', g1, g2⟩ := this
              exact ⟨σ2', (sm_if_t hin).trans g1, g2⟩
            · replace h := (sm_if_f hin).symm.trans h
              cases h
        · next hn =>
          split at h
          · next q ht =>
            cases hq : (Nat.ble 1000 a && Nat.beq 0 0) with
            | false => rw [hq] at h; cases h
            | true =>
              rw [hq] at h
              have h1000 : 1000 ≤ a := Nat.le_of_ble_eq_true ((Bool.and_eq_true _ _).mp hq).1
              have hno : sm_arr SH2 (ρ a) = none := by
                rw [R4 a h1000]
                unfold sm_arr
                rw [List.getElem?_eq_none (Nat.le_trans R5 h1000)]
              rw [hno, R4 a h1000, ht]
              dsimp only
              rw [hq]
              by_cases hin : vp_in i q.length
              · replace h := (sm_if_t hin).symm.trans h
                obtain ⟨σ2', g1, g2⟩ := go _ _ (.int _ :: _) _ h σ2 hσ
                exact ⟨σ2', (sm_if_t hin).trans g1, g2⟩
              · replace h := (sm_if_f hin).symm.trans h
                cases h
          · cases h
      · cases h
    | baload =>
      dsimp only at h ⊢
      unfold sm_ald at h ⊢
      split at h
      · next i a r0 =>
        simp only [List.map_cons, sm_cv_i, sm_cv_r]
        split at h
        · next t nn2 ha =>
          obtain ⟨h1, h2⟩ := harr a _ ha
          rw [h1]
          dsimp only
          cases hq : Nat.beq t 1 with
          | false => rw [hq] at h; cases h
          | true =>
            rw [hq] at h
            by_cases hin : vp_in i nn2
            · replace h := (sm_if_t hin).symm.trans h
              have := go _ _ (.int (σ1 a i.toNatClampNeg) :: r0) _ h σ2 hσ
              rw [← hσ.1 a _ h2] at this
              obtain ⟨σ2', g1, g2⟩ := this
              exact ⟨σ2', (sm_if_t hin).trans g1, g2⟩
            · replace h := (sm_if_f hin).symm.trans h
              cases h
        · next hn =>
          split at h
          · next q ht =>
            cases hq : (Nat.ble 1000 a && Nat.beq 1 0) with
            | false => rw [hq] at h; cases h
            | true =>
              rw [hq] at h
              have h1000 : 1000 ≤ a := Nat.le_of_ble_eq_true ((Bool.and_eq_true _ _).mp hq).1
              have hno : sm_arr SH2 (ρ a) = none := by
                rw [R4 a h1000]
                unfold sm_arr
                rw [List.getElem?_eq_none (Nat.le_trans R5 h1000)]
              rw [hno, R4 a h1000, ht]
              dsimp only
              rw [hq]
              by_cases hin : vp_in i q.length
              · replace h := (sm_if_t hin).symm.trans h
                obtain ⟨σ2', g1, g2⟩ := go _ _ (.int _ :: _) _ h σ2 hσ
                exact ⟨σ2', (sm_if_t hin).trans g1, g2⟩
              · replace h := (sm_if_f hin).symm.trans h
                cases h
          · cases h
      · cases h
    | iastore =>
      dsimp only at h ⊢
      unfold sm_ast at h ⊢
      split at h
      · next x i a r0 =>
        simp only [List.map_cons, sm_cv_i, sm_cv_r]
        split at h
        · next t nn2 ha =>
          obtain ⟨h1, h2⟩ := harr a _ ha
          rw [h1]
          dsimp only
          cases hq : Nat.beq t 0 with
          | false => rw [hq] at h; cases h
          | true =>
            rw [hq] at h
            by_cases hin : vp_in i nn2
            · replace h := (sm_if_t hin).symm.trans h
              have hs := sm_stR_arr hσ hinj h2 (upd (σ1 a) i.toNatClampNeg x)
              rw [← hσ.1 a _ h2] at hs
              rw [hσ.1 a _ h2] at hs
              have hs2 := hs
              rw [← hσ.1 a _ h2] at hs2
              obtain ⟨σ2', g1, g2⟩ := go2 _ _ _ _ σ2 _ h hs
              rw [← hσ.1 a _ h2] at g1
              exact ⟨σ2', (sm_if_t hin).trans g1, g2⟩
            · replace h := (sm_if_f hin).symm.trans h
              cases h
        · cases h
      · cases h
    | bastore =>
      dsimp only at h ⊢
      unfold sm_ast at h ⊢
      split at h
      · next x i a r0 =>
        simp only [List.map_cons, sm_cv_i, sm_cv_r]
        split at h
        · next t nn2 ha =>
          obtain ⟨h1, h2⟩ := harr a _ ha
          rw [h1]
          dsimp only
          cases hq : Nat.beq t 1 with
          | false => rw [hq] at h; cases h
          | true =>
            rw [hq] at h
            by_cases hin : vp_in i nn2
            · replace h := (sm_if_t hin).symm.trans h
              have hs := sm_stR_arr hσ hinj h2 (upd (σ1 a) i.toNatClampNeg x)
              rw [← hσ.1 a _ h2] at hs
              rw [hσ.1 a _ h2] at hs
              by_cases hx01 : x = 0 ∨ x = 1
              · replace h := (sm_if_t hx01).symm.trans h
                obtain ⟨σ2', g1, g2⟩ := go2 _ _ _ _ σ2 _ h hs
                rw [← hσ.1 a _ h2] at g1
                exact ⟨σ2', (sm_if_t hin).trans ((sm_if_t hx01).trans g1), g2⟩
              · replace h := (sm_if_f hx01).symm.trans h
                cases h
            · replace h := (sm_if_f hin).symm.trans h
              cases h
        · cases h
      · cases h
    | arraylength =>
      dsimp only at h ⊢
      unfold sm_len at h ⊢
      split at h
      · next a r0 =>
        simp only [List.map_cons, sm_cv_i, sm_cv_r]
        split at h
        · next t nn2 ha =>
          obtain ⟨h1, h2⟩ := harr a _ ha
          rw [h1]
          exact go _ _ (.int _ :: _) _ h σ2 hσ
        · cases h
      · cases h
    | invokevirtual i =>
      refine hinv _ _ _ _ _ _ (fun as hr => ?_) h
      unfold sm_rc at hr ⊢
      split at hr
      · next a t0 =>
        simp only [List.map_cons, sm_cv_i, sm_cv_r]
        split at hr
        · next c2 fl ha =>
          obtain ⟨fl', h1, -⟩ := R2 a c2 fl ha
          rw [h1]
          exact hr
        · cases hr
      · cases hr
    | invokestatic i =>
      dsimp only at h ⊢
      cases hac : Nat.beq tgt 9999 with
      | false =>
        rw [hac] at h
        dsimp only [cond] at h ⊢
        cases h98 : Nat.beq tgt 9998 with
        | true =>
          rw [h98] at h
          dsimp only [cond] at h ⊢
          exact hmm _ _ h
        | false =>
          rw [h98] at h
          dsimp only [cond] at h ⊢
          cases h97 : Nat.beq tgt 9997 with
          | true =>
            rw [h97] at h
            dsimp only [cond] at h ⊢
            exact hmm _ _ h
          | false =>
            rw [h97] at h
            exact hinv _ _ _ _ _ _ (fun _ _ => rfl) h
      | true =>
        rw [hac] at h
        dsimp only [cond] at h ⊢
        unfold sm_cpy at h ⊢
        split at h
        · next nc dp b sp a =>
          simp only [List.map_cons, List.map_nil, sm_cv_i, sm_cv_r]
          split at h
          · next nb hbb =>
            obtain ⟨b1, b2⟩ := harr b _ hbb
            rw [b1]
            split at h
            · next na haa =>
              obtain ⟨a1, a2⟩ := harr a _ haa
              rw [a1]
              by_cases hin : ¬ sp < 0 ∧ ¬ dp < 0 ∧ ¬ nc < 0 ∧ sp.toNatClampNeg + nc.toNatClampNeg ≤ na ∧ dp.toNatClampNeg + nc.toNatClampNeg ≤ nb
              · replace h := (sm_if_t hin).symm.trans h
                have hs := sm_stR_arr hσ hinj b2 (va_cpy (σ1 a) (σ1 b) sp.toNatClampNeg dp.toNatClampNeg nc.toNatClampNeg)
                obtain ⟨σ2', g1, g2⟩ := go2 _ _ _ _ σ2 _ h hs
                rw [← hσ.1 a _ a2, ← hσ.1 b _ b2] at g1
                exact ⟨σ2', (sm_if_t hin).trans g1, g2⟩
              · replace h := (sm_if_f hin).symm.trans h
                cases h
            · cases h
          · cases h
        · cases h
    | ireturn =>
      dsimp only at h ⊢
      split at h
      · next x =>
        split at h
        · next hrt =>
          cases h
          simp only [List.map_cons, List.map_nil, sm_cv, hrt]
          exact ⟨σ2, rfl, hσ, fun _ _ _ => rfl⟩
        · next hrt =>
          by_cases hx01 : x = 0 ∨ x = 1
          · replace h := (sm_if_t hx01).symm.trans h
            cases h
            simp only [List.map_cons, List.map_nil, sm_cv, hrt]
            exact ⟨σ2, sm_if_t hx01, hσ, fun _ _ _ => rfl⟩
          · replace h := (sm_if_f hx01).symm.trans h
            cases h
        · cases h
      · cases h
    | return_ =>
      dsimp only at h ⊢
      split at h
      · split at h
        · next hrt =>
          cases h
          simp only [List.map_nil, hrt]
          exact ⟨σ2, rfl, hσ, fun _ _ _ => rfl⟩
        · cases h
      · cases h
    | _ => cases h
end
section
/-! ===== the same, for stores that agree where the arrays reach ===== -/
theorem vp_lt {x : Int32} {n : Nat} (h : vp_in x n) : x.toNatClampNeg < n := by
  rw [vp_in_iff] at h
  show x.toInt.toNat < n
  omega
def sm_stW (ρ : Nat → Nat) (SH1 : List sm_Sh) (σ1 σ2 : sm_S) : Prop :=
  (∀ (k : Nat) (q : Nat × Nat), SH1[k]? = some (.inl q) → ∀ i, i < q.2 → σ2 (ρ k) i = σ1 k i) ∧ ∀ (k ci : Nat) (fl : List sm_Sl) (j t : Nat), SH1[k]? = some (.inr (ci, fl)) → fl[j]? = some (.inl t) → t ≤ 1 → σ2 (ρ k) j = σ1 k j
theorem sm_stW_arr {ρ : Nat → Nat} {SH1 : List sm_Sh} {σ1 σ2 : sm_S} (h : sm_stW ρ SH1 σ1 σ2) (hinj : ∀ i j, i < SH1.length → j < SH1.length → ρ i = ρ j → i = j) {k : Nat} {q : Nat × Nat} (hk : SH1[k]? = some (.inl q)) (f f' : Nat → Int32) (hff : ∀ i, i < q.2 → f' i = f i) : sm_stW ρ SH1 (sm_set σ1 k f) (sm_set σ2 (ρ k) f') ∧ sm_off ρ SH1 σ2 (sm_set σ2 (ρ k) f') := by
  have hl := (List.getElem?_eq_some_iff.mp hk).1
  refine ⟨⟨fun k2 q2 h2 i hi => ?_, fun k2 ci fl j t h2 h3 h4 => ?_⟩, fun a j hv => ?_⟩
  · have hl2 := (List.getElem?_eq_some_iff.mp h2).1
    by_cases e : k2 = k
    · subst e
      rw [hk] at h2
      cases h2
      simp only [sm_set, if_pos]
      exact hff i hi
    · have : ρ k2 ≠ ρ k := fun z => e (hinj _ _ hl2 hl z)
      simp only [sm_set, if_neg this, if_neg e]
      exact h.1 k2 q2 h2 i hi
  · have hl2 := (List.getElem?_eq_some_iff.mp h2).1
    have e : k2 ≠ k := fun z => by subst z; rw [hk] at h2; cases h2
    have : ρ k2 ≠ ρ k := fun z => e (hinj _ _ hl2 hl z)
    simp only [sm_set, if_neg this, if_neg e]
    exact h.2 k2 ci fl j t h2 h3 h4
  · have : a ≠ ρ k := fun z => hv ⟨k, z.symm, Or.inl ⟨q, hk⟩⟩
    simp only [sm_set, if_neg this]
theorem sm_stW_put {ρ : Nat → Nat} {SH1 : List sm_Sh} {σ1 σ2 : sm_S} (h : sm_stW ρ SH1 σ1 σ2) (hinj : ∀ i j, i < SH1.length → j < SH1.length → ρ i = ρ j → i = j) {k ci : Nat} {fl : List sm_Sl} (hk : SH1[k]? = some (.inr (ci, fl))) {j t : Nat} (hj : fl[j]? = some (.inl t)) (ht : t ≤ 1) (x : Int32) : sm_stW ρ SH1 (sm_set σ1 k (upd (σ1 k) j x)) (sm_set σ2 (ρ k) (upd (σ2 (ρ k)) j x)) ∧ sm_off ρ SH1 σ2 (sm_set σ2 (ρ k) (upd (σ2 (ρ k)) j x)) := by
  have hl := (List.getElem?_eq_some_iff.mp hk).1
  refine ⟨⟨fun k2 q2 h2 i hi => ?_, fun k2 ci2 fl2 j2 t2 h2 h3 h4 => ?_⟩, fun a j2 hv => ?_⟩
  · have hl2 := (List.getElem?_eq_some_iff.mp h2).1
    have e : k2 ≠ k := fun z => by subst z; rw [hk] at h2; cases h2
    have : ρ k2 ≠ ρ k := fun z => e (hinj _ _ hl2 hl z)
    simp only [sm_set, if_neg this, if_neg e]
    exact h.1 k2 q2 h2 i hi
  · have hl2 := (List.getElem?_eq_some_iff.mp h2).1
    by_cases e : k2 = k
    · subst e
      simp only [sm_set, if_pos, upd]
      by_cases e2 : j2 = j
      · simp only [if_pos e2]
      · simp only [if_neg e2]
        exact h.2 k2 ci2 fl2 j2 t2 h2 h3 h4
    · have : ρ k2 ≠ ρ k := fun z => e (hinj _ _ hl2 hl z)
      simp only [sm_set, if_neg this, if_neg e]
      exact h.2 k2 ci2 fl2 j2 t2 h2 h3 h4
  · by_cases e : a = ρ k
    · subst e
      have : j2 ≠ j := fun z => by subst z; exact hv ⟨k, rfl, Or.inr ⟨ci, fl, t, hk, hj, ht⟩⟩
      simp only [sm_set, if_pos, upd, if_neg this]
    · simp only [sm_set, if_neg e]
set_option maxHeartbeats 16000000 in
set_option maxRecDepth 100000 in
theorem sm_liftW {TB : List (List Int32)} {MS : List sm_M} {ρ : Nat → Nat} {SH1 SH2 : List sm_Sh} (hR : sm_shR ρ SH1 SH2) (hMS : ∀ M ∈ MS, ∀ pc i aux tgt nn sw, sm_find M.2.2.2.2.2 pc = some (.getstatic i, aux, tgt, nn, sw) → 1000 ≤ tgt) : ∀ (n : Nat) (M : sm_M), M ∈ MS → ∀ (pc : Nat) (ls st : List Value) (σ1 : sm_S) (r : Option Value) (σ1' : sm_S), sm_run TB MS SH1 n M pc ls st σ1 = some (r, σ1') →
    ∀ σ2, sm_stW ρ SH1 σ1 σ2 → ∃ σ2', sm_run TB MS SH2 n M pc (ls.map (sm_cv ρ)) (st.map (sm_cv ρ)) σ2 = some (r.map (sm_cv ρ), σ2') ∧ sm_stW ρ SH1 σ1' σ2' ∧ sm_off ρ SH1 σ2 σ2'
  | 0, M, _, pc, ls, st, σ1, r, σ1', h => by cases h
  | n + 1, M, hM, pc, ls, st, σ1, r, σ1', h => by
    intro σ2 hσ
    have ih := sm_liftW (TB := TB) (MS := MS) hR hMS n
    have go : ∀ (pc : Nat) (ls st : List Value) (σ1 : sm_S), sm_run TB MS SH1 n M pc ls st σ1 = some (r, σ1') → ∀ σ2, sm_stW ρ SH1 σ1 σ2 → ∃ σ2', sm_run TB MS SH2 n M pc (ls.map (sm_cv ρ)) (st.map (sm_cv ρ)) σ2 = some (r.map (sm_cv ρ), σ2') ∧ sm_stW ρ SH1 σ1' σ2' ∧ sm_off ρ SH1 σ2 σ2' := fun pc ls st σ1 h => ih M hM pc ls st σ1 r σ1' h
    have go2 : ∀ (pc : Nat) (ls st : List Value) (σa : sm_S) (σ2 σb : sm_S), sm_run TB MS SH1 n M pc ls st σa = some (r, σ1') → sm_stW ρ SH1 σa σb ∧ sm_off ρ SH1 σ2 σb → ∃ σ2', sm_run TB MS SH2 n M pc (ls.map (sm_cv ρ)) (st.map (sm_cv ρ)) σb = some (r.map (sm_cv ρ), σ2') ∧ sm_stW ρ SH1 σ1' σ2' ∧ sm_off ρ SH1 σ2 σ2' := by
      intro pc ls st σa σ2 σb h hh
      obtain ⟨σ2', h1, h2, h3⟩ := go pc ls st σa h σb hh.1
      exact ⟨σ2', h1, h2, hh.2.trans h3⟩
    obtain ⟨R1, R2, hinj, R4, R5⟩ := id hR
    have hcl : ∀ (tgt : Nat) (as : List Value) (σ1 σ2 : sm_S) (k : Option Value → sm_S → sm_X) (k' : Option Value → sm_S → sm_X), sm_stW ρ SH1 σ1 σ2 → sm_cll MS (sm_run TB MS SH1 n) tgt as σ1 k = some (r, σ1') → (∀ rr σa σb, k rr σa = some (r, σ1') → sm_stW ρ SH1 σa σb → ∃ σ2', k' (rr.map (sm_cv ρ)) σb = some (r.map (sm_cv ρ), σ2') ∧ sm_stW ρ SH1 σ1' σ2' ∧ sm_off ρ SH1 σb σ2') → ∃ σ2', sm_cll MS (sm_run TB MS SH2 n) tgt (as.map (sm_cv ρ)) σ2 k' = some (r.map (sm_cv ρ), σ2') ∧ sm_stW ρ SH1 σ1' σ2' ∧ sm_off ρ SH1 σ2 σ2' := by
      intro tgt as σ1 σ2 k k' hσ h hk
      unfold sm_cll at h ⊢
      cases hj : MS[tgt]? with
      | none => rw [hj] at h; cases h
      | some M' =>
        rw [hj] at h
        dsimp only at h ⊢
        split at h
        · cases h
        · next rr σa h1 =>
          obtain ⟨σb, h2, h3, h4⟩ := ih M' (List.mem_of_getElem? hj) 0 (sm_ent M' as) [] σ1 rr σa h1 σ2 hσ
          rw [sm_ent_map] at h2
          obtain ⟨σ2', h5, h6, h7⟩ := hk rr σa σb h h3
          refine ⟨σ2', ?_, h6, h4.trans h7⟩
          have h2' : sm_run TB MS SH2 n M' 0 (sm_ent M' (as.map (sm_cv ρ))) [] σ2 = some (rr.map (sm_cv ρ), σb) := h2
          rw [h2']
          exact h5
    have hinv : ∀ (ok1 ok2 : List Value → Bool) (pc tgt nn : Nat) (sw : List (Int32 × Nat)), (∀ as, ok1 as = true → ok2 (as.map (sm_cv ρ)) = true) → sm_inv none (sm_cll MS (sm_run TB MS SH1 n)) (fun pc ls st σ => sm_run TB MS SH1 n M pc ls st σ) ok1 pc tgt nn sw ls st σ1 = some (r, σ1') → ∃ σ2', sm_inv none (sm_cll MS (sm_run TB MS SH2 n)) (fun pc ls st σ => sm_run TB MS SH2 n M pc ls st σ) ok2 pc tgt nn sw (ls.map (sm_cv ρ)) (st.map (sm_cv ρ)) σ2 = some (r.map (sm_cv ρ), σ2') ∧ sm_stW ρ SH1 σ1' σ2' ∧ sm_off ρ SH1 σ2 σ2' := by
      intro ok1 ok2 pc tgt nn sw hok h
      unfold sm_inv at h ⊢
      split at h
      · next as r0 hpop =>
        have hp2 := sm_pop_map (sm_cv ρ) _ _ _ _ _ hpop
        rw [List.map_nil] at hp2
        rw [hp2]
        cases hq : (ok1 as && (sm_irs as && (sm_irs r0 && Nat.ble r0.length 8))) with
        | false => rw [hq] at h; cases h
        | true =>
          rw [hq] at h
          simp only [Bool.and_eq_true] at hq
          obtain ⟨q1, q2, q3, q4⟩ := hq
          have hq' : (ok2 (as.map (sm_cv ρ)) && (sm_irs (as.map (sm_cv ρ)) && (sm_irs (r0.map (sm_cv ρ)) && Nat.ble (r0.map (sm_cv ρ)).length 8))) = true := by
            rw [hok _ q1, sm_irs_map ρ _ q2, sm_irs_map ρ _ q3, List.length_map, q4]; rfl
          dsimp only
          rw [hq']
          dsimp only [cond] at h ⊢
          split at h
          · refine hcl _ _ _ _ _ _ hσ h (fun rr σa σb hk hs => ?_)
            unfold sm_rv at hk ⊢
            split at hk
            · exact go _ _ _ _ hk σb hs
            · cases hk
          · refine hcl _ _ _ _ _ _ hσ h (fun rr σa σb hk hs => ?_)
            unfold sm_ri at hk ⊢
            split at hk
            · exact go _ _ (.int _ :: _) _ hk σb hs
            · cases hk
      · cases h
    have harr : ∀ (a : Nat) (q : Nat × Nat), sm_arr SH1 a = some q → sm_arr SH2 (ρ a) = some q ∧ SH1[a]? = some (.inl q) := by
      intro a q ha
      have h1 := sm_arr_at ha
      refine ⟨?_, h1⟩
      unfold sm_arr
      rw [R1 a q h1]
    have hmm : ∀ (f : Int32 → Int32 → Int32) (pc : Nat), sm_mm none (fun pc ls st σ => sm_run TB MS SH1 n M pc ls st σ) f pc ls st σ1 = some (r, σ1') → ∃ σ2', sm_mm none (fun pc ls st σ => sm_run TB MS SH2 n M pc ls st σ) f pc (ls.map (sm_cv ρ)) (st.map (sm_cv ρ)) σ2 = some (r.map (sm_cv ρ), σ2') ∧ sm_stW ρ SH1 σ1' σ2' ∧ sm_off ρ SH1 σ2 σ2' := by
      intro f pc h
      unfold sm_mm at h ⊢
      split at h
      · next y x r0 h00 =>
        cases hq : (sm_irs r0 && Nat.ble r0.length 8) with
        | false => rw [hq] at h; cases h
        | true =>
          rw [hq] at h
          have hq' : (sm_irs (r0.map (sm_cv ρ)) && Nat.ble (r0.map (sm_cv ρ)).length 8) = true := by
            simp only [Bool.and_eq_true] at hq
            rw [sm_irs_map ρ _ hq.1, List.length_map, hq.2]; rfl
          simp only [List.map_cons, sm_cv_i, sm_cv_r]
          rw [hq']
          exact go _ _ (.int _ :: _) _ h σ2 hσ
      · cases h
    simp only [sm_run] at h ⊢
    unfold sm_g at h ⊢
    split at h
    · cases h
    next ins aux tgt nn sw hf =>
    cases ins with
    | iconst k => exact go _ _ (.int _ :: _) _ h σ2 hσ
    | bipush k => exact go _ _ (.int _ :: _) _ h σ2 hσ
    | sipush k => exact go _ _ (.int _ :: _) _ h σ2 hσ
    | ldc_w k => exact go _ _ (.int _ :: _) _ h σ2 hσ
    | goto k => exact go _ _ _ _ h σ2 hσ
    | iload i =>
      dsimp only at h ⊢
      unfold sm_ld at h ⊢
      split at h
      · next x hi => rw [List.getElem?_map, hi]; exact go _ _ (.int _ :: _) _ h σ2 hσ
      · cases h
    | iload_n i =>
      dsimp only at h ⊢
      unfold sm_ld at h ⊢
      split at h
      · next x hi => rw [List.getElem?_map, hi]; exact go _ _ (.int _ :: _) _ h σ2 hσ
      · cases h
    | aload i =>
      dsimp only at h ⊢
      unfold sm_la at h ⊢
      split at h
      · next x hi => rw [List.getElem?_map, hi]; exact go _ _ (.ref _ :: _) _ h σ2 hσ
      · cases h
    | aload_n i =>
      dsimp only at h ⊢
      unfold sm_la at h ⊢
      split at h
      · next x hi => rw [List.getElem?_map, hi]; exact go _ _ (.ref _ :: _) _ h σ2 hσ
      · cases h
    | istore i =>
      dsimp only at h ⊢
      unfold sm_sti at h ⊢
      split at h
      · next x r0 =>
        cases hq : Nat.blt i ls.length with
        | false => rw [hq] at h; cases h
        | true =>
          rw [hq] at h
          have hq2 : Nat.blt i (ls.map (sm_cv ρ)).length = true := by rw [List.length_map]; exact hq
          have := go _ (ls.set i (.int x)) _ _ h σ2 hσ
          rw [List.map_set] at this
          obtain ⟨σ2', g1, g2⟩ := this
          refine ⟨σ2', ?_, g2⟩
          simp only [List.map_cons, sm_cv_i, sm_cv_r]
          rw [hq2]
          exact g1
      · cases h
    | istore_n i =>
      dsimp only at h ⊢
      unfold sm_sti at h ⊢
      split at h
      · next x r0 =>
        cases hq : Nat.blt i.val ls.length with
        | false => rw [hq] at h; cases h
        | true =>
          rw [hq] at h
          have hq2 : Nat.blt i.val (ls.map (sm_cv ρ)).length = true := by rw [List.length_map]; exact hq
          have := go _ (ls.set i.val (.int x)) _ _ h σ2 hσ
          rw [List.map_set] at this
          obtain ⟨σ2', g1, g2⟩ := this
          refine ⟨σ2', ?_, g2⟩
          simp only [List.map_cons, sm_cv_i, sm_cv_r]
          rw [hq2]
          exact g1
      · cases h
    | astore i =>
      dsimp only at h ⊢
      unfold sm_sta at h ⊢
      split at h
      · next x r0 =>
        cases hq : Nat.blt i ls.length with
        | false => rw [hq] at h; cases h
        | true =>
          rw [hq] at h
          have hq2 : Nat.blt i (ls.map (sm_cv ρ)).length = true := by rw [List.length_map]; exact hq
          have := go _ (ls.set i (.ref x)) _ _ h σ2 hσ
          rw [List.map_set] at this
          obtain ⟨σ2', g1, g2⟩ := this
          refine ⟨σ2', ?_, g2⟩
          simp only [List.map_cons, sm_cv_i, sm_cv_r]
          rw [hq2]
          exact g1
      · cases h
    | astore_n i =>
      dsimp only at h ⊢
      unfold sm_sta at h ⊢
      split at h
      · next x r0 =>
        cases hq : Nat.blt i.val ls.length with
        | false => rw [hq] at h; cases h
        | true =>
          rw [hq] at h
          have hq2 : Nat.blt i.val (ls.map (sm_cv ρ)).length = true := by rw [List.length_map]; exact hq
          have := go _ (ls.set i.val (.ref x)) _ _ h σ2 hσ
          rw [List.map_set] at this
          obtain ⟨σ2', g1, g2⟩ := this
          refine ⟨σ2', ?_, g2⟩
          simp only [List.map_cons, sm_cv_i, sm_cv_r]
          rw [hq2]
          exact g1
      · cases h
    | iadd =>
      dsimp only at h ⊢
      unfold sm_bin at h ⊢
      split at h
      · exact go _ _ (.int _ :: _) _ h σ2 hσ
      · cases h
    | isub =>
      dsimp only at h ⊢
      unfold sm_bin at h ⊢
      split at h
      · exact go _ _ (.int _ :: _) _ h σ2 hσ
      · cases h
    | imul =>
      dsimp only at h ⊢
      unfold sm_bin at h ⊢
      split at h
      · exact go _ _ (.int _ :: _) _ h σ2 hσ
      · cases h
    | iand =>
      dsimp only at h ⊢
      unfold sm_bin at h ⊢
      split at h
      · exact go _ _ (.int _ :: _) _ h σ2 hσ
      · cases h
    | ior =>
      dsimp only at h ⊢
      unfold sm_bin at h ⊢
      split at h
      · exact go _ _ (.int _ :: _) _ h σ2 hσ
      · cases h
    | ixor =>
      dsimp only at h ⊢
      unfold sm_bin at h ⊢
      split at h
      · exact go _ _ (.int _ :: _) _ h σ2 hσ
      · cases h
    | ishl =>
      dsimp only at h ⊢
      unfold sm_bin at h ⊢
      split at h
      · exact go _ _ (.int _ :: _) _ h σ2 hσ
      · cases h
    | ishr =>
      dsimp only at h ⊢
      unfold sm_bin at h ⊢
      split at h
      · exact go _ _ (.int _ :: _) _ h σ2 hσ
      · cases h
    | iushr =>
      dsimp only at h ⊢
      unfold sm_bin at h ⊢
      split at h
      · exact go _ _ (.int _ :: _) _ h σ2 hσ
      · cases h
    | iinc i k =>
      dsimp only at h ⊢
      split at h
      · next x hi =>
        cases hq : Nat.blt i ls.length with
        | false => rw [hq] at h; cases h
        | true =>
          rw [hq] at h
          rw [List.getElem?_map, hi]
          show ∃ σ2', (bif Nat.blt i (ls.map (sm_cv ρ)).length then _ else _) = _ ∧ _
          rw [List.length_map, hq]
          have := go _ (ls.set i (.int (x + aux))) _ _ h σ2 hσ
          rw [List.map_set] at this
          exact this
      · cases h
    | idiv =>
      dsimp only at h ⊢
      split at h
      · next y x r0 =>
        by_cases hy : ¬ y = 0
        · replace h := (sm_if_t hy).symm.trans h
          obtain ⟨σ2', h1, h2⟩ := go _ _ (.int _ :: _) _ h σ2 hσ
          exact ⟨σ2', (sm_if_t hy).trans h1, h2⟩
        · replace h := (sm_if_f hy).symm.trans h
          cases h
      · cases h
    | irem =>
      dsimp only at h ⊢
      split at h
      · next y x r0 =>
        by_cases hy : ¬ y = 0
        · replace h := (sm_if_t hy).symm.trans h
          obtain ⟨σ2', h1, h2⟩ := go _ _ (.int _ :: _) _ h σ2 hσ
          exact ⟨σ2', (sm_if_t hy).trans h1, h2⟩
        · replace h := (sm_if_f hy).symm.trans h
          cases h
      · cases h
    | ineg =>
      dsimp only at h ⊢
      split at h
      · exact go _ _ (.int _ :: _) _ h σ2 hσ
      · cases h
    | dup =>
      dsimp only at h ⊢
      split at h
      · exact go _ _ (.int _ :: .int _ :: _) _ h σ2 hσ
      · exact go _ _ (.ref _ :: .ref _ :: _) _ h σ2 hσ
      · cases h
    | dup2 =>
      dsimp only at h ⊢
      split at h
      · exact go _ _ (.int _ :: .ref _ :: .int _ :: .ref _ :: _) _ h σ2 hσ
      · cases h
    | pop =>
      dsimp only at h ⊢
      split at h
      · exact go _ _ _ _ h σ2 hσ
      · cases h
    | ifCond cc off =>
      dsimp only at h ⊢
      split at h
      · next x r0 =>
        by_cases hc : sm_cnd cc x 0
        · replace h := (sm_if_t hc).symm.trans h
          obtain ⟨σ2', h1, h2⟩ := go _ _ _ _ h σ2 hσ
          exact ⟨σ2', (sm_if_t hc).trans h1, h2⟩
        · replace h := (sm_if_f hc).symm.trans h
          obtain ⟨σ2', h1, h2⟩ := go _ _ _ _ h σ2 hσ
          exact ⟨σ2', (sm_if_f hc).trans h1, h2⟩
      · cases h
    | if_icmp cc off =>
      dsimp only at h ⊢
      split at h
      · next y x r0 =>
        by_cases hc : sm_cnd cc x y
        · replace h := (sm_if_t hc).symm.trans h
          obtain ⟨σ2', h1, h2⟩ := go _ _ _ _ h σ2 hσ
          exact ⟨σ2', (sm_if_t hc).trans h1, h2⟩
        · replace h := (sm_if_f hc).symm.trans h
          obtain ⟨σ2', h1, h2⟩ := go _ _ _ _ h σ2 hσ
          exact ⟨σ2', (sm_if_f hc).trans h1, h2⟩
      · cases h
    | tableswitch df lo hi offs =>
      dsimp only at h ⊢
      split at h
      · next x r0 =>
        clear hf
        revert h
        induction sw with
        | nil => intro h; exact go _ _ _ _ h σ2 hσ
        | cons q sw ihs =>
          obtain ⟨v, t⟩ := q
          intro h
          by_cases hc : x = v
          · replace h := (sm_if_t hc).symm.trans h
            obtain ⟨σ2', h1, h2⟩ := go _ _ _ _ h σ2 hσ
            exact ⟨σ2', (sm_if_t hc).trans h1, h2⟩
          · replace h := (sm_if_f hc).symm.trans h
            obtain ⟨σ2', h1, h2⟩ := ihs h
            exact ⟨σ2', (sm_if_f hc).trans h1, h2⟩
      · cases h
    | getfield i =>
      dsimp only at h ⊢
      unfold sm_getf at h ⊢
      split at h
      · next a r0 =>
        split at h
        · next ci fl ha =>
          obtain ⟨fl', h1, h2⟩ := R2 a ci fl ha
          simp only [List.map_cons, sm_cv_i, sm_cv_r]
          rw [h1]
          dsimp only
          cases hq : Nat.beq ci (tgt / 100) with
          | false => rw [hq] at h; cases h
          | true =>
            rw [hq] at h
            dsimp only [cond] at h ⊢
            split at h
            · next t0 ht =>
              cases hq2 : Nat.ble t0 1 with
              | false => rw [hq2] at h; cases h
              | true =>
                rw [hq2] at h
                have ht1 := Nat.le_of_ble_eq_true hq2
                obtain ⟨o', h3, h4⟩ := h2 _ _ ht
                rw [h3, h4 ht1]
                dsimp only
                rw [hq2]
                have := go _ _ (.int (σ1 a (tgt % 100)) :: r0) _ h σ2 hσ
                rw [← hσ.2 a ci fl (tgt % 100) t0 ha ht ht1] at this
                exact this
            · next k ht =>
              obtain ⟨o', h3, h4⟩ := h2 _ _ ht
              rw [h3, h4]
              exact go _ _ (.ref k :: r0) _ h σ2 hσ
            · cases h
        · cases h
      · cases h
    | putfield i =>
      dsimp only at h ⊢
      unfold sm_putf at h ⊢
      split at h
      · next x a r0 =>
        split at h
        · next ci fl ha =>
          obtain ⟨fl', h1, h2⟩ := R2 a ci fl ha
          simp only [List.map_cons, sm_cv_i, sm_cv_r]
          rw [h1]
          dsimp only
          cases hq : Nat.beq ci (tgt / 100) with
          | false => rw [hq] at h; cases h
          | true =>
            rw [hq] at h
            dsimp only [cond] at h ⊢
            split at h
            · next ht =>
              obtain ⟨o', h3, h4⟩ := h2 _ _ ht
              rw [h3, h4 (Nat.zero_le 1)]
              exact go2 _ _ _ _ σ2 _ h (sm_stW_put hσ hinj ha ht (Nat.zero_le 1) x)
            · next ht =>
              obtain ⟨o', h3, h4⟩ := h2 _ _ ht
              rw [h3, h4 (Nat.le_refl 1)]
              by_cases hx01 : x = 0 ∨ x = 1
              · replace h := (sm_if_t hx01).symm.trans h
                obtain ⟨σ2', g1, g2⟩ := go2 _ _ _ _ σ2 _ h (sm_stW_put hσ hinj ha ht (Nat.le_refl 1) x)
                exact ⟨σ2', (sm_if_t hx01).trans g1, g2⟩
              · replace h := (sm_if_f hx01).symm.trans h
                cases h
            · cases h
        · cases h
      · cases h
    | getstatic i =>
      dsimp only at h ⊢
      have hg : ∃ σ2', sm_run TB MS SH2 n M (pc + 3) (ls.map (sm_cv ρ)) (.ref (ρ tgt) :: st.map (sm_cv ρ)) σ2 = some (r.map (sm_cv ρ), σ2') ∧ sm_stW ρ SH1 σ1' σ2' ∧ sm_off ρ SH1 σ2 σ2' := go _ _ (.ref _ :: _) _ h σ2 hσ
      rw [R4 tgt (hMS M hM _ _ _ _ _ _ hf)] at hg
      exact hg
    | iaload =>
      dsimp only at h ⊢
      unfold sm_ald at h ⊢
      split at h
      · next i a r0 =>
        simp only [List.map_cons, sm_cv_i, sm_cv_r]
        split at h
        · next t nn2 ha =>
          obtain ⟨h1, h2⟩ := harr a _ ha
          rw [h1]
          dsimp only
          cases hq : Nat.beq t 0 with
          | false => rw [hq] at h; cases h
          | true =>
            rw [hq] at h
            by_cases hin : vp_in i nn2
            · replace h := (sm_if_t hin).symm.trans h
              have := go _ _ (.int (σ1 a i.toNatClampNeg) :: r0) _ h σ2 hσ
              rw [← hσ.1 a _ h2 _ (vp_lt hin)] at this
              obtain ⟨σ2', g1, g2⟩ := this
              exact ⟨σ2', (sm_if_t hin).trans g1, g2⟩
            · replace h := (sm_if_f hin).symm.trans h
              cases h
        · next hn =>
          split at h
          · next q ht =>
            cases hq : (Nat.ble 1000 a && Nat.beq 0 0) with
            | false => rw [hq] at h; cases h
            | true =>
              rw [hq] at h
              have h1000 : 1000 ≤ a := Nat.le_of_ble_eq_true ((Bool.and_eq_true _ _).mp hq).1
              have hno : sm_arr SH2 (ρ a) = none := by
                rw [R4 a h1000]
                unfold sm_arr
                rw [List.getElem?_eq_none (Nat.le_trans R5 h1000)]
              rw [hno, R4 a h1000, ht]
              dsimp only
              rw [hq]
              by_cases hin : vp_in i q.length
              · replace h := (sm_if_t hin).symm.trans h
                obtain ⟨σ2', g1, g2⟩ := go _ _ (.int _ :: _) _ h σ2 hσ
                exact ⟨σ2', (sm_if_t hin).trans g1, g2⟩
              · replace h := (sm_if_f hin).symm.trans h
                cases h
          · cases h
      · cases h
    | baload =>
      dsimp only at h ⊢
      unfold sm_ald at h ⊢
      split at h
      · next i a r0 =>
        simp only [List.map_cons, sm_cv_i, sm_cv_r]
        split at h
        · next t nn2 ha =>
          obtain ⟨h1, h2⟩ := harr a _ ha
          rw [h1]
          dsimp only
          cases hq : Nat.beq t 1 with
          | false => rw [hq] at h; cases h
          | true =>
            rw [hq] at h
            by_cases hin : vp_in i nn2
            · replace h := (sm_if_t hin).symm.trans h
              have := go _ _ (.int (σ1 a i.toNatClampNeg) :: r0) _ h σ2 hσ
              rw [← hσ.1 a _ h2 _ (vp_lt hin)] at this
              obtain ⟨σ2', g1, g2⟩ := this
              exact ⟨σ2', (sm_if_t hin).trans g1, g2⟩
            · replace h := (sm_if_f hin).symm.trans h
              cases h
        · next hn =>
          split at h
          · next q ht =>
            cases hq : (Nat.ble 1000 a && Nat.beq 1 0) with
            | false => rw [hq] at h; cases h
            | true =>
              rw [hq] at h
              have h1000 : 1000 ≤ a := Nat.le_of_ble_eq_true ((Bool.and_eq_true _ _).mp hq).1
              have hno : sm_arr SH2 (ρ a) = none := by
                rw [R4 a h1000]
                unfold sm_arr
                rw [List.getElem?_eq_none (Nat.le_trans R5 h1000)]
              rw [hno, R4 a h1000, ht]
              dsimp only
              rw [hq]
              by_cases hin : vp_in i q.length
              · replace h := (sm_if_t hin).symm.trans h
                obtain ⟨σ2', g1, g2⟩ := go _ _ (.int _ :: _) _ h σ2 hσ
                exact ⟨σ2', (sm_if_t hin).trans g1, g2⟩
              · replace h := (sm_if_f hin).symm.trans h
                cases h
          · cases h
      · cases h
    | iastore =>
      dsimp only at h ⊢
      unfold sm_ast at h ⊢
      split at h
      · next x i a r0 =>
        simp only [List.map_cons, sm_cv_i, sm_cv_r]
        split at h
        · next t nn2 ha =>
          obtain ⟨h1, h2⟩ := harr a _ ha
          rw [h1]
          dsimp only
          cases hq : Nat.beq t 0 with
          | false => rw [hq] at h; cases h
          | true =>
            rw [hq] at h
            by_cases hin : vp_in i nn2
            · replace h := (sm_if_t hin).symm.trans h
              have hs := sm_stW_arr hσ hinj h2 (upd (σ1 a) i.toNatClampNeg x) (upd (σ2 (ρ a)) i.toNatClampNeg x) (fun l hl => by
                by_cases hli : l = i.toNatClampNeg
                · simp only [upd, if_pos hli]
                · simp only [upd, if_neg hli]; exact hσ.1 a _ h2 l hl)
              obtain ⟨σ2', g1, g2⟩ := go2 _ _ _ _ σ2 _ h hs
              exact ⟨σ2', (sm_if_t hin).trans g1, g2⟩
            · replace h := (sm_if_f hin).symm.trans h
              cases h
        · cases h
      · cases h
    | bastore =>
      dsimp only at h ⊢
      unfold sm_ast at h ⊢
      split at h
      · next x i a r0 =>
        simp only [List.map_cons, sm_cv_i, sm_cv_r]
        split at h
        · next t nn2 ha =>
          obtain ⟨h1, h2⟩ := harr a _ ha
          rw [h1]
          dsimp only
          cases hq : Nat.beq t 1 with
          | false => rw [hq] at h; cases h
          | true =>
            rw [hq] at h
            by_cases hin : vp_in i nn2
            · replace h := (sm_if_t hin).symm.trans h
              have hs := sm_stW_arr hσ hinj h2 (upd (σ1 a) i.toNatClampNeg x) (upd (σ2 (ρ a)) i.toNatClampNeg x) (fun l hl => by
                by_cases hli : l = i.toNatClampNeg
                · simp only [upd, if_pos hli]
                · simp only [upd, if_neg hli]; exact hσ.1 a _ h2 l hl)
              by_cases hx01 : x = 0 ∨ x = 1
              · replace h := (sm_if_t hx01).symm.trans h
                obtain ⟨σ2', g1, g2⟩ := go2 _ _ _ _ σ2 _ h hs
                exact ⟨σ2', (sm_if_t hin).trans ((sm_if_t hx01).trans g1), g2⟩
              · replace h := (sm_if_f hx01).symm.trans h
                cases h
            · replace h := (sm_if_f hin).symm.trans h
              cases h
        · cases h
      · cases h
    | arraylength =>
      dsimp only at h ⊢
      unfold sm_len at h ⊢
      split at h
      · next a r0 =>
        simp only [List.map_cons, sm_cv_i, sm_cv_r]
        split at h
        · next t nn2 ha =>
          obtain ⟨h1, h2⟩ := harr a _ ha
          rw [h1]
          exact go _ _ (.int _ :: _) _ h σ2 hσ
        · cases h
      · cases h
    | invokevirtual i =>
      refine hinv _ _ _ _ _ _ (fun as hr => ?_) h
      unfold sm_rc at hr ⊢
      split at hr
      · next a t0 =>
        simp only [List.map_cons, sm_cv_i, sm_cv_r]
        split at hr
        · next c2 fl ha =>
          obtain ⟨fl', h1, -⟩ := R2 a c2 fl ha
          rw [h1]
          exact hr
        · cases hr
      · cases hr
    | invokestatic i =>
      dsimp only at h ⊢
      cases hac : Nat.beq tgt 9999 with
      | false =>
        rw [hac] at h
        dsimp only [cond] at h ⊢
        cases h98 : Nat.beq tgt 9998 with
        | true =>
          rw [h98] at h
          dsimp only [cond] at h ⊢
          exact hmm _ _ h
        | false =>
          rw [h98] at h
          dsimp only [cond] at h ⊢
          cases h97 : Nat.beq tgt 9997 with
          | true =>
            rw [h97] at h
            dsimp only [cond] at h ⊢
            exact hmm _ _ h
          | false =>
            rw [h97] at h
            exact hinv _ _ _ _ _ _ (fun _ _ => rfl) h
      | true =>
        rw [hac] at h
        dsimp only [cond] at h ⊢
        unfold sm_cpy at h ⊢
        split at h
        · next nc dp b sp a =>
          simp only [List.map_cons, List.map_nil, sm_cv_i, sm_cv_r]
          split at h
          · next nb hbb =>
            obtain ⟨b1, b2⟩ := harr b _ hbb
            rw [b1]
            split at h
            · next na haa =>
              obtain ⟨a1, a2⟩ := harr a _ haa
              rw [a1]
              by_cases hin : ¬ sp < 0 ∧ ¬ dp < 0 ∧ ¬ nc < 0 ∧ sp.toNatClampNeg + nc.toNatClampNeg ≤ na ∧ dp.toNatClampNeg + nc.toNatClampNeg ≤ nb
              · replace h := (sm_if_t hin).symm.trans h
                have hs := sm_stW_arr hσ hinj b2 (va_cpy (σ1 a) (σ1 b) sp.toNatClampNeg dp.toNatClampNeg nc.toNatClampNeg) (va_cpy (σ2 (ρ a)) (σ2 (ρ b)) sp.toNatClampNeg dp.toNatClampNeg nc.toNatClampNeg) (fun l hl => by
                  unfold va_cpy
                  by_cases hr : dp.toNatClampNeg ≤ l ∧ l < dp.toNatClampNeg + nc.toNatClampNeg
                  · rw [if_pos hr, if_pos hr]
                    refine hσ.1 a _ a2 _ ?_
                    have := hin.2.2.2.1
                    show _ < na
                    omega
                  · rw [if_neg hr, if_neg hr]
                    exact hσ.1 b _ b2 l hl)
                obtain ⟨σ2', g1, g2⟩ := go2 _ _ _ _ σ2 _ h hs
                exact ⟨σ2', (sm_if_t hin).trans g1, g2⟩
              · replace h := (sm_if_f hin).symm.trans h
                cases h
            · cases h
          · cases h
        · cases h
    | ireturn =>
      dsimp only at h ⊢
      split at h
      · next x =>
        split at h
        · next hrt =>
          cases h
          simp only [List.map_cons, List.map_nil, sm_cv, hrt]
          exact ⟨σ2, rfl, hσ, fun _ _ _ => rfl⟩
        · next hrt =>
          by_cases hx01 : x = 0 ∨ x = 1
          · replace h := (sm_if_t hx01).symm.trans h
            cases h
            simp only [List.map_cons, List.map_nil, sm_cv, hrt]
            exact ⟨σ2, sm_if_t hx01, hσ, fun _ _ _ => rfl⟩
          · replace h := (sm_if_f hx01).symm.trans h
            cases h
        · cases h
      · cases h
    | return_ =>
      dsimp only at h ⊢
      split at h
      · split at h
        · next hrt =>
          cases h
          simp only [List.map_nil, hrt]
          exact ⟨σ2, rfl, hσ, fun _ _ _ => rfl⟩
        · cases h
      · cases h
    | _ => cases h
end
section
/-! ===== lifting, for the methods that there are ===== -/
def gs_ok : List (Nat × sm_R) → Bool
  | [] => true
  | (_, (.getstatic _, _, tgt, _, _)) :: t => Nat.ble 1000 tgt && gs_ok t
  | _ :: t => gs_ok t
theorem gs_find : ∀ (L : List (Nat × sm_R)), gs_ok L = true → ∀ pc i aux tgt nn sw, sm_find L pc = some (.getstatic i, aux, tgt, nn, sw) → 1000 ≤ tgt
  | [], _, _, _, _, _, _, _, h => by cases h
  | (a, r) :: t, hk, pc, i, aux, tgt, nn, sw, h => by
    unfold sm_find at h
    cases hb : Nat.beq a pc with
    | true =>
      rw [hb] at h
      have h : some r = _ := h
      cases h
      simp only [gs_ok, Bool.and_eq_true] at hk
      exact Nat.le_of_ble_eq_true hk.1
    | false =>
      rw [hb] at h
      have h : sm_find t pc = _ := h
      refine gs_find t ?_ pc i aux tgt nn sw h
      unfold gs_ok at hk
      split at hk
      · next h1 => cases h1
      · next h1 => cases h1; exact (Bool.and_eq_true _ _ ▸ hk).2
      · next h1 => cases h1; exact hk
set_option maxRecDepth 100000 in
theorem gs_all : (sm_MS.all (fun M => gs_ok M.2.2.2.2.2)) = true := by decide +kernel
theorem sm_gs : ∀ M ∈ sm_MS, ∀ pc i aux tgt nn sw, sm_find M.2.2.2.2.2 pc = some (.getstatic i, aux, tgt, nn, sw) → 1000 ≤ tgt := by
  intro M hM pc i aux tgt nn sw h
  exact gs_find _ (List.all_eq_true.mp gs_all M hM) pc i aux tgt nn sw h
theorem sm_cv_id (v : Value) : sm_cv id v = v := by cases v <;> rfl
theorem sm_cv_ids (as : List Value) : as.map (sm_cv id) = as := by
  have : sm_cv id = id := funext sm_cv_id
  rw [this, List.map_id]
theorem sm_cv_ido (r : Option Value) : r.map (sm_cv id) = r := by cases r <;> simp [sm_cv_id]
/-- the same call in a world that shows more -/
theorem x_lift {SH1 SH2 : List sm_Sh} (hR : sm_shR id SH1 SH2) {j : Nat} {as : List Value} {σ : sm_S} {Q : Option Value → sm_S → Prop} (h : sm_C sm_TB sm_MS SH1 j as σ Q) (hp : ∀ r σ', Q r σ' → ∀ a i, ¬ sm_vis id SH1 a i → σ' a i = σ a i) : sm_C sm_TB sm_MS SH2 j as σ Q := by
  obtain ⟨M, hM, n, r, σ', hr, hq⟩ := h
  have hmem : M ∈ sm_MS := List.mem_of_getElem? hM
  obtain ⟨σ2, g1, g2, g3⟩ := sm_lift hR sm_gs n M hmem 0 _ _ σ r σ' hr σ ⟨fun _ _ _ => rfl, fun _ _ _ _ _ _ _ _ => rfl⟩
  rw [sm_ent_map, sm_cv_ids, sm_cv_ido, List.map_nil] at g1
  have e : σ2 = σ' := by
    funext a i
    by_cases hv : sm_vis id SH1 a i
    · obtain ⟨k, hk, hv⟩ := hv
      have hk : k = a := hk
      subst hk
      rcases hv with ⟨q, hq⟩ | ⟨ci, fl, t, f1, f2, f3⟩
      · exact congrFun (g2.1 k q hq) i
      · exact g2.2 k ci fl i t f1 f2 f3
    · rw [g3 a i hv, hp r σ' hq a i hv]
  rw [e] at g1
  exact ⟨M, hM, n, r, σ', g1, hq⟩
/-- what it comes to from another store that agrees -/
theorem x_det {SH1 SH2 : List sm_Sh} (hR : sm_shR id SH1 SH2) {j : Nat} {as : List Value} {σ : sm_S} {Q : Option Value → sm_S → Prop} (h : sm_C sm_TB sm_MS SH1 j as σ Q) : sm_C sm_TB sm_MS SH1 j as σ (fun r σ' => Q r σ' ∧ ∀ τ, sm_stW id SH1 σ τ → sm_C sm_TB sm_MS SH2 j as τ (fun r2 τ' => r2 = r ∧ sm_stW id SH1 σ' τ')) := by
  obtain ⟨M, hM, n, r, σ', hr, hq⟩ := h
  have hmem : M ∈ sm_MS := List.mem_of_getElem? hM
  refine ⟨M, hM, n, r, σ', hr, hq, fun τ hτ => ?_⟩
  obtain ⟨σ2, g1, g2, g3⟩ := sm_liftW hR sm_gs n M hmem 0 _ _ σ r σ' hr τ hτ
  rw [sm_ent_map, sm_cv_ids, sm_cv_ido, List.map_nil] at g1
  exact ⟨M, hM, n, r, σ2, g1, rfl, g2⟩
end
