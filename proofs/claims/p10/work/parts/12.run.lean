/-! ===== what it comes to (sm_run), that it comes to something good (sm_E, sm_C), and how that is shown (sm_wp) ===== -/
def sm_ent (M : sm_M) (as : List Value) : List Value := as ++ List.replicate (M.2.2.1 - as.length) .null
noncomputable def sm_if {α : Type} (c : Prop) (a b : α) : α := @ite α c (Classical.propDecidable c) a b
theorem sm_if_t {α : Type} {c : Prop} {a b : α} (h : c) : sm_if c a b = a := if_pos h
theorem sm_if_f {α : Type} {c : Prop} {a b : α} (h : ¬ c) : sm_if c a b = b := if_neg h
abbrev sm_X : Type := Option (Option Value × sm_S)
noncomputable def sm_cll (MS : List sm_M) (run : sm_M → Nat → List Value → List Value → sm_S → sm_X) (j : Nat) (as : List Value) (σ : sm_S) (k : Option Value → sm_S → sm_X) : sm_X := match MS[j]? with
  | none => none
  | some M' => match run M' 0 (sm_ent M' as) [] σ with
    | none => none
    | some (r, σ') => k r σ'
noncomputable def sm_run (TB : List (List Int32)) (MS : List sm_M) (SH : List sm_Sh) : Nat → sm_M → Nat → List Value → List Value → sm_S → sm_X
  | 0, _, _, _, _, _ => none
  | n + 1, M, pc, ls, st, σ => sm_g TB SH M none (fun c a => sm_if c a none) (fun σ k => k σ) (fun c a b => sm_if c a b)
      (sm_cll MS (sm_run TB MS SH n)) (fun r σ => some (r, σ)) (fun pc ls st σ => sm_run TB MS SH n M pc ls st σ) pc ls st σ
section RUN
variable {TB : List (List Int32)} {MS : List sm_M} {SH : List sm_Sh}
/-- more steps change nothing -/
theorem sm_run_up : ∀ (n : Nat) (M : sm_M) (pc : Nat) (ls st : List Value) (σ : sm_S) (x : Option Value × sm_S), sm_run TB MS SH n M pc ls st σ = some x → sm_run TB MS SH (n + 1) M pc ls st σ = some x
  | 0, _, _, _, _, _, _, h => by cases h
  | n + 1, M, pc, ls, st, σ, x, h => by
    have ih := sm_run_up n
    have key := sm_g_par (TB := TB) (SH := SH) (M := M) (ρ := fun (a b : sm_X) => ∀ x, a = some x → b = some x)
      (bad := none) (need := fun c a => sm_if c a none) (nam := fun σ k => k σ) (br := fun c a b => sm_if c a b) (call := sm_cll MS (sm_run TB MS SH n)) (ret := fun r σ => some (r, σ)) (K := fun pc ls st σ => sm_run TB MS SH n M pc ls st σ)
      (bad' := none) (need' := fun c a => sm_if c a none) (nam' := fun σ k => k σ) (br' := fun c a b => sm_if c a b) (call' := sm_cll MS (sm_run TB MS SH (n + 1))) (ret' := fun r σ => some (r, σ)) (K' := fun pc ls st σ => sm_run TB MS SH (n + 1) M pc ls st σ)
      (fun _ h => h) (fun c a b hab x h => by
        by_cases hc : c
        · rw [sm_if_t hc] at h ⊢; exact hab x h
        · rw [sm_if_f hc] at h; cases h)
      (fun σ k k' hk x h => hk σ x h)
      (fun c a a' b b' h1 h2 x h => by
        by_cases hc : c
        · rw [sm_if_t hc] at h ⊢; exact h1 x h
        · rw [sm_if_f hc] at h ⊢; exact h2 x h)
      (fun j as σ k k' hk x h => by
        unfold sm_cll at h ⊢
        split at h
        · cases h
        · next M' hM =>
          split at h
          · cases h
          · next r σ' hr =>
            simp only [ih _ _ _ _ _ _ hr]
            exact hk r σ' x h)
      (fun _ _ _ h => h) (fun _ _ _ _ _ h => ih _ _ _ _ _ _ h) pc ls st σ
    exact key x h
theorem sm_run_le {n n' : Nat} (hn : n ≤ n') {M : sm_M} {pc : Nat} {ls st : List Value} {σ : sm_S} {x : Option Value × sm_S} (h : sm_run TB MS SH n M pc ls st σ = some x) : sm_run TB MS SH n' M pc ls st σ = some x := by
  induction hn with
  | refl => exact h
  | step _ ih => exact sm_run_up _ _ _ _ _ _ _ ih
end RUN
/-- from here the method comes to an end, with Q -/
def sm_E (TB : List (List Int32)) (MS : List sm_M) (SH : List sm_Sh) (M : sm_M) (pc : Nat) (ls st : List Value) (σ : sm_S) (Q : Option Value → sm_S → Prop) : Prop :=
  ∃ n r σ', sm_run TB MS SH n M pc ls st σ = some (r, σ') ∧ Q r σ'
/-- the call of method j comes to an end, with Q -/
def sm_C (TB : List (List Int32)) (MS : List sm_M) (SH : List sm_Sh) (j : Nat) (as : List Value) (σ : sm_S) (Q : Option Value → sm_S → Prop) : Prop :=
  ∃ M, MS[j]? = some M ∧ sm_E TB MS SH M 0 (sm_ent M as) [] σ Q
section EC
variable {TB : List (List Int32)} {MS : List sm_M} {SH : List sm_Sh} {M : sm_M} {pc j : Nat} {ls st as : List Value} {σ : sm_S} {Q Q' : Option Value → sm_S → Prop}
theorem sm_E.mono (h : sm_E TB MS SH M pc ls st σ Q) (hq : ∀ r σ', Q r σ' → Q' r σ') : sm_E TB MS SH M pc ls st σ Q' := by
  obtain ⟨n, r, σ', h1, h2⟩ := h
  exact ⟨n, r, σ', h1, hq _ _ h2⟩
theorem sm_E.and (h : sm_E TB MS SH M pc ls st σ Q) (h' : sm_E TB MS SH M pc ls st σ Q') : sm_E TB MS SH M pc ls st σ (fun r σ' => Q r σ' ∧ Q' r σ') := by
  obtain ⟨n, r, σ', h1, h2⟩ := h
  obtain ⟨m, r2, σ2, h3, h4⟩ := h'
  have e1 := sm_run_le (Nat.le_add_right n m) h1
  have e2 := sm_run_le (Nat.le_add_left m n) h3
  rw [e1] at e2
  cases e2
  exact ⟨n, r, σ', h1, h2, h4⟩
theorem sm_C.mono (h : sm_C TB MS SH j as σ Q) (hq : ∀ r σ', Q r σ' → Q' r σ') : sm_C TB MS SH j as σ Q' := by
  obtain ⟨M, h1, h2⟩ := h
  exact ⟨M, h1, h2.mono hq⟩
theorem sm_C.and (h : sm_C TB MS SH j as σ Q) (h' : sm_C TB MS SH j as σ Q') : sm_C TB MS SH j as σ (fun r σ' => Q r σ' ∧ Q' r σ') := by
  obtain ⟨M, h1, h2⟩ := h
  obtain ⟨M', h3, h4⟩ := h'
  rw [h1] at h3
  cases h3
  exact ⟨M, h1, h2.and h4⟩
end EC
/-- it answers an int, with P; it answers nothing, with P -/
def sm_I (P : Int32 → sm_S → Prop) (r : Option Value) (σ : sm_S) : Prop := ∃ x, r = some (.int x) ∧ P x σ
def sm_V (P : sm_S → Prop) (r : Option Value) (σ : sm_S) : Prop := r = none ∧ P σ
theorem sm_C.int {TB : List (List Int32)} {MS : List sm_M} {SH : List sm_Sh} {j : Nat} {as : List Value} {σ : sm_S} {P R : Int32 → sm_S → Prop} (h : sm_C TB MS SH j as σ (sm_I P)) (k : ∀ x σ', P x σ' → R x σ') : sm_C TB MS SH j as σ (sm_ri False R) :=
  h.mono (by rintro r σ' ⟨x, rfl, hx⟩; exact k x σ' hx)
theorem sm_C.void {TB : List (List Int32)} {MS : List sm_M} {SH : List sm_Sh} {j : Nat} {as : List Value} {σ : sm_S} {P R : sm_S → Prop} (h : sm_C TB MS SH j as σ (sm_V P)) (k : ∀ σ', P σ' → R σ') : sm_C TB MS SH j as σ (sm_rv False R) :=
  h.mono (by rintro r σ' ⟨rfl, hx⟩; exact k σ' hx)
def sm_mem : List Nat → Nat → Bool
  | [], _ => false
  | a :: t, x => bif Nat.beq a x then true else sm_mem t x
/-- enough for sm_E: n instructions further, or up to the first place in cs, or to the end -/
def sm_wp (TB : List (List Int32)) (MS : List sm_M) (SH : List sm_Sh) (cs : List Nat) : Nat → sm_M → Nat → List Value → List Value → sm_S → (Option Value → sm_S → Prop) → Prop
  | 0, M, pc, ls, st, σ, Q => sm_E TB MS SH M pc ls st σ Q
  | n + 1, M, pc, ls, st, σ, Q => sm_g TB SH M False (fun c a => c ∧ a) (fun σ k => ∀ σ', σ' = σ → k σ') (fun c a b => (c → a) ∧ (¬ c → b))
      (fun j as σ k => sm_C TB MS SH j as σ k) (fun r σ => Q r σ)
      (fun pc ls st σ => bif sm_mem cs pc then sm_E TB MS SH M pc ls st σ Q else sm_wp TB MS SH cs n M pc ls st σ Q) pc ls st σ
section WP
variable {TB : List (List Int32)} {MS : List sm_M} {SH : List sm_Sh}
/-- A is enough for the runs B to come to Q -/
def sm_Rel (Q : Option Value → sm_S → Prop) (A : Prop) (B : Nat → sm_X) : Prop := A → ∃ n r σ', (∀ n', n ≤ n' → B n' = some (r, σ')) ∧ Q r σ'
theorem sm_wp_E (cs : List Nat) : ∀ (n : Nat) {M : sm_M} {pc : Nat} {ls st : List Value} {σ : sm_S} {Q : Option Value → sm_S → Prop}, sm_wp TB MS SH cs n M pc ls st σ Q → sm_E TB MS SH M pc ls st σ Q
  | 0, _, _, _, _, _, _, h => h
  | n + 1, M, pc, ls, st, σ, Q, h => by
    have ih := fun {pc : Nat} {ls st : List Value} {σ : sm_S} => sm_wp_E cs n (M := M) (pc := pc) (ls := ls) (st := st) (σ := σ) (Q := Q)
    have key := sm_g_par (TB := TB) (SH := SH) (M := M) (ρ := sm_Rel Q)
      (bad := False) (need := fun c a => c ∧ a) (nam := fun σ k => ∀ σ', σ' = σ → k σ') (br := fun c a b => (c → a) ∧ (¬ c → b)) (call := fun j as σ k => sm_C TB MS SH j as σ k) (ret := fun r σ => Q r σ) (K := fun pc ls st σ => bif sm_mem cs pc then sm_E TB MS SH M pc ls st σ Q else sm_wp TB MS SH cs n M pc ls st σ Q)
      (bad' := fun _ => none) (need' := fun c a n => sm_if c (a n) none) (nam' := fun σ k => k σ) (br' := fun c a b n => sm_if c (a n) (b n)) (call' := fun j as σ k n => sm_cll MS (sm_run TB MS SH n) j as σ (fun r σ' => k r σ' n)) (ret' := fun r σ _ => some (r, σ)) (K' := fun pc ls st σ n => sm_run TB MS SH n M pc ls st σ)
      (fun h => h.elim) (fun c a b hab h => by
        obtain ⟨hc, ha⟩ := h
        obtain ⟨n, r, σ', h1, h2⟩ := hab ha
        exact ⟨n, r, σ', fun n' hn => (sm_if_t hc).trans (h1 n' hn), h2⟩)
      (fun σ k k' hk h => hk σ (h σ rfl))
      (fun c a a' b b' h1 h2 h => by
        by_cases hc : c
        · obtain ⟨n, r, σ', g1, g2⟩ := h1 (h.1 hc)
          exact ⟨n, r, σ', fun n' hn => (sm_if_t hc).trans (g1 n' hn), g2⟩
        · obtain ⟨n, r, σ', g1, g2⟩ := h2 (h.2 hc)
          exact ⟨n, r, σ', fun n' hn => (sm_if_f hc).trans (g1 n' hn), g2⟩)
      (fun j as σ k k' hk h => by
        obtain ⟨M', hM, n1, r1, σ1, g1, g2⟩ := h
        obtain ⟨n2, r, σ', g3, g4⟩ := hk r1 σ1 g2
        refine ⟨n1 + n2, r, σ', fun n' hn => ?_, g4⟩
        unfold sm_cll
        simp only [hM, sm_run_le (show n1 ≤ n' by omega) g1]
        exact g3 n' (by omega))
      (fun r σ h => ⟨0, r, σ, fun _ _ => rfl, h⟩)
      (fun pc ls st σ h => by
        have hE : sm_E TB MS SH M pc ls st σ Q := by
          revert h
          cases sm_mem cs pc
          · exact fun h => ih h
          · exact fun h => h
        obtain ⟨n, r, σ', g1, g2⟩ := hE
        exact ⟨n, r, σ', fun n' hn => sm_run_le hn g1, g2⟩) pc ls st σ
    obtain ⟨n1, r, σ', h1, h2⟩ := key h
    have eq := sm_g_par (TB := TB) (SH := SH) (M := M) (ρ := fun (a : Nat → sm_X) (b : sm_X) => a n1 = b)
      (bad := fun _ => none) (need := fun c a n => sm_if c (a n) none) (nam := fun σ k => k σ) (br := fun c a b n => sm_if c (a n) (b n)) (call := fun j as σ k n => sm_cll MS (sm_run TB MS SH n) j as σ (fun r σ' => k r σ' n)) (ret := fun r σ _ => some (r, σ)) (K := fun pc ls st σ n => sm_run TB MS SH n M pc ls st σ)
      (bad' := none) (need' := fun c a => sm_if c a none) (nam' := fun σ k => k σ) (br' := fun c a b => sm_if c a b) (call' := sm_cll MS (sm_run TB MS SH n1)) (ret' := fun r σ => some (r, σ)) (K' := fun pc ls st σ => sm_run TB MS SH n1 M pc ls st σ)
      rfl (fun c a b h => by simp only [h]) (fun σ k k' h => h σ) (fun c a a' b b' h1 h2 => by simp only [h1, h2])
      (fun j as σ k k' h => by
        show sm_cll MS (sm_run TB MS SH n1) j as σ (fun r σ' => k r σ' n1) = _
        congr 1
        funext r σ'
        exact h r σ') (fun _ _ => rfl) (fun _ _ _ _ => rfl) pc ls st σ
    exact ⟨n1 + 1, r, σ', eq.symm.trans (h1 n1 (Nat.le_refl n1)), h2⟩
/-- a call, by its method's instructions -/
theorem sm_wp_C {j : Nat} {M : sm_M} (hj : MS[j]? = some M) (cs : List Nat) (n : Nat) {as : List Value} {σ : sm_S} {Q : Option Value → sm_S → Prop} (h : sm_wp TB MS SH cs n M 0 (sm_ent M as) [] σ Q) : sm_C TB MS SH j as σ Q := ⟨M, hj, sm_wp_E cs n h⟩
end WP
