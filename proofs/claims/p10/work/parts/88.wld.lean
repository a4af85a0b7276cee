/-! ===== worlds side by side, worlds in another order ===== -/
theorem va_D_iff {A : Nat → Prop} {ws : va_W} : va_D A ws ↔ ws.Pairwise (fun a b => a.1 ≠ b.1) ∧ ∀ q ∈ ws, A q.1 := by
  constructor
  · rintro ⟨h1, h2⟩
    refine ⟨?_, fun q hq => ?_⟩
    · rw [List.pairwise_iff_getElem]
      intro i j hi hj hij he
      have := h1 i j _ _ (List.getElem?_eq_getElem hi) (List.getElem?_eq_getElem hj) he
      omega
    · obtain ⟨i, hi⟩ := List.getElem?_of_mem hq
      exact h2 i q hi
  · rintro ⟨h1, h2⟩
    refine ⟨fun i j p q hi hj he => ?_, fun k q hk => h2 q (List.mem_of_getElem? hk)⟩
    obtain ⟨hi2, rfl⟩ := List.getElem?_eq_some_iff.mp hi
    obtain ⟨hj2, rfl⟩ := List.getElem?_eq_some_iff.mp hj
    rw [List.pairwise_iff_getElem] at h1
    rcases Nat.lt_trichotomy i j with h | h | h
    · exact absurd he (h1 i j hi2 hj2 h)
    · exact h
    · exact absurd he.symm (h1 j i hj2 hi2 h)
theorem va_D.perm {A : Nat → Prop} {ws ws' : va_W} (hp : ws.Perm ws') (h : va_D A ws) : va_D A ws' := by
  rw [va_D_iff] at h ⊢
  exact ⟨(hp.pairwise_iff (fun h => Ne.symm h)).mp h.1, fun q hq => h.2 q (hp.mem_iff.mpr hq)⟩
theorem va_P.perm {D : va_G} {cl : List vw_C} {ws ws' : va_W} {H : Heap} (hp : ws.Perm ws') (h : va_P D cl ws H) : va_P D cl ws' H := by
  intro k q hk
  obtain ⟨i, hi⟩ := List.getElem?_of_mem (hp.mem_iff.mpr (List.mem_of_getElem? hk))
  exact h i q hi
theorem va_D1 {A : Nat → Prop} {x : Nat × va_E} (h : A x.1) : va_D A [x] := by
  rw [va_D_iff]
  exact ⟨by simp, fun q hq => by rw [List.mem_singleton.mp hq]; exact h⟩
theorem free_end {A0 : Nat → Prop} {wr wc : va_W} {H0 H : Heap} {locs : List Loc} (hD : va_D A0 (wr ++ wc)) (hS : va_S A0 H0 H locs) (hA : ∀ q, H0.size ≤ q → A0 q) : ∀ q, va_A wc H.size q → A0 q := by
  rintro q (⟨k, e, h⟩ | h)
  · exact (va_D_iff.mp hD).2 (q, e) (List.mem_append_right _ (List.mem_of_getElem? h))
  · exact hA q (Nat.le_trans hS.1 h)
/-- behind a call that had the cells wc: the rest, and what came back -/
theorem join_end {A0 : Nat → Prop} {D : va_G} {cl : List vw_C} {wr wc w1 : va_W} {H H1 : Heap} (hP : va_P D cl (wr ++ wc) H) (hD : va_D A0 (wr ++ wc)) (hk : ∀ q : Nat, q < H.size → ¬ va_A wc H.size q → H1[q]? = H[q]?) (hF : ∀ q, va_A wc H.size q → A0 q) (hP1 : va_P D cl w1 H1) (hD1 : va_D (va_A wc H.size) w1) : va_P D cl (wr ++ w1) H1 ∧ va_D A0 (wr ++ w1) := by
  have hPr : va_P D cl wr H := fun k q hq => hP k q (by rw [List.getElem?_append_left (List.getElem?_eq_some_iff.mp hq).1]; exact hq)
  have apart : ∀ (k : Nat) (q : Nat × va_E), wr[k]? = some q → q.1 < H.size ∧ ¬ va_A wc H.size q.1 := by
    intro k q hq
    have hl := (hPr k q hq).lt
    have hkl := (List.getElem?_eq_some_iff.mp hq).1
    refine ⟨hl, ?_⟩
    rintro (⟨k2, e, h⟩ | h)
    · have := hD.1 k (wr.length + k2) q (q.1, e) (by rw [List.getElem?_append_left hkl]; exact hq) (by rw [List.getElem?_append_right (by omega), Nat.add_sub_cancel_left]; exact h) rfl
      omega
    · omega
  have hDr : va_D A0 wr := by
    rw [va_D_iff] at hD ⊢
    exact ⟨(List.pairwise_append.mp hD.1).1, fun q hq => hD.2 q (List.mem_append_left _ hq)⟩
  refine ⟨va_P.app (fun k q hq => (hPr k q hq).kept (hk q.1 (apart k q hq).1 (apart k q hq).2)) hP1, va_D.app hDr (hD1.weaken (fun k q _ h => hF q.1 h)) (fun i j x y hx hy hxy => ?_)⟩
  exact (apart i x hx).2 (by rw [hxy]; exact hD1.2 j y hy)
/-! two functions, one behind the other -/
def glu {α : Type} (n : Nat) (f g : Nat → α) : Nat → α := fun k => if k < n then f k else g (k - n)
theorem glu_l {α : Type} {n k : Nat} {f g : Nat → α} (h : k < n) : glu n f g k = f k := if_pos h
theorem glu_s {α : Type} {n k : Nat} {f g : Nat → α} (h : n ≤ k) : glu n f g k = g (k - n) := if_neg (by omega)
/-! a world whose addresses stand in ad, and whose pointers go by AD -/
def wlk (AD : Nat → Nat) (SH : List sm_Sh) (ad : Nat → Nat) (cA : Nat → ClassId) (σ : sm_S) : va_W := SH.mapIdx (fun k s => (ad k, sm_cell AD cA (σ k) s))
theorem wlk_W {SH : List sm_Sh} {ad : Nat → Nat} {cA : Nat → ClassId} {σ : sm_S} : sm_W SH ad cA σ = wlk ad SH ad cA σ := rfl
theorem wlk_app {AD : Nat → Nat} {P S : List sm_Sh} {f g : Nat → Nat} {cA : Nat → ClassId} {σ τ : sm_S} {n : Nat} (hn : P.length = n) : wlk AD (P ++ S) (glu n f g) cA (glu n σ τ) = wlk AD P f cA σ ++ wlk AD S g cA τ := by
  subst hn
  unfold wlk
  apply List.ext_getElem?
  intro i
  by_cases h : i < P.length
  · rw [List.getElem?_mapIdx, List.getElem?_append_left h, List.getElem?_append_left (by simpa using h), List.getElem?_mapIdx, glu_l h, glu_l h]
  · have h : P.length ≤ i := by omega
    rw [List.getElem?_mapIdx, List.getElem?_append_right h, List.getElem?_append_right (by simpa using h), List.getElem?_mapIdx, List.length_mapIdx, glu_s h, glu_s h]
def shs (o : Nat) (x : sm_Sl) : sm_Sl := match x with
  | .inl t => .inl t
  | .inr k => .inr (o + k)
def shf (o : Nat) (s : sm_Sh) : sm_Sh := match s with
  | .inl q => .inl q
  | .inr (ci, fl) => .inr (ci, fl.map (shs o))
def cls1 (n : Nat) (x : sm_Sl) : Bool := match x with
  | .inl _ => true
  | .inr k => Nat.blt k n
def clsd (n : Nat) (s : sm_Sh) : Bool := match s with
  | .inl _ => true
  | .inr (_, fl) => fl.all (cls1 n)
/-- a closed world, at other numbers in a bigger one -/
theorem wlk_shf {AD f : Nat → Nat} {SH : List sm_Sh} {cA : Nat → ClassId} {σ : sm_S} {o n : Nat} (hc : SH.all (clsd n) = true) (hA : ∀ k, k < n → AD (o + k) = f k) : wlk AD (SH.map (shf o)) f cA σ = sm_W SH f cA σ := by
  rw [wlk_W]
  unfold wlk
  apply List.ext_getElem?
  intro i
  rw [List.getElem?_mapIdx, List.getElem?_mapIdx, List.getElem?_map]
  cases h : SH[i]? with
  | none => rfl
  | some s =>
    have hs := List.all_eq_true.mp hc s (List.mem_of_getElem? h)
    show some (f i, sm_cell AD cA (σ i) (shf o s)) = some (f i, sm_cell f cA (σ i) s)
    congr 2
    cases s with
    | inl q => rfl
    | inr q =>
      obtain ⟨ci, fl⟩ := q
      show Sum.inr (ci, (fl.map (shs o)).mapIdx (sm_fs AD (σ i))) = Sum.inr (ci, fl.mapIdx (sm_fs f (σ i)))
      congr 2
      apply List.ext_getElem?
      intro j
      rw [List.getElem?_mapIdx, List.getElem?_mapIdx, List.getElem?_map]
      cases hj : fl[j]? with
      | none => rfl
      | some x =>
        have hx := List.all_eq_true.mp (show fl.all (cls1 n) = true from hs) x (List.mem_of_getElem? hj)
        show some (sm_fs AD (σ i) j (shs o x)) = some (sm_fs f (σ i) j x)
        cases x with
        | inl t => rfl
        | inr k => exact congrArg (fun z => some (Value.ref z)) (hA k (Nat.le_of_ble_eq_true hx))
theorem sm_inj {SH : List sm_Sh} {ad : Nat → Nat} {cA : Nat → ClassId} {σ : sm_S} {A : Nat → Prop} (hD : va_D A (sm_W SH ad cA σ)) : ∀ i j, i < SH.length → j < SH.length → ad i = ad j → i = j := fun i j hi hj e => hD.1 i j _ _ (sm_W_at (List.getElem?_eq_getElem hi)) (sm_W_at (List.getElem?_eq_getElem hj)) e
theorem sm_subA {SH : List sm_Sh} {ad : Nat → Nat} {cA : Nat → ClassId} {σ : sm_S} {A : Nat → Prop} (hD : va_D A (sm_W SH ad cA σ)) : ∀ q, sm_A SH ad q → A q := by
  rintro q ⟨k, hk, rfl⟩
  exact hD.2 k _ (sm_W_at (List.getElem?_eq_getElem hk))
theorem sm_DA {SH : List sm_Sh} {ad : Nat → Nat} {cA : Nat → ClassId} {σ σ' : sm_S} {A : Nat → Prop} (hD : va_D A (sm_W SH ad cA σ)) : va_D A (sm_W SH ad cA σ') := (sm_D (sm_inj hD)).weaken (fun _ q _ h => sm_subA hD q.1 h)
