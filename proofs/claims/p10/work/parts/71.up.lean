/-! ===== from the small worlds to the world of all ===== -/
def sh (ρ : Nat → Nat) (σ : sm_S) : sm_S := fun k => σ (ρ k)
def bs (β : Nat) (σ : sm_S) : sm_S := fun k => σ (β + k)
theorem x_up {ρ : Nat → Nat} {SH1 SH2 : List sm_Sh} (hR : sm_shR ρ SH1 SH2) {j : Nat} {as : List Value} {σ : sm_S} {Q : Option Value → sm_S → Prop} (h : sm_C sm_TB sm_MS SH1 j as (sh ρ σ) Q) : sm_C sm_TB sm_MS SH2 j (as.map (sm_cv ρ)) σ (fun r σ' => ∃ r1 τ, r = r1.map (sm_cv ρ) ∧ Q r1 τ ∧ sm_stR ρ SH1 τ σ' ∧ sm_off ρ SH1 σ σ') := by
  obtain ⟨M, hM, n, r, σ', hr, hq⟩ := h
  obtain ⟨σ2, g1, g2, g3⟩ := sm_lift hR sm_gs n M (List.mem_of_getElem? hM) 0 _ _ _ r σ' hr σ ⟨fun _ _ _ => rfl, fun _ _ _ _ _ _ _ _ => rfl⟩
  rw [sm_ent_map, List.map_nil] at g1
  exact ⟨M, hM, n, _, σ2, g1, r, σ', rfl, hq, g2, g3⟩
theorem x_same {ρ : Nat → Nat} {SH1 : List sm_Sh} {σ σ' : sm_S} (hs : sm_stR ρ SH1 (sh ρ σ) σ') (ho : sm_off ρ SH1 σ σ') : σ' = σ := by
  funext a i
  by_cases hv : sm_vis ρ SH1 a i
  · obtain ⟨k, rfl, hv⟩ := hv
    rcases hv with ⟨q, hq⟩ | ⟨ci, fl, t, f1, f2, f3⟩
    · exact congrFun (hs.1 k q hq) i
    · exact hs.2 k ci fl i t f1 f2 f3
  · exact ho a i hv
/-- a call that only looks -/
theorem x_up0 {ρ : Nat → Nat} {SH1 SH2 : List sm_Sh} (hR : sm_shR ρ SH1 SH2) {j : Nat} {as as' : List Value} {σ : sm_S} {P : Int32 → Prop} (ha : as.map (sm_cv ρ) = as') (h : sm_C sm_TB sm_MS SH1 j as (sh ρ σ) (sm_I (fun x τ => P x ∧ τ = sh ρ σ))) : sm_C sm_TB sm_MS SH2 j as' σ (sm_I (fun x σ' => P x ∧ σ' = σ)) := by
  subst ha
  refine (x_up hR h).mono ?_
  rintro r σ' ⟨r1, τ, rfl, ⟨x, rfl, hP, rfl⟩, hs, ho⟩
  exact ⟨x, rfl, hP, x_same hs ho⟩
theorem x_up1 {ρ : Nat → Nat} {SH1 SH2 : List sm_Sh} (hR : sm_shR ρ SH1 SH2) {j : Nat} {as as' : List Value} {σ : sm_S} (ha : as.map (sm_cv ρ) = as') (h : sm_C sm_TB sm_MS SH1 j as (sh ρ σ) (sm_I (fun _ τ => τ = sh ρ σ))) : sm_C sm_TB sm_MS SH2 j as' σ (sm_I (fun _ σ' => σ' = σ)) := by
  subst ha
  refine (x_up hR h).mono ?_
  rintro r σ' ⟨r1, τ, rfl, ⟨x, rfl, rfl⟩, hs, ho⟩
  exact ⟨x, rfl, x_same hs ho⟩
/-- what kk speaks of -/
def keR (σ σ' : sm_S) : Prop := (∀ f, f < 256 → σ' 6 f = σ 6 f) ∧ (∀ b, b < 96 → σ' 9 b = σ 9 b ∧ σ' 10 b = σ 10 b ∧ σ' 12 b = σ 12 b ∧ σ' 14 b = σ 14 b ∧ σ' 15 b = σ 15 b) ∧ (∀ s, s < 8 → σ' 18 s = σ 18 s ∧ σ' 20 s = σ 20 s ∧ σ' 23 s = σ 23 s ∧ σ' 24 s = σ 24 s) ∧ (∀ t, t < 6 → σ' 28 t = σ 28 t ∧ σ' 31 t = σ 31 t ∧ σ' 33 t = σ 33 t) ∧ σ' 26 7 = σ 26 7 ∧ σ' 39 0 = σ 39 0
theorem kk_eqr {σ σ' : sm_S} (h : keR σ σ') (hl : kl σ') (hk : kk σ) : kk σ' := by
  obtain ⟨h6, h9, h18, h28, h26, h39⟩ := h
  obtain ⟨k1, k2, k3, k4, -, k6⟩ := hk
  refine ⟨fun b hb => ?_, fun s hs => ?_, ?_, fun f hf => by rw [h6 f hf]; exact k4 f hf, hl, by rw [h39]; exact k6⟩
  · obtain ⟨e9, e10, e12, e14, e15⟩ := h9 b hb
    rcases k1 b hb with ⟨g1, g2, g3⟩ | ⟨f, o, w, he, g⟩
    · exact Or.inl ⟨e9.trans g1, e14.trans g2, e15.trans g3⟩
    · have hp := Nat.two_pow_pos o
      have := he.2.2.2.1
      refine Or.inr ⟨f, o, w, eb_cong e9 e10 e12 he, ?_⟩
      rcases g with ⟨g1, g2⟩ | ⟨t, c, q1, q2, q3, q4, q5⟩
      · exact Or.inl ⟨e14.trans g1, e15.trans g2⟩
      · exact Or.inr ⟨t, c, by rw [e14]; exact q1, q2, by rw [e15]; exact q3, q4, by rw [(h18 (f / 32) (by omega)).2.2.2]; exact q5⟩
  · obtain ⟨e18, e20, e23, e24⟩ := h18 s hs
    exact ks_cong e18 e20 e23 e24 (fun b hb _ hn => ⟨by rw [(h9 b hb).2.2.2.1]; exact hn, (h9 b hb).1⟩) (k2 s hs)
  · obtain ⟨L, l1, l2, l3, l4⟩ := k3
    refine ⟨L, by rw [h26]; exact l1, l2, fun k hk => ?_, fun t ht => ?_⟩
    · rw [(h28 k (by omega)).2.2]; exact l3 k hk
    · obtain ⟨e28, e31, -⟩ := h28 t ht
      rw [e28, e31]
      rcases l4 t ht with g | ⟨⟨k, g1, g2⟩, b, o, a, q1, q2, q3, q4, q5, q6⟩
      · exact Or.inl g
      · exact Or.inr ⟨⟨k, g1, by rw [(h28 k (by omega)).2.2]; exact g2⟩, b, o, a, q1, q2, by rw [(h9 b q1).2.2.2.1]; exact q3, by rw [(h9 b q1).2.1]; exact q4, q5, q6⟩
theorem keR_of {σ σ' : sm_S} (h : ∀ k, k < 41 → σ' k = σ k) : keR σ σ' :=
  ⟨fun f _ => by rw [h 6 (by omega)], fun b _ => ⟨by rw [h 9 (by omega)], by rw [h 10 (by omega)], by rw [h 12 (by omega)], by rw [h 14 (by omega)], by rw [h 15 (by omega)]⟩, fun s _ => ⟨by rw [h 18 (by omega)], by rw [h 20 (by omega)], by rw [h 23 (by omega)], by rw [h 24 (by omega)]⟩, fun t _ => ⟨by rw [h 28 (by omega)], by rw [h 31 (by omega)], by rw [h 33 (by omega)]⟩, by rw [h 26 (by omega)], by rw [h 39 (by omega)]⟩
theorem kk_of {σ σ' : sm_S} (h : ∀ k, k < 41 → σ' k = σ k) (hk : kk σ) : kk σ' := by
  obtain ⟨n, n1, n2⟩ := hk.2.2.2.2.1
  exact kk_eqr (keR_of h) ⟨n, n1, by rw [h 34 (by omega)]; exact n2⟩ hk
theorem kl_of {σ σ' : sm_S} (h : σ' 34 5 = σ 34 5) (hk : kl σ) : kl σ' := by
  obtain ⟨n, n1, n2⟩ := hk
  exact ⟨n, n1, by rw [h]; exact n2⟩
/-- a table of shapes against another -/
def slb (ρ : Nat → Nat) (o o' : sm_Sl) : Bool := match o, o' with
  | .inl t, .inl t' => Nat.blt 1 t || Nat.beq t t'
  | .inl t, .inr _ => Nat.blt 1 t
  | .inr k, .inr k' => Nat.beq (ρ k) k'
  | .inr _, .inl _ => false
def flb (ρ : Nat → Nat) : List sm_Sl → List sm_Sl → Bool
  | [], _ => true
  | _ :: _, [] => false
  | o :: t, o' :: t' => slb ρ o o' && flb ρ t t'
def clb (ρ : Nat → Nat) (c : sm_Sh) (c' : Option sm_Sh) : Bool := match c, c' with
  | .inl q, some (.inl q') => Nat.beq q.1 q'.1 && Nat.beq q.2 q'.2
  | .inr q, some (.inr q') => Nat.beq q.1 q'.1 && flb ρ q.2 q'.2
  | _, _ => false
def shb (ρ : Nat → Nat) (SH2 : List sm_Sh) : Nat → List sm_Sh → Bool
  | _, [] => true
  | k, c :: t => clb ρ c SH2[ρ k]? && shb ρ SH2 (k + 1) t
theorem slb_ok {ρ : Nat → Nat} {o o' : sm_Sl} (h : slb ρ o o' = true) : sm_slR ρ o o' := by
  unfold slb at h
  split at h
  · next t t' =>
    intro ht
    rw [Bool.or_eq_true] at h
    rcases h with h | h
    · have := Nat.le_of_ble_eq_true h
      omega
    · rw [Nat.eq_of_beq_eq_true h]
  · next t k =>
    intro ht
    have := Nat.le_of_ble_eq_true h
    omega
  · next k k' =>
    show Sum.inr k' = Sum.inr (ρ k)
    rw [Nat.eq_of_beq_eq_true h]
  · cases h
theorem flb_ok {ρ : Nat → Nat} : ∀ (l l' : List sm_Sl), flb ρ l l' = true → ∀ (j : Nat) (o : sm_Sl), l[j]? = some o → ∃ o', l'[j]? = some o' ∧ sm_slR ρ o o'
  | [], _, _, j, o, h => by cases j <;> cases h
  | _ :: _, [], h, _, _, _ => by cases h
  | a :: t, a' :: t', h, j, o, hj => by
    unfold flb at h
    rw [Bool.and_eq_true] at h
    cases j with
    | zero =>
      cases hj
      exact ⟨a', rfl, slb_ok h.1⟩
    | succ j => exact flb_ok t t' h.2 j o hj
theorem shb_ok {ρ : Nat → Nat} {SH2 : List sm_Sh} : ∀ (l : List sm_Sh) (n : Nat), shb ρ SH2 n l = true → ∀ (k : Nat) (c : sm_Sh), l[k]? = some c → clb ρ c SH2[ρ (n + k)]? = true
  | [], _, _, k, c, h => by cases k <;> cases h
  | a :: t, n, h, k, c, hk => by
    unfold shb at h
    rw [Bool.and_eq_true] at h
    cases k with
    | zero =>
      cases hk
      exact h.1
    | succ k =>
      have := shb_ok t (n + 1) h.2 k c hk
      rw [show n + (k + 1) = n + 1 + k by omega]
      exact this
theorem shR_of {ρ : Nat → Nat} {SH1 SH2 : List sm_Sh} (h : shb ρ SH2 0 SH1 = true) (hi : ∀ i j, i < SH1.length → j < SH1.length → ρ i = ρ j → i = j) (ha : ∀ a, 1000 ≤ a → ρ a = a) (hl : SH2.length ≤ 1000) : sm_shR ρ SH1 SH2 := by
  have key := shb_ok SH1 0 h
  refine ⟨fun k q hk => ?_, fun k ci fl hk => ?_, hi, ha, hl⟩
  · have := key k _ hk
    rw [Nat.zero_add] at this
    unfold clb at this
    split at this
    · next q1 q2 e1 e2 =>
      cases e1
      rw [e2]
      rw [Bool.and_eq_true] at this
      obtain ⟨a, b⟩ := q
      obtain ⟨a', b'⟩ := q2
      have h1 : a = a' := Nat.eq_of_beq_eq_true this.1
      have h2 : b = b' := Nat.eq_of_beq_eq_true this.2
      rw [h1, h2]
    · next e1 _ => cases e1
    · cases this
  · have := key k _ hk
    rw [Nat.zero_add] at this
    unfold clb at this
    split at this
    · next e1 _ => cases e1
    · next q1 q2 e1 e2 =>
      cases e1
      rw [Bool.and_eq_true] at this
      obtain ⟨a', fl'⟩ := q2
      have h1 : ci = a' := Nat.eq_of_beq_eq_true this.1
      subst h1
      exact ⟨fl', e2, flb_ok fl fl' this.2⟩
    · cases this
def rT (k : Nat) : Nat := if k < 42 then 43 + k else k
def r2 (a b : Nat) (k : Nat) : Nat := if k < 41 then a + k else if k < 82 then b + (k - 41) else k
def rM (k : Nat) : Nat := if k < 6 then 168 + k else k
set_option maxRecDepth 100000 in
theorem shDF : sm_shR id xD xF := shR_of (by decide +kernel) (fun _ _ _ _ h => h) (fun _ _ => rfl) (by decide)
set_option maxRecDepth 100000 in
theorem shTF : sm_shR rT xD xF := shR_of (by decide +kernel) (fun i j hi hj h => by
  have hi : i < 42 := hi
  have hj : j < 42 := hj
  unfold rT at h
  rw [if_pos hi, if_pos hj] at h
  omega) (fun a h => if_neg (by omega)) (by decide)
set_option maxRecDepth 100000 in
theorem shMF : sm_shR rM xM xF := shR_of (by decide +kernel) (fun i j hi hj h => by
  have hi : i < 6 := hi
  have hj : j < 6 := hj
  unfold rM at h
  rw [if_pos hi, if_pos hj] at h
  omega) (fun a h => if_neg (by omega)) (by decide)
set_option maxRecDepth 100000 in
theorem shNF : sm_shR rM xN xF := shR_of (by decide +kernel) (fun i j hi hj h => by
  have hi : i < 6 := hi
  have hj : j < 6 := hj
  unfold rM at h
  rw [if_pos hi, if_pos hj] at h
  omega) (fun a h => if_neg (by omega)) (by decide)
theorem r2_inj {a b : Nat} (hab : a + 41 ≤ b ∨ b + 41 ≤ a) (i j : Nat) (hi : i < 82) (hj : j < 82) (h : r2 a b i = r2 a b j) : i = j := by
  unfold r2 at h
  rw [if_pos hi, if_pos hj] at h
  split at h <;> split at h <;> omega
theorem r2_id {a b : Nat} (k : Nat) (h : 1000 ≤ k) : r2 a b k = k := by
  unfold r2
  rw [if_neg (by omega), if_neg (by omega)]
set_option maxRecDepth 100000 in
theorem shP1 : sm_shR (r2 43 0) xP xF := shR_of (by decide +kernel) (r2_inj (by omega)) r2_id (by decide)
set_option maxRecDepth 100000 in
theorem shP2 : sm_shR (r2 43 86) xP xF := shR_of (by decide +kernel) (r2_inj (by omega)) r2_id (by decide)
set_option maxRecDepth 100000 in
theorem shP3 : sm_shR (r2 86 0) xP xF := shR_of (by decide +kernel) (r2_inj (by omega)) r2_id (by decide)
set_option maxRecDepth 100000 in
theorem shP4 : sm_shR (r2 86 43) xP xF := shR_of (by decide +kernel) (r2_inj (by omega)) r2_id (by decide)
set_option maxRecDepth 100000 in
theorem shP5 : sm_shR (r2 0 127) xP xF := shR_of (by decide +kernel) (r2_inj (by omega)) r2_id (by decide)
set_option maxRecDepth 100000 in
theorem shP6 : sm_shR (r2 127 0) xP xF := shR_of (by decide +kernel) (r2_inj (by omega)) r2_id (by decide)
/-- from the small world's store to the big one's -/
theorem stD {ρ : Nat → Nat} {τ σ' : sm_S} (h : sm_stR ρ xD τ σ') : keR τ (sh ρ σ') ∧ (sh ρ σ') 34 5 = τ 34 5 := by
  have arr : ∀ (k : Nat) (q : Nat × Nat), xD[k]? = some (.inl q) → (sh ρ σ') k = τ k := fun k q hk => h.1 k q hk
  refine ⟨⟨fun f _ => by rw [arr 6 (0, 256) rfl], fun b _ => ⟨by rw [arr 9 (0, 96) rfl], by rw [arr 10 (0, 96) rfl], by rw [arr 12 (0, 96) rfl], by rw [arr 14 (0, 96) rfl], by rw [arr 15 (0, 96) rfl]⟩, fun s _ => ⟨by rw [arr 18 (0, 8) rfl], by rw [arr 20 (0, 8) rfl], by rw [arr 23 (0, 8) rfl], by rw [arr 24 (0, 8) rfl]⟩, fun t _ => ⟨by rw [arr 28 (0, 6) rfl], by rw [arr 31 (0, 6) rfl], by rw [arr 33 (0, 6) rfl]⟩, ?_, by rw [arr 39 (0, 4) rfl]⟩, ?_⟩
  · exact h.2 26 6 _ 7 0 rfl rfl (by omega)
  · exact h.2 34 3 _ 5 0 rfl rfl (by omega)
theorem stD_kk {ρ : Nat → Nat} {τ σ' : sm_S} (h : sm_stR ρ xD τ σ') (hk : kk τ) : kk (sh ρ σ') := kk_eqr (stD h).1 (kl_of (stD h).2 hk.2.2.2.2.1) hk
/-- outside of what is seen nothing changes -/
theorem off_out {ρ : Nat → Nat} {SH1 : List sm_Sh} {n : Nat} (hn : SH1.length = n) {σ σ' : sm_S} (h : sm_off ρ SH1 σ σ') {a : Nat} (ha : ∀ k, k < n → ρ k ≠ a) : σ' a = σ a := by
  funext i
  refine h a i ?_
  rintro ⟨k, hk, hv⟩
  have hlt : k < SH1.length := by
    rcases hv with ⟨q, hq⟩ | ⟨ci, fl, t, f1, -⟩
    · exact (List.getElem?_eq_some_iff.mp hq).1
    · exact (List.getElem?_eq_some_iff.mp f1).1
  exact ha k (by omega) hk
/-- now: calls that change -/
theorem nwK {j : Nat} {as : List Value} {σ : sm_S} {P : Int32 → sm_S → Prop} (hP : ∀ x τ, P x τ → kk τ) (h : xC xD j as σ (sm_I P)) : xC xF j as σ (sm_I (fun _ σ' => kk σ' ∧ ∀ a, 42 ≤ a → σ' a = σ a)) := by
  refine sm_C.mono (sm_cv_ids as ▸ x_up shDF h) ?_
  rintro r σ' ⟨r1, τ, rfl, ⟨x, rfl, hx⟩, hs, ho⟩
  exact ⟨x, rfl, stD_kk hs (hP x τ hx), fun a ha => off_out (n := 42) rfl ho (fun k hk z => by have z : k = a := z; omega)⟩
theorem nwV {j : Nat} {as : List Value} {σ : sm_S} {P : sm_S → Prop} (hP : ∀ τ, P τ → kk τ) (h : xC xD j as σ (sm_V P)) : xC xF j as σ (sm_V (fun σ' => kk σ' ∧ ∀ a, 42 ≤ a → σ' a = σ a)) := by
  refine sm_C.mono (sm_cv_ids as ▸ x_up shDF h) ?_
  rintro r σ' ⟨r1, τ, rfl, ⟨rfl, hx⟩, hs, ho⟩
  exact ⟨rfl, stD_kk hs (hP τ hx), fun a ha => off_out (n := 42) rfl ho (fun k hk z => by have z : k = a := z; omega)⟩
theorem nw0 {j : Nat} {as : List Value} {σ : sm_S} {P : Int32 → Prop} (h : xC xD j as σ (sm_I (fun x τ => P x ∧ τ = σ))) : xC xF j as σ (sm_I (fun x σ' => P x ∧ σ' = σ)) := x_up0 shDF (sm_cv_ids as) h
theorem nw1 {j : Nat} {as : List Value} {σ : sm_S} (h : xC xD j as σ (sm_I (fun _ τ => τ = σ))) : xC xF j as σ (sm_I (fun _ σ' => σ' = σ)) := x_up1 shDF (sm_cv_ids as) h
/-- the trial -/
theorem rT_bs {σ : sm_S} (k : Nat) (hk : k < 41) : sh rT σ k = bs 43 σ k := by
  show σ (rT k) = σ (43 + k)
  unfold rT
  rw [if_pos (by omega)]
theorem tr_kk {σ : sm_S} : kk (sh rT σ) → kk (bs 43 σ) := kk_of (fun k hk => (rT_bs k hk).symm)
theorem kk_tr {σ : sm_S} : kk (bs 43 σ) → kk (sh rT σ) := kk_of (fun k hk => rT_bs k hk)
theorem rT_out {a : Nat} (h : a < 43 ∨ 85 ≤ a) : ∀ k, k < 42 → rT k ≠ a := by
  intro k hk
  unfold rT
  rw [if_pos hk]
  omega
theorem trK {j : Nat} {as as' : List Value} {σ : sm_S} {P : Int32 → sm_S → Prop} (ha : as.map (sm_cv rT) = as') (hP : ∀ x τ, P x τ → kk τ) (h : xC xD j as (sh rT σ) (sm_I P)) : xC xF j as' σ (sm_I (fun _ σ' => kk (bs 43 σ') ∧ ∀ a, a < 43 ∨ 85 ≤ a → σ' a = σ a)) := by
  subst ha
  refine (x_up shTF h).mono ?_
  rintro r σ' ⟨r1, τ, rfl, ⟨x, rfl, hx⟩, hs, ho⟩
  exact ⟨x, rfl, tr_kk (stD_kk hs (hP x τ hx)), fun a ha => off_out (n := 42) rfl ho (rT_out ha)⟩
theorem trV {j : Nat} {as as' : List Value} {σ : sm_S} {P : sm_S → Prop} (ha : as.map (sm_cv rT) = as') (hP : ∀ τ, P τ → kk τ) (h : xC xD j as (sh rT σ) (sm_V P)) : xC xF j as' σ (sm_V (fun σ' => kk (bs 43 σ') ∧ ∀ a, a < 43 ∨ 85 ≤ a → σ' a = σ a)) := by
  subst ha
  refine (x_up shTF h).mono ?_
  rintro r σ' ⟨r1, τ, rfl, ⟨rfl, hx⟩, hs, ho⟩
  exact ⟨rfl, tr_kk (stD_kk hs (hP τ hx)), fun a ha => off_out (n := 42) rfl ho (rT_out ha)⟩
