/-! ===== the simulation: the line of a block is served, both runs ===== -/
def clr (w : Nat → Int32) (ts : List Int32) : Nat → Int32 := ts.foldl (fun w t => upd w t.toNatClampNeg (-1)) w
theorem clr_s (w : Nat → Int32) (ts : List Int32) (t : Int32) : clr w (ts ++ [t]) = upd (clr w ts) t.toNatClampNeg (-1) := by
  unfold clr
  rw [List.foldl_append]
  rfl
theorem clr_out {i : Nat} : ∀ (ts : List Int32) (w : Nat → Int32), (∀ x, x ∈ ts → x.toNatClampNeg ≠ i) → clr w ts i = w i
  | [], w, _ => rfl
  | t :: ts, w, h => by
    show clr (upd w t.toNatClampNeg (-1)) ts i = w i
    rw [clr_out ts _ (fun x hx => h x (List.mem_cons_of_mem _ hx)), u_ne (Ne.symm (h t List.mem_cons_self))]
theorem clr_in {i : Nat} : ∀ (ts : List Int32) (w : Nat → Int32), (w i = -1 ∨ ∃ x, x ∈ ts ∧ x.toNatClampNeg = i) → clr w ts i = -1
  | [], w, h => by
    rcases h with h | ⟨x, h, -⟩
    · exact h
    · exact absurd h List.not_mem_nil
  | t :: ts, w, h => by
    show clr (upd w t.toNatClampNeg (-1)) ts i = -1
    refine clr_in ts _ ?_
    by_cases e : i = t.toNatClampNeg
    · exact Or.inl (by rw [e, u_at])
    · rcases h with h | ⟨x, h1, h2⟩
      · exact Or.inl (by rw [u_ne e]; exact h)
      · rcases List.mem_cons.mp h1 with h1 | h1
        · subst h1
          exact absurd h2.symm e
        · exact Or.inr ⟨x, h1, h2⟩
def ovV (w : Nat → Int32) (ts : List Int32) : Nat → Int32 := ts.foldl (fun w t => upd w (2322 + 6 * t.toNatClampNeg + 1) 0) w
theorem ovV_s (w : Nat → Int32) (ts : List Int32) (t : Int32) : ovV w (ts ++ [t]) = upd (ovV w ts) (2322 + 6 * t.toNatClampNeg + 1) 0 := by
  unfold ovV
  rw [List.foldl_append]
  rfl
theorem ovV_out {i : Nat} : ∀ (ts : List Int32) (w : Nat → Int32), (∀ x, x ∈ ts → i ≠ 2322 + 6 * x.toNatClampNeg + 1) → ovV w ts i = w i
  | [], w, _ => rfl
  | t :: ts, w, h => by
    show ovV (upd w (2322 + 6 * t.toNatClampNeg + 1) 0) ts i = w i
    rw [ovV_out ts _ (fun x hx => h x (List.mem_cons_of_mem _ hx)), u_ne (h t List.mem_cons_self)]
theorem ovV_in {i : Nat} : ∀ (ts : List Int32) (w : Nat → Int32), (w i = 0 ∨ ∃ x, x ∈ ts ∧ i = 2322 + 6 * x.toNatClampNeg + 1) → ovV w ts i = 0
  | [], w, h => by
    rcases h with h | ⟨x, h, -⟩
    · exact h
    · exact absurd h List.not_mem_nil
  | t :: ts, w, h => by
    show ovV (upd w (2322 + 6 * t.toNatClampNeg + 1) 0) ts i = 0
    refine ovV_in ts _ ?_
    by_cases e : i = 2322 + 6 * t.toNatClampNeg + 1
    · exact Or.inl (by rw [e, u_at])
    · rcases h with h | ⟨x, h1, h2⟩
      · exact Or.inl (by rw [u_ne e]; exact h)
      · rcases List.mem_cons.mp h1 with h1 | h1
        · subst h1
          exact absurd h2 e
        · exact Or.inr ⟨x, h1, h2⟩
theorem doF_u {v : Nat → Int32} {t n fr a i : Nat} {tI what x y : Int32} (h5 : i ≠ 786 + 16 * n + 5) (h8 : i ≠ 786 + 16 * n + 8) (h6 : i ≠ 6) (ht : i ≠ 2322 + 6 * t + 5) (hf : i ≠ 18 + 3 * (fr + a) + 2) : doF (upd v i y) t n fr a tI what x = upd (doF v t n fr a tI what x) i y := by
  unfold doF usF
  by_cases e2 : what = 2
  · rw [if_pos e2, if_pos e2, u_ne (Ne.symm h5), u_com h5]
  · rw [if_neg e2, if_neg e2]
    by_cases e0 : what = 0
    · rw [if_pos e0, if_pos e0, u_ne (Ne.symm h6), u_com h6, u_com h8, u_ne (Ne.symm hf), u_com ht]
    · rw [if_neg e0, if_neg e0, u_ne (Ne.symm h6), u_com h6, u_com h8, u_com hf]
theorem wrF_u {v : Nat → Int32} {N i : Nat} {a b c y : Int32} (h : i < 2422) (h4 : i ≠ 4) (h5 : i ≠ 5) : wrF (upd v i y) N a b c = upd (wrF v N a b c) i y := by
  unfold wrF
  rw [u_ne (Ne.symm h4), u_ne (Ne.symm h5), u_com (show i ≠ 2422 + 4 * (N % 60) by omega), u_com (show i ≠ 2422 + 4 * (N % 60) + 1 by omega), u_com (show i ≠ 2422 + 4 * (N % 60) + 2 by omega), u_com (show i ≠ 2422 + 4 * (N % 60) + 3 by omega), u_com h5]
theorem sv1V_u {b t y : Int32} {n fr m a i : Nat} {v : Nat → Int32} (hn : n < 96) (ht : t.toInt = m) (hm : m < 6) (ha : (v (2322 + 6 * m + 3)).toInt = a) (hf : fr + a < 256) (hi : i = 786 + 16 * n + 9 ∨ ∃ k, i = 2322 + 6 * k + 1 ∧ k < 6) : sv1V b n fr (upd v i y) t = upd (sv1V b n fr v t) i y := by
  have hb : 786 ≤ i ∧ i < 2422 ∧ i ≠ 786 + 16 * n + 5 ∧ i ≠ 786 + 16 * n + 8 ∧ i ≠ 2322 + 6 * m + 5 ∧ i ≠ 2322 + 6 * m + 2 ∧ i ≠ 2322 + 6 * m + 3 ∧ i ≠ 2322 + 6 * m + 4 := by
    rcases hi with hi | ⟨k, hi, hk⟩ <;> omega
  obtain ⟨i1, i2, i3, i4, i5, i6, i7, i8⟩ := hb
  unfold sv1V
  rw [t_nat ht, u_ne (Ne.symm i6), u_ne (Ne.symm i7), u_ne (Ne.symm i8), u_ne (show 5 ≠ i by omega), t_nat ha, doF_u i3 i4 (by omega) i5 (by omega), wrF_u i2 (by omega) (by omega)]
theorem sv1V_ov {b t : Int32} {n fr m a : Nat} (hn : n < 96) (ht : t.toInt = m) (hm : m < 6) (hf : fr + a < 256) : ∀ (ts : List Int32) (v : Nat → Int32), (∀ x, x ∈ ts → ∃ k : Nat, x.toInt = k ∧ k < 6) → (v (2322 + 6 * m + 3)).toInt = a → sv1V b n fr (ovV v ts) t = ovV (sv1V b n fr v t) ts
  | [], v, _, _ => rfl
  | x :: ts, v, h, ha => by
    obtain ⟨k, k1, k2⟩ := h x List.mem_cons_self
    show sv1V b n fr (ovV (upd v (2322 + 6 * x.toNatClampNeg + 1) 0) ts) t = ovV (upd (sv1V b n fr v t) (2322 + 6 * x.toNatClampNeg + 1) 0) ts
    rw [t_nat k1, sv1V_ov hn ht hm hf ts _ (fun x hx => h x (List.mem_cons_of_mem _ hx)) (by rw [u_ne (by omega)]; exact ha), sv1V_u hn ht hm ha hf (Or.inr ⟨k, rfl, k2⟩)]
/-- the row when the list ts has been served, of the line of block n -/
def wkF (b : Int32) (n fr : Nat) (v : Nat → Int32) (ts : List Int32) : Nat → Int32 := ovV (upd (svV b n fr v ts) (786 + 16 * n + 9) 0) ts
theorem l_wakes2 {g : Prop} {N n fr L : Nat} {c : sm_S} {v : Nat → Int32} {b a2 : Int32} (h : tie g N c v) (hN : N + L < 2000000000) (hn : n < 96) (hb : b.toInt = n) (h2 : a2.toInt = L) (hL : L ≤ 6) (h0 : v (786 + 16 * n + 0) = 1) (hfr : (v (786 + 16 * n + 1)).toInt = fr) (hs : ∀ t, t ∈ lnV v n L → srvd c fr t) : ∀ (d k : Nat) (a3 : Int32) (v4 v5 : Value) (σ : sm_S), a3.toInt = k → k + d = L → σ 1 = wkF b n fr v (lnV v n k) → xE xM m_M_wakes 18 [.ref 0, .int b, .int a2, .int a3, v4, v5] [] σ (sm_V (fun σ' => σ' = sm_set σ 1 (wkF b n fr v (lnV v n L)))) := by
  have pre : ∀ k, k ≤ L → ∀ t, t ∈ lnV v n k → t ∈ lnV v n L := fun k hk t ht => by
    unfold lnV at ht ⊢
    obtain ⟨j, j1, j2⟩ := List.mem_map.mp ht
    exact List.mem_map.mpr ⟨j, List.mem_range.mpr (by have := List.mem_range.mp j1; omega), j2⟩
  intro d
  induction d with
  | zero =>
    intro k a3 v4 v5 σ h3 hk hσ
    have hk : k = L := by omega
    subst hk
    refine w_M_wakes_18 b a2 a3 v4 v5 σ _ ⟨fun _ => ⟨rfl, ?_⟩, fun q => absurd (by rw [t_le, h2, h3]; omega) q⟩
    rw [← hσ, s_id]
  | succ d ih =>
    intro k a3 v4 v5 σ h3 hk hσ
    have h3' : (a3 + 1).toInt = ((k + 1 : Nat) : Int) := by
      rw [t_add h3 (y := 1) rfl (by omega) (by omega)]
      omega
    have h10 : (10 + a3).toInt = ((10 + k : Nat) : Int) := by
      rw [t_add (x := 10) rfl h3 (by omega) (by omega)]
      omega
    have lk := lnV_len v n k
    obtain ⟨tk, fk⟩ := tie_sv (b := b) hn (lnV v n k) N c v h (by omega) h0 (fun t ht => hs t (pre k (by omega) t ht))
    have mem : v (786 + 16 * n + (10 + k)) ∈ lnV v n L := by
      unfold lnV
      exact List.mem_map.mpr ⟨k, List.mem_range.mpr (by omega), rfl⟩
    obtain ⟨m, a, hm, htm, hw, ha, hfa⟩ := hs _ mem
    have nov : ∀ i, (∀ q, q < 6 → i ≠ 2322 + 6 * q + 1) → i ≠ 786 + 16 * n + 9 → wkF b n fr v (lnV v n k) i = svV b n fr v (lnV v n k) i := fun i h1 h2 => by
      unfold wkF
      rw [ovV_out _ _ (fun x hx => ?_), u_ne h2]
      obtain ⟨m2, a2, q1, q2, -⟩ := hs x (pre k (by omega) x hx)
      rw [t_nat q2]
      exact h1 m2 q1
    have fxB : ∀ j, j < 16 → j ≠ 5 → j ≠ 8 → j ≠ 9 → wkF b n fr v (lnV v n k) (786 + 16 * n + j) = v (786 + 16 * n + j) := fun j j1 j2 j3 j4 => by
      rw [nov _ (fun q hq => by omega) (by omega)]
      exact fk _ (Or.inr (Or.inr (Or.inl ⟨n, j, hn, j1, j2, j3, rfl⟩)))
    have fxT : ∀ j, 2 ≤ j → j < 5 → svV b n fr v (lnV v n k) (2322 + 6 * m + j) = v (2322 + 6 * m + j) := fun j j1 j2 => fk _ (Or.inr (Or.inr (Or.inr (Or.inl ⟨m, j, hm, by omega, rfl⟩))))
    have T := h.s.T m hm
    have at3 : (v (2322 + 6 * m + 3)).toInt = a := by rw [T.wat hw]; exact ha
    refine w_M_wakes_18 b a2 a3 v4 v5 σ _ ⟨fun q => ?_, fun _ => (c_of hb h10 (by omega) σ).int ?_⟩
    · rw [t_le, h2, h3] at q
      omega
    · rintro _ σ ⟨rfl, rfl⟩
      rw [hσ, fxB (10 + k) (by omega) (by omega) (by omega) (by omega)]
      refine (c_taskAt _ σ).int ?_
      rintro _ σ ⟨rfl, rfl⟩
      obtain ⟨p1, q1⟩ := ixT (k := 1) (j := 1) htm rfl (by omega)
      obtain ⟨p2, q2⟩ := ixT (k := 2) (j := 2) htm rfl (by omega)
      obtain ⟨p3, q3⟩ := ixT (k := 3) (j := 3) htm rfl (by omega)
      obtain ⟨p4, q4⟩ := ixT (k := 4) (j := 4) htm rfl (by omega)
      refine ⟨p1, fun σ5 e5 => ?_⟩
      have tsn : lnV v n (k + 1) = lnV v n k ++ [v (786 + 16 * n + (10 + k))] := lnV_s v n k
      have row : upd (wkF b n fr v (lnV v n k)) (2322 + 6 * m + 1) 0 = ovV (upd (svV b n fr v (lnV v n k)) (786 + 16 * n + 9) 0) (lnV v n (k + 1)) := by
        rw [tsn, ovV_s, t_nat htm]
        rfl
      rw [q1, hσ, row] at e5
      have xs : ∀ x, x ∈ lnV v n (k + 1) → ∃ q : Nat, x.toInt = q ∧ q < 6 := fun x hx => by
        obtain ⟨m2, -, r1, r2, -⟩ := hs x (pre (k + 1) (by omega) x hx)
        exact ⟨m2, r2, r1⟩
      have out : ∀ i, (∀ q, q < 6 → i ≠ 2322 + 6 * q + 1) → i ≠ 786 + 16 * n + 9 → σ5 1 i = svV b n fr v (lnV v n k) i := fun i h1 h2 => by
        rw [e5, s_at, ovV_out _ _ (fun x hx => ?_), u_ne h2]
        obtain ⟨q, r1, r2⟩ := xs x hx
        rw [t_nat r1]
        exact h1 q r2
      rw [q2, q3, q4]
      refine ⟨p2, p3, p4, ?_⟩
      have o3 : σ5 1 (2322 + 6 * m + 3) = v (2322 + 6 * m + 3) := by rw [out _ (fun q hq => by omega) (by omega), fxT 3 (by omega) (by omega)]
      have o5 : σ5 1 5 = svV b n fr v (lnV v n k) 5 := out _ (fun q hq => by omega) (by omega)
      have s5 : (σ5 1 5).toInt = ((N + k : Nat) : Int) := by
        rw [o5, tk.n, lk]
      refine (c_does2 htm hm hb hn (a := a) (by rw [o3]; exact at3) _ _ σ5 (fr := fr) ?_ hfa).void ?_
      · rw [out _ (fun q hq => by omega) (by omega), fk _ (Or.inr (Or.inr (Or.inl ⟨n, 1, hn, by decide, by decide, by decide, rfl⟩)))]
        exact hfr
      · rintro _ rfl
        refine (c_writes2 (n := N + k) 8 _ b _ ?_).void ?_
        · rw [s_at, doF_o hn hm hfa (Or.inr (Or.inl rfl))]
          exact s5
        · rintro _ rfl
          have key : wrF (doF (σ5 1) m n fr a (v (786 + 16 * n + (10 + k))) (σ5 1 (2322 + 6 * m + 2)) (σ5 1 (2322 + 6 * m + 4))) (N + k) 8 (v (786 + 16 * n + (10 + k))) b = wkF b n fr v (lnV v n (k + 1)) := by
            have e1 : wrF (doF (σ5 1) m n fr a (v (786 + 16 * n + (10 + k))) (σ5 1 (2322 + 6 * m + 2)) (σ5 1 (2322 + 6 * m + 4))) (N + k) 8 (v (786 + 16 * n + (10 + k))) b = sv1V b n fr (σ5 1) (v (786 + 16 * n + (10 + k))) := by
              unfold sv1V
              rw [t_nat htm, o3, t_nat at3, t_nat s5]
            rw [e1, e5, s_at, sv1V_ov hn htm hm hfa _ _ xs (by rw [u_ne (by omega), fxT 3 (by omega) (by omega)]; exact at3), sv1V_u hn htm hm (a := a) (by rw [fxT 3 (by omega) (by omega)]; exact at3) hfa (Or.inl rfl), ← svV_s, ← tsn]
            rfl
          have := ih (k + 1) (a3 + 1) (.int (v (786 + 16 * n + (10 + k)))) (.int (2322 + 6 * v (786 + 16 * n + (10 + k)))) (sm_set σ 1 (wkF b n fr v (lnV v n (k + 1)))) h3' (by omega) s_at
          rw [s_ss] at this
          rw [s_at, s_ss, key, e5, s_ss]
          exact this
theorem r_wakes {g : Prop} {N n fr L : Nat} {c : sm_S} {v : Nat → Int32} {b : Int32} (h : tie g N c v) (hN : N + L < 2000000000) (hn : n < 96) (hb : b.toInt = n) (h9 : (v (786 + 16 * n + 9)).toInt = L) (hL : L ≤ 6) (h0 : v (786 + 16 * n + 0) = 1) (hfr : (v (786 + 16 * n + 1)).toInt = fr) (hs : ∀ t, t ∈ lnV v n L → srvd c fr t) : rd j_M_wakes [.ref 0, .int b] v (wkF b n fr v (lnV v n L)) := fun σ e => by
  refine w_M_wakes b σ _ ((c_of (k := 9) (j := 9) hb rfl (by omega) σ).int ?_)
  rintro _ σ ⟨rfl, rfl⟩
  rw [e]
  refine (c_lay (k := 9) (j := 9) hb rfl (by omega) 0 σ).void ?_
  rintro _ rfl
  have := l_wakes2 h hN hn hb (a2 := v (786 + 16 * n + 9)) h9 hL h0 hfr hs L 0 0 .null .null (sm_set σ 1 (upd (σ 1) (786 + 16 * n + 9) 0)) rfl (by omega) (by rw [s_at, e]; rfl)
  rw [s_ss] at this
  exact this
