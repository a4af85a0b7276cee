/-! ===== the simulation: what the class's helpers do, to the last number ===== -/
/-- the bits of the frames from p on, 2 to the o of them -/
def rgB (p o : Nat) : Int32 := (((1 : Int32) <<< (nI (2 ^ o) &&& 31)) - 1) <<< (nI p &&& 31)
theorem rgB_dec : ∀ o, o < 5 → ∀ p, p < 32 → ∀ i, i < 32 → ((rgB p o).toBitVec.getLsbD i = true ↔ p ≤ i ∧ i < p + 2 ^ o) := by decide +kernel
theorem rgB_iff {p o i : Nat} (ho : o ≤ 4) (hp : p < 32) (hi : i < 32) : bit (rgB p o) i ↔ p ≤ i ∧ i < p + 2 ^ o := rgB_dec o (by omega) p hp i hi
def rg (f : Nat → Int32) (a n : Nat) (x : Int32) : Nat → Int32 := fun i => if a ≤ i ∧ i < a + n then x else f i
theorem rg_0 (f : Nat → Int32) (a : Nat) (x : Int32) : rg f a 0 x = f := by
  funext i
  exact if_neg (by omega)
theorem rg_s (f : Nat → Int32) (a n : Nat) (x : Int32) : rg f a (n + 1) x = upd (rg f a n x) (a + n) x := by
  funext i
  by_cases e : i = a + n
  · rw [e, u_at]
    exact if_pos (by omega)
  · rw [u_ne e]
    unfold rg
    by_cases d : a ≤ i ∧ i < a + n
    · rw [if_pos d, if_pos (by omega)]
    · rw [if_neg d, if_neg (by omega)]
theorem rg_in {f : Nat → Int32} {a n i : Nat} {x : Int32} (h : a ≤ i) (h2 : i < a + n) : rg f a n x i = x := if_pos ⟨h, h2⟩
theorem rg_out {f : Nat → Int32} {a n i : Nat} {x : Int32} (h : i < a ∨ a + n ≤ i) : rg f a n x i = f i := if_neg (by omega)
theorem s_com {σ : sm_S} {k j : Nat} {f g : Nat → Int32} (h : k ≠ j) : sm_set (sm_set σ k f) j g = sm_set (sm_set σ j g) k f := by
  funext a
  unfold sm_set
  by_cases e : a = j
  · rw [if_pos e, if_neg (by omega), if_pos e]
  · rw [if_neg e]
    by_cases e2 : a = k
    · rw [if_pos e2, if_pos e2]
    · rw [if_neg e2, if_neg e2, if_neg e]
theorem l_letGo2 {a1 a2 a3 a4 a5 : Int32} {f n : Nat} (h1 : a1.toInt = f) (h2 : a2.toInt = n) (hn : f + n ≤ 256) (σ : sm_S) : ∀ (d k : Nat) (a6 : Int32), a6.toInt = ((f + k : Nat) : Int) → k + d = n → xE xD m_F_letGo 79 [.ref 1, .int a1, .int a2, .int a3, .int a4, .int a5, .int a6] [] (sm_set (sm_set σ 6 (rg (σ 6) f k (-1))) 7 (rg (σ 7) f k 0)) (sm_V (fun σ' => σ' = sm_set (sm_set σ 6 (rg (σ 6) f n (-1))) 7 (rg (σ 7) f n 0))) := by
  have h12 : (a1 + a2).toInt = ((f + n : Nat) : Int) := by
    rw [t_add h1 h2 (by omega) (by omega)]
    omega
  intro d
  induction d with
  | zero =>
    intro k a6 h6 hk
    have hk : k = n := by omega
    subst hk
    exact d_F_letGo_79 a1 a2 a3 a4 a5 a6 _ _ ⟨fun _ => ⟨rfl, rfl⟩, fun h => absurd (by rw [t_le, h12, h6]; omega) h⟩
  | succ d ih =>
    intro k a6 h6 hk
    have h6' : (a6 + 1).toInt = ((f + (k + 1) : Nat) : Int) := by
      rw [t_add h6 (y := 1) rfl (by omega) (by omega)]
      omega
    have v := t_vp (N := 256) h6 (by omega)
    refine d_F_letGo_79 a1 a2 a3 a4 a5 a6 _ _ ⟨fun h => ?_, fun _ => ⟨v, fun σ1 e1 => ⟨v, fun σ2 e2 => ?_⟩⟩⟩
    · rw [t_le, h12, h6] at h; omega
    · have e : σ2 = sm_set (sm_set σ 6 (rg (σ 6) f (k + 1) (-1))) 7 (rg (σ 7) f (k + 1) 0) := by
        rw [t_nat h6] at e1 e2
        rw [s_ne (by decide), s_at, ← rg_s, s_com (by decide), s_ss] at e1
        rw [e1, s_at, ← rg_s, s_ss] at e2
        exact e2
      rw [e]
      exact ih (k + 1) (a6 + 1) h6' (by omega)
def lgC (c : sm_S) (fr o : Nat) (sb : Int32) : sm_S := sm_set (sm_set (sm_set (sm_set (sm_set (sm_set c 4 (upd (c 4) (fr / 32) (c 4 (fr / 32) &&& (rgB (fr % 32) o ^^^ (-1))))) 5 (upd (c 5) (fr / 32) (c 5 (fr / 32) &&& (rgB (fr % 32) o ^^^ (-1))))) 2 (upd (c 2) (fr / 32) (c 2 (fr / 32) ||| (rgB (fr % 32) o &&& (sb ^^^ (-1)))))) 3 (upd (c 3) (fr / 32) (c 3 (fr / 32) ||| (rgB (fr % 32) o &&& sb)))) 6 (rg (c 6) fr (2 ^ o) (-1))) 7 (rg (c 7) fr (2 ^ o) 0)
theorem e_letGo2 {a1 a2 : Int32} {f o : Nat} (h1 : a1.toInt = f) (h2 : a2.toInt = ((2 ^ o : Nat) : Int)) (ho : o ≤ 4) (hn : f + 2 ^ o ≤ 256) (a3 : Int32) (σ : sm_S) : xC xD j_F_letGo [.ref 1, .int a1, .int a2, .int a3] σ (sm_V (fun σ' => σ' = lgC σ f o a3)) := by
  have hp := t_pw (k := o) (by omega)
  have hd : (a1 / 32).toInt = ((f / 32 : Nat) : Int) := t_div (d := 32) h1 rfl (by decide)
  have v := t_vp (N := 8) hd (by omega)
  have er : (((1 : Int32) <<< (a2 &&& 31)) - 1) <<< ((a1 - a1 / (32 : Int32) * (32 : Int32)) &&& 31) = rgB (f % 32) o := by
    rw [t_nI h2, show a1 - a1 / 32 * 32 = nI (f % 32) from t_nI (t_rem (d := 32) h1 rfl (by decide))]
    rfl
  refine d_F_letGo a1 a2 a3 σ _ ⟨by decide, by decide, v, v, fun σ1 e1 => ⟨v, v, fun σ2 e2 => ⟨v, v, fun σ3 e3 => ⟨v, v, fun σ4 e4 => ?_⟩⟩⟩⟩
  rw [er, t_nat hd] at e1 e2 e3 e4
  have := l_letGo2 (a3 := a3) (a4 := a1 / 32) (a5 := (((1 : Int32) <<< (a2 &&& 31)) - 1) <<< ((a1 - a1 / (32 : Int32) * (32 : Int32)) &&& 31)) h1 h2 hn σ4 (2 ^ o) 0 a1 h1 (by omega)
  rw [rg_0, rg_0, s_id, s_id] at this
  refine this.mono ?_
  rintro r σ' ⟨rfl, rfl⟩
  refine ⟨rfl, ?_⟩
  rw [e4, e3, e2, e1]
  rfl
/-- which bits of a span are shut -/
theorem sB_dec : ∀ p, p < 4 → ∀ i, i < 32 → ((((1 : Int32) <<< ((nI p * 8) &&& 31)) - 1).toBitVec.getLsbD i = true ↔ i / 8 < p) := by decide +kernel
theorem e_shutBits2 {a1 : Int32} {n p : Nat} (h1 : a1.toInt = n) (hn : n < 8) (σ : sm_S) (hp : (σ 20 n).toInt = p) (hp4 : p ≤ 4) : xC xD j_S_shutBits [.ref 17, .int a1] σ (sm_I (fun x σ' => (∀ i, i < 32 → (bit x i ↔ i / 8 < p)) ∧ σ' = σ)) := by
  have v := t_vp h1 hn
  refine d_S_shutBits a1 σ _ ?_
  rw [t_nat h1]
  refine ⟨v, fun h => ⟨v, _, rfl, fun i hi => ?_, rfl⟩, fun h => ⟨_, rfl, fun i hi => ?_, rfl⟩⟩
  · rw [t_lt, hp] at h
    have h : (p : Int) < 4 := h
    rw [t_nI hp]
    exact sB_dec p (by omega) i hi
  · rw [t_lt, hp] at h
    have h : ¬ (p : Int) < 4 := h
    exact ⟨fun _ => by omega, fun _ => bit_m1 hi⟩
/-- a line of the log -/
def laC (c : sm_S) (n : Nat) (a1 a2 a3 a4 : Int32) : sm_S := sm_set (sm_set (sm_set (sm_set (sm_set c 35 (upd (c 35) n a1)) 36 (upd (c 36) n a2)) 37 (upd (c 37) n a3)) 38 (upd (c 38) n a4)) 34 (upd (upd (c 34) 5 (if n + 1 < 60 then nI (n + 1) else 0)) 4 (c 34 4 + 1))
theorem e_add2 {n : Nat} (a1 a2 a3 a4 : Int32) (σ : sm_S) (h5 : (σ 34 5).toInt = n) (hn : n < 60) : xC xD j_L_add [.ref 34, .int a1, .int a2, .int a3, .int a4] σ (sm_V (fun σ' => σ' = laC σ n a1 a2 a3 a4)) := by
  have v := t_vp (N := 60) h5 hn
  have hs : (σ 34 5 + 1).toInt = ((n + 1 : Nat) : Int) := by
    rw [t_add h5 (y := 1) rfl (by omega) (by omega)]
    omega
  refine d_L_add a1 a2 a3 a4 σ _ ⟨v, fun σ1 e1 => ?_⟩
  have g1 : σ1 34 = σ 34 := by rw [e1, s_ne (by decide)]
  refine ⟨by rw [g1]; exact v, fun σ2 e2 => ?_⟩
  have g2 : σ2 34 = σ 34 := by rw [e2, s_ne (by decide), g1]
  refine ⟨by rw [g2]; exact v, fun σ3 e3 => ?_⟩
  have g3 : σ3 34 = σ 34 := by rw [e3, s_ne (by decide), g2]
  refine ⟨by rw [g3]; exact v, fun σ4 e4 => ?_⟩
  have g4 : σ4 34 = σ 34 := by rw [e4, s_ne (by decide), g3]
  rw [t_nat h5] at e1
  rw [g1, t_nat h5] at e2
  rw [g2, t_nat h5] at e3
  rw [g3, t_nat h5] at e4
  have f36 : σ1 36 = σ 36 := by rw [e1, s_ne (by decide)]
  have f37 : σ2 37 = σ 37 := by rw [e2, s_ne (by decide), e1, s_ne (by decide)]
  have f38 : σ3 38 = σ 38 := by rw [e3, s_ne (by decide), e2, s_ne (by decide), e1, s_ne (by decide)]
  rw [f36] at e2
  rw [f37] at e3
  rw [f38] at e4
  rw [g4]
  refine ⟨fun h σ5 e5 σ6 e6 => ⟨rfl, ?_⟩, fun h σ5 e5 σ6 e6 => ⟨rfl, ?_⟩⟩
  · rw [t_le, hs] at h
    have h : (60 : Int) ≤ _ := h
    rw [e5, s_at, u_ne (by decide), s_ss] at e6
    rw [e6, e4, e3, e2, e1]
    unfold laC
    rw [if_neg (by omega)]
  · rw [t_le, hs] at h
    have h : ¬ (60 : Int) ≤ _ := h
    rw [e5, s_at, u_ne (by decide), s_ss] at e6
    rw [e6, e4, e3, e2, e1]
    unfold laC
    rw [if_pos (by omega), t_nI hs]
/-- a block goes -/
theorem e_remove2 {a1 : Int32} {b fr o p : Nat} (h1 : a1.toInt = b) (hb : b < 96) (ho : o ≤ 4) (hal : fr + 2 ^ o ≤ 256) (σ : sm_S) (h9 : (σ 9 b).toInt = fr) (h10 : (σ 10 b).toInt = o) (hp : (σ 20 (fr / 32)).toInt = p) (hp4 : p ≤ 4) : xC xD j_Y_remove [.ref 0, .int a1] σ (sm_V (fun σ' => ∃ sb : Int32, (∀ i, i < 32 → (bit sb i ↔ i / 8 < p)) ∧ σ' = sm_set (lgC σ fr o sb) 9 (upd (σ 9) b (-1)))) := by
  have v := t_vp h1 hb
  have hpw := t_pw (k := o) (by omega)
  refine d_Y_remove a1 σ _ ?_
  rw [t_nat h1]
  refine ⟨v, v, by decide, (e_shutBits2 (t_div (d := 32) h9 rfl (by decide)) (by omega) σ hp hp4).int ?_⟩
  rintro x2 σ ⟨hx, rfl⟩
  refine (e_letGo2 h9 (t_pow h10 (by omega)) ho hal x2 σ).void ?_
  rintro _ rfl
  refine ⟨v, fun σ4 e4 => ⟨rfl, x2, hx, ?_⟩⟩
  rw [e4]
  rfl
