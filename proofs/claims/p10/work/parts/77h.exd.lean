/-! ===== the simulation: frames are given, held, settled, copied; a block begins; a drop is noted: the class, to the last number ===== -/
theorem rgB_er {a1 a2 : Int32} {f o : Nat} (h1 : a1.toInt = f) (h2 : a2.toInt = ((2 ^ o : Nat) : Int)) : (((1 : Int32) <<< (a2 &&& 31)) - 1) <<< ((a1 - a1 / (32 : Int32) * (32 : Int32)) &&& 31) = rgB (f % 32) o := by
  rw [t_nI h2, show a1 - a1 / 32 * 32 = nI (f % 32) from t_nI (t_rem (d := 32) h1 rfl (by decide))]
  rfl
theorem l_claim2 {a1 a2 a3 a4 : Int32} {f n : Nat} (h2 : a2.toInt = f) (h3 : a3.toInt = n) (hn : f + n ≤ 256) (σ : sm_S) : ∀ (d k : Nat) (a5 : Int32), a5.toInt = ((f + k : Nat) : Int) → k + d = n → xE xD m_F_claim 31 [.ref 1, .int a1, .int a2, .int a3, .int a4, .int a5] [] (sm_set σ 6 (rg (σ 6) f k a1)) (sm_I (fun x σ' => x = a4 ∧ σ' = sm_set σ 6 (rg (σ 6) f n a1))) := by
  have h23 : (a2 + a3).toInt = ((f + n : Nat) : Int) := by
    rw [t_add h2 h3 (by omega) (by omega)]
    omega
  intro d
  induction d with
  | zero =>
    intro k a5 h5 hk
    have hk : k = n := by omega
    subst hk
    exact d_F_claim_31 a1 a2 a3 a4 a5 _ _ ⟨fun _ => ⟨_, rfl, rfl, rfl⟩, fun h => absurd (by rw [t_le, h23, h5]; omega) h⟩
  | succ d ih =>
    intro k a5 h5 hk
    have h5' : (a5 + 1).toInt = ((f + (k + 1) : Nat) : Int) := by
      rw [t_add h5 (y := 1) rfl (by omega) (by omega)]
      omega
    refine d_F_claim_31 a1 a2 a3 a4 a5 _ _ ⟨fun h => ?_, fun _ => ⟨t_vp h5 (by omega), fun σ1 e1 => ?_⟩⟩
    · rw [t_le, h23, h5] at h; omega
    · rw [t_nat h5, s_at, ← rg_s, s_ss] at e1
      rw [e1]
      exact ih (k + 1) (a5 + 1) h5' (by omega)
def clC (c : sm_S) (b : Int32) (fr o : Nat) : sm_S := sm_set (sm_set c 2 (upd (c 2) (fr / 32) (c 2 (fr / 32) &&& (rgB (fr % 32) o ^^^ (-1))))) 6 (rg (c 6) fr (2 ^ o) b)
theorem e_claim2 {a2 a3 : Int32} {f o : Nat} (a1 : Int32) (h2 : a2.toInt = f) (h3 : a3.toInt = ((2 ^ o : Nat) : Int)) (ho : o ≤ 4) (hn : f + 2 ^ o ≤ 256) (σ : sm_S) : xC xD j_F_claim [.ref 1, .int a1, .int a2, .int a3] σ (sm_I (fun x σ' => x = rgB (f % 32) o ∧ σ' = clC σ a1 f o)) := by
  have hp := t_pw (k := o) (by omega)
  have hd : (a2 / 32).toInt = ((f / 32 : Nat) : Int) := t_div (d := 32) h2 rfl (by decide)
  have v := t_vp (N := 8) hd (by omega)
  refine d_F_claim a1 a2 a3 σ _ ⟨by decide, by decide, v, v, fun σ1 e1 => ?_⟩
  have := l_claim2 (a1 := a1) (a4 := (((1 : Int32) <<< (a3 &&& 31)) - 1) <<< ((a2 - a2 / (32 : Int32) * (32 : Int32)) &&& 31)) h2 h3 hn σ1 (2 ^ o) 0 a2 h2 (by omega)
  rw [rg_0, s_id] at this
  refine this.mono ?_
  rintro r σ' ⟨x, rfl, rfl, rfl⟩
  refine ⟨_, rfl, rgB_er h2 h3, ?_⟩
  rw [rgB_er h2 h3, t_nat hd] at e1
  rw [e1]
  rfl
/-- given (k is 4) or held (k is 5) -/
def gvC (c : sm_S) (k : Nat) (b : Int32) (fr o : Nat) : sm_S := sm_set (clC c b fr o) k (upd (c k) (fr / 32) (c k (fr / 32) ||| rgB (fr % 32) o))
theorem e_give2 {a2 a3 : Int32} {f o : Nat} (a1 : Int32) (h2 : a2.toInt = f) (h3 : a3.toInt = ((2 ^ o : Nat) : Int)) (ho : o ≤ 4) (hn : f + 2 ^ o ≤ 256) (σ : sm_S) : xC xD j_F_give [.ref 1, .int a1, .int a2, .int a3] σ (sm_V (fun σ' => σ' = gvC σ 4 a1 f o)) := by
  have hp := t_pw (k := o) (by omega)
  have hd : (a2 / 32).toInt = ((f / 32 : Nat) : Int) := t_div (d := 32) h2 rfl (by decide)
  have v := t_vp (N := 8) hd (by omega)
  refine d_F_give a1 a2 a3 σ _ ⟨by decide, v, (e_claim2 a1 h2 h3 ho hn σ).int ?_⟩
  rintro _ _ ⟨rfl, rfl⟩
  refine ⟨v, fun σ3 e3 => ⟨rfl, ?_⟩⟩
  rw [t_nat hd] at e3
  rw [e3]
  rfl
theorem e_hold2 {a2 a3 : Int32} {f o : Nat} (a1 : Int32) (h2 : a2.toInt = f) (h3 : a3.toInt = ((2 ^ o : Nat) : Int)) (ho : o ≤ 4) (hn : f + 2 ^ o ≤ 256) (σ : sm_S) : xC xD j_F_hold [.ref 1, .int a1, .int a2, .int a3] σ (sm_V (fun σ' => σ' = gvC σ 5 a1 f o)) := by
  have hp := t_pw (k := o) (by omega)
  have hd : (a2 / 32).toInt = ((f / 32 : Nat) : Int) := t_div (d := 32) h2 rfl (by decide)
  have v := t_vp (N := 8) hd (by omega)
  refine d_F_hold a1 a2 a3 σ _ ⟨by decide, v, (e_claim2 a1 h2 h3 ho hn σ).int ?_⟩
  rintro _ _ ⟨rfl, rfl⟩
  refine ⟨v, fun σ3 e3 => ⟨rfl, ?_⟩⟩
  rw [t_nat hd] at e3
  rw [e3]
  rfl
def stC (c : sm_S) (fr o : Nat) : sm_S := sm_set (sm_set c 5 (upd (c 5) (fr / 32) (c 5 (fr / 32) &&& (rgB (fr % 32) o ^^^ (-1))))) 4 (upd (c 4) (fr / 32) (c 4 (fr / 32) ||| rgB (fr % 32) o))
theorem e_settle2 {a1 a2 : Int32} {f o : Nat} (h1 : a1.toInt = f) (h2 : a2.toInt = ((2 ^ o : Nat) : Int)) (ho : o ≤ 4) (hn : f + 2 ^ o ≤ 256) (σ : sm_S) : xC xD j_F_settle [.ref 1, .int a1, .int a2] σ (sm_V (fun σ' => σ' = stC σ f o)) := by
  have hp := t_pw (k := o) (by omega)
  have hd : (a1 / 32).toInt = ((f / 32 : Nat) : Int) := t_div (d := 32) h1 rfl (by decide)
  have v := t_vp (N := 8) hd (by omega)
  refine d_F_settle a1 a2 σ _ ⟨by decide, by decide, v, v, fun σ1 e1 => ⟨by decide, v, v, fun σ2 e2 => ⟨rfl, ?_⟩⟩⟩
  rw [rgB_er h1 h2, t_nat hd] at e1 e2
  rw [e2, e1]
  rfl
/-- n values from a on are laid from b on -/
def cvF (w : Nat → Int32) (a b n : Nat) : Nat → Int32 := fun i => if b ≤ i ∧ i < b + n then w (a + (i - b)) else w i
theorem cvF_0 (w : Nat → Int32) (a b : Nat) : cvF w a b 0 = w := by
  funext i
  exact if_neg (by omega)
theorem cvF_s {w : Nat → Int32} {a b n : Nat} (h : a + n < b ∨ b + n ≤ a) : upd (cvF w a b n) (b + n) (cvF w a b n (a + n)) = cvF w a b (n + 1) := by
  have e : cvF w a b n (a + n) = w (a + n) := if_neg (by omega)
  rw [e]
  funext i
  by_cases g : i = b + n
  · rw [g, u_at]
    unfold cvF
    rw [if_pos (by omega)]
    exact congrArg w (by omega)
  · rw [u_ne g]
    unfold cvF
    by_cases d : b ≤ i ∧ i < b + n
    · rw [if_pos d, if_pos (by omega)]
    · rw [if_neg d, if_neg (by omega)]
theorem l_copyValues2 {a1 a2 a3 : Int32} {a b n : Nat} (h1 : a1.toInt = a) (h2 : a2.toInt = b) (h3 : a3.toInt = n) (ha : a + n ≤ 256) (hb : b + n ≤ 256) (hd : a + n ≤ b ∨ b + n ≤ a) (σ : sm_S) : ∀ (d k : Nat) (a4 : Int32), a4.toInt = k → k + d = n → xE xD m_F_copyValues 3 [.ref 1, .int a1, .int a2, .int a3, .int a4] [] (sm_set σ 7 (cvF (σ 7) a b k)) (sm_V (fun σ' => σ' = sm_set σ 7 (cvF (σ 7) a b n))) := by
  intro d
  induction d with
  | zero =>
    intro k a4 h4 hk
    have hk : k = n := by omega
    subst hk
    exact d_F_copyValues_3 a1 a2 a3 a4 _ _ ⟨fun _ => ⟨rfl, rfl⟩, fun h => absurd (by rw [t_le, h3, h4]; omega) h⟩
  | succ d ih =>
    intro k a4 h4 hk
    have h4' : (a4 + 1).toInt = ((k + 1 : Nat) : Int) := by
      rw [t_add h4 (y := 1) rfl (by omega) (by omega)]
      omega
    have p1 : (a1 + a4).toInt = ((a + k : Nat) : Int) := by
      rw [t_add h1 h4 (by omega) (by omega)]
      omega
    have p2 : (a2 + a4).toInt = ((b + k : Nat) : Int) := by
      rw [t_add h2 h4 (by omega) (by omega)]
      omega
    refine d_F_copyValues_3 a1 a2 a3 a4 _ _ ⟨fun h => ?_, fun _ => ⟨t_vp p1 (by omega), t_vp p2 (by omega), fun σ1 e1 => ?_⟩⟩
    · rw [t_le, h3, h4] at h; omega
    · rw [t_nat p1, t_nat p2, s_at, cvF_s (by omega), s_ss] at e1
      rw [e1]
      exact ih (k + 1) (a4 + 1) h4' (by omega)
theorem e_copyValues2 {a1 a2 a3 : Int32} {a b n : Nat} (h1 : a1.toInt = a) (h2 : a2.toInt = b) (h3 : a3.toInt = n) (ha : a + n ≤ 256) (hb : b + n ≤ 256) (hd : a + n ≤ b ∨ b + n ≤ a) (σ : sm_S) : xC xD j_F_copyValues [.ref 1, .int a1, .int a2, .int a3] σ (sm_V (fun σ' => σ' = sm_set σ 7 (cvF (σ 7) a b n))) := by
  refine d_F_copyValues a1 a2 a3 σ _ ?_
  have := l_copyValues2 h1 h2 h3 ha hb hd σ n 0 0 rfl (by omega)
  rw [cvF_0, s_id] at this
  exact this
def bnC (c : sm_S) (b : Nat) (x2 x3 x4 x5 : Int32) : sm_S := sm_set (sm_set (sm_set (sm_set (sm_set (sm_set (sm_set c 9 (upd (c 9) b x2)) 10 (upd (c 10) b x3)) 11 (upd (c 11) b x4)) 12 (upd (c 12) b x5)) 13 (upd (c 13) b 0)) 14 (upd (c 14) b (-1))) 15 (upd (c 15) b 0)
theorem e_begin2 {a1 : Int32} {b : Nat} (h1 : a1.toInt = b) (hb : b < 96) (a2 a3 a4 a5 : Int32) (σ : sm_S) : xC xD j_B_begin [.ref 8, .int a1, .int a2, .int a3, .int a4, .int a5] σ (sm_V (fun σ' => σ' = bnC σ b a2 a3 a4 a5)) := by
  have v := t_vp h1 hb
  refine d_B_begin a1 a2 a3 a4 a5 σ _ ?_
  rw [t_nat h1]
  refine ⟨v, fun σ1 e1 => ⟨v, fun σ2 e2 => ⟨v, fun σ3 e3 => ⟨v, fun σ4 e4 => ⟨v, fun σ5 e5 => ⟨v, fun σ6 e6 => ⟨v, fun σ7 e7 => ⟨rfl, ?_⟩⟩⟩⟩⟩⟩⟩⟩
  rw [e7, e6, e5, e4, e3, e2, e1]
  rfl
theorem e_noteDrop2 {a1 : Int32} {b n : Nat} (h1 : a1.toInt = b) (hb : b < 96) (σ : sm_S) (h5 : (σ 34 5).toInt = n) (hn : n < 60) : xC xD j_Y_noteDrop [.ref 0, .int a1] σ (sm_V (fun σ' => σ' = laC (sm_set σ 40 (upd (σ 40) 5 (σ 40 5 + 1))) n (σ 0 7) 6 a1 (σ 9 b))) := by
  refine d_Y_noteDrop a1 σ _ ⟨t_vp (n := 5) rfl (by omega), t_vp (n := 5) rfl (by omega), fun σ1 e1 => ⟨t_vp h1 hb, ?_⟩⟩
  have f34 : σ1 34 = σ 34 := by rw [e1, s_ne (by decide)]
  have f0 : σ1 0 = σ 0 := by rw [e1, s_ne (by decide)]
  have f9 : σ1 9 = σ 9 := by rw [e1, s_ne (by decide)]
  rw [t_nat h1, f0, f9]
  refine (e_add2 _ _ _ _ σ1 (by rw [f34]; exact h5) hn).void ?_
  rintro _ rfl
  refine ⟨rfl, ?_⟩
  rw [e1]
  rfl
