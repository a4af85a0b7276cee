/-! ===== the simulation: a block comes, goes with a note, moves at once: the reference, to the last number ===== -/
/-- the frames from fr on, n of them, have state s and block x *less 1* -/
def hsF (v : Nat → Int32) (fr n : Nat) (s x : Int32) : Nat → Int32 := fun i => if 18 + 3 * fr ≤ i ∧ i < 18 + 3 * (fr + n) then (if (i - 18) % 3 = 0 then s else if (i - 18) % 3 = 1 then x else v i) else v i
theorem hsF_0 (v : Nat → Int32) (fr : Nat) (s x : Int32) : hsF v fr 0 s x = v := by
  funext i
  exact if_neg (by omega)
theorem hsF_out {v : Nat → Int32} {fr n i : Nat} {s x : Int32} (h : i < 18 + 3 * fr ∨ 18 + 3 * (fr + n) ≤ i) : hsF v fr n s x i = v i := if_neg (by omega)
theorem hsF_in {v : Nat → Int32} {fr n f : Nat} {s x : Int32} (h1 : fr ≤ f) (h2 : f < fr + n) : hsF v fr n s x (18 + 3 * f) = s ∧ hsF v fr n s x (18 + 3 * f + 1) = x ∧ hsF v fr n s x (18 + 3 * f + 2) = v (18 + 3 * f + 2) := by
  unfold hsF
  refine ⟨?_, ?_, ?_⟩
  · rw [if_pos (by omega), if_pos (by omega)]
  · rw [if_pos (by omega), if_neg (by omega), if_pos (by omega)]
  · rw [if_pos (by omega), if_neg (by omega), if_neg (by omega)]
theorem hsF_s (v : Nat → Int32) (fr n : Nat) (s x : Int32) : hsF v fr (n + 1) s x = upd (upd (hsF v fr n s x) (18 + 3 * (fr + n)) s) (18 + 3 * (fr + n) + 1) x := by
  funext i
  by_cases b : i = 18 + 3 * (fr + n) + 1
  · rw [b, u_at]
    unfold hsF
    rw [if_pos (by omega), if_neg (by omega), if_pos (by omega)]
  · rw [u_ne b]
    by_cases c : i = 18 + 3 * (fr + n)
    · rw [c, u_at]
      unfold hsF
      rw [if_pos (by omega), if_pos (by omega)]
    · rw [u_ne c]
      unfold hsF
      by_cases d : 18 + 3 * fr ≤ i ∧ i < 18 + 3 * (fr + n)
      · rw [if_pos d, if_pos (by omega)]
      · rw [if_neg d]
        by_cases e : i = 18 + 3 * (fr + n) + 2
        · rw [if_pos (by omega), if_neg (by omega), if_neg (by omega)]
        · rw [if_neg (by omega)]
theorem l_comes732 {a1 a2 a3 a4 a5 a6 : Int32} {o fr : Nat} (h2 : a2.toInt = fr) (h3 : a3.toInt = o) (ho : o ≤ 4) (hle : fr + 2 ^ o ≤ 256) (σ : sm_S) : ∀ (d k : Nat) (a7 : Int32), a7.toInt = k → k + d = 2 ^ o →
    xE xM m_M_comes 73 [.ref 0, .int a1, .int a2, .int a3, .int a4, .int a5, .int a6, .int a7] [] (sm_set σ 1 (hsF (σ 1) fr k 3 (a1 + 1))) (sm_V (fun σ' => σ' = sm_set σ 1 (hsF (σ 1) fr (2 ^ o) 3 (a1 + 1)))) := by
  have hp := t_pw (k := o) (by omega)
  intro d
  induction d with
  | zero =>
    intro k a7 h7 hk
    have hk : k = 2 ^ o := by omega
    refine w_M_comes_73 a1 a2 a3 a4 a5 a6 a7 _ _ ⟨fun _ => ⟨rfl, by rw [hk]⟩, fun h => absurd ?_ h⟩
    rw [t_le, t_pow h3 (by omega), h7]
    omega
  | succ d ih =>
    intro k a7 h7 hk
    have h7' : (a7 + 1).toInt = ((k + 1 : Nat) : Int) := by
      rw [t_add h7 (y := 1) rfl (by omega) (by omega)]
      omega
    have hf3 := t_add h2 h7 (by omega) (by omega)
    rw [← Int.natCast_add] at hf3
    refine w_M_comes_73 a1 a2 a3 a4 a5 a6 a7 _ _ ⟨fun h => ?_, fun _ => (c_has hf3 (by omega) a1 3 _).void ?_⟩
    · rw [t_le, t_pow h3 (by omega), h7] at h
      omega
    · rintro _ rfl
      rw [s_ss, s_at, ← hsF_s]
      exact ih (k + 1) (a7 + 1) h7' (by omega)
/-- a block's row, as it begins -/
def blF (v : Nat → Int32) (n : Nat) (a2 a3 a4 a5 a6 : Int32) : Nat → Int32 := upd (upd (upd (upd (upd (upd (rg v (786 + 16 * n) 16 0) (786 + 16 * n + 0) 1) (786 + 16 * n + 1) a2) (786 + 16 * n + 2) a3) (786 + 16 * n + 3) a4) (786 + 16 * n + 4) a5) (786 + 16 * n + 8) a6
theorem blF_out {v : Nat → Int32} {n i : Nat} {a2 a3 a4 a5 a6 : Int32} (h : i < 786 + 16 * n ∨ 786 + 16 * n + 16 ≤ i) : blF v n a2 a3 a4 a5 a6 i = v i := by
  unfold blF
  rw [u_ne (by omega), u_ne (by omega), u_ne (by omega), u_ne (by omega), u_ne (by omega), u_ne (by omega), rg_out (by omega)]
theorem l_comes32 {a1 a2 a3 a4 a5 a6 : Int32} {n o fr : Nat} (h1 : a1.toInt = n) (hn : n < 96) (h2 : a2.toInt = fr) (h3 : a3.toInt = o) (ho : o ≤ 4) (hle : fr + 2 ^ o ≤ 256) (σ : sm_S) : ∀ (d k : Nat) (a7 : Int32), a7.toInt = k → k + d = 16 →
    xE xM m_M_comes 3 [.ref 0, .int a1, .int a2, .int a3, .int a4, .int a5, .int a6, .int a7] [] (sm_set σ 1 (rg (σ 1) (786 + 16 * n) k 0)) (sm_V (fun σ' => σ' = sm_set σ 1 (hsF (blF (σ 1) n a2 a3 a4 a5 a6) fr (2 ^ o) 3 (a1 + 1)))) := by
  intro d
  induction d with
  | zero =>
    intro k a7 h7 hk
    have hk : k = 16 := by omega
    subst hk
    refine w_M_comes_3 a1 a2 a3 a4 a5 a6 a7 _ _ ⟨fun _ => (c_lay (k := 0) (j := 0) h1 rfl (by omega) 1 _).void ?_, fun h => absurd ?_ h⟩
    · rintro _ rfl
      refine (c_lay (k := 1) (j := 1) h1 rfl (by omega) a2 _).void ?_
      rintro _ rfl
      refine (c_lay (k := 2) (j := 2) h1 rfl (by omega) a3 _).void ?_
      rintro _ rfl
      refine (c_lay (k := 3) (j := 3) h1 rfl (by omega) a4 _).void ?_
      rintro _ rfl
      refine (c_lay (k := 4) (j := 4) h1 rfl (by omega) a5 _).void ?_
      rintro _ rfl
      refine (c_lay (k := 8) (j := 8) h1 rfl (by omega) a6 _).void ?_
      rintro _ rfl
      simp only [s_at, s_ss]
      have := l_comes732 (a1 := a1) (a4 := a4) (a5 := a5) (a6 := a6) h2 h3 ho hle (sm_set σ 1 (blF (σ 1) n a2 a3 a4 a5 a6)) (2 ^ o) 0 0 rfl (by omega)
      rw [hsF_0, s_at, s_ss, s_ss] at this
      exact this
    · rw [t_le, h7]
      show (16 : Int) ≤ _
      omega
  | succ d ih =>
    intro k a7 h7 hk
    have h7' : (a7 + 1).toInt = ((k + 1 : Nat) : Int) := by
      rw [t_add h7 (y := 1) rfl (by omega) (by omega)]
      omega
    refine w_M_comes_3 a1 a2 a3 a4 a5 a6 a7 _ _ ⟨fun h => ?_, fun _ => (c_lay (j := k) h1 h7 (by omega) 0 _).void ?_⟩
    · rw [t_le, h7] at h
      have h : (16 : Int) ≤ _ := h
      omega
    · rintro _ rfl
      rw [s_ss, s_at, ← rg_s]
      exact ih (k + 1) (a7 + 1) h7' (by omega)
theorem c_comes2 {a1 a2 a3 : Int32} {n o fr : Nat} (h1 : a1.toInt = n) (hn : n < 96) (h2 : a2.toInt = fr) (h3 : a3.toInt = o) (ho : o ≤ 4) (hle : fr + 2 ^ o ≤ 256) (a4 a5 a6 : Int32) (σ : sm_S) : xC xM j_M_comes [.ref 0, .int a1, .int a2, .int a3, .int a4, .int a5, .int a6] σ (sm_V (fun σ' => σ' = sm_set σ 1 (hsF (blF (σ 1) n a2 a3 a4 a5 a6) fr (2 ^ o) 3 (a1 + 1)))) := by
  refine w_M_comes a1 a2 a3 a4 a5 a6 σ _ ?_
  have := l_comes32 (a4 := a4) (a5 := a5) (a6 := a6) h1 hn h2 h3 ho hle σ 16 0 0 rfl rfl
  rw [rg_0, s_id] at this
  exact this
/-- a count grows -/
def cnF (v : Nat → Int32) (k : Nat) (x : Int32) : Nat → Int32 := upd v (7 + k) (v (7 + k) + x)
theorem c_drops2 {b : Int32} {n o fr N : Nat} (hb : b.toInt = n) (hn : n < 96) (ho : o ≤ 4) (hal : fr + 2 ^ o ≤ 256) (σ : sm_S) (h5 : (σ 1 5).toInt = N) (ho2 : (σ 1 (786 + 16 * n + 2)).toInt = o) (hf2 : (σ 1 (786 + 16 * n + 1)).toInt = fr) : xC xM j_M_drops [.ref 0, .int b] σ (sm_V (fun σ' => σ' = sm_set σ 1 (upd (lvF (cnF (wrF (σ 1) N 6 b (σ 1 (786 + 16 * n + 1))) 5 1) fr (2 ^ o)) (786 + 16 * n + 0) 0))) := by
  have hm : N % 60 < 60 := Nat.mod_lt _ (by decide)
  have keep : ∀ i, 786 ≤ i → i < 2422 → cnF (wrF (σ 1) N 6 b (σ 1 (786 + 16 * n + 1))) 5 1 i = σ 1 i := fun i h1 h2 => by
    unfold cnF wrF
    rw [u_ne (by omega), u_ne (by omega), u_ne (by omega), u_ne (by omega), u_ne (by omega), u_ne (by omega)]
  refine w_M_drops b σ _ ((c_frameOf hb hn σ).int ?_)
  rintro _ _ ⟨rfl, rfl⟩
  refine (c_writes2 6 b _ _ h5).void ?_
  rintro _ rfl
  refine (c_counts (k := 5) (j := 5) rfl (by decide) 1 _).void ?_
  rintro _ rfl
  rw [s_at, s_ss]
  refine (c_goes2 hb hn ho hal _ (by rw [s_at]; exact (congrArg Int32.toInt (keep _ (by omega) (by omega))).trans ho2) (by rw [s_at]; exact (congrArg Int32.toInt (keep _ (by omega) (by omega))).trans hf2)).void ?_
  rintro _ rfl
  refine ⟨rfl, ?_⟩
  rw [s_at, s_ss]
  rfl
/-- frame by frame a block moves at once -/
def mvF (v : Nat → Int32) (p fr : Nat) (x : Int32) : Nat → Nat → Int32
  | 0 => v
  | k + 1 => upd (upd (upd (upd (upd (upd (mvF v p fr x k) (18 + 3 * (p + k)) 3) (18 + 3 * (p + k) + 1) x) (18 + 3 * (p + k) + 2) (mvF v p fr x k (18 + 3 * (fr + k) + 2))) (18 + 3 * (fr + k)) (shV (mvF v p fr x k) (fr + k))) (18 + 3 * (fr + k) + 1) 0) (18 + 3 * (fr + k) + 2) 0
/-- it is: given the new frames, with the values, and left the old ones -/
theorem mvF_at {v : Nat → Int32} {p fr : Nat} {x : Int32} : ∀ {k : Nat}, p + k ≤ 256 → fr + k ≤ 256 → (p + k ≤ fr ∨ fr + k ≤ p) → ∀ i, mvF v p fr x k i = (if 18 + 3 * fr ≤ i ∧ i < 18 + 3 * (fr + k) then (if (i - 18) % 3 = 0 then shV v ((i - 18) / 3) else 0) else if 18 + 3 * p ≤ i ∧ i < 18 + 3 * (p + k) then (if (i - 18) % 3 = 0 then 3 else if (i - 18) % 3 = 1 then x else v (i - 3 * p + 3 * fr)) else v i)
  | 0, _, _, _, i => by
    rw [if_neg (by omega), if_neg (by omega)]
    rfl
  | k + 1, h1, h2, h3, i => by
    have ih := mvF_at (v := v) (p := p) (fr := fr) (x := x) (k := k) (by omega) (by omega) (by omega)
    have hv : mvF v p fr x k (18 + 3 * (fr + k) + 2) = v (18 + 3 * (fr + k) + 2) := by
      rw [ih, if_neg (by omega), if_neg (by omega)]
    have hq : mvF v p fr x k (2358 + 8 * ((fr + k) / 32) + 2) = v (2358 + 8 * ((fr + k) / 32) + 2) := by
      rw [ih, if_neg (by omega), if_neg (by omega)]
    have hs : shV (mvF v p fr x k) (fr + k) = shV v (fr + k) := by
      unfold shV
      rw [hq]
    show upd (upd (upd (upd (upd (upd (mvF v p fr x k) (18 + 3 * (p + k)) 3) (18 + 3 * (p + k) + 1) x) (18 + 3 * (p + k) + 2) (mvF v p fr x k (18 + 3 * (fr + k) + 2))) (18 + 3 * (fr + k)) (shV (mvF v p fr x k) (fr + k))) (18 + 3 * (fr + k) + 1) 0) (18 + 3 * (fr + k) + 2) 0 i = _
    rw [hv, hs]
    by_cases a1 : i = 18 + 3 * (fr + k) + 2
    · rw [a1, u_at, if_pos (by omega), if_neg (by omega)]
    · rw [u_ne a1]
      by_cases a2 : i = 18 + 3 * (fr + k) + 1
      · rw [a2, u_at, if_pos (by omega), if_neg (by omega)]
      · rw [u_ne a2]
        by_cases a3 : i = 18 + 3 * (fr + k)
        · rw [a3, u_at, if_pos (by omega), if_pos (by omega)]
          exact congrArg (shV v) (by omega)
        · rw [u_ne a3]
          by_cases a4 : i = 18 + 3 * (p + k) + 2
          · rw [a4, u_at, if_neg (by omega), if_pos (by omega), if_neg (by omega), if_neg (by omega)]
            exact congrArg v (by omega)
          · rw [u_ne a4]
            by_cases a5 : i = 18 + 3 * (p + k) + 1
            · rw [a5, u_at, if_neg (by omega), if_pos (by omega), if_neg (by omega), if_pos (by omega)]
            · rw [u_ne a5]
              by_cases a6 : i = 18 + 3 * (p + k)
              · rw [a6, u_at, if_neg (by omega), if_pos (by omega), if_pos (by omega)]
              · rw [u_ne a6, ih]
                by_cases b1 : 18 + 3 * fr ≤ i ∧ i < 18 + 3 * (fr + k)
                · rw [if_pos b1, if_pos (show 18 + 3 * fr ≤ i ∧ i < 18 + 3 * (fr + (k + 1)) by omega)]
                · rw [if_neg b1, if_neg (show ¬ (18 + 3 * fr ≤ i ∧ i < 18 + 3 * (fr + (k + 1))) by omega)]
                  by_cases b2 : 18 + 3 * p ≤ i ∧ i < 18 + 3 * (p + k)
                  · rw [if_pos b2, if_pos (show 18 + 3 * p ≤ i ∧ i < 18 + 3 * (p + (k + 1)) by omega)]
                  · rw [if_neg b2, if_neg (by omega)]
theorem l_movesTo2 {a1 a2 a3 : Int32} {n o p fr : Nat} (h1 : a1.toInt = n) (hn : n < 96) (h2 : a2.toInt = p) (h3 : a3.toInt = fr) (ho : o ≤ 4) (hp2 : p + 2 ^ o ≤ 256) (hf2 : fr + 2 ^ o ≤ 256) (hd : p + 2 ^ o ≤ fr ∨ fr + 2 ^ o ≤ p) (σ : sm_S) (ho2 : (σ 1 (786 + 16 * n + 2)).toInt = o) : ∀ (d k : Nat) (a4 : Int32), a4.toInt = k → k + d = 2 ^ o →
    xE xM m_M_movesTo 9 [.ref 0, .int a1, .int a2, .int a3, .int a4] [] (sm_set σ 1 (mvF (σ 1) p fr (a1 + 1) k)) (sm_V (fun σ' => σ' = sm_set σ 1 (cnF (upd (mvF (σ 1) p fr (a1 + 1) (2 ^ o)) (786 + 16 * n + 1) a2) 10 1))) := by
  have hp := t_pw (k := o) (by omega)
  have far : ∀ k, k ≤ 2 ^ o → mvF (σ 1) p fr (a1 + 1) k (786 + 16 * n + 2) = σ 1 (786 + 16 * n + 2) := fun k hk => by
    rw [mvF_at (by omega) (by omega) (by omega), if_neg (by omega), if_neg (by omega)]
  intro d
  induction d with
  | zero =>
    intro k a4 h4 hk
    have hk : k = 2 ^ o := by omega
    refine w_M_movesTo_9 a1 a2 a3 a4 _ _ ((c_longOf h1 hn _).int ?_)
    rintro _ _ ⟨rfl, rfl⟩
    rw [s_at, far k (by omega)]
    refine ⟨fun _ => (c_lay (k := 1) (j := 1) h1 rfl (by omega) a2 _).void ?_, fun h => absurd ?_ h⟩
    · rintro _ rfl
      refine (c_counts (k := 10) (j := 10) rfl (by decide) 1 _).void ?_
      rintro _ rfl
      refine ⟨rfl, ?_⟩
      simp only [s_at, s_ss, hk]
      rfl
    · rw [t_le, t_pow ho2 (by omega), h4]
      omega
  | succ d ih =>
    intro k a4 h4 hk
    have h4' : (a4 + 1).toInt = ((k + 1 : Nat) : Int) := by
      rw [t_add h4 (y := 1) rfl (by omega) (by omega)]
      omega
    have q2 := t_add h2 h4 (by omega) (by omega)
    have q3 := t_add h3 h4 (by omega) (by omega)
    rw [← Int.natCast_add] at q2 q3
    refine w_M_movesTo_9 a1 a2 a3 a4 _ _ ((c_longOf h1 hn _).int ?_)
    rintro _ _ ⟨rfl, rfl⟩
    rw [s_at, far k (by omega)]
    refine ⟨fun h => ?_, fun _ => (c_has q2 (by omega) a1 3 _).void ?_⟩
    · rw [t_le, t_pow ho2 (by omega), h4] at h
      omega
    · rintro _ rfl
      refine (c_valueOf q3 (by omega) _).int ?_
      rintro _ _ ⟨rfl, rfl⟩
      refine (c_lays q2 (by omega) _ _).void ?_
      rintro _ rfl
      refine (c_leaves2 q3 (by omega) _).void ?_
      rintro _ rfl
      have e1 : shV (upd (upd (upd (mvF (σ 1) p fr (a1 + 1) k) (18 + 3 * (p + k)) 3) (18 + 3 * (p + k) + 1) (a1 + 1)) (18 + 3 * (p + k) + 2) (mvF (σ 1) p fr (a1 + 1) k (18 + 3 * (fr + k) + 2))) (fr + k) = shV (mvF (σ 1) p fr (a1 + 1) k) (fr + k) := by
        unfold shV
        rw [u_ne (by omega), u_ne (by omega), u_ne (by omega)]
      have e2 : upd (upd (mvF (σ 1) p fr (a1 + 1) k) (18 + 3 * (p + k)) 3) (18 + 3 * (p + k) + 1) (a1 + 1) (18 + 3 * (fr + k) + 2) = mvF (σ 1) p fr (a1 + 1) k (18 + 3 * (fr + k) + 2) := by
        rw [u_ne (by omega), u_ne (by omega)]
      simp only [s_at, s_ss]
      rw [e2, e1]
      exact ih (k + 1) (a4 + 1) h4' (by omega)
theorem c_movesTo2 {a1 a2 : Int32} {n o p fr : Nat} (h1 : a1.toInt = n) (hn : n < 96) (h2 : a2.toInt = p) (ho : o ≤ 4) (hp2 : p + 2 ^ o ≤ 256) (hf2 : fr + 2 ^ o ≤ 256) (hd : p + 2 ^ o ≤ fr ∨ fr + 2 ^ o ≤ p) (σ : sm_S) (hf : (σ 1 (786 + 16 * n + 1)).toInt = fr) (ho2 : (σ 1 (786 + 16 * n + 2)).toInt = o) : xC xM j_M_movesTo [.ref 0, .int a1, .int a2] σ (sm_V (fun σ' => σ' = sm_set σ 1 (cnF (upd (mvF (σ 1) p fr (a1 + 1) (2 ^ o)) (786 + 16 * n + 1) a2) 10 1))) := by
  refine w_M_movesTo a1 a2 σ _ ((c_frameOf h1 hn σ).int ?_)
  rintro _ _ ⟨rfl, rfl⟩
  have := l_movesTo2 h1 hn h2 hf ho hp2 hf2 hd _ ho2 (2 ^ o) 0 0 rfl (by omega)
  simp only [mvF] at this
  rw [s_id] at this
  exact this
