/-! ===== the simulation: what a task wanted is done ===== -/
theorem u_com {f : Nat → Int32} {a b : Nat} {x y : Int32} (h : a ≠ b) : upd (upd f a x) b y = upd (upd f b y) a x := by
  funext i
  by_cases e : i = b
  · rw [e, u_at, u_ne (by omega), u_at]
  · rw [u_ne e]
    by_cases e2 : i = a
    · rw [e2, u_at, u_at]
    · rw [u_ne e2, u_ne e2, u_ne e]
theorem c_uses2 {b : Int32} {n : Nat} (hb : b.toInt = n) (hn : n < 96) (σ : sm_S) : xC xM j_M_uses [.ref 0, .int b] σ (sm_V (fun σ' => σ' = sm_set σ 1 (usF (σ 1) n))) := by
  refine w_M_uses b σ _ ((c_more (k := 6) (j := 6) rfl (by decide) 1 σ).void ?_)
  rintro _ rfl
  refine ⟨t_vp (n := 6) rfl (by omega), ?_⟩
  refine (c_lay (k := 8) (j := 8) hb rfl (by omega) _ _).void ?_
  rintro _ rfl
  refine ⟨rfl, ?_⟩
  have e : ((6 : Int32)).toNatClampNeg = 6 := rfl
  rw [e, s_ss, s_at, u_at]
  rfl
/-- task t at block n whose first frame is fr: what it wants, where, with what -/
def doF (v : Nat → Int32) (t n fr i : Nat) (tI what x : Int32) : Nat → Int32 := if what = 2 then upd v (786 + 16 * n + 5) (v (786 + 16 * n + 5) ||| ((1 : Int32) <<< (tI &&& 31))) else if what = 0 then upd (usF v n) (2322 + 6 * t + 5) (v (18 + 3 * (fr + i) + 2)) else upd (usF v n) (18 + 3 * (fr + i) + 2) x
theorem usF_o {v : Nat → Int32} {n i : Nat} (h1 : i ≠ 6) (h2 : i ≠ 786 + 16 * n + 8) : usF v n i = v i := by
  unfold usF
  rw [u_ne h2, u_ne h1]
theorem c_does2 {t b i : Int32} {n m a fr : Nat} (ht : t.toInt = m) (hm : m < 6) (hb : b.toInt = n) (hn : n < 96) (hi : i.toInt = a) (what x : Int32) (σ : sm_S) (hfr : (σ 1 (786 + 16 * n + 1)).toInt = fr) (h : fr + a < 256) : xC xM j_M_does [.ref 0, .int t, .int b, .int what, .int i, .int x] σ (sm_V (fun σ' => σ' = sm_set σ 1 (doF (σ 1) m n fr a t what x))) := by
  refine w_M_does t b what i x σ _ ⟨fun h2 => (c_uses2 hb hn σ).void ?_, fun h2 => (c_of (k := 5) (j := 5) hb rfl (by omega) σ).int ?_⟩
  · rintro _ rfl
    have hf1 : (usF (σ 1) n (786 + 16 * n + 1)).toInt = fr := by rw [usF_o (by omega) (by omega)]; exact hfr
    have q : (usF (σ 1) n (786 + 16 * n + 1) + i).toInt = ((fr + a : Nat) : Int) := by
      rw [t_add hf1 hi (by omega) (by omega)]
      omega
    refine ⟨fun h0 => (c_frameOf hb hn _).int ?_, fun h0 => (c_taskAt t _).int ?_⟩
    · rintro _ _ ⟨rfl, rfl⟩
      rw [s_at]
      refine (c_lays q (by omega) x _).void ?_
      rintro _ rfl
      refine ⟨rfl, ?_⟩
      unfold doF
      rw [if_neg h2, if_neg h0, s_at, s_ss]
    · rintro _ _ ⟨rfl, rfl⟩
      refine (c_frameOf hb hn _).int ?_
      rintro _ _ ⟨rfl, rfl⟩
      rw [s_at]
      refine (c_valueOf q (by omega) _).int ?_
      rintro _ _ ⟨rfl, rfl⟩
      obtain ⟨p1, p2⟩ := ixT (k := 5) (j := 5) ht rfl (by omega)
      refine ⟨p1, fun σ1 e1 => ⟨rfl, ?_⟩⟩
      rw [p2, s_at, s_ss, usF_o (by omega) (by omega)] at e1
      unfold doF
      rw [if_neg h2, if_pos (Classical.not_not.mp h0)]
      exact e1
  · rintro _ _ ⟨rfl, rfl⟩
    refine (c_lay (k := 5) (j := 5) hb rfl (by omega) _ _).void ?_
    rintro _ rfl
    refine ⟨rfl, ?_⟩
    unfold doF
    rw [if_pos (Classical.not_not.mp h2)]
def doC (c : sm_S) (t n f : Nat) (tI what x : Int32) : sm_S := if what = 2 then sm_set c 13 (upd (c 13) n (c 13 n ||| ((1 : Int32) <<< (tI &&& 31)))) else if what = 0 then usC (sm_set c 29 (upd (c 29) t (c 7 f))) n else usC (sm_set c 7 (upd (c 7) f x)) n
theorem e_fulfil2 {t b : Int32} {n m a fr : Nat} (ht : t.toInt = m) (hm : m < 6) (hb : b.toInt = n) (hn : n < 96) (σ : sm_S) (hw : σ 30 m ≠ 2 → (σ 31 m).toInt = a ∧ (σ 9 n).toInt = fr ∧ fr + a < 256) : xC xD j_Y_fulfil [.ref 0, .int t, .int b] σ (sm_V (fun σ' => σ' = doC σ m n (fr + a) t (σ 30 m) (σ 32 m))) := by
  have v1 := t_vp ht hm
  have v2 := t_vp hb hn
  refine d_Y_fulfil t b σ _ ?_
  rw [t_nat ht, t_nat hb]
  refine ⟨v1, fun h2 => ?_, fun h2 => ⟨v2, v2, fun σ7 e7 => ⟨rfl, ?_⟩⟩⟩
  · obtain ⟨g1, g2, g3⟩ := hw h2
    have q : (σ 9 n + σ 31 m).toInt = ((fr + a : Nat) : Int) := by
      rw [t_add g2 g1 (by omega) (by omega)]
      omega
    have vq := t_vp (N := 256) q g3
    rw [t_nat q]
    refine ⟨v2, v1, v1, fun h0 => ⟨v1, vq, fun σ1 e1 σ2 e2 => ⟨v2, fun σ3 e3 => ⟨rfl, ?_⟩⟩⟩, fun h0 => ⟨vq, v1, fun σ4 e4 σ5 e5 => ⟨v2, fun σ6 e6 => ⟨rfl, ?_⟩⟩⟩⟩
    · unfold doC
      rw [if_neg h2, if_neg h0, e3, e2, e1]
      rfl
    · unfold doC
      rw [if_neg h2, if_pos (Classical.not_not.mp h0), e6, e5, e4]
      rfl
  · unfold doC
    rw [if_pos (Classical.not_not.mp h2), e7]
theorem sim_does {c : sm_S} {v : Nat → Int32} {t n fr a : Nat} {tI what x : Int32} (h : sim0 c v) (hk : ∀ b, b < 96 → bk_ok v b) (ht : t < 6) (hn : n < 96) (hf : fr + a < 256) (hp : v (786 + 16 * n + 5) = c 13 n) : sim0 (doC c t n (fr + a) tI what x) (doF v t n fr a tI what x) := by
  have us : ∀ b, b < 96 → ∀ w : Nat → Int32, (∀ i, 786 ≤ i → i < 2322 → w i = v i) → bk_ok w b := fun b hb w hw => bk_cong (fun k h1 _ _ _ => hw _ (by omega) (by omega)) (hk b hb)
  unfold doC doF
  by_cases h2 : what = 2
  · rw [if_pos h2, if_pos h2, hp]
    exact sim_pin _ h hk hn
  · rw [if_neg h2, if_neg h2]
    by_cases h0 : what = 0
    · rw [if_pos h0, if_pos h0, (h.F (fr + a) hf).val]
      have := sim_use (sim_read (c 7 (fr + a)) h hk ht) (fun b hb => us b hb _ (fun i h1 h2 => u_ne (by omega))) hn
      have e : usF (upd v (2322 + 6 * t + 5) (c 7 (fr + a))) n = upd (usF v n) (2322 + 6 * t + 5) (c 7 (fr + a)) := by
        unfold usF
        rw [u_ne (show (6 : Nat) ≠ 2322 + 6 * t + 5 by omega), u_com (a := 2322 + 6 * t + 5) (b := 6) (by omega), u_com (a := 2322 + 6 * t + 5) (b := 786 + 16 * n + 8) (by omega)]
      rw [e] at this
      exact this
    · rw [if_neg h0, if_neg h0]
      have := sim_use (sim_val x h hk hf) (fun b hb => us b hb _ (fun i h1 h2 => u_ne (by omega))) hn
      have e : usF (upd v (18 + 3 * (fr + a) + 2) x) n = upd (usF v n) (18 + 3 * (fr + a) + 2) x := by
        unfold usF
        rw [u_ne (show (6 : Nat) ≠ 18 + 3 * (fr + a) + 2 by omega), u_com (a := 18 + 3 * (fr + a) + 2) (b := 6) (by omega), u_com (a := 18 + 3 * (fr + a) + 2) (b := 786 + 16 * n + 8) (by omega)]
      rw [e] at this
      exact this
