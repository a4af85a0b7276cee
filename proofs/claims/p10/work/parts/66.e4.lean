/-! ===== the class: spans go ===== -/
theorem upd_id {f : Nat → Int32} {b : Nat} : upd f b (f b) = f := by
  funext i
  by_cases h : i = b
  · subst h; exact u_at
  · exact u_ne h
theorem lv_uniq {σ : sm_S} (hk : kk σ) {s t b : Nat} (hs : s < 8) (ht : t < 8) (h1 : (σ 24 s).toInt = b) (h2 : (σ 24 t).toInt = b) : s = t := by
  obtain ⟨_, _, _, _, _, _, _, g⟩ := hk.2.1 s hs
  obtain ⟨_, _, _, _, _, _, _, g'⟩ := hk.2.1 t ht
  obtain ⟨c, f, -, q2, -, -, q5, q6⟩ := g.resolve_left (ne_m1 h1)
  obtain ⟨c', f', -, r2, -, -, r5, r6⟩ := g'.resolve_left (ne_m1 h2)
  have e1 : c = b := by omega
  have e2 : c' = b := by omega
  subst e1 e2
  omega
/-- a block that leaves a span -/
theorem lev_at {σ : sm_S} (hk : kk σ) {s : Nat} (hs : s < 8) (h : σ 24 s ≠ -1) : ∃ b f o w t c : Nat, b < 96 ∧ (σ 24 s).toInt = b ∧ eb σ b f o w ∧ σ 14 b ≠ -1 ∧ (σ 14 b).toInt = t ∧ t + 2 ^ o ≤ 256 ∧ (σ 15 b).toInt = c ∧ c ≤ 2 ^ o ∧ f / 32 = s := by
  obtain ⟨_, _, _, _, _, _, _, g⟩ := hk.2.1 s hs
  obtain ⟨b, f', q1, q2, -, q4, q5, q6⟩ := g.resolve_left h
  rcases hk.1 b q1 with g | ⟨f, o, w, he, g | ⟨t, c, r1, r2, r3, r4, -⟩⟩
  · exact absurd g.2.1 q4
  · exact absurd g.1 q4
  · have : f = f' := by have := he.1; omega
    exact ⟨b, f, o, w, t, c, q1, q2, he, q4, r1, r2, r3, r4, by omega⟩
theorem kj_arr {σ σ' : sm_S} {s b f o w p : Nat} {x : Int32} (hs : s < 8) (hb : b < 96) (h : kx [9, 14, 15, 24] σ σ') (e9 : σ' 9 = upd (σ 9) b x) (hx : x.toInt = p) (hp : p + 2 ^ o ≤ 256) (e14 : σ' 14 = upd (σ 14) b (-1)) (e15 : σ' 15 = upd (σ 15) b 0) (e24 : σ' 24 = upd (σ 24) s (-1)) (hl : (σ 24 s).toInt = b) (he : eb σ b f o w) (hk : kk σ) : kj σ' ∧ ktx b σ' ∧ eb σ' b p o w := by
  have heb : eb σ' b p o w := ⟨by rw [e9, u_at]; exact hx, by rw [h.1 10 rfl rfl]; exact he.2.1, he.2.2.1, hp, by rw [h.1 12 rfl rfl]; exact he.2.2.2.2.1, he.2.2.2.2.2⟩
  refine ⟨⟨fun c hc => ?_, fun t ht => ?_, h.2.2.2.1 hk.2.2.2.1, h.2.2.2.2 hk.2.2.2.2.1, by rw [h.2.2.1]; exact hk.2.2.2.2.2⟩, ?_, heb⟩
  · by_cases hcb : c = b
    · subst hcb
      exact Or.inr ⟨p, o, w, heb, Or.inl ⟨by rw [e14, u_at], by rw [e15, u_at]⟩⟩
    · refine kb_cong (by rw [e9, u_ne hcb]) (by rw [h.1 10 rfl rfl]) (by rw [h.1 11 rfl rfl]) (by rw [h.1 12 rfl rfl]) (by rw [e14, u_ne hcb]) (by rw [e15, u_ne hcb]) (fun t ht => ?_) (hk.1 c hc)
      rw [e24, u_ne (fun z => by rw [z, hl] at ht; omega)]
  · by_cases hts : t = s
    · subst hts
      obtain ⟨sh, r, q1, q2, q3, q4, q5, -⟩ := hk.2.1 t ht
      exact ⟨sh, r, by rw [h.1 20 rfl rfl]; exact q1, q2, by rw [h.1 18 rfl rfl]; exact q3, by rw [h.1 23 rfl rfl]; exact q4, q5, Or.inl (by rw [e24, u_at])⟩
    · refine ks_cong (by rw [h.1 18 rfl rfl]) (by rw [h.1 20 rfl rfl]) (by rw [h.1 23 rfl rfl]) (by rw [e24, u_ne hts]) (fun c _ hc hn => ?_) (hk.2.1 t ht)
      have hcb : c ≠ b := fun z => hts (lv_uniq hk ht hs (by rw [hc, z]) hl)
      exact ⟨by rw [e14, u_ne hcb]; exact hn, by rw [e9, u_ne hcb]⟩
  · refine ktx_cong (h.2.1 rfl) (h.1 28 rfl rfl) (fun _ _ => by rw [h.1 31 rfl rfl]) (h.1 33 rfl rfl) (fun c _ hc => ⟨?_, by rw [h.1 10 rfl rfl]⟩) (hk.2.2.1.x (c := b))
    by_cases hcb : c = b
    · exact Or.inl hcb
    · exact Or.inr (by rw [e14, u_ne hcb]; exact hc.resolve_left hcb)
theorem kk_way {σ σ' : sm_S} {s b f o w p : Nat} {x y : Int32} (hs : s < 8) (hb : b < 96) (h : kx [14, 24] σ σ') (e24 : σ' 24 = upd (σ 24) s x) (hx : x.toInt = b) (e14 : σ' 14 = upd (σ 14) b y) (hy : y.toInt = p) (hp : p + 2 ^ o ≤ 256) (h18 : σ 18 s = 3) (h24 : σ 24 s = -1) (he : eb σ b f o w) (hf : f / 32 = s) (h14 : σ 14 b = -1) (hk : kk σ) : kk σ' := by
  have n14 : ∀ c, σ 14 c ≠ -1 → c ≠ b := fun c hc z => hc (by rw [z]; exact h14)
  refine ⟨fun c hc => ?_, fun t ht => ?_, ?_, h.2.2.2.1 hk.2.2.2.1, h.2.2.2.2 hk.2.2.2.2.1, by rw [h.2.2.1]; exact hk.2.2.2.2.2⟩
  · by_cases hcb : c = b
    · subst hcb
      refine Or.inr ⟨f, o, w, eb_cong (by rw [h.1 9 rfl rfl]) (by rw [h.1 10 rfl rfl]) (by rw [h.1 12 rfl rfl]) he, Or.inr ⟨p, 0, by rw [e14, u_at]; exact hy, hp, ?_, Nat.zero_le _, ?_⟩⟩
      · rw [h.1 15 rfl rfl, kb_c0 (hk.1 c hc) h14]; rfl
      · rw [hf, e24, u_at]; exact hx
    · refine kb_cong (by rw [h.1 9 rfl rfl]) (by rw [h.1 10 rfl rfl]) (by rw [h.1 11 rfl rfl]) (by rw [h.1 12 rfl rfl]) (by rw [e14, u_ne hcb]) (by rw [h.1 15 rfl rfl]) (fun t ht => ?_) (hk.1 c hc)
      rw [e24, u_ne (fun z => by rw [z, h24, m1] at ht; omega)]
  · by_cases hts : t = s
    · subst hts
      obtain ⟨sh, r, q1, q2, q3, q4, q5, -⟩ := hk.2.1 t ht
      exact ⟨sh, r, by rw [h.1 20 rfl rfl]; exact q1, q2, by rw [h.1 18 rfl rfl]; exact q3, by rw [h.1 23 rfl rfl]; exact q4, q5, Or.inr ⟨b, f, hb, by rw [e24, u_at]; exact hx, by rw [h.1 18 rfl rfl]; exact h18, by rw [e14, u_at]; exact ne_m1 hy, by rw [h.1 9 rfl rfl]; exact he.1, hf⟩⟩
    · exact ks_cong (by rw [h.1 18 rfl rfl]) (by rw [h.1 20 rfl rfl]) (by rw [h.1 23 rfl rfl]) (by rw [e24, u_ne hts]) (fun c _ hc hn => ⟨by rw [e14, u_ne (n14 c hn)]; exact hn, by rw [h.1 9 rfl rfl]⟩) (hk.2.1 t ht)
  · exact kt_cong (h.2.1 rfl) (h.1 28 rfl rfl) (fun _ _ => by rw [h.1 31 rfl rfl]) (h.1 33 rfl rfl) (fun c _ hn => ⟨by rw [e14, u_ne (n14 c hn)]; exact hn, by rw [h.1 10 rfl rfl]⟩) hk.2.2.1
theorem kk_cop {σ σ' : sm_S} {b f o w c : Nat} {x : Int32} (h : kx [15] σ σ') (e15 : σ' 15 = upd (σ 15) b x) (hx : x.toInt = c) (hc : c ≤ 2 ^ o) (he : eb σ b f o w) (h14 : σ 14 b ≠ -1) (hk : kk σ) : kk σ' := by
  refine ⟨fun d hd => ?_, fun t ht => ks_cong (by rw [h.1 18 rfl rfl]) (by rw [h.1 20 rfl rfl]) (by rw [h.1 23 rfl rfl]) (by rw [h.1 24 rfl rfl]) (fun c _ hc hn => ⟨by rw [h.1 14 rfl rfl]; exact hn, by rw [h.1 9 rfl rfl]⟩) (hk.2.1 t ht), ?_, h.2.2.2.1 hk.2.2.2.1, h.2.2.2.2 hk.2.2.2.2.1, by rw [h.2.2.1]; exact hk.2.2.2.2.2⟩
  · by_cases hdb : d = b
    · subst hdb
      rcases hk.1 d hd with g | ⟨f', o', w', he', g | ⟨t, c', r1, r2, r3, r4, r5⟩⟩
      · exact absurd g.2.1 h14
      · exact absurd g.1 h14
      · have : o' = o := by have := he.2.1; have := he'.2.1; omega
        subst this
        exact Or.inr ⟨f', o', w', eb_cong (by rw [h.1 9 rfl rfl]) (by rw [h.1 10 rfl rfl]) (by rw [h.1 12 rfl rfl]) he', Or.inr ⟨t, c, by rw [h.1 14 rfl rfl]; exact r1, r2, by rw [e15, u_at]; exact hx, hc, by rw [h.1 24 rfl rfl]; exact r5⟩⟩
    · exact kb_cong (by rw [h.1 9 rfl rfl]) (by rw [h.1 10 rfl rfl]) (by rw [h.1 11 rfl rfl]) (by rw [h.1 12 rfl rfl]) (by rw [h.1 14 rfl rfl]) (by rw [e15, u_ne hdb]) (fun t _ => by rw [h.1 24 rfl rfl]) (hk.1 d hd)
  · exact kt_cong (h.2.1 rfl) (h.1 28 rfl rfl) (fun _ _ => by rw [h.1 31 rfl rfl]) (h.1 33 rfl rfl) (fun c _ hn => ⟨by rw [h.1 14 rfl rfl]; exact hn, by rw [h.1 10 rfl rfl]⟩) hk.2.2.1
theorem e_endGoing {a1 : Int32} {s : Nat} (h1 : a1.toInt = s) (hs : s < 8) (a2 : Int32) (σ : sm_S) : xC xD j_S_endGoing [.ref 17, .int a1, .int a2] σ (sm_V (egn s a2 σ)) := by
  have v := t_vp h1 hs
  refine d_S_endGoing a1 a2 σ _ ?_
  rw [t_nat h1]
  refine ⟨v, fun σ1 e1 => ⟨v, fun σ2 e2 => ⟨v, fun σ3 e3 => ⟨v, fun σ4 e4 => ⟨v, fun σ5 e5 => ⟨v, fun σ6 e6 => ⟨rfl, ?_⟩⟩⟩⟩⟩⟩⟩
  subst e1 e2 e3 e4 e5 e6
  exact ⟨(((((kx.rf.set rfl).set rfl).set rfl).set rfl).set rfl).set rfl, rfl, rfl, rfl, rfl⟩
theorem e_endWay {a1 a2 : Int32} {s b : Nat} (h1 : a1.toInt = s) (hs : s < 8) (h2 : a2.toInt = b) (hb : b < 96) (σ : sm_S) : xC xD j_G_endWay [.ref 41, .int a1, .int a2] σ (sm_V (fun σ' => kx [9, 14, 15, 24] σ σ' ∧ σ' 9 = σ 9 ∧ σ' 14 = upd (σ 14) b (-1) ∧ σ' 15 = upd (σ 15) b 0 ∧ σ' 24 = upd (σ 24) s (-1))) := by
  have v1 := t_vp h1 hs
  have v2 := t_vp h2 hb
  refine d_G_endWay a1 a2 σ _ ?_
  rw [t_nat h1, t_nat h2]
  refine ⟨v2, fun σ1 e1 => ⟨v2, fun σ2 e2 => ⟨v1, fun σ3 e3 => ⟨rfl, ?_⟩⟩⟩⟩
  subst e1 e2 e3
  exact ⟨((kx.rf.set rfl).set rfl).set rfl, rfl, rfl, rfl, rfl⟩
theorem e_open {a1 : Int32} {s : Nat} (h1 : a1.toInt = s) (hs : s < 8) (a2 : Int32) (σ : sm_S) (hk : kk σ) (h3 : σ 18 s ≠ 3) : xC xD j_Y_open [.ref 0, .int a1, .int a2] σ (sm_V kk) := by
  have v := t_vp h1 hs
  refine d_Y_open a1 a2 σ _ ?_
  rw [t_nat h1]
  refine ⟨v, fun σ1 e1 => ⟨v, fun σ2 e2 => ⟨v, fun σ3 e3 => ?_⟩⟩⟩
  have x3 : kx [18] σ σ3 := by subst e1 e2 e3; exact ((kx.rf.set rfl).set rfl).set rfl
  have f3 : σ3 18 = upd (σ 18) s 1 := by subst e1 e2 e3; rfl
  have k3 := kk_sta hs x3 f3 hk h3 (by decide)
  refine (e_add _ _ _ _ σ3 k3.2.2.2.2.1).void ?_
  intro σ4 x4
  exact ⟨rfl, kk_id x4 k3⟩
theorem e_Gbegin {a1 : Int32} {s : Nat} (h1 : a1.toInt = s) (hs : s < 8) (σ : sm_S) (hk : kk σ) (h3 : σ 18 s ≠ 3) : xC xD j_G_begin [.ref 41, .int a1] σ (sm_V kk) := by
  have v := t_vp h1 hs
  refine d_G_begin a1 σ _ ?_
  rw [t_nat h1]
  refine ⟨v, fun σ1 e1 => ⟨by decide, ?_⟩⟩
  have x1 : kx [18] σ σ1 := by subst e1; exact kx.rf.set rfl
  have k1 := kk_sta hs x1 (by rw [e1, s_at]) hk h3 (by decide)
  refine (e_add _ _ _ _ σ1 k1.2.2.2.2.1).void ?_
  intro σ4 x4
  exact ⟨rfl, kk_id x4 k1⟩
theorem e_fail {a1 : Int32} {s : Nat} (h1 : a1.toInt = s) (hs : s < 8) (a2 : Int32) (σ : sm_S) (hk : kk σ) (h24 : σ 24 s = -1) : xC xD j_G_fail [.ref 41, .int a1, .int a2] σ (sm_V kk) := by
  have v := t_vp h1 hs
  have v7 := t_vp (x := (7 : Int32)) (n := 7) (N := 11) rfl (by omega)
  refine d_G_fail a1 a2 σ _ ⟨v, v, v, fun σ1 e1 => ⟨v, fun σ2 e2 => ?_⟩⟩
  have x2 : kx [] σ σ2 := by subst e1 e2; exact (kx.rf.set rfl).set rfl
  refine (e_endGoing h1 hs _ σ2).void ?_
  intro σ3 g3
  have k3 := kk_egn hs g3 (kk_id x2 hk) (by rw [x2.1 24 rfl rfl]; exact h24)
  refine ⟨v, fun σ4 e4 => ⟨v7, v7, fun σ5 e5 => ?_⟩⟩
  have x5 : kx [] σ3 σ5 := by subst e4 e5; exact (kx.rf.set rfl).set rfl
  have k5 := kk_id x5 k3
  refine (e_add _ _ _ _ σ5 k5.2.2.2.2.1).void ?_
  intro σ6 x6
  exact ⟨rfl, kk_id x6 k5⟩
theorem e_turnOff {a1 : Int32} {s : Nat} (h1 : a1.toInt = s) (hs : s < 8) (σ : sm_S) (hk : kk σ) (h24 : σ 24 s = -1) : xC xD j_G_turnOff [.ref 41, .int a1] σ (sm_V kk) := by
  have v := t_vp h1 hs
  have v6 := t_vp (x := (6 : Int32)) (n := 6) (N := 11) rfl (by omega)
  refine d_G_turnOff a1 σ _ ⟨v6, v6, fun σ1 e1 => ⟨v, ?_⟩⟩
  have x1 : kx [] σ σ1 := by subst e1; exact kx.rf.set rfl
  refine (e_add _ _ _ _ σ1 (x1.2.2.2.2 hk.2.2.2.2.1)).void ?_
  intro σ2 x2
  refine ⟨v, fun σ3 e3 => ⟨v, fun σ4 e4 => ⟨v, fun σ5 e5 => ?_⟩⟩⟩
  have x5 : kx [] σ σ5 := (x1.tr x2).tr (by subst e3 e4 e5; exact ((kx.rf.set rfl).set rfl).set rfl)
  refine (e_endGoing h1 hs _ σ5).void ?_
  intro σ6 g6
  exact ⟨rfl, kk_egn hs g6 (kk_id x5 hk) (by rw [x5.1 24 rfl rfl]; exact h24)⟩
theorem e_endPass {a1 : Int32} {s : Nat} (h1 : a1.toInt = s) (hs : s < 8) (σ : sm_S) (hk : kk σ) (h24 : σ 24 s = -1) : xC xD j_G_endPass [.ref 41, .int a1] σ (sm_V kk) := by
  have v := t_vp h1 hs
  have v9 := t_vp (x := (9 : Int32)) (n := 9) (N := 11) rfl (by omega)
  have w1 := t_vp (x := (1 : Int32)) (n := 1) (N := 4) rfl (by omega)
  have w3 := t_vp (x := (3 : Int32)) (n := 3) (N := 4) rfl (by omega)
  refine d_G_endPass a1 σ _ ?_
  rw [t_nat h1]
  refine ⟨v9, v9, fun σ1 e1 => ?_⟩
  have x1 : kx [] σ σ1 := by subst e1; exact kx.rf.set rfl
  have k1 := kk_id x1 hk
  have g24 : σ1 24 s = -1 := by rw [x1.1 24 rfl rfl]; exact h24
  refine ⟨v, fun _ => ⟨v, w1, fun _ => ⟨v, v, fun σ2 e2 => ⟨w3, v, fun σ3 e3 => ⟨v, fun σ4 e4 => ⟨rfl, ?_⟩⟩⟩⟩, fun _ => (e_whyFails h1 hs σ1 k1.2.2.2.1).int ?_⟩, fun _ => ⟨v, fun _ => ⟨v, w1, fun _ => ⟨v, v, fun σ2 e2 => ⟨w3, v, fun σ3 e3 => ⟨v, fun σ4 e4 => ⟨rfl, ?_⟩⟩⟩⟩, fun _ => (e_whyFails h1 hs σ1 k1.2.2.2.1).int ?_⟩, fun _ => (e_turnOff h1 hs σ1 k1 g24).void ?_⟩⟩
  · exact kk_rea (r := 0) hs (by subst e2 e3 e4; exact ((kx.rf.set rfl).set rfl).set rfl) (by subst e2 e3 e4; rfl) rfl (by omega) k1
  · rintro x6 σ1 rfl
    refine (e_fail h1 hs _ _ k1 g24).void ?_
    intro σ7 k7
    exact ⟨rfl, k7⟩
  · exact kk_rea (r := 0) hs (by subst e2 e3 e4; exact ((kx.rf.set rfl).set rfl).set rfl) (by subst e2 e3 e4; rfl) rfl (by omega) k1
  · rintro x6 σ1 rfl
    refine (e_fail h1 hs _ _ k1 g24).void ?_
    intro σ7 k7
    exact ⟨rfl, k7⟩
  · intro σ7 k7
    exact ⟨rfl, k7⟩
theorem e_shutNextPart {a1 : Int32} {s : Nat} (h1 : a1.toInt = s) (hs : s < 8) (σ : sm_S) (hk : kk σ) (h18 : σ 18 s = 2) : xC xD j_G_shutNextPart [.ref 41, .int a1] σ (sm_V kk) := by
  have v := t_vp h1 hs
  have n3 : σ 18 s ≠ 3 := by rw [h18]; decide
  have h24 := ks_no (hk.2.1 s hs) n3
  obtain ⟨sh, r, q1, q2, q3, q4, q5, -⟩ := hk.2.1 s hs
  have q3 := q3 n3
  refine d_G_shutNextPart a1 σ _ ?_
  rw [t_nat h1]
  have hq : (a1 * 32 + σ 20 s * 8).toInt = ((32 * s + 8 * sh : Nat) : Int) := by
    have e8 : (σ 20 s * 8).toInt = ((8 * sh : Nat) : Int) := by
      rw [t_mul q1 (y := 8) rfl (by omega) (by omega)]
      omega
    rw [t_add (t_s32 h1 (by omega)) e8 (by omega) (by omega)]
    omega
  refine ⟨v, (e_hasUnmovable hq (by omega) σ hk.2.2.2.1).int ?_⟩
  rintro x2 σ rfl
  refine ⟨fun _ => ⟨v, v, v, fun σ3 e3 => ⟨v, v, fun σ4 e4 => ⟨v, v, fun σ5 e5 => ⟨v, fun hlt => ⟨rfl, ?_⟩, fun hge => ⟨v, fun σ6 e6 => ⟨v, fun σ7 e7 => ⟨v, fun σ8 e8 => ⟨rfl, ?_⟩⟩⟩⟩⟩⟩⟩⟩, fun _ => (e_fail h1 hs _ _ hk h24).void ?_⟩
  · have x5 : kx [20] σ σ5 := by subst e3 e4 e5; exact ((kx.rf.set rfl).set rfl).set rfl
    have f5 : σ5 20 = upd (σ 20) s (σ 20 s + 1) := by subst e3 e4 e5; rfl
    have hsh : (σ 20 s + 1).toInt = ((sh + 1 : Nat) : Int) := by
      rw [t_add q1 (y := 1) rfl (by omega) (by omega)]
      omega
    refine kk_spn hs (x5.up (fun k hk => ?_)) hk (fun c k hc hk => ?_) h24 (by rw [x5.1 24 rfl rfl]; exact h24) ⟨sh + 1, r, by rw [f5, u_at]; exact hsh, by omega, fun _ => ?_, by rw [x5.1 23 rfl rfl]; exact q4, q5⟩
    · simp only [List.contains_cons, Bool.or_eq_false_iff] at hk ⊢
      exact ⟨hk.2.1, rfl⟩
    · rcases hk with rfl | rfl | rfl | rfl
      · rw [x5.1 18 rfl rfl]
      · rw [f5, u_ne hc]
      · rw [x5.1 23 rfl rfl]
      · rw [x5.1 24 rfl rfl]
    · rw [f5, u_at, t_lt, hsh] at hlt
      have hlt : ((sh + 1 : Nat) : Int) < 4 := hlt
      omega
  · have x8 : kx [18, 20, 23, 24] σ σ8 := by subst e3 e4 e5 e6 e7 e8; exact (((((kx.rf.set rfl).set rfl).set rfl).set rfl).set rfl).set rfl
    have f20 : σ8 20 = upd (σ 20) s (σ 20 s + 1) := by subst e3 e4 e5 e6 e7 e8; rfl
    have f18 : σ8 18 = upd (σ 18) s 3 := by subst e3 e4 e5 e6 e7 e8; rfl
    have f23 : σ8 23 = upd (σ 23) s 0 := by subst e3 e4 e5 e6 e7 e8; rfl
    have f24 : σ8 24 = σ 24 := by subst e3 e4 e5 e6 e7 e8; rfl
    have hsh : (σ 20 s + 1).toInt = ((sh + 1 : Nat) : Int) := by
      rw [t_add q1 (y := 1) rfl (by omega) (by omega)]
      omega
    refine kk_spn hs x8 hk (fun c k hc hk => ?_) h24 (by rw [f24]; exact h24) ⟨sh + 1, 0, by rw [f20, u_at]; exact hsh, by omega, fun z => absurd (by rw [f18, u_at]) z, by rw [f23, u_at]; rfl, by omega⟩
    rcases hk with rfl | rfl | rfl | rfl
    · rw [f18, u_ne hc]
    · rw [f20, u_ne hc]
    · rw [f23, u_ne hc]
    · rw [f24]
  · intro σ9 k9
    exact ⟨rfl, k9⟩
theorem l_split {a1 a2 a3 a4 : Int32} {n q p : Nat} (h2 : a2.toInt = n) (hn : n < 96) (h3 : a3.toInt = q) (hq : q ≤ 4) (h4 : a4.toInt = p) (hp : p + 2 ^ q ≤ 256) : ∀ (d k : Nat) (a5 : Int32) (τ : sm_S), a5.toInt = k → k + d = 2 ^ q → kk τ → xE xD m_G_split 87 [.ref 41, .int a1, .int a2, .int a3, .int a4, .int a5] [] τ (sm_V (fun σ' => kk σ' ∧ σ' 18 = τ 18)) := by
  have v4 := t_vp (x := (4 : Int32)) (n := 4) (N := 11) rfl (by omega)
  have hs : ((1 : Int32) <<< (a3 &&& 31)).toInt = ((2 ^ q : Nat) : Int) := t_pow h3 (by omega)
  intro d
  induction d with
  | zero =>
    intro k a5 τ h5 hk hkk
    refine d_G_split_87 a1 a2 a3 a4 a5 τ _ ⟨fun _ => ⟨v4, v4, fun σ1 e1 => ?_⟩, fun h => absurd (by rw [t_le, hs, h5]; omega) h⟩
    have x1 : kx [] τ σ1 := by subst e1; exact kx.rf.set rfl
    have k1 := kk_id x1 hkk
    refine (e_add _ _ _ _ σ1 k1.2.2.2.2.1).void ?_
    intro σ2 x2
    exact ⟨rfl, kk_id x2 k1, by rw [x2.1 18 rfl rfl, x1.1 18 rfl rfl]⟩
  | succ d ih =>
    intro k a5 τ h5 hk hkk
    have h5' : (a5 + 1).toInt = ((k + 1 : Nat) : Int) := by
      rw [t_add h5 (y := 1) rfl (by omega) (by omega)]
      omega
    refine d_G_split_87 a1 a2 a3 a4 a5 τ _ ⟨fun h => ?_, fun _ => ⟨t_vp (n := p + k) ?_ (by omega), fun σ3 e3 => ?_⟩⟩
    · rw [t_le, hs, h5] at h; omega
    · rw [t_add h4 h5 (by omega) (by omega)]; omega
    · have x3 : kx [] τ σ3 := by rw [e3]; exact kx.rf.s6 rfl (m := n + 1) (by omega) (by rw [h2]; omega)
      refine (ih (k + 1) _ σ3 h5' (by omega) (kk_id x3 hkk)).mono ?_
      rintro r σ' ⟨rfl, g1, g2⟩
      exact ⟨rfl, g1, by rw [g2, x3.1 18 rfl rfl]⟩
theorem e_split {a1 a2 : Int32} {b f o w n : Nat} (h1 : a1.toInt = b) (hb : b < 96) (h2 : a2.toInt = n) (hn : n < 96) (σ : sm_S) (hk : kk σ) (he : eb σ b f o w) (ho : 0 < o) (h14 : σ 14 b = -1) (h9 : σ 9 n = -1) : xC xD j_G_split [.ref 41, .int a1, .int a2] σ (sm_V (fun σ' => kk σ' ∧ σ' 18 = σ 18)) := by
  have v1 := t_vp h1 hb
  have v2 := t_vp h2 hn
  obtain ⟨q, rfl⟩ : ∃ q, o = q + 1 := ⟨o - 1, by omega⟩
  have h4 := he.2.2.1
  have h256 := he.2.2.2.1
  have hoq : (σ 10 b - 1).toInt = q := by
    rw [t_sub he.2.1 (y := 1) rfl (by omega) (by omega)]
    omega
  rw [Nat.pow_succ] at h256
  have hsz : ((1 : Int32) <<< ((σ 10 b - 1) &&& 31)).toInt = ((2 ^ q : Nat) : Int) := t_pow hoq (by omega)
  have hpos := Nat.two_pow_pos q
  have hmid : (σ 9 b + ((1 : Int32) <<< ((σ 10 b - 1) &&& 31))).toInt = ((f + 2 ^ q : Nat) : Int) := by
    rw [t_add he.1 hsz (by omega) (by omega)]
    omega
  refine d_G_split a1 a2 σ _ ?_
  rw [t_nat h1, t_nat h2]
  refine ⟨v1, v1, v1, fun σ1 e1 => ⟨v1, v1, ?_⟩⟩
  have x1 : kx [10] σ σ1 := by subst e1; exact kx.rf.set rfl
  have k1 := kk_ord hb x1 (by rw [e1, s_at]) hoq (by omega) he hk h14
  refine (e_begin h2 hn _ _ _ _ σ1).void ?_
  intro σ2 b2
  have k2 := kk_bgn (w := w) hn b2 hmid hoq (by omega) (by omega) (by rw [x1.1 12 rfl rfl]; exact he.2.2.2.2.1) he.2.2.2.2.2 k1 (by rw [x1.1 9 rfl rfl]; exact h9)
  refine ⟨v1, v2, fun σ3 e3 => ?_⟩
  have x3 : kx [] σ2 σ3 := by subst e3; exact kx.rf.set rfl
  refine (l_split h2 hn hoq (by omega) hmid (by omega) (2 ^ q) 0 0 σ3 rfl (by omega) (kk_id x3 k2)).mono ?_
  rintro r σ' ⟨rfl, g1, g2⟩
  exact ⟨rfl, g1, by rw [g2, x3.1 18 rfl rfl, b2.1.1 18 rfl rfl, x1.1 18 rfl rfl]⟩
theorem e_lookAt {a1 a2 : Int32} {s b n : Nat} (h1 : a1.toInt = s) (hs : s < 8) (h2 : a2.toInt = b) (hb : b < 96) (σ : sm_S) (hk : kk σ) (h18 : σ 18 s = 3) (h24 : σ 24 s = -1) (h9 : (σ 9 b).toInt = n) (hn : n / 32 = s) : xC xD j_G_lookAt [.ref 41, .int a1, .int a2] σ (sm_V (fun σ' => kk σ' ∧ σ' 18 = σ 18)) := by
  have v1 := t_vp h1 hs
  have v2 := t_vp h2 hb
  obtain ⟨f, o, w, he⟩ := kb_at hk.1 hb h9
  have hfn : f = n := by have := he.1; omega
  subst hfn
  have h14 : σ 14 b = -1 := by
    rcases hk.1 b hb with g | ⟨f', o', w', he', g | ⟨t, c, r1, r2, r3, r4, r5⟩⟩
    · exact g.2.1
    · exact g.1
    · have : f' = f := by have := he.1; have := he'.1; omega
      rw [this, hn, h24, m1] at r5
      omega
  have hsz := t_sz he
  have h4 := he.2.2.1
  have h256 := he.2.2.2.1
  have hpos := Nat.two_pow_pos o
  have hp16 : 2 ^ o ≤ 16 := Nat.pow_le_pow_right (n := 2) (by decide) h4
  refine d_G_lookAt a1 a2 σ _ ?_
  rw [t_nat h1, t_nat h2]
  refine ⟨v2, v2, by decide, (e_size h2 hb σ).int ?_⟩
  rintro x2 σ ⟨rfl, rfl⟩
  have hbe : (σ 9 b - σ 9 b / 32 * 32 + (1 : Int32) <<< (σ 10 b &&& 31)).toInt = ((f % 32 + 2 ^ o : Nat) : Int) := by
    rw [t_add (t_rem (d := 32) he.1 rfl (by decide)) hsz (by omega) (by omega)]
    omega
  have reach : ∀ σ3 : sm_S, σ3 = sm_set σ 23 (upd (σ 23) s (σ 9 b - σ 9 b / 32 * 32 + (1 : Int32) <<< (σ 10 b &&& 31))) → kk σ3 ∧ σ3 18 = σ 18 := fun σ3 e3 => ⟨kk_rea hs (by subst e3; exact kx.rf.set rfl) (by rw [e3, s_at]) hbe (by omega) hk, by subst e3; rfl⟩
  refine ⟨v2, fun _ => ⟨v1, fun σ3 e3 => ⟨rfl, reach σ3 e3⟩⟩, fun _ => ⟨v2, fun _ => ⟨v2, fun _ => ⟨v2, v2, (e_bestPlace he.2.2.2.2.1 he.2.2.2.2.2 he.2.1 h4 σ).int ?_⟩, fun _ => (e_noteDrop h2 hb σ hk.2.2.2.2.1).void ?_⟩, fun _ => ⟨v1, fun σ3 e3 => ⟨rfl, reach σ3 e3⟩⟩⟩⟩
  · rintro x5 σ ⟨hx5, rfl⟩
    refine ⟨fun _ => ⟨fun _ => ⟨fun z => absurd rfl z, fun _ => ⟨v1, fun σ3 e3 => ⟨rfl, reach σ3 e3⟩⟩⟩, fun hpo => (e_leastNumber σ).int ?_⟩, fun n5 => ?_⟩
    · rintro x9 σ ⟨hx9, rfl⟩
      refine ⟨fun n9 => ?_, fun _ => ⟨v1, fun σ3 e3 => ⟨rfl, reach σ3 e3⟩⟩⟩
      obtain ⟨m, hm, hm2, hm9⟩ := hx9.resolve_left n9
      rw [t_le, he.2.1] at hpo
      have hpo : ¬ (o : Int) ≤ 0 := hpo
      exact (e_split h2 hb hm2 hm _ hk he (by omega) h14 hm9).void (fun σ10 k10 => ⟨rfl, k10⟩)
    · obtain ⟨p, p1, p2⟩ := hx5.resolve_left n5
      refine ⟨v1, fun σ12 e12 => ⟨v1, fun σ13 e13 => ⟨v2, fun σ14 e14 => ?_⟩⟩⟩
      obtain ⟨k12, f12⟩ := reach σ12 e12
      have x14 : kx [14, 24] σ12 σ14 := by subst e13 e14; exact (kx.rf.set rfl).set rfl
      have k14 := kk_way (o := o) (f := f) (w := w) hs hb x14 (by subst e13 e14; rfl) h2 (by subst e13 e14; rfl) p1 p2 (by rw [f12]; exact h18) (by subst e12; exact h24) (by subst e12; exact he) hn (by subst e12; exact h14) k12
      refine (e_hold h2 hb p1 hsz hpos p2 σ14).void ?_
      intro σ15 x15
      exact ⟨rfl, kk_id x15 k14, by rw [x15.1 18 rfl rfl, x14.1 18 rfl rfl, f12]⟩
  · intro σ16 x16
    refine (e_remove (f := f) (o := o) (w := w) h2 hb σ16 (eb_cong (by rw [x16.1 9 rfl rfl]) (by rw [x16.1 10 rfl rfl]) (by rw [x16.1 12 rfl rfl]) he)).void ?_
    rintro σ17 ⟨x17, f17⟩
    exact ⟨rfl, kk_rem hb x17 f17 (kk_id x16 hk) (by rw [x16.1 14 rfl rfl]; exact h14), by rw [x17.1 18 rfl rfl, x16.1 18 rfl rfl]⟩
theorem e_copySome {a1 a2 : Int32} {b f o w t c l : Nat} (h1 : a1.toInt = b) (hb : b < 96) (h2 : a2.toInt = l) (σ : sm_S) (hk : kk σ) (he : eb σ b f o w) (h14 : (σ 14 b).toInt = t) (ht : t + 2 ^ o ≤ 256) (h15 : (σ 15 b).toInt = c) (hc : c ≤ 2 ^ o) : xC xD j_G_copySome [.ref 41, .int a1, .int a2] σ (sm_I (fun x σ' => (∃ m : Nat, m ≤ l ∧ x.toInt = m) ∧ kk σ' ∧ kx [15] σ σ')) := by
  have v := t_vp h1 hb
  have v3 := t_vp (x := (3 : Int32)) (n := 3) (N := 11) rfl (by omega)
  have h4 := he.2.2.1
  have h256 := he.2.2.2.1
  have hsz := t_sz he
  have hp16 : 2 ^ o ≤ 16 := Nat.pow_le_pow_right (n := 2) (by decide) h4
  refine d_G_copySome a1 a2 σ _ ?_
  rw [t_nat h1]
  refine ⟨v, v, v, v, (e_size h1 hb σ).int ?_⟩
  rintro x2 σ ⟨rfl, rfl⟩
  have hd : ((1 : Int32) <<< (σ 10 b &&& 31) - σ 15 b).toInt = ((2 ^ o - c : Nat) : Int) := by
    rw [t_sub hsz h15 (by omega) (by omega)]
    omega
  obtain ⟨y, hy⟩ : ∃ y, y = (if ((1 : Int32) <<< (σ 10 b &&& 31) - σ 15 b) < a2 then ((1 : Int32) <<< (σ 10 b &&& 31) - σ 15 b) else a2) := ⟨_, rfl⟩
  have hm : ∃ m : Nat, y.toInt = m ∧ m ≤ l ∧ c + m ≤ 2 ^ o := by
    rw [hy]
    split
    · next h =>
      rw [t_lt, hd, h2] at h
      exact ⟨2 ^ o - c, hd, by omega, by omega⟩
    · next h =>
      rw [t_lt, hd, h2] at h
      exact ⟨l, h2, Nat.le_refl l, by omega⟩
  rw [← hy]
  obtain ⟨m, m1', m2', m3'⟩ := hm
  have hfc : (σ 9 b + σ 15 b).toInt = ((f + c : Nat) : Int) := by
    rw [t_add he.1 h15 (by omega) (by omega)]
    omega
  have htc : (σ 14 b + σ 15 b).toInt = ((t + c : Nat) : Int) := by
    rw [t_add h14 h15 (by omega) (by omega)]
    omega
  refine ⟨v, (e_copyValues hfc htc m1' (by omega) (by omega) σ).void ?_⟩
  intro σ3 x3
  refine ⟨v, v, fun σ4 e4 => ⟨v3, v3, fun σ5 e5 => ⟨y, rfl, ⟨m, m2', m1'⟩, ?_⟩⟩⟩
  have x5 : kx [15] σ σ5 := x3.o0.tr (by subst e4 e5; exact (kx.rf.set rfl).set rfl)
  refine ⟨kk_cop (c := c + m) (x := σ 15 b + y) x5 ?_ ?_ m3' he (ne_m1 h14) hk, x5⟩
  · subst e4 e5
    rw [s_ne (by decide), s_at, x3.1 15 rfl rfl]
  · rw [t_add h15 m1' (by omega) (by omega)]
    omega
theorem e_arrive {a1 a2 : Int32} {s b f o w t : Nat} (h1 : a1.toInt = s) (hs : s < 8) (h2 : a2.toInt = b) (hb : b < 96) (σ : sm_S) (hk : kk σ) (he : eb σ b f o w) (h14 : (σ 14 b).toInt = t) (ht : t + 2 ^ o ≤ 256) (h24 : (σ 24 s).toInt = b) : xC xD j_G_arrive [.ref 41, .int a1, .int a2] σ (sm_V (fun σ' => kk σ' ∧ σ' 18 = σ 18)) := by
  have v1 := t_vp h1 hs
  have v2 := t_vp h2 hb
  have w2 := t_vp (x := (2 : Int32)) (n := 2) (N := 11) rfl (by omega)
  have h256 := he.2.2.2.1
  have hpos := Nat.two_pow_pos o
  have hsz := t_sz he
  refine d_G_arrive a1 a2 σ _ ?_
  rw [t_nat h2]
  refine ⟨v2, v2, (e_size h2 hb σ).int ?_⟩
  rintro x2 σ ⟨rfl, rfl⟩
  refine (e_shutBits h1 hs σ).int ?_
  rintro x4 σ rfl
  refine (e_letGo he.1 hsz hpos h256 _ σ).void ?_
  intro σ5 x5
  refine (e_settle h14 (by omega) _ σ5).void ?_
  intro σ6 x6
  have x56 := x5.tr x6
  refine ⟨v2, fun σ7 e7 => (e_endWay h1 hs h2 hb σ7).void ?_⟩
  rintro σ8 ⟨x8, f9, f14, f15, f24⟩
  have x7 : kx [9, 14, 15, 24] σ σ7 := by
    rw [e7]
    exact x56.o0.set rfl
  have x78 := x7.tr x8
  have g14 : σ7 14 = σ 14 := by rw [e7, s_ne (by decide), x56.1 14 rfl rfl]
  have g15 : σ7 15 = σ 15 := by rw [e7, s_ne (by decide), x56.1 15 rfl rfl]
  have g24 : σ7 24 = σ 24 := by rw [e7, s_ne (by decide), x56.1 24 rfl rfl]
  have g9 : σ7 9 = upd (σ 9) b (σ 14 b) := by rw [e7, s_at, x56.1 9 rfl rfl]
  obtain ⟨j8, t8, b8⟩ := kj_arr hs hb x78 (f9.trans g9) h14 ht (by rw [f14, g14]) (by rw [f15, g15]) (by rw [f24, g24]) h24 he hk
  refine ⟨w2, w2, fun σ9 e9 => ?_⟩
  have x9 : kx [] σ8 σ9 := by subst e9; exact kx.rf.set rfl
  refine (e_add _ _ _ _ σ9 (x9.2.2.2.2 j8.2.2.2.1)).void ?_
  intro σ10 x10
  have y10 := x9.tr x10
  refine (e_serveLine (f := t) (o := o) (w := w) h2 hb σ10 (kj_id y10 ⟨rfl, rfl, rfl, rfl, rfl, rfl, rfl, rfl, rfl, rfl⟩ j8) (ktx_cong (y10.2.1 rfl) (y10.1 28 rfl rfl) (fun _ _ => by rw [y10.1 31 rfl rfl]) (y10.1 33 rfl rfl) (fun c _ hc => ⟨by rw [y10.1 14 rfl rfl]; exact hc, by rw [y10.1 10 rfl rfl]⟩) t8) (eb_cong (by rw [y10.1 9 rfl rfl]) (by rw [y10.1 10 rfl rfl]) (by rw [y10.1 12 rfl rfl]) b8)).void ?_
  rintro σ11 ⟨k11, f11, -⟩
  exact ⟨rfl, k11, by rw [f11, y10.1 18 rfl rfl, x78.1 18 rfl rfl]⟩
theorem l_moveOn {a1 : Int32} {s : Nat} (h1 : a1.toInt = s) (hs : s < 8) : ∀ (d k l : Nat) (a2 a3 : Int32) (v4 v5 : Value) (σ : sm_S), a3.toInt = k → k + d = 1000 → a2.toInt = l → kk σ → σ 18 s = 3 → xE xD m_G_moveOn 38 [.ref 41, .int a1, .int a2, .int a3, v4, v5] [] σ (sm_V kk) := by
  have v := t_vp h1 hs
  intro d
  induction d with
  | zero =>
    intro k l a2 a3 v4 v5 σ h3 hk h2 hkk h18
    refine d_G_moveOn_38 a1 a2 a3 v4 v5 σ _ ⟨fun _ => ⟨rfl, hkk⟩, fun h => absurd ?_ h⟩
    rw [t_le, h3]
    show (1000 : Int) ≤ _
    omega
  | succ d ih =>
    intro k l a2 a3 v4 v5 σ h3 hk h2 hkk h18
    have h3' : (a3 + 1).toInt = ((k + 1 : Nat) : Int) := by
      rw [t_add h3 (y := 1) rfl (by omega) (by omega)]
      omega
    refine d_G_moveOn_38 a1 a2 a3 v4 v5 σ _ ⟨fun _ => ⟨rfl, hkk⟩, fun _ => ?_⟩
    rw [t_nat h1]
    refine ⟨v, fun n24 => ?_, fun e24 => ?_⟩
    · obtain ⟨b, f, o, w, t, c, hb, hb2, he, n14, q1, q2, q3, q4, q5⟩ := lev_at hkk hs n24
      rw [t_nat hb2]
      refine (e_copySome hb2 hb h2 σ hkk he q1 q2 q3 q4).int ?_
      rintro x2 σ1 ⟨⟨m, m1', m2'⟩, k1, x1⟩
      refine ⟨t_vp hb2 hb, (e_size hb2 hb σ1).int ?_⟩
      rintro x4 σ1 ⟨-, rfl⟩
      have h18' : σ1 18 s = 3 := by rw [x1.1 18 rfl rfl]; exact h18
      refine ⟨fun _ => (e_arrive (f := f) (o := o) (w := w) (t := t) h1 hs hb2 hb σ1 k1 (eb_cong (by rw [x1.1 9 rfl rfl]) (by rw [x1.1 10 rfl rfl]) (by rw [x1.1 12 rfl rfl]) he) (by rw [x1.1 14 rfl rfl]; exact q1) q2 (by rw [x1.1 24 rfl rfl]; exact hb2)).void ?_, fun _ => ⟨rfl, k1⟩⟩
      rintro σ5 ⟨k5, f5⟩
      refine ih (k + 1) (l - m) _ _ _ _ σ5 h3' (by omega) ?_ k5 (by rw [f5]; exact h18')
      have := t_bd a2
      rw [t_sub h2 m2' (by omega) (by omega)]
      omega
    · have e24 : σ 24 s = -1 := Classical.not_not.mp e24
      obtain ⟨sh, r, q1, q2, q3, q4, q5, -⟩ := hkk.2.1 s hs
      refine ⟨v, (e_blockFrom h1 hs q4 q5 σ hkk.2.2.2.1).int ?_⟩
      rintro x7 σ ⟨hx7, rfl⟩
      refine ⟨fun n7 => ?_, fun _ => (e_endPass h1 hs σ hkk e24).void (fun σ9 k9 => ⟨rfl, k9⟩)⟩
      obtain ⟨b, f, hb, hb2, h9, hf⟩ := hx7.resolve_left n7
      refine (e_lookAt h1 hs hb2 hb σ hkk h18 e24 h9 hf).void ?_
      rintro σ8 ⟨k8, f8⟩
      exact ih (k + 1) l _ _ _ _ σ8 h3' (by omega) h2 k8 (by rw [f8]; exact h18)
theorem e_moveOn {a1 : Int32} {s : Nat} (h1 : a1.toInt = s) (hs : s < 8) (σ : sm_S) (hk : kk σ) (h18 : σ 18 s = 3) : xC xD j_G_moveOn [.ref 41, .int a1] σ (sm_V kk) := by
  have v := t_vp h1 hs
  obtain ⟨l, hl⟩ := t_of hk.2.2.2.2.2
  obtain ⟨d, hd⟩ : ∃ d, d = 1000 := ⟨_, rfl⟩
  refine d_G_moveOn a1 σ _ ⟨v, fun _ => ⟨t_vp (n := 0) rfl (by omega), l_moveOn h1 hs d 0 l _ 0 _ _ σ rfl (by omega) hl hk h18⟩, fun _ => ⟨v, v, fun σ1 e1 => ⟨rfl, kk_id (by rw [e1]; exact kx.rf.set rfl) hk⟩⟩⟩
theorem l_oneTick : ∀ (d k : Nat) (a1 : Int32) (σ : sm_S), a1.toInt = k → k + d = 8 → kk σ → xE xD m_G_oneTick 15 [.ref 41, .int a1] [] σ (sm_V kk) := by
  intro d
  induction d with
  | zero =>
    intro k a1 σ h1 hk hkk
    refine d_G_oneTick_15 a1 σ _ ⟨fun _ => ⟨rfl, hkk⟩, fun h => absurd ?_ h⟩
    rw [t_le, h1]
    show (8 : Int) ≤ _
    omega
  | succ d ih =>
    intro k a1 σ h1 hk hkk
    have h1' : (a1 + 1).toInt = ((k + 1 : Nat) : Int) := by
      rw [t_add h1 (y := 1) rfl (by omega) (by omega)]
      omega
    have v := t_vp (N := 8) h1 (by omega)
    refine d_G_oneTick_15 a1 σ _ ⟨fun _ => ⟨rfl, hkk⟩, fun _ => ?_⟩
    rw [t_nat h1]
    refine ⟨v, fun _ => ⟨v, fun _ => ih (k + 1) _ σ h1' (by omega) hkk, fun h3 => (e_moveOn h1 (by omega) σ hkk (Classical.not_not.mp h3)).void (fun σ1 k1 => ih (k + 1) _ σ1 h1' (by omega) k1)⟩, fun h2 => (e_shutNextPart h1 (by omega) σ hkk (Classical.not_not.mp h2)).void (fun σ1 k1 => ih (k + 1) _ σ1 h1' (by omega) k1)⟩
theorem e_oneTick (σ : sm_S) (hk : kk σ) : xC xD j_G_oneTick [.ref 41] σ (sm_V kk) :=
  d_G_oneTick σ _ (fun σ1 e1 => l_oneTick 8 0 0 σ1 rfl rfl (kk_id (by rw [e1]; exact kx.rf.set rfl) hk))
theorem e_callOff {a1 : Int32} {s : Nat} (h1 : a1.toInt = s) (hs : s < 8) (σ : sm_S) (hk : kk σ) : xC xD j_G_callOff [.ref 41, .int a1] σ (sm_V kk) := by
  have v := t_vp h1 hs
  refine d_G_callOff a1 σ _ ?_
  rw [t_nat h1]
  refine ⟨v, fun h24 => (e_fail h1 hs _ σ hk h24).void (fun σ1 k1 => ⟨rfl, k1⟩), fun n24 => ?_⟩
  obtain ⟨b, f, o, w, t, c, hb, hb2, he, n14, q1, q2, q3, q4, q5⟩ := lev_at hk hs n24
  have hpos := Nat.two_pow_pos o
  rw [t_nat hb2]
  refine ⟨t_vp hb2 hb, (e_size hb2 hb σ).int ?_⟩
  rintro x3 σ ⟨rfl, rfl⟩
  refine ⟨by decide, (e_shutBits (t_d32 q1) (by omega) σ).int ?_⟩
  rintro x5 σ rfl
  refine (e_letGo q1 (t_sz he) hpos q2 _ σ).void ?_
  intro σ6 x6
  refine (e_endWay h1 hs hb2 hb σ6).void ?_
  rintro σ7 ⟨x7, f9, f14, f15, f24⟩
  have x67 : kx [9, 14, 15, 24] σ σ7 := x6.o0.tr x7
  obtain ⟨j8, t8, b8⟩ := kj_arr (x := σ 9 b) hs hb x67 (by rw [f9, x6.1 9 rfl rfl, upd_id]) he.1 he.2.2.2.1 (by rw [f14, x6.1 14 rfl rfl]) (by rw [f15, x6.1 15 rfl rfl]) (by rw [f24, x6.1 24 rfl rfl]) hb2 he hk
  have g24 : σ7 24 s = -1 := by rw [f24, u_at]
  refine (e_serveLine hb2 hb σ7 j8 t8 b8).void ?_
  rintro σ8 ⟨k8, -, f8⟩
  exact (e_fail h1 hs _ σ8 k8 (by rw [f8]; exact g24)).void (fun σ9 k9 => ⟨rfl, k9⟩)
