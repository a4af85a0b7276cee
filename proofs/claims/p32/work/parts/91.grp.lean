section
/-! ===== the constructors of Memory, Going, Thought ===== -/
theorem wlk_app2 {AD : Nat → Nat} {SH P S : List sm_Sh} {f g : Nat → Nat} {cA : Nat → ClassId} {σ τ : sm_S} {n : Nat} {w1 w2 : va_W} (hX : SH = P ++ S) (hn : P.length = n) (E1 : wlk AD P f cA σ = w1) (E2 : wlk AD S g cA τ = w2) : wlk AD SH (glu n f g) cA (glu n σ τ) = w1 ++ w2 := by
  rw [hX, wlk_app hn, E1, E2]
def xR : List sm_Sh := [.inr (4, [.inr 1, .inr 8, .inr 17, .inr 26, .inr 34, .inr 39, .inr 40, .inl 0]), .inr (1, [.inr 2, .inr 3, .inr 4, .inr 5, .inr 6, .inr 7]), .inl (0, 8), .inl (0, 8), .inl (0, 8), .inl (0, 8), .inl (0, 256), .inl (0, 256), .inr (0, [.inr 9, .inr 10, .inr 11, .inr 12, .inr 13, .inr 14, .inr 15, .inr 16, .inl 0]), .inl (0, 96), .inl (0, 96), .inl (0, 96), .inl (0, 96), .inl (0, 96), .inl (0, 96), .inl (0, 96), .inl (0, 96), .inr (5, [.inr 18, .inr 19, .inr 20, .inr 21, .inr 22, .inr 23, .inr 24, .inr 25]), .inl (0, 8), .inl (0, 8), .inl (0, 8), .inl (0, 8), .inl (0, 8), .inl (0, 8), .inl (0, 8), .inl (0, 8), .inr (6, [.inr 27, .inr 28, .inr 29, .inr 30, .inr 31, .inr 32, .inr 33, .inl 0]), .inl (0, 6), .inl (0, 6), .inl (0, 6), .inl (0, 6), .inl (0, 6), .inl (0, 6), .inl (0, 6), .inr (3, [.inr 35, .inr 36, .inr 37, .inr 38, .inl 0, .inl 0]), .inl (0, 60), .inl (0, 60), .inl (0, 60), .inl (0, 60), .inl (0, 4), .inl (0, 11)]
theorem df_Fr : ∀ j, j < 6 → defaultValue (tyX1 j) = vp_V [.null, .null, .null, .null, .null, .null] j := by
  intro j hj
  match j, hj with
  | 0, _ => rfl
  | 1, _ => rfl
  | 2, _ => rfl
  | 3, _ => rfl
  | 4, _ => rfl
  | 5, _ => rfl
  | k + 6, hj => omega
theorem df_Bl : ∀ j, j < 9 → defaultValue (tyX0 j) = vp_V [.null, .null, .null, .null, .null, .null, .null, .null, .int 0] j := by
  intro j hj
  match j, hj with
  | 0, _ => rfl
  | 1, _ => rfl
  | 2, _ => rfl
  | 3, _ => rfl
  | 4, _ => rfl
  | 5, _ => rfl
  | 6, _ => rfl
  | 7, _ => rfl
  | 8, _ => rfl
  | k + 9, hj => omega
theorem df_Sp : ∀ j, j < 8 → defaultValue (tyX6 j) = vp_V [.null, .null, .null, .null, .null, .null, .null, .null] j := by
  intro j hj
  match j, hj with
  | 0, _ => rfl
  | 1, _ => rfl
  | 2, _ => rfl
  | 3, _ => rfl
  | 4, _ => rfl
  | 5, _ => rfl
  | 6, _ => rfl
  | 7, _ => rfl
  | k + 8, hj => omega
theorem df_Ta : ∀ j, j < 8 → defaultValue (tyX7 j) = vp_V [.null, .null, .null, .null, .null, .null, .null, .int 0] j := by
  intro j hj
  match j, hj with
  | 0, _ => rfl
  | 1, _ => rfl
  | 2, _ => rfl
  | 3, _ => rfl
  | 4, _ => rfl
  | 5, _ => rfl
  | 6, _ => rfl
  | 7, _ => rfl
  | k + 8, hj => omega
theorem df_Lo : ∀ j, j < 6 → defaultValue (tyX3 j) = vp_V [.null, .null, .null, .null, .int 0, .int 0] j := by
  intro j hj
  match j, hj with
  | 0, _ => rfl
  | 1, _ => rfl
  | 2, _ => rfl
  | 3, _ => rfl
  | 4, _ => rfl
  | 5, _ => rfl
  | k + 6, hj => omega
theorem df_Me : ∀ j, j < 8 → defaultValue (tyX4 j) = vp_V [.null, .null, .null, .null, .null, .null, .null, .int 0] j := by
  intro j hj
  match j, hj with
  | 0, _ => rfl
  | 1, _ => rfl
  | 2, _ => rfl
  | 3, _ => rfl
  | 4, _ => rfl
  | 5, _ => rfl
  | 6, _ => rfl
  | 7, _ => rfl
  | k + 8, hj => omega
theorem df_Go : ∀ j, j < 4 → defaultValue (tyX2 j) = vp_V [.null, .null, .null, .null] j := by
  intro j hj
  match j, hj with
  | 0, _ => rfl
  | 1, _ => rfl
  | 2, _ => rfl
  | 3, _ => rfl
  | k + 4, hj => omega
theorem df_Th : ∀ j, j < 5 → defaultValue (tyX8 j) = vp_V [.null, .null, .null, .int 0, .int 0] j := by
  intro j hj
  match j, hj with
  | 0, _ => rfl
  | 1, _ => rfl
  | 2, _ => rfl
  | 3, _ => rfl
  | 4, _ => rfl
  | k + 5, hj => omega
theorem d_Me_0 : decode prog_6_method_1_code 0 = .ok (.aload_n 0, 1) := by decide +kernel
theorem d_Me_1 : decode prog_6_method_1_code 1 = .ok (.invokespecial 3, 3) := by decide +kernel
theorem d_Me_4 : decode prog_6_method_1_code 4 = .ok (.aload_n 0, 1) := by decide +kernel
theorem d_Me_5 : decode prog_6_method_1_code 5 = .ok (.new 9, 3) := by decide +kernel
theorem d_Me_8 : decode prog_6_method_1_code 8 = .ok (.dup, 1) := by decide +kernel
theorem d_Me_9 : decode prog_6_method_1_code 9 = .ok (.invokespecial 11, 3) := by decide +kernel
theorem d_Me_12 : decode prog_6_method_1_code 12 = .ok (.putfield 12, 3) := by decide +kernel
theorem d_Me_15 : decode prog_6_method_1_code 15 = .ok (.aload_n 0, 1) := by decide +kernel
theorem d_Me_16 : decode prog_6_method_1_code 16 = .ok (.new 18, 3) := by decide +kernel
theorem d_Me_19 : decode prog_6_method_1_code 19 = .ok (.dup, 1) := by decide +kernel
theorem d_Me_20 : decode prog_6_method_1_code 20 = .ok (.invokespecial 20, 3) := by decide +kernel
theorem d_Me_23 : decode prog_6_method_1_code 23 = .ok (.putfield 21, 3) := by decide +kernel
theorem d_Me_26 : decode prog_6_method_1_code 26 = .ok (.aload_n 0, 1) := by decide +kernel
theorem d_Me_27 : decode prog_6_method_1_code 27 = .ok (.new 25, 3) := by decide +kernel
theorem d_Me_30 : decode prog_6_method_1_code 30 = .ok (.dup, 1) := by decide +kernel
theorem d_Me_31 : decode prog_6_method_1_code 31 = .ok (.invokespecial 27, 3) := by decide +kernel
theorem d_Me_34 : decode prog_6_method_1_code 34 = .ok (.putfield 28, 3) := by decide +kernel
theorem d_Me_37 : decode prog_6_method_1_code 37 = .ok (.aload_n 0, 1) := by decide +kernel
theorem d_Me_38 : decode prog_6_method_1_code 38 = .ok (.new 32, 3) := by decide +kernel
theorem d_Me_41 : decode prog_6_method_1_code 41 = .ok (.dup, 1) := by decide +kernel
theorem d_Me_42 : decode prog_6_method_1_code 42 = .ok (.invokespecial 34, 3) := by decide +kernel
theorem d_Me_45 : decode prog_6_method_1_code 45 = .ok (.putfield 35, 3) := by decide +kernel
theorem d_Me_48 : decode prog_6_method_1_code 48 = .ok (.aload_n 0, 1) := by decide +kernel
theorem d_Me_49 : decode prog_6_method_1_code 49 = .ok (.new 39, 3) := by decide +kernel
theorem d_Me_52 : decode prog_6_method_1_code 52 = .ok (.dup, 1) := by decide +kernel
theorem d_Me_53 : decode prog_6_method_1_code 53 = .ok (.invokespecial 41, 3) := by decide +kernel
theorem d_Me_56 : decode prog_6_method_1_code 56 = .ok (.putfield 42, 3) := by decide +kernel
theorem d_Me_59 : decode prog_6_method_1_code 59 = .ok (.aload_n 0, 1) := by decide +kernel
theorem d_Me_60 : decode prog_6_method_1_code 60 = .ok (.iconst 4, 1) := by decide +kernel
theorem d_Me_61 : decode prog_6_method_1_code 61 = .ok (.newarray .int, 2) := by decide +kernel
theorem d_Me_63 : decode prog_6_method_1_code 63 = .ok (.putfield 46, 3) := by decide +kernel
theorem d_Me_66 : decode prog_6_method_1_code 66 = .ok (.aload_n 0, 1) := by decide +kernel
theorem d_Me_67 : decode prog_6_method_1_code 67 = .ok (.bipush 11, 2) := by decide +kernel
theorem d_Me_69 : decode prog_6_method_1_code 69 = .ok (.newarray .int, 2) := by decide +kernel
theorem d_Me_71 : decode prog_6_method_1_code 71 = .ok (.putfield 50, 3) := by decide +kernel
theorem d_Me_74 : decode prog_6_method_1_code 74 = .ok (.aload_n 0, 1) := by decide +kernel
theorem d_Me_75 : decode prog_6_method_1_code 75 = .ok (.iconst 0, 1) := by decide +kernel
theorem d_Me_76 : decode prog_6_method_1_code 76 = .ok (.putfield 53, 3) := by decide +kernel
theorem d_Me_79 : decode prog_6_method_1_code 79 = .ok (.return_, 1) := by decide +kernel
def I_Me (σ : sm_S) : Prop := (∀ i, i < 256 → σ 6 i = -1) ∧ (∀ b, b < 96 → σ 9 b = -1 ∧ σ 14 b = -1 ∧ σ 15 b = 0) ∧ (∀ s, s < 8 → σ 18 s = 0 ∧ σ 20 s = 0 ∧ σ 23 s = 0 ∧ σ 24 s = -1) ∧ (σ 26 7 = 0 ∧ ∀ t, t < 6 → σ 28 t = -1) ∧ σ 34 5 = 0 ∧ (∀ i, σ 39 i = 0) ∧ ini0 σ
set_option maxRecDepth 100000 in
set_option maxHeartbeats 4000000 in
theorem W_Me {AD : Nat → Nat} {cA : Nat → ClassId} {h0 q1 q2 : Nat} {a1 a2 a3 a4 a5 : Nat → Nat} {σ1 σ2 σ3 σ4 σ5 : sm_S} (e0 : AD 0 = h0) (e1 : ∀ k, k < 7 → AD (1 + k) = a1 k) (e2 : ∀ k, k < 9 → AD (8 + k) = a2 k) (e3 : ∀ k, k < 9 → AD (17 + k) = a3 k) (e4 : ∀ k, k < 8 → AD (26 + k) = a4 k) (e5 : ∀ k, k < 5 → AD (34 + k) = a5 k) (e6 : AD 39 = q1) (e7 : AD 40 = q2) : wlk AD xR (glu 1 (fun _ => h0) (glu 7 a1 (glu 9 a2 (glu 9 a3 (glu 8 a4 (glu 5 a5 (glu 1 (fun _ => q1) (fun _ => q2)))))))) cA (glu 1 (fun _ _ => 0) (glu 7 σ1 (glu 9 σ2 (glu 9 σ3 (glu 8 σ4 (glu 5 σ5 (glu 1 (fun _ _ => 0) (fun _ _ => 0)))))))) = ([(h0, .inr (4, [.ref (a1 0), .ref (a2 0), .ref (a3 0), .ref (a4 0), .ref (a5 0), .ref q1, .ref q2, .int 0]))] : va_W) ++ (sm_W xFr a1 cA σ1 ++ (sm_W xBl a2 cA σ2 ++ (sm_W xSp a3 cA σ3 ++ (sm_W xTa a4 cA σ4 ++ (sm_W xLo a5 cA σ5 ++ (([(q1, .inl (cA 0, 4, .inl (fun _ => 0)))] : va_W) ++ (([(q2, .inl (cA 0, 11, .inl (fun _ => 0)))] : va_W)))))))) := (wlk_app2 (SH := xR) (P := (xR.drop 0).take 1) (S := xR.drop 1) (by decide +kernel) rfl (by show ([(h0, .inr (4, [.ref (AD 1), .ref (AD 8), .ref (AD 17), .ref (AD 26), .ref (AD 34), .ref (AD 39), .ref (AD 40), .int 0]))] : va_W) = [(h0, .inr (4, [.ref (a1 0), .ref (a2 0), .ref (a3 0), .ref (a4 0), .ref (a5 0), .ref q1, .ref q2, .int 0]))]; rw [(show AD 1 = a1 0 from e1 0 (by decide)), (show AD 8 = a2 0 from e2 0 (by decide)), (show AD 17 = a3 0 from e3 0 (by decide)), (show AD 26 = a4 0 from e4 0 (by decide)), (show AD 34 = a5 0 from e5 0 (by decide)), e6, e7]) (wlk_app2 (SH := xR.drop 1) (P := xFr.map (shf 1)) (S := xR.drop 8) (by decide +kernel) rfl (wlk_shf (n := 7) (by decide +kernel) e1) (wlk_app2 (SH := xR.drop 8) (P := xBl.map (shf 8)) (S := xR.drop 17) (by decide +kernel) rfl (wlk_shf (n := 9) (by decide +kernel) e2) (wlk_app2 (SH := xR.drop 17) (P := xSp.map (shf 17)) (S := xR.drop 26) (by decide +kernel) rfl (wlk_shf (n := 9) (by decide +kernel) e3) (wlk_app2 (SH := xR.drop 26) (P := xTa.map (shf 26)) (S := xR.drop 34) (by decide +kernel) rfl (wlk_shf (n := 8) (by decide +kernel) e4) (wlk_app2 (SH := xR.drop 34) (P := xLo.map (shf 34)) (S := xR.drop 39) (by decide +kernel) rfl (wlk_shf (n := 5) (by decide +kernel) e5) (wlk_app2 (SH := xR.drop 39) (P := (xR.drop 39).take 1) (S := xR.drop 40) (by decide +kernel) rfl rfl rfl)))))))
set_option maxRecDepth 100000 in
set_option maxHeartbeats 4000000 in
theorem ct_Me {l : Launch} {cA : Nat → ClassId} {D : va_G} {tb : Nat → Nat} {Lim : Nat} : Ctor l cA D tb Lim ⟨"SpansAway$Memory", "<init>", "()V"⟩ prog_6_method_1_code 2 43 40 1710 4 [.null, .null, .null, .null, .null, .null, .null, .int 0] xR 0 I_Me := by
  refine Ctor.ofW (by decide) rfl ?_
  intro h0 p e s m args below meth c A L X hN hin hr hlocks hl hP hD hS
  refine lv_aload_n X.hx X.hb d_Me_0 rfl (lv_at hl 0 rfl) ?_
  refine R_obj X hl.1 (ctW_ok (i := 90) rfl) ⟨(Nat.le_of_ble_eq_true rfl), (Nat.le_of_ble_eq_true rfl)⟩ d_Me_1 ?_
  refine lv_aload_n X.hx X.hb d_Me_4 rfl (lv_at hl 0 rfl) ?_
  refine R_new3 X hN hP hD hS hl.1 ct_Fr (cT := (RX1, TX1, 6)) rfl rfl tyX1_ok df_Fr rfl (by decide +kernel) (ctW_ok (i := 91) rfl) (ctW_ok (i := 7) rfl) (ctW_ok (i := 6) rfl) (ctW_ok (i := 5) rfl) (ctW_ok (i := 4) rfl) (Or.inl (ctW_ok (i := 92) rfl)) ⟨(Nat.le_of_ble_eq_true rfl), (Nat.le_of_ble_eq_true rfl)⟩ (Nat.le_of_ble_eq_true rfl) (Nat.le_of_ble_eq_true rfl) (Nat.le_of_ble_eq_true rfl) d_Me_5 d_Me_8 d_Me_9 (fun a1 σ1 H locs i1 hP hD hS => ?_)
  have hP : va_P D vwCl ((h0, .inr (4, [.null, .null, .null, .null, .null, .null, .null, .int 0])) :: (sm_W xFr a1 cA σ1)) H := hP
  have hD : va_D A ((h0, .inr (4, [.null, .null, .null, .null, .null, .null, .null, .int 0])) :: (sm_W xFr a1 cA σ1)) := hD
  refine R_pf X hin hP hD hS (cT := (RX4, TX4, 8)) rfl 0 (Nat.le_of_ble_eq_true rfl) (Nat.le_of_ble_eq_true rfl) rfl rfl (ty := .object "SpansAway$Frames") (by decide +kernel) rfl rfl (ctW_ok (i := 93) rfl) d_Me_12 (fun H locs hP hD hS => ?_)
  have hP : va_P D vwCl ((h0, .inr (4, [.ref (a1 0), .null, .null, .null, .null, .null, .null, .int 0])) :: (sm_W xFr a1 cA σ1)) H := hP
  have hD : va_D A ((h0, .inr (4, [.ref (a1 0), .null, .null, .null, .null, .null, .null, .int 0])) :: (sm_W xFr a1 cA σ1)) := hD
  refine lv_aload_n X.hx X.hb d_Me_15 rfl (lv_at hl 0 rfl) ?_
  refine R_new3 X hN hP hD hS hl.1 ct_Bl (cT := (RX0, TX0, 9)) rfl rfl tyX0_ok df_Bl rfl (by decide +kernel) (ctW_ok (i := 94) rfl) (ctW_ok (i := 11) rfl) (ctW_ok (i := 10) rfl) (ctW_ok (i := 9) rfl) (ctW_ok (i := 8) rfl) (Or.inl (ctW_ok (i := 95) rfl)) ⟨(Nat.le_of_ble_eq_true rfl), (Nat.le_of_ble_eq_true rfl)⟩ (Nat.le_of_ble_eq_true rfl) (Nat.le_of_ble_eq_true rfl) (Nat.le_of_ble_eq_true rfl) d_Me_16 d_Me_19 d_Me_20 (fun a2 σ2 H locs i2 hP hD hS => ?_)
  have hP : va_P D vwCl ((h0, .inr (4, [.ref (a1 0), .null, .null, .null, .null, .null, .null, .int 0])) :: ((sm_W xFr a1 cA σ1) ++ sm_W xBl a2 cA σ2)) H := hP
  have hD : va_D A ((h0, .inr (4, [.ref (a1 0), .null, .null, .null, .null, .null, .null, .int 0])) :: ((sm_W xFr a1 cA σ1) ++ sm_W xBl a2 cA σ2)) := hD
  refine R_pf X hin hP hD hS (cT := (RX4, TX4, 8)) rfl 1 (Nat.le_of_ble_eq_true rfl) (Nat.le_of_ble_eq_true rfl) rfl rfl (ty := .object "SpansAway$Blocks") (by decide +kernel) rfl rfl (ctW_ok (i := 96) rfl) d_Me_23 (fun H locs hP hD hS => ?_)
  have hP : va_P D vwCl ((h0, .inr (4, [.ref (a1 0), .ref (a2 0), .null, .null, .null, .null, .null, .int 0])) :: ((sm_W xFr a1 cA σ1) ++ sm_W xBl a2 cA σ2)) H := hP
  have hD : va_D A ((h0, .inr (4, [.ref (a1 0), .ref (a2 0), .null, .null, .null, .null, .null, .int 0])) :: ((sm_W xFr a1 cA σ1) ++ sm_W xBl a2 cA σ2)) := hD
  refine lv_aload_n X.hx X.hb d_Me_26 rfl (lv_at hl 0 rfl) ?_
  refine R_new3 X hN hP hD hS hl.1 ct_Sp (cT := (RX6, TX6, 8)) rfl rfl tyX6_ok df_Sp rfl (by decide +kernel) (ctW_ok (i := 97) rfl) (ctW_ok (i := 15) rfl) (ctW_ok (i := 14) rfl) (ctW_ok (i := 13) rfl) (ctW_ok (i := 12) rfl) (Or.inl (ctW_ok (i := 98) rfl)) ⟨(Nat.le_of_ble_eq_true rfl), (Nat.le_of_ble_eq_true rfl)⟩ (Nat.le_of_ble_eq_true rfl) (Nat.le_of_ble_eq_true rfl) (Nat.le_of_ble_eq_true rfl) d_Me_27 d_Me_30 d_Me_31 (fun a3 σ3 H locs i3 hP hD hS => ?_)
  have hP : va_P D vwCl ((h0, .inr (4, [.ref (a1 0), .ref (a2 0), .null, .null, .null, .null, .null, .int 0])) :: (((sm_W xFr a1 cA σ1) ++ sm_W xBl a2 cA σ2) ++ sm_W xSp a3 cA σ3)) H := hP
  have hD : va_D A ((h0, .inr (4, [.ref (a1 0), .ref (a2 0), .null, .null, .null, .null, .null, .int 0])) :: (((sm_W xFr a1 cA σ1) ++ sm_W xBl a2 cA σ2) ++ sm_W xSp a3 cA σ3)) := hD
  refine R_pf X hin hP hD hS (cT := (RX4, TX4, 8)) rfl 2 (Nat.le_of_ble_eq_true rfl) (Nat.le_of_ble_eq_true rfl) rfl rfl (ty := .object "SpansAway$Spans") (by decide +kernel) rfl rfl (ctW_ok (i := 99) rfl) d_Me_34 (fun H locs hP hD hS => ?_)
  have hP : va_P D vwCl ((h0, .inr (4, [.ref (a1 0), .ref (a2 0), .ref (a3 0), .null, .null, .null, .null, .int 0])) :: (((sm_W xFr a1 cA σ1) ++ sm_W xBl a2 cA σ2) ++ sm_W xSp a3 cA σ3)) H := hP
  have hD : va_D A ((h0, .inr (4, [.ref (a1 0), .ref (a2 0), .ref (a3 0), .null, .null, .null, .null, .int 0])) :: (((sm_W xFr a1 cA σ1) ++ sm_W xBl a2 cA σ2) ++ sm_W xSp a3 cA σ3)) := hD
  refine lv_aload_n X.hx X.hb d_Me_37 rfl (lv_at hl 0 rfl) ?_
  refine R_new3 X hN hP hD hS hl.1 ct_Ta (cT := (RX7, TX7, 8)) rfl rfl tyX7_ok df_Ta rfl (by decide +kernel) (ctW_ok (i := 100) rfl) (ctW_ok (i := 19) rfl) (ctW_ok (i := 18) rfl) (ctW_ok (i := 17) rfl) (ctW_ok (i := 16) rfl) (Or.inl (ctW_ok (i := 101) rfl)) ⟨(Nat.le_of_ble_eq_true rfl), (Nat.le_of_ble_eq_true rfl)⟩ (Nat.le_of_ble_eq_true rfl) (Nat.le_of_ble_eq_true rfl) (Nat.le_of_ble_eq_true rfl) d_Me_38 d_Me_41 d_Me_42 (fun a4 σ4 H locs i4 hP hD hS => ?_)
  have hP : va_P D vwCl ((h0, .inr (4, [.ref (a1 0), .ref (a2 0), .ref (a3 0), .null, .null, .null, .null, .int 0])) :: ((((sm_W xFr a1 cA σ1) ++ sm_W xBl a2 cA σ2) ++ sm_W xSp a3 cA σ3) ++ sm_W xTa a4 cA σ4)) H := hP
  have hD : va_D A ((h0, .inr (4, [.ref (a1 0), .ref (a2 0), .ref (a3 0), .null, .null, .null, .null, .int 0])) :: ((((sm_W xFr a1 cA σ1) ++ sm_W xBl a2 cA σ2) ++ sm_W xSp a3 cA σ3) ++ sm_W xTa a4 cA σ4)) := hD
  refine R_pf X hin hP hD hS (cT := (RX4, TX4, 8)) rfl 3 (Nat.le_of_ble_eq_true rfl) (Nat.le_of_ble_eq_true rfl) rfl rfl (ty := .object "SpansAway$Tasks") (by decide +kernel) rfl rfl (ctW_ok (i := 102) rfl) d_Me_45 (fun H locs hP hD hS => ?_)
  have hP : va_P D vwCl ((h0, .inr (4, [.ref (a1 0), .ref (a2 0), .ref (a3 0), .ref (a4 0), .null, .null, .null, .int 0])) :: ((((sm_W xFr a1 cA σ1) ++ sm_W xBl a2 cA σ2) ++ sm_W xSp a3 cA σ3) ++ sm_W xTa a4 cA σ4)) H := hP
  have hD : va_D A ((h0, .inr (4, [.ref (a1 0), .ref (a2 0), .ref (a3 0), .ref (a4 0), .null, .null, .null, .int 0])) :: ((((sm_W xFr a1 cA σ1) ++ sm_W xBl a2 cA σ2) ++ sm_W xSp a3 cA σ3) ++ sm_W xTa a4 cA σ4)) := hD
  refine lv_aload_n X.hx X.hb d_Me_48 rfl (lv_at hl 0 rfl) ?_
  refine R_new3 X hN hP hD hS hl.1 ct_Lo (cT := (RX3, TX3, 6)) rfl rfl tyX3_ok df_Lo rfl (by decide +kernel) (ctW_ok (i := 103) rfl) (ctW_ok (i := 23) rfl) (ctW_ok (i := 22) rfl) (ctW_ok (i := 21) rfl) (ctW_ok (i := 20) rfl) (Or.inr (List.mem_of_getElem? (i := 0) rfl)) ⟨(Nat.le_of_ble_eq_true rfl), (Nat.le_of_ble_eq_true rfl)⟩ (Nat.le_of_ble_eq_true rfl) (Nat.le_of_ble_eq_true rfl) (Nat.le_of_ble_eq_true rfl) d_Me_49 d_Me_52 d_Me_53 (fun a5 σ5 H locs i5 hP hD hS => ?_)
  have hP : va_P D vwCl ((h0, .inr (4, [.ref (a1 0), .ref (a2 0), .ref (a3 0), .ref (a4 0), .null, .null, .null, .int 0])) :: (((((sm_W xFr a1 cA σ1) ++ sm_W xBl a2 cA σ2) ++ sm_W xSp a3 cA σ3) ++ sm_W xTa a4 cA σ4) ++ sm_W xLo a5 cA σ5)) H := hP
  have hD : va_D A ((h0, .inr (4, [.ref (a1 0), .ref (a2 0), .ref (a3 0), .ref (a4 0), .null, .null, .null, .int 0])) :: (((((sm_W xFr a1 cA σ1) ++ sm_W xBl a2 cA σ2) ++ sm_W xSp a3 cA σ3) ++ sm_W xTa a4 cA σ4) ++ sm_W xLo a5 cA σ5)) := hD
  refine R_pf X hin hP hD hS (cT := (RX4, TX4, 8)) rfl 4 (Nat.le_of_ble_eq_true rfl) (Nat.le_of_ble_eq_true rfl) rfl rfl (ty := .object "SpansAway$Log") (by decide +kernel) rfl rfl (ctW_ok (i := 104) rfl) d_Me_56 (fun H locs hP hD hS => ?_)
  have hP : va_P D vwCl ((h0, .inr (4, [.ref (a1 0), .ref (a2 0), .ref (a3 0), .ref (a4 0), .ref (a5 0), .null, .null, .int 0])) :: (((((sm_W xFr a1 cA σ1) ++ sm_W xBl a2 cA σ2) ++ sm_W xSp a3 cA σ3) ++ sm_W xTa a4 cA σ4) ++ sm_W xLo a5 cA σ5)) H := hP
  have hD : va_D A ((h0, .inr (4, [.ref (a1 0), .ref (a2 0), .ref (a3 0), .ref (a4 0), .ref (a5 0), .null, .null, .int 0])) :: (((((sm_W xFr a1 cA σ1) ++ sm_W xBl a2 cA σ2) ++ sm_W xSp a3 cA σ3) ++ sm_W xTa a4 cA σ4) ++ sm_W xLo a5 cA σ5)) := hD
  refine lv_aload_n X.hx X.hb d_Me_59 rfl (lv_at hl 0 rfl) ?_
  refine lv_iconst (v := 4) X.hx X.hb d_Me_60 (by decide) ?_
  refine R_np X hin hP hD hS (cT := (RX4, TX4, 8)) rfl 5 (Nat.le_of_ble_eq_true rfl) (Nat.le_of_ble_eq_true rfl) rfl rfl (by decide +kernel) (ctW_ok (i := 105) rfl) 4 (by decide) (by decide) (by decide) (Nat.le_of_ble_eq_true rfl) (Nat.le_of_ble_eq_true rfl) d_Me_61 d_Me_63 (fun q1 H locs hP hD hS => ?_)
  have hP : va_P D vwCl ((h0, .inr (4, [.ref (a1 0), .ref (a2 0), .ref (a3 0), .ref (a4 0), .ref (a5 0), .ref q1, .null, .int 0])) :: ((((((sm_W xFr a1 cA σ1) ++ sm_W xBl a2 cA σ2) ++ sm_W xSp a3 cA σ3) ++ sm_W xTa a4 cA σ4) ++ sm_W xLo a5 cA σ5) ++ [(q1, .inl (cA 0, 4, .inl (fun _ => 0)))])) H := hP
  have hD : va_D A ((h0, .inr (4, [.ref (a1 0), .ref (a2 0), .ref (a3 0), .ref (a4 0), .ref (a5 0), .ref q1, .null, .int 0])) :: ((((((sm_W xFr a1 cA σ1) ++ sm_W xBl a2 cA σ2) ++ sm_W xSp a3 cA σ3) ++ sm_W xTa a4 cA σ4) ++ sm_W xLo a5 cA σ5) ++ [(q1, .inl (cA 0, 4, .inl (fun _ => 0)))])) := hD
  refine lv_aload_n X.hx X.hb d_Me_66 rfl (lv_at hl 0 rfl) ?_
  refine lv_bipush (v := 11) X.hx X.hb d_Me_67 (by decide) ?_
  refine R_np X hin hP hD hS (cT := (RX4, TX4, 8)) rfl 6 (Nat.le_of_ble_eq_true rfl) (Nat.le_of_ble_eq_true rfl) rfl rfl (by decide +kernel) (ctW_ok (i := 106) rfl) 11 (by decide) (by decide) (by decide) (Nat.le_of_ble_eq_true rfl) (Nat.le_of_ble_eq_true rfl) d_Me_69 d_Me_71 (fun q2 H locs hP hD hS => ?_)
  have hP : va_P D vwCl ((h0, .inr (4, [.ref (a1 0), .ref (a2 0), .ref (a3 0), .ref (a4 0), .ref (a5 0), .ref q1, .ref q2, .int 0])) :: (((((((sm_W xFr a1 cA σ1) ++ sm_W xBl a2 cA σ2) ++ sm_W xSp a3 cA σ3) ++ sm_W xTa a4 cA σ4) ++ sm_W xLo a5 cA σ5) ++ [(q1, .inl (cA 0, 4, .inl (fun _ => 0)))]) ++ [(q2, .inl (cA 0, 11, .inl (fun _ => 0)))])) H := hP
  have hD : va_D A ((h0, .inr (4, [.ref (a1 0), .ref (a2 0), .ref (a3 0), .ref (a4 0), .ref (a5 0), .ref q1, .ref q2, .int 0])) :: (((((((sm_W xFr a1 cA σ1) ++ sm_W xBl a2 cA σ2) ++ sm_W xSp a3 cA σ3) ++ sm_W xTa a4 cA σ4) ++ sm_W xLo a5 cA σ5) ++ [(q1, .inl (cA 0, 4, .inl (fun _ => 0)))]) ++ [(q2, .inl (cA 0, 11, .inl (fun _ => 0)))])) := hD
  refine lv_aload_n X.hx X.hb d_Me_74 rfl (lv_at hl 0 rfl) ?_
  refine lv_iconst (v := 0) X.hx X.hb d_Me_75 (by decide) ?_
  refine R_pi X hP hD hS (cT := (RX4, TX4, 8)) rfl 7 (Nat.le_of_ble_eq_true rfl) (Nat.le_of_ble_eq_true rfl) rfl (ty := .int) (by decide +kernel) rfl rfl (ctW_ok (i := 107) rfl) d_Me_76 (fun H locs hP hD hS => ?_)
  have hP : va_P D vwCl ((h0, .inr (4, [.ref (a1 0), .ref (a2 0), .ref (a3 0), .ref (a4 0), .ref (a5 0), .ref q1, .ref q2, .int 0])) :: (((((((sm_W xFr a1 cA σ1) ++ sm_W xBl a2 cA σ2) ++ sm_W xSp a3 cA σ3) ++ sm_W xTa a4 cA σ4) ++ sm_W xLo a5 cA σ5) ++ [(q1, .inl (cA 0, 4, .inl (fun _ => 0)))]) ++ [(q2, .inl (cA 0, 11, .inl (fun _ => 0)))])) H := hP
  have hD : va_D A ((h0, .inr (4, [.ref (a1 0), .ref (a2 0), .ref (a3 0), .ref (a4 0), .ref (a5 0), .ref q1, .ref q2, .int 0])) :: (((((((sm_W xFr a1 cA σ1) ++ sm_W xBl a2 cA σ2) ++ sm_W xSp a3 cA σ3) ++ sm_W xTa a4 cA σ4) ++ sm_W xLo a5 cA σ5) ++ [(q1, .inl (cA 0, 4, .inl (fun _ => 0)))]) ++ [(q2, .inl (cA 0, 11, .inl (fun _ => 0)))])) := hD
  refine W.widen (k := 40) (n := 1710) (Nat.le_of_ble_eq_true rfl) (Nat.le_of_ble_eq_true rfl) ?_
  have hE := W_Me (cA := cA) (AD := (glu 1 (fun _ => h0) (glu 7 a1 (glu 9 a2 (glu 9 a3 (glu 8 a4 (glu 5 a5 (glu 1 (fun _ => q1) (fun _ => q2))))))))) (h0 := h0) (q1 := q1) (q2 := q2) (a1 := a1) (a2 := a2) (a3 := a3) (a4 := a4) (a5 := a5) (σ1 := σ1) (σ2 := σ2) (σ3 := σ3) (σ4 := σ4) (σ5 := σ5) rfl (fun k hk => by rw [glu_s (by omega), glu_l (by omega)]; exact congrArg a1 (by omega)) (fun k hk => by rw [glu_s (by omega), glu_s (by omega), glu_l (by omega)]; exact congrArg a2 (by omega)) (fun k hk => by rw [glu_s (by omega), glu_s (by omega), glu_s (by omega), glu_l (by omega)]; exact congrArg a3 (by omega)) (fun k hk => by rw [glu_s (by omega), glu_s (by omega), glu_s (by omega), glu_s (by omega), glu_l (by omega)]; exact congrArg a4 (by omega)) (fun k hk => by rw [glu_s (by omega), glu_s (by omega), glu_s (by omega), glu_s (by omega), glu_s (by omega), glu_l (by omega)]; exact congrArg a5 (by omega)) rfl rfl
  have hT : ((h0, .inr (4, [.ref (a1 0), .ref (a2 0), .ref (a3 0), .ref (a4 0), .ref (a5 0), .ref q1, .ref q2, .int 0])) :: (((((((sm_W xFr a1 cA σ1) ++ sm_W xBl a2 cA σ2) ++ sm_W xSp a3 cA σ3) ++ sm_W xTa a4 cA σ4) ++ sm_W xLo a5 cA σ5) ++ [(q1, .inl (cA 0, 4, .inl (fun _ => 0)))]) ++ [(q2, .inl (cA 0, 11, .inl (fun _ => 0)))]) : va_W) = wlk (glu 1 (fun _ => h0) (glu 7 a1 (glu 9 a2 (glu 9 a3 (glu 8 a4 (glu 5 a5 (glu 1 (fun _ => q1) (fun _ => q2)))))))) xR (glu 1 (fun _ => h0) (glu 7 a1 (glu 9 a2 (glu 9 a3 (glu 8 a4 (glu 5 a5 (glu 1 (fun _ => q1) (fun _ => q2)))))))) cA (glu 1 (fun _ _ => 0) (glu 7 σ1 (glu 9 σ2 (glu 9 σ3 (glu 8 σ4 (glu 5 σ5 (glu 1 (fun _ _ => 0) (fun _ _ => 0)))))))) := by
    rw [hE]
    simp only [List.append_assoc]
    rfl
  rw [hT] at hP hD
  exact R_ret X hr hlocks (SH := xR) (ad := (glu 1 (fun _ => h0) (glu 7 a1 (glu 9 a2 (glu 9 a3 (glu 8 a4 (glu 5 a5 (glu 1 (fun _ => q1) (fun _ => q2))))))))) (σ := (glu 1 (fun _ _ => 0) (glu 7 σ1 (glu 9 σ2 (glu 9 σ3 (glu 8 σ4 (glu 5 σ5 (glu 1 (fun _ _ => 0) (fun _ _ => 0))))))))) hP hD hS rfl ⟨i1.1, i2.1, i3.1, i4.1, i5.1, fun _ => rfl, i1.2.1, i1.2.2, i3.2, i4.2, ⟨i5.2.1, rfl, i2.2⟩, i5.2.2, fun _ _ => rfl⟩ d_Me_79
end
section
/-! ===== the constructors of Going and Thought ===== -/
theorem at_cons {x : Nat × va_E} {l : va_W} {i : Nat} {q : Nat × va_E} (h : l[i]? = some q) : (x :: l)[i + 1]? = some q := by
  rw [List.getElem?_cons_succ]
  exact h
theorem d_Go_0 : decode prog_4_method_1_code 0 = .ok (.aload_n 0, 1) := by decide +kernel
theorem d_Go_1 : decode prog_4_method_1_code 1 = .ok (.invokespecial 3, 3) := by decide +kernel
theorem d_Go_4 : decode prog_4_method_1_code 4 = .ok (.aload_n 0, 1) := by decide +kernel
theorem d_Go_5 : decode prog_4_method_1_code 5 = .ok (.new 9, 3) := by decide +kernel
theorem d_Go_8 : decode prog_4_method_1_code 8 = .ok (.dup, 1) := by decide +kernel
theorem d_Go_9 : decode prog_4_method_1_code 9 = .ok (.invokespecial 11, 3) := by decide +kernel
theorem d_Go_12 : decode prog_4_method_1_code 12 = .ok (.putfield 12, 3) := by decide +kernel
theorem d_Go_15 : decode prog_4_method_1_code 15 = .ok (.aload_n 0, 1) := by decide +kernel
theorem d_Go_16 : decode prog_4_method_1_code 16 = .ok (.aload_n 0, 1) := by decide +kernel
theorem d_Go_17 : decode prog_4_method_1_code 17 = .ok (.getfield 12, 3) := by decide +kernel
theorem d_Go_20 : decode prog_4_method_1_code 20 = .ok (.getfield 18, 3) := by decide +kernel
theorem d_Go_23 : decode prog_4_method_1_code 23 = .ok (.putfield 22, 3) := by decide +kernel
theorem d_Go_26 : decode prog_4_method_1_code 26 = .ok (.aload_n 0, 1) := by decide +kernel
theorem d_Go_27 : decode prog_4_method_1_code 27 = .ok (.aload_n 0, 1) := by decide +kernel
theorem d_Go_28 : decode prog_4_method_1_code 28 = .ok (.getfield 12, 3) := by decide +kernel
theorem d_Go_31 : decode prog_4_method_1_code 31 = .ok (.getfield 23, 3) := by decide +kernel
theorem d_Go_34 : decode prog_4_method_1_code 34 = .ok (.putfield 27, 3) := by decide +kernel
theorem d_Go_37 : decode prog_4_method_1_code 37 = .ok (.aload_n 0, 1) := by decide +kernel
theorem d_Go_38 : decode prog_4_method_1_code 38 = .ok (.aload_n 0, 1) := by decide +kernel
theorem d_Go_39 : decode prog_4_method_1_code 39 = .ok (.getfield 12, 3) := by decide +kernel
theorem d_Go_42 : decode prog_4_method_1_code 42 = .ok (.getfield 28, 3) := by decide +kernel
theorem d_Go_45 : decode prog_4_method_1_code 45 = .ok (.putfield 32, 3) := by decide +kernel
theorem d_Go_48 : decode prog_4_method_1_code 48 = .ok (.return_, 1) := by decide +kernel
set_option maxRecDepth 100000 in
set_option maxHeartbeats 400000 in
theorem W_Go {AD : Nat → Nat} {cA : Nat → ClassId} {h0 : Nat} {a1 : Nat → Nat} {σ1 : sm_S} (e0 : ∀ k, k < 41 → AD (0 + k) = a1 k) (e1 : AD 41 = h0) : wlk AD xD (glu 41 a1 (fun _ => h0)) cA (glu 41 σ1 (fun _ _ => 0)) = sm_W xR a1 cA σ1 ++ (([(h0, .inr (2, [.ref (a1 0), .ref (a1 1), .ref (a1 8), .ref (a1 17)]))] : va_W)) := (wlk_app2 (SH := xD) (P := xR.map (shf 0)) (S := xD.drop 41) (by decide +kernel) rfl (wlk_shf (n := 41) (by decide +kernel) e0) (by show ([(h0, .inr (2, [.ref (AD 0), .ref (AD 1), .ref (AD 8), .ref (AD 17)]))] : va_W) = [(h0, .inr (2, [.ref (a1 0), .ref (a1 1), .ref (a1 8), .ref (a1 17)]))]; rw [(show AD 0 = a1 0 from e0 0 (by decide)), (show AD 1 = a1 1 from e0 1 (by decide)), (show AD 8 = a1 8 from e0 8 (by decide)), (show AD 17 = a1 17 from e0 17 (by decide))]))
def I_Go (σ : sm_S) : Prop := I_Me σ
set_option maxRecDepth 100000 in
set_option maxHeartbeats 400000 in
theorem ct_Go {l : Launch} {cA : Nat → ClassId} {D : va_G} {tb : Nat → Nat} {Lim : Nat} : Ctor l cA D tb Lim ⟨"SpansAway$Going", "<init>", "()V"⟩ prog_4_method_1_code 3 63 41 1718 2 [.null, .null, .null, .null] xD 41 I_Go := by
  refine Ctor.ofW (by decide) rfl ?_
  intro h0 p e s m args below meth c A L X hN hin hr hlocks hl hP hD hS
  refine lv_aload_n X.hx X.hb d_Go_0 rfl (lv_at hl 0 rfl) ?_
  refine R_obj X hl.1 (ctW_ok (i := 108) rfl) ⟨(Nat.le_of_ble_eq_true rfl), (Nat.le_of_ble_eq_true rfl)⟩ d_Go_1 ?_
  refine lv_aload_n X.hx X.hb d_Go_4 rfl (lv_at hl 0 rfl) ?_
  refine R_new3 X hN hP hD hS hl.1 ct_Me (cT := (RX4, TX4, 8)) rfl rfl tyX4_ok df_Me rfl (by decide +kernel) (ctW_ok (i := 109) rfl) (ctW_ok (i := 27) rfl) (ctW_ok (i := 26) rfl) (ctW_ok (i := 25) rfl) (ctW_ok (i := 24) rfl) (Or.inr (List.mem_of_getElem? (i := 1) rfl)) ⟨(Nat.le_of_ble_eq_true rfl), (Nat.le_of_ble_eq_true rfl)⟩ (Nat.le_of_ble_eq_true rfl) (Nat.le_of_ble_eq_true rfl) (Nat.le_of_ble_eq_true rfl) d_Go_5 d_Go_8 d_Go_9 (fun a1 σ1 H locs i1 hP hD hS => ?_)
  have hP : va_P D vwCl ((h0, .inr (2, [.null, .null, .null, .null])) :: (sm_W xR a1 cA σ1)) H := hP
  have hD : va_D A ((h0, .inr (2, [.null, .null, .null, .null])) :: (sm_W xR a1 cA σ1)) := hD
  refine R_pf X hin hP hD hS (cT := (RX2, TX2, 4)) rfl 0 (Nat.le_of_ble_eq_true rfl) (Nat.le_of_ble_eq_true rfl) rfl rfl (ty := .object "SpansAway$Memory") (by decide +kernel) rfl rfl (ctW_ok (i := 110) rfl) d_Go_12 (fun H locs hP hD hS => ?_)
  have hP : va_P D vwCl ((h0, .inr (2, [.ref (a1 0), .null, .null, .null])) :: (sm_W xR a1 cA σ1)) H := hP
  have hD : va_D A ((h0, .inr (2, [.ref (a1 0), .null, .null, .null])) :: (sm_W xR a1 cA σ1)) := hD
  have hm : ∀ x : Nat × va_E, (x :: sm_W xR a1 cA σ1)[1]? = some (a1 0, .inr (4, [.ref (a1 1), .ref (a1 8), .ref (a1 17), .ref (a1 26), .ref (a1 34), .ref (a1 39), .ref (a1 40), .int (σ1 0 7)])) := fun x => at_cons (i := 0) <| sm_W_at (SH := xR) (s := .inr (4, [.inr 1, .inr 8, .inr 17, .inr 26, .inr 34, .inr 39, .inr 40, .inl 0])) rfl
  refine lv_aload_n X.hx X.hb d_Go_15 rfl (lv_at hl 0 rfl) ?_
  refine lv_aload_n X.hx X.hb d_Go_16 rfl (lv_at hl 0 rfl) ?_
  refine R_gf X hP 0 rfl (cT := (RX2, TX2, 4)) rfl 0 (Nat.le_of_ble_eq_true rfl) (v := .ref (a1 0)) rfl (ctW_ok (i := 110) rfl) d_Go_17 ?_
  refine R_gf X hP 1 (hm _) (cT := (RX4, TX4, 8)) rfl 0 (Nat.le_of_ble_eq_true rfl) (v := .ref (a1 1)) rfl (ctW_ok (i := 111) rfl) d_Go_20 ?_
  refine R_pf X hin hP hD hS (cT := (RX2, TX2, 4)) rfl 1 (Nat.le_of_ble_eq_true rfl) (Nat.le_of_ble_eq_true rfl) rfl rfl (ty := .object "SpansAway$Frames") (by decide +kernel) rfl rfl (ctW_ok (i := 112) rfl) d_Go_23 (fun H locs hP hD hS => ?_)
  have hP : va_P D vwCl ((h0, .inr (2, [.ref (a1 0), .ref (a1 1), .null, .null])) :: (sm_W xR a1 cA σ1)) H := hP
  have hD : va_D A ((h0, .inr (2, [.ref (a1 0), .ref (a1 1), .null, .null])) :: (sm_W xR a1 cA σ1)) := hD
  refine lv_aload_n X.hx X.hb d_Go_26 rfl (lv_at hl 0 rfl) ?_
  refine lv_aload_n X.hx X.hb d_Go_27 rfl (lv_at hl 0 rfl) ?_
  refine R_gf X hP 0 rfl (cT := (RX2, TX2, 4)) rfl 0 (Nat.le_of_ble_eq_true rfl) (v := .ref (a1 0)) rfl (ctW_ok (i := 110) rfl) d_Go_28 ?_
  refine R_gf X hP 1 (hm _) (cT := (RX4, TX4, 8)) rfl 1 (Nat.le_of_ble_eq_true rfl) (v := .ref (a1 8)) rfl (ctW_ok (i := 113) rfl) d_Go_31 ?_
  refine R_pf X hin hP hD hS (cT := (RX2, TX2, 4)) rfl 2 (Nat.le_of_ble_eq_true rfl) (Nat.le_of_ble_eq_true rfl) rfl rfl (ty := .object "SpansAway$Blocks") (by decide +kernel) rfl rfl (ctW_ok (i := 114) rfl) d_Go_34 (fun H locs hP hD hS => ?_)
  have hP : va_P D vwCl ((h0, .inr (2, [.ref (a1 0), .ref (a1 1), .ref (a1 8), .null])) :: (sm_W xR a1 cA σ1)) H := hP
  have hD : va_D A ((h0, .inr (2, [.ref (a1 0), .ref (a1 1), .ref (a1 8), .null])) :: (sm_W xR a1 cA σ1)) := hD
  refine lv_aload_n X.hx X.hb d_Go_37 rfl (lv_at hl 0 rfl) ?_
  refine lv_aload_n X.hx X.hb d_Go_38 rfl (lv_at hl 0 rfl) ?_
  refine R_gf X hP 0 rfl (cT := (RX2, TX2, 4)) rfl 0 (Nat.le_of_ble_eq_true rfl) (v := .ref (a1 0)) rfl (ctW_ok (i := 110) rfl) d_Go_39 ?_
  refine R_gf X hP 1 (hm _) (cT := (RX4, TX4, 8)) rfl 2 (Nat.le_of_ble_eq_true rfl) (v := .ref (a1 17)) rfl (ctW_ok (i := 115) rfl) d_Go_42 ?_
  refine R_pf X hin hP hD hS (cT := (RX2, TX2, 4)) rfl 3 (Nat.le_of_ble_eq_true rfl) (Nat.le_of_ble_eq_true rfl) rfl rfl (ty := .object "SpansAway$Spans") (by decide +kernel) rfl rfl (ctW_ok (i := 116) rfl) d_Go_45 (fun H locs hP hD hS => ?_)
  have hP : va_P D vwCl ((h0, .inr (2, [.ref (a1 0), .ref (a1 1), .ref (a1 8), .ref (a1 17)])) :: (sm_W xR a1 cA σ1)) H := hP
  have hD : va_D A ((h0, .inr (2, [.ref (a1 0), .ref (a1 1), .ref (a1 8), .ref (a1 17)])) :: (sm_W xR a1 cA σ1)) := hD
  refine W.widen (k := 41) (n := 1718) (Nat.le_of_ble_eq_true rfl) (Nat.le_of_ble_eq_true rfl) ?_
  have hE := W_Go (cA := cA) (AD := (glu 41 a1 (fun _ => h0))) (h0 := h0) (a1 := a1) (σ1 := σ1) (fun k hk => by rw [glu_l (by omega)]; exact congrArg a1 (by omega)) rfl
  have hp : List.Perm ((h0, .inr (2, [.ref (a1 0), .ref (a1 1), .ref (a1 8), .ref (a1 17)])) :: sm_W xR a1 cA σ1 : va_W) (wlk (glu 41 a1 (fun _ => h0)) xD (glu 41 a1 (fun _ => h0)) cA (glu 41 σ1 (fun _ _ => 0))) := by
    rw [hE]
    exact (List.perm_append_singleton _ _).symm
  exact R_ret X hr hlocks (SH := xD) (ad := (glu 41 a1 (fun _ => h0))) (σ := (glu 41 σ1 (fun _ _ => 0))) (hP.perm hp) (hD.perm hp) hS rfl ⟨i1.1, i1.2.1, i1.2.2.1, i1.2.2.2.1, i1.2.2.2.2.1, i1.2.2.2.2.2⟩ d_Go_48
theorem d_Th_0 : decode prog_10_method_1_code 0 = .ok (.aload_n 0, 1) := by decide +kernel
theorem d_Th_1 : decode prog_10_method_1_code 1 = .ok (.invokespecial 3, 3) := by decide +kernel
theorem d_Th_4 : decode prog_10_method_1_code 4 = .ok (.aload_n 0, 1) := by decide +kernel
theorem d_Th_5 : decode prog_10_method_1_code 5 = .ok (.new 9, 3) := by decide +kernel
theorem d_Th_8 : decode prog_10_method_1_code 8 = .ok (.dup, 1) := by decide +kernel
theorem d_Th_9 : decode prog_10_method_1_code 9 = .ok (.invokespecial 11, 3) := by decide +kernel
theorem d_Th_12 : decode prog_10_method_1_code 12 = .ok (.putfield 12, 3) := by decide +kernel
theorem d_Th_15 : decode prog_10_method_1_code 15 = .ok (.aload_n 0, 1) := by decide +kernel
theorem d_Th_16 : decode prog_10_method_1_code 16 = .ok (.aload_n 0, 1) := by decide +kernel
theorem d_Th_17 : decode prog_10_method_1_code 17 = .ok (.getfield 12, 3) := by decide +kernel
theorem d_Th_20 : decode prog_10_method_1_code 20 = .ok (.getfield 18, 3) := by decide +kernel
theorem d_Th_23 : decode prog_10_method_1_code 23 = .ok (.putfield 22, 3) := by decide +kernel
theorem d_Th_26 : decode prog_10_method_1_code 26 = .ok (.aload_n 0, 1) := by decide +kernel
theorem d_Th_27 : decode prog_10_method_1_code 27 = .ok (.new 25, 3) := by decide +kernel
theorem d_Th_30 : decode prog_10_method_1_code 30 = .ok (.dup, 1) := by decide +kernel
theorem d_Th_31 : decode prog_10_method_1_code 31 = .ok (.invokespecial 27, 3) := by decide +kernel
theorem d_Th_34 : decode prog_10_method_1_code 34 = .ok (.putfield 28, 3) := by decide +kernel
theorem d_Th_37 : decode prog_10_method_1_code 37 = .ok (.aload_n 0, 1) := by decide +kernel
theorem d_Th_38 : decode prog_10_method_1_code 38 = .ok (.iconst 0, 1) := by decide +kernel
theorem d_Th_39 : decode prog_10_method_1_code 39 = .ok (.putfield 31, 3) := by decide +kernel
theorem d_Th_42 : decode prog_10_method_1_code 42 = .ok (.aload_n 0, 1) := by decide +kernel
theorem d_Th_43 : decode prog_10_method_1_code 43 = .ok (.iconst 0, 1) := by decide +kernel
theorem d_Th_44 : decode prog_10_method_1_code 44 = .ok (.putfield 35, 3) := by decide +kernel
theorem d_Th_47 : decode prog_10_method_1_code 47 = .ok (.return_, 1) := by decide +kernel
def xTh : List sm_Sh := [.inr (4, [.inr 1, .inr 8, .inr 17, .inr 26, .inr 34, .inr 39, .inr 40, .inl 0]), .inr (1, [.inr 2, .inr 3, .inr 4, .inr 5, .inr 6, .inr 7]), .inl (0, 8), .inl (0, 8), .inl (0, 8), .inl (0, 8), .inl (0, 256), .inl (0, 256), .inr (0, [.inr 9, .inr 10, .inr 11, .inr 12, .inr 13, .inr 14, .inr 15, .inr 16, .inl 0]), .inl (0, 96), .inl (0, 96), .inl (0, 96), .inl (0, 96), .inl (0, 96), .inl (0, 96), .inl (0, 96), .inl (0, 96), .inr (5, [.inr 18, .inr 19, .inr 20, .inr 21, .inr 22, .inr 23, .inr 24, .inr 25]), .inl (0, 8), .inl (0, 8), .inl (0, 8), .inl (0, 8), .inl (0, 8), .inl (0, 8), .inl (0, 8), .inl (0, 8), .inr (6, [.inr 27, .inr 28, .inr 29, .inr 30, .inr 31, .inr 32, .inr 33, .inl 0]), .inl (0, 6), .inl (0, 6), .inl (0, 6), .inl (0, 6), .inl (0, 6), .inl (0, 6), .inl (0, 6), .inr (3, [.inr 35, .inr 36, .inr 37, .inr 38, .inl 0, .inl 0]), .inl (0, 60), .inl (0, 60), .inl (0, 60), .inl (0, 60), .inl (0, 4), .inl (0, 11), .inr (2, [.inr 0, .inr 1, .inr 8, .inr 17]), .inr (7, [.inr 41, .inr 0, .inr 43, .inl 0, .inl 0]), .inr (4, [.inr 44, .inr 51, .inr 60, .inr 69, .inr 77, .inr 82, .inr 83, .inl 0]), .inr (1, [.inr 45, .inr 46, .inr 47, .inr 48, .inr 49, .inr 50]), .inl (0, 8), .inl (0, 8), .inl (0, 8), .inl (0, 8), .inl (0, 256), .inl (0, 256), .inr (0, [.inr 52, .inr 53, .inr 54, .inr 55, .inr 56, .inr 57, .inr 58, .inr 59, .inl 0]), .inl (0, 96), .inl (0, 96), .inl (0, 96), .inl (0, 96), .inl (0, 96), .inl (0, 96), .inl (0, 96), .inl (0, 96), .inr (5, [.inr 61, .inr 62, .inr 63, .inr 64, .inr 65, .inr 66, .inr 67, .inr 68]), .inl (0, 8), .inl (0, 8), .inl (0, 8), .inl (0, 8), .inl (0, 8), .inl (0, 8), .inl (0, 8), .inl (0, 8), .inr (6, [.inr 70, .inr 71, .inr 72, .inr 73, .inr 74, .inr 75, .inr 76, .inl 0]), .inl (0, 6), .inl (0, 6), .inl (0, 6), .inl (0, 6), .inl (0, 6), .inl (0, 6), .inl (0, 6), .inr (3, [.inr 78, .inr 79, .inr 80, .inr 81, .inl 0, .inl 0]), .inl (0, 60), .inl (0, 60), .inl (0, 60), .inl (0, 60), .inl (0, 4), .inl (0, 11)]
set_option maxRecDepth 100000 in
set_option maxHeartbeats 400000 in
theorem W_Th {AD : Nat → Nat} {cA : Nat → ClassId} {h0 : Nat} {a1 a2 : Nat → Nat} {σ1 σ2 : sm_S} (e0 : ∀ k, k < 42 → AD (0 + k) = a1 k) (e1 : AD 42 = h0) (e2 : ∀ k, k < 41 → AD (43 + k) = a2 k) : wlk AD xTh (glu 42 a1 (glu 1 (fun _ => h0) a2)) cA (glu 42 σ1 (glu 1 (fun _ _ => 0) σ2)) = sm_W xD a1 cA σ1 ++ (([(h0, .inr (7, [.ref (a1 41), .ref (a1 0), .ref (a2 0), .int 0, .int 0]))] : va_W) ++ (sm_W xR a2 cA σ2)) := (wlk_app2 (SH := xTh) (P := xD.map (shf 0)) (S := xTh.drop 42) (by decide +kernel) rfl (wlk_shf (n := 42) (by decide +kernel) e0) (wlk_app2 (SH := xTh.drop 42) (P := (xTh.drop 42).take 1) (S := xTh.drop 43) (by decide +kernel) rfl (by show ([(h0, .inr (7, [.ref (AD 41), .ref (AD 0), .ref (AD 43), .int 0, .int 0]))] : va_W) = [(h0, .inr (7, [.ref (a1 41), .ref (a1 0), .ref (a2 0), .int 0, .int 0]))]; rw [(show AD 41 = a1 41 from e0 41 (by decide)), (show AD 0 = a1 0 from e0 0 (by decide)), (show AD 43 = a2 0 from e2 0 (by decide))]) ((congrArg (fun z => wlk AD z a2 cA σ2) (show xTh.drop 43 = xR.map (shf 43) from by decide +kernel)).trans (wlk_shf (n := 41) (by decide +kernel) e2))))
def I_Th (σ : sm_S) : Prop := σ 34 5 = 0 ∧ σ 77 5 = 0
set_option maxRecDepth 100000 in
set_option maxHeartbeats 400000 in
theorem ct_Th {l : Launch} {cA : Nat → ClassId} {D : va_G} {tb : Nat → Nat} {Lim : Nat} : Ctor l cA D tb Lim ⟨"SpansAway$Thought", "<init>", "()V"⟩ prog_10_method_1_code 4 83 83 3440 7 [.null, .null, .null, .int 0, .int 0] xTh 42 I_Th := by
  refine Ctor.ofW (by decide) rfl ?_
  intro h0 p e s m args below meth c A L X hN hin hr hlocks hl hP hD hS
  refine lv_aload_n X.hx X.hb d_Th_0 rfl (lv_at hl 0 rfl) ?_
  refine R_obj X hl.1 (ctW_ok (i := 117) rfl) ⟨(Nat.le_of_ble_eq_true rfl), (Nat.le_of_ble_eq_true rfl)⟩ d_Th_1 ?_
  refine lv_aload_n X.hx X.hb d_Th_4 rfl (lv_at hl 0 rfl) ?_
  refine R_new3 X hN hP hD hS hl.1 ct_Go (cT := (RX2, TX2, 4)) rfl rfl tyX2_ok df_Go rfl (by decide +kernel) (ctW_ok (i := 118) rfl) (ctW_ok (i := 31) rfl) (ctW_ok (i := 30) rfl) (ctW_ok (i := 29) rfl) (ctW_ok (i := 28) rfl) (Or.inr (List.mem_of_getElem? (i := 2) rfl)) ⟨(Nat.le_of_ble_eq_true rfl), (Nat.le_of_ble_eq_true rfl)⟩ (Nat.le_of_ble_eq_true rfl) (Nat.le_of_ble_eq_true rfl) (Nat.le_of_ble_eq_true rfl) d_Th_5 d_Th_8 d_Th_9 (fun a1 σ1 H locs i1 hP hD hS => ?_)
  have hP : va_P D vwCl ((h0, .inr (7, [.null, .null, .null, .int 0, .int 0])) :: (sm_W xD a1 cA σ1)) H := hP
  have hD : va_D A ((h0, .inr (7, [.null, .null, .null, .int 0, .int 0])) :: (sm_W xD a1 cA σ1)) := hD
  refine R_pf X hin hP hD hS (cT := (RX8, TX8, 5)) rfl 0 (Nat.le_of_ble_eq_true rfl) (Nat.le_of_ble_eq_true rfl) rfl rfl (ty := .object "SpansAway$Going") (by decide +kernel) rfl rfl (ctW_ok (i := 119) rfl) d_Th_12 (fun H locs hP hD hS => ?_)
  have hP : va_P D vwCl ((h0, .inr (7, [.ref (a1 41), .null, .null, .int 0, .int 0])) :: (sm_W xD a1 cA σ1)) H := hP
  have hD : va_D A ((h0, .inr (7, [.ref (a1 41), .null, .null, .int 0, .int 0])) :: (sm_W xD a1 cA σ1)) := hD
  have hg : ∀ x : Nat × va_E, (x :: sm_W xD a1 cA σ1)[42]? = some (a1 41, .inr (2, [.ref (a1 0), .ref (a1 1), .ref (a1 8), .ref (a1 17)])) := fun x => at_cons (i := 41) <| sm_W_at (SH := xD) (s := .inr (2, [.inr 0, .inr 1, .inr 8, .inr 17])) rfl
  refine lv_aload_n X.hx X.hb d_Th_15 rfl (lv_at hl 0 rfl) ?_
  refine lv_aload_n X.hx X.hb d_Th_16 rfl (lv_at hl 0 rfl) ?_
  refine R_gf X hP 0 rfl (cT := (RX8, TX8, 5)) rfl 0 (Nat.le_of_ble_eq_true rfl) (v := .ref (a1 41)) rfl (ctW_ok (i := 119) rfl) d_Th_17 ?_
  refine R_gf X hP 42 (hg _) (cT := (RX2, TX2, 4)) rfl 0 (Nat.le_of_ble_eq_true rfl) (v := .ref (a1 0)) rfl (ctW_ok (i := 120) rfl) d_Th_20 ?_
  refine R_pf X hin hP hD hS (cT := (RX8, TX8, 5)) rfl 1 (Nat.le_of_ble_eq_true rfl) (Nat.le_of_ble_eq_true rfl) rfl rfl (ty := .object "SpansAway$Memory") (by decide +kernel) rfl rfl (ctW_ok (i := 121) rfl) d_Th_23 (fun H locs hP hD hS => ?_)
  have hP : va_P D vwCl ((h0, .inr (7, [.ref (a1 41), .ref (a1 0), .null, .int 0, .int 0])) :: (sm_W xD a1 cA σ1)) H := hP
  have hD : va_D A ((h0, .inr (7, [.ref (a1 41), .ref (a1 0), .null, .int 0, .int 0])) :: (sm_W xD a1 cA σ1)) := hD
  refine lv_aload_n X.hx X.hb d_Th_26 rfl (lv_at hl 0 rfl) ?_
  refine R_new3 X hN hP hD hS hl.1 ct_Me (cT := (RX4, TX4, 8)) rfl rfl tyX4_ok df_Me rfl (by decide +kernel) (ctW_ok (i := 122) rfl) (ctW_ok (i := 27) rfl) (ctW_ok (i := 26) rfl) (ctW_ok (i := 25) rfl) (ctW_ok (i := 24) rfl) (Or.inr (List.mem_of_getElem? (i := 3) rfl)) ⟨(Nat.le_of_ble_eq_true rfl), (Nat.le_of_ble_eq_true rfl)⟩ (Nat.le_of_ble_eq_true rfl) (Nat.le_of_ble_eq_true rfl) (Nat.le_of_ble_eq_true rfl) d_Th_27 d_Th_30 d_Th_31 (fun a2 σ2 H locs i2 hP hD hS => ?_)
  have hP : va_P D vwCl ((h0, .inr (7, [.ref (a1 41), .ref (a1 0), .null, .int 0, .int 0])) :: (sm_W xD a1 cA σ1 ++ sm_W xR a2 cA σ2)) H := hP
  have hD : va_D A ((h0, .inr (7, [.ref (a1 41), .ref (a1 0), .null, .int 0, .int 0])) :: (sm_W xD a1 cA σ1 ++ sm_W xR a2 cA σ2)) := hD
  refine R_pf X hin hP hD hS (cT := (RX8, TX8, 5)) rfl 2 (Nat.le_of_ble_eq_true rfl) (Nat.le_of_ble_eq_true rfl) rfl rfl (ty := .object "SpansAway$Memory") (by decide +kernel) rfl rfl (ctW_ok (i := 123) rfl) d_Th_34 (fun H locs hP hD hS => ?_)
  have hP : va_P D vwCl ((h0, .inr (7, [.ref (a1 41), .ref (a1 0), .ref (a2 0), .int 0, .int 0])) :: (sm_W xD a1 cA σ1 ++ sm_W xR a2 cA σ2)) H := hP
  have hD : va_D A ((h0, .inr (7, [.ref (a1 41), .ref (a1 0), .ref (a2 0), .int 0, .int 0])) :: (sm_W xD a1 cA σ1 ++ sm_W xR a2 cA σ2)) := hD
  refine lv_aload_n X.hx X.hb d_Th_37 rfl (lv_at hl 0 rfl) ?_
  refine lv_iconst (v := 0) X.hx X.hb d_Th_38 (by decide) ?_
  refine R_pi X hP hD hS (cT := (RX8, TX8, 5)) rfl 3 (Nat.le_of_ble_eq_true rfl) (Nat.le_of_ble_eq_true rfl) rfl (ty := .int) (by decide +kernel) rfl rfl (ctW_ok (i := 124) rfl) d_Th_39 (fun H locs hP hD hS => ?_)
  have hP : va_P D vwCl ((h0, .inr (7, [.ref (a1 41), .ref (a1 0), .ref (a2 0), .int 0, .int 0])) :: (sm_W xD a1 cA σ1 ++ sm_W xR a2 cA σ2)) H := hP
  have hD : va_D A ((h0, .inr (7, [.ref (a1 41), .ref (a1 0), .ref (a2 0), .int 0, .int 0])) :: (sm_W xD a1 cA σ1 ++ sm_W xR a2 cA σ2)) := hD
  refine lv_aload_n X.hx X.hb d_Th_42 rfl (lv_at hl 0 rfl) ?_
  refine lv_iconst (v := 0) X.hx X.hb d_Th_43 (by decide) ?_
  refine R_pi X hP hD hS (cT := (RX8, TX8, 5)) rfl 4 (Nat.le_of_ble_eq_true rfl) (Nat.le_of_ble_eq_true rfl) rfl (ty := .int) (by decide +kernel) rfl rfl (ctW_ok (i := 125) rfl) d_Th_44 (fun H locs hP hD hS => ?_)
  have hP : va_P D vwCl ((h0, .inr (7, [.ref (a1 41), .ref (a1 0), .ref (a2 0), .int 0, .int 0])) :: (sm_W xD a1 cA σ1 ++ sm_W xR a2 cA σ2)) H := hP
  have hD : va_D A ((h0, .inr (7, [.ref (a1 41), .ref (a1 0), .ref (a2 0), .int 0, .int 0])) :: (sm_W xD a1 cA σ1 ++ sm_W xR a2 cA σ2)) := hD
  refine W.widen (k := 83) (n := 3440) (Nat.le_of_ble_eq_true rfl) (Nat.le_of_ble_eq_true rfl) ?_
  have hE := W_Th (cA := cA) (AD := (glu 42 a1 (glu 1 (fun _ => h0) a2))) (h0 := h0) (a1 := a1) (a2 := a2) (σ1 := σ1) (σ2 := σ2) (fun k hk => by rw [glu_l (by omega)]; exact congrArg a1 (by omega)) rfl (fun k hk => by rw [glu_s (by omega), glu_s (by omega)]; exact congrArg a2 (by omega))
  have hp : List.Perm ((h0, .inr (7, [.ref (a1 41), .ref (a1 0), .ref (a2 0), .int 0, .int 0])) :: (sm_W xD a1 cA σ1 ++ sm_W xR a2 cA σ2) : va_W) (wlk (glu 42 a1 (glu 1 (fun _ => h0) a2)) xTh (glu 42 a1 (glu 1 (fun _ => h0) a2)) cA (glu 42 σ1 (glu 1 (fun _ _ => 0) σ2))) := by
    rw [hE]
    exact List.perm_middle.symm
  exact R_ret X hr hlocks (SH := xTh) (ad := (glu 42 a1 (glu 1 (fun _ => h0) a2))) (σ := (glu 42 σ1 (glu 1 (fun _ _ => 0) σ2))) (hP.perm hp) (hD.perm hp) hS rfl ⟨i1.2.2.2.2.1, i2.2.2.2.2.1⟩ d_Th_47
end
section
/-! ===== the first words: Rows.copy out of a table, openFirst ===== -/
section ACT
variable {p : Program} {l : Launch} {e : Env} {R : Room} {s : State} {m : MethodId} {args : Array Value} {below : List Frame} {meth : Method} {c : Code} {H : Heap} {locs : List Loc} {cells slots : Nat} {Q : State → Prop} {pc : Nat} {L : Array Slot} {rest : List Value}
variable {Ts : List Cond} {own : String} {cc : ByteArray} {nL : Nat} {D : va_G} {cA : Nat → ClassId} {tb : Nat → Nat} {Lim : Nat} {A : Nat → Prop}
/-- System.arraycopy out of a table that nobody writes -/
theorem R_acT (X : CX p s m args c Ts own cc nL D cA tb Lim A) (hsz : L.size = nL) {idx : Nat} (hlk : Cond.methodLink own idx arraycopyName ∈ lw_tbl) {ws : va_W} (hP : va_P D vwCl ws H) (hD : va_D A ws) (hS : va_S A s.heap H locs) {t n0 : Nat} {f : Nat → Int32} (hT : va_T .int t n0 (fun j => .int (f j)) A s s.heap) (q1 : Nat) {a n1 : Nat} {g : Nat → Int32} (ha1 : ws[q1]? = some (a, .inl (cA 0, n1, .inl g))) {sp dp n : Int32} (h1 : ¬ sp < 0) (h2 : ¬ dp < 0) (h3 : ¬ n < 0) (h4 : sp.toNatClampNeg + n.toNatClampNeg ≤ n0) (h5 : dp.toNatClampNeg + n.toNatClampNeg ≤ n1) (hframes : 1 ≤ R.frames) (hlocals : (rest.map fun v => v.category).sum + (nativeFrameWords "java/lang/System" "arraycopy" 5 + 11) ≤ R.locals) (hd : decode cc pc = .ok (.invokestatic idx, 3))
    (kk : ∀ (H1 : Heap) (locs1 : List Loc), va_P D vwCl (ws.set q1 (a, .inl (cA 0, n1, .inl (va_cpy f g sp.toNatClampNeg dp.toNatClampNeg n.toNatClampNeg)))) H1 → va_D A (ws.set q1 (a, .inl (cA 0, n1, .inl (va_cpy f g sp.toNatClampNeg dp.toNatClampNeg n.toNatClampNeg)))) → va_S A s.heap H1 locs1 → W p l e R s m args below meth c H1 locs1 cells slots Q (F0 m (pc + 3) L rest)) : W p l e R s m args below meth c H locs cells slots Q (F0 m pc L (.int n :: .int dp :: .ref a :: .int sp :: .ref t :: rest)) := by
  have nn : ∀ z : Int32, ¬ z < 0 → z.toInt = (z.toNatClampNeg : Int) := by
    intro z hz
    rw [t_lt] at hz
    have hz : ¬ z.toInt < (0 : Int) := hz
    show z.toInt = ((z.toInt.toNat : Nat) : Int)
    omega
  intro T hT' X0
  obtain ⟨scr, hs1, hs2, hs3, hs4, -, hs5, hs6⟩ := hT
  have hc0 : H[t]? = some scr := by rw [hS.2.1 t (Array.getElem?_eq_some_iff.mp hs1).1 hs6]; exact hs1
  have hc1 : H[a]? = some (vp_cell (cA 0) (n1, .inl g)) := hP q1 _ ha1
  obtain ⟨hs7, k0, hk0, cm0, hkk0⟩ := hs2
  obtain ⟨-, k1, hk1, cm1, hkk1⟩ := (X.hK.2 0 (cA 0, .int) rfl).1 n1 (fun j => .int (g j))
  obtain ⟨vm', X', step⟩ := X0.arraycopy X.hx X.hown (X.w hlk rfl) (X.w (sm_aw_ok _ (by simp)) rfl) (X.w (sm_aw_ok _ (by simp)) rfl) (X.w (sm_aw_ok _ (by simp)) rfl) (src := t) (dst := a) (cs := scr) (cd := vp_cell (cA 0) (n1, .inl g)) (srcPos := sp) (destPos := dp) (n := n) (by rw [hT']; exact hc0) (by rw [hT']; exact hc1)
    hs7 (fun _ h => by cases h) hs3 (fun h => by cases h) hk0 hk1 hkk0 hkk1 (by simp [refKind]) h1 h2 h3
    (by rw [nn sp h1, nn n h3]; omega)
    (by rw [nn dp h2, nn n h3]; show ¬ _ > ((arrV (cA 0) n1 (fun j => .int (g j))).slots.size : Int); rw [arrV_size]; omega)
    (fun vm₁ _ i hi => by
      have e : scr.slots.getD (sp.toNatClampNeg + i) .null = .int (f (sp.toNatClampNeg + i)) := by
        rw [Array.getD_eq_getD_getElem?, hs5 _ (by omega)]
        rfl
      refine ⟨?_, ?_⟩
      · rw [e]
        rfl
      · rw [e]
        exact trivial)
    (g := F0 m pc L (.int n :: .int dp :: .ref a :: .int sp :: .ref t :: rest)) rfl (hsz.trans X.hml.symm) (rest := rest) rfl (by rw [X.hb]; exact hd) hframes (by show 2 * 0 + _ + _ ≤ _; omega)
  have e1 : copied scr (vp_cell (cA 0) (n1, .inl g)) sp dp n = vp_cell (cA 0) (n1, .inl (va_cpy f g sp.toNatClampNeg dp.toNatClampNeg n.toNatClampNeg)) := va_copiedX (fun z => .int z) scr (cA 0) f g hs5 h4
  rw [e1] at X' step
  have hl : a < H.size := (Array.getElem?_eq_some_iff.mp hc1).1
  have hheap : ((T.setVm vm').setCell a (vp_cell (cA 0) (n1, .inl (va_cpy f g sp.toNatClampNeg dp.toNatClampNeg n.toNatClampNeg)))).heap = H.setIfInBounds a (vp_cell (cA 0) (n1, .inl (va_cpy f g sp.toNatClampNeg dp.toNatClampNeg n.toNatClampNeg))) := by rw [← hT']; rfl
  have oq : ∀ q : Nat, q ≠ a → (H.setIfInBounds a (vp_cell (cA 0) (n1, .inl (va_cpy f g sp.toNatClampNeg dp.toNatClampNeg n.toNatClampNeg))))[q]? = H[q]? := fun q hq => by simp [Array.getElem?_setIfInBounds, Ne.symm hq]
  obtain ⟨t2, a1, b1⟩ := kk _ _ (hP.set hD ha1 (show (H.setIfInBounds a _)[a]? = some _ by simp [Array.getElem?_setIfInBounds, hl]) oq) (hD.set ha1) ⟨by simp; exact hS.1, fun q g1 g2 => by
      rw [oq q (fun e => g2 (by rw [e]; exact hD.2 q1 _ ha1))]
      exact hS.2.1 q g1 g2, fun q hq => by
      rcases List.mem_append.mp hq with h | h
      · exact hS.2.2 q h
      · obtain ⟨z, -, hz⟩ := List.mem_map.mp h
        rw [← hz]
        exact hD.2 q1 _ ha1⟩ _ hheap X'
  exact ⟨t2, step t2 a1, b1⟩
end ACT
/-- the addresses of a world of shapes -/
theorem sm_A_of {SH : List sm_Sh} {ad : Nat → Nat} {cA : Nat → ClassId} {σ : sm_S} {A0 : Nat → Prop} {Lim sz : Nat} (hD : va_D A0 (sm_W SH ad cA σ)) (hLa : ∀ q, sm_A SH ad q → Lim ≤ q) (hs : Lim ≤ sz) : ∀ q, va_A (sm_W SH ad cA σ) sz q → Lim ≤ q := by
  rintro q (⟨i, e, h⟩ | h)
  · exact hLa q ((sm_D (cA := cA) (σ := σ) (sm_inj hD)).2 i (q, e) h)
  · exact Nat.le_trans hs h
theorem d_cp_0 : decode prog_7_method_8_code 0 = .ok (.aload_n 0, 1) := by decide +kernel
theorem d_cp_1 : decode prog_7_method_8_code 1 = .ok (.iconst 0, 1) := by decide +kernel
theorem d_cp_2 : decode prog_7_method_8_code 2 = .ok (.aload_n 1, 1) := by decide +kernel
theorem d_cp_3 : decode prog_7_method_8_code 3 = .ok (.iconst 0, 1) := by decide +kernel
theorem d_cp_4 : decode prog_7_method_8_code 4 = .ok (.aload_n 0, 1) := by decide +kernel
theorem d_cp_5 : decode prog_7_method_8_code 5 = .ok (.arraylength, 1) := by decide +kernel
theorem d_cp_6 : decode prog_7_method_8_code 6 = .ok (.aload_n 1, 1) := by decide +kernel
theorem d_cp_7 : decode prog_7_method_8_code 7 = .ok (.arraylength, 1) := by decide +kernel
theorem d_cp_8 : decode prog_7_method_8_code 8 = .ok (.invokestatic 25, 3) := by decide +kernel
theorem d_cp_11 : decode prog_7_method_8_code 11 = .ok (.invokestatic 30, 3) := by decide +kernel
theorem d_cp_14 : decode prog_7_method_8_code 14 = .ok (.return_, 1) := by decide +kernel
def y_cp : MethodName := ⟨"SpansAway$Rows", "copy", "([I[I)V"⟩
set_option maxRecDepth 100000 in
set_option maxHeartbeats 400000 in
theorem ct_cp {l : Launch} {cA : Nat → ClassId} {D : va_G} {tb : Nat → Nat} {Lim : Nat} {SH : List sm_Sh} {ad : Nat → Nat} {σ : sm_S} {A0 : Nat → Prop} {sz k : Nat} (hk : SH[k]? = some (.inl (0, 4))) (hD0 : va_D A0 (sm_W SH ad cA σ)) (hLa : ∀ q, sm_A SH ad q → Lim ≤ q) (hs : Lim ≤ sz) : Met l y_cp (cws y_cp prog_7_method_8_code 2) { frames := 1, cells := 0, slots := 0, locals := 40 } (va_Pc [.ref (tb 1003), .ref (ad k)] (ctB cA D tb Lim sz (sm_W SH ad cA σ))) (va_Qv (S := Nat → Int32) (fun f => f 0 = 4 ∧ f 1 = 3 ∧ f 2 = 150 ∧ f 3 = 2) (fun f t => va_P D vwCl (sm_W SH ad cA (sm_set σ k f)) t.heap) (va_A (sm_W SH ad cA σ) sz)) 0 0 (va_A (sm_W SH ad cA σ) sz) := by
  refine Met.ofW (cc := prog_7_method_8_code) (maxL := 2) (ret := none) (by decide) rfl ?_
  intro p e s m args below meth c s₁ B hml hv
  obtain ⟨rfl, rfl, hP, hK, hZ, hN⟩ := hv
  have hl := lv_entry ([.ref (tb 1003), .ref (ad k)]) (n := 2) (Nat.le_of_ble_eq_true rfl)
  rw [lg_entry_eq]
  generalize (lg_sl ([.ref (tb 1003), .ref (ad k)]) ++ List.replicate (2 - (lg_sl ([.ref (tb 1003), .ref (ad k)])).length) Slot.unset).toArray = L at hl ⊢
  have hl : lv_has L 2 [(0, .ref (tb 1003)), (1, .ref (ad k))] := hl
  have hD : va_D (va_A (sm_W SH ad cA σ) s.heap.size) (sm_W SH ad cA σ) := hD0.self
  have X : CX p s m #[.ref (tb 1003), .ref (ad k)] c (cws y_cp prog_7_method_8_code 2) "SpansAway$Rows" prog_7_method_8_code 2 D cA tb Lim (va_A (sm_W SH ad cA σ) s.heap.size) := ⟨B.exec, B.bytes, hml, findClass_of_methodNamed B.named, atoms_spec (ws := cws y_cp prog_7_method_8_code 2) B.pre, cws_has, hK, hZ, fun q h => Or.inr h, sm_A_of hD0 hLa hs⟩
  have hT : va_T .int (tb 1003) 4 (fun j => .int (([4, 3, 150, 2] : List Int32).getD j 0)) (va_A (sm_W SH ad cA σ) s.heap.size) s s.heap := hZ.2.2.narrow X.hL
  have hS : va_S (va_A (sm_W SH ad cA σ) s.heap.size) s.heap s.heap [] := va_S.rf
  refine lv_aload_n X.hx X.hb d_cp_0 rfl (lv_at hl 0 rfl) ?_
  refine lv_iconst (v := 0) X.hx X.hb d_cp_1 (by decide) ?_
  refine lv_aload_n X.hx X.hb d_cp_2 rfl (lv_at hl 1 rfl) ?_
  refine lv_iconst (v := 0) X.hx X.hb d_cp_3 (by decide) ?_
  refine lv_aload_n X.hx X.hb d_cp_4 rfl (lv_at hl 0 rfl) ?_
  refine va_tlen (v := 4) X.hx X.hb hT hS (by decide) d_cp_5 ?_
  refine lv_aload_n X.hx X.hb d_cp_6 rfl (lv_at hl 1 rfl) ?_
  refine va_alen (v := 4) (x := (4, .inl (σ k))) X.hx X.hb X.hK hP k 0 (sm_W_at hk) (ty := .int) rfl rfl d_cp_7 ?_
  refine va_mmin X.hx X.hb (X.hml.trans hl.1.symm) X.hown (X.w (show Cond.methodLink "SpansAway$Rows" 25 Lib.Math.min.name ∈ lw_tbl from sm_mn_ok (5, 25, 0) (by decide)) rfl) (X.w (sm_mw_ok _ (by simp)) rfl) (X.w (sm_mw_ok _ (by simp)) rfl) (X.w (sm_mw_ok _ (by simp)) rfl) (Nat.le_refl 1) (Nat.le_of_ble_eq_true rfl) (Nat.le_refl 0) (Nat.le_refl 0) d_cp_8 ?_
  rw [show (if (4 : Int32) < 4 then (4 : Int32) else 4) = 4 from by decide]
  refine R_acT (rest := []) X hl.1 (show Cond.methodLink "SpansAway$Rows" 30 arraycopyName ∈ lw_tbl from sm_ac_ok (5, 30, 0) (by decide)) hP hD hS hT k (sm_W_at hk) (by decide) (by decide) (by decide) (by decide) (by decide) (Nat.le_refl 1) (Nat.le_of_ble_eq_true rfl) d_cp_11 (fun H1 locs1 hP1 hD1 hS1 => ?_)
  have hP2 : va_P D vwCl (sm_W SH ad cA (sm_set σ k (va_cpy (fun j => ([4, 3, 150, 2] : List Int32).getD j 0) (σ k) (0 : Int32).toNatClampNeg (0 : Int32).toNatClampNeg (4 : Int32).toNatClampNeg))) H1 := by
    rw [← sm_W_set hk (e := .inl (cA 0, 4, .inl (va_cpy (fun j => ([4, 3, 150, 2] : List Int32).getD j 0) (σ k) (0 : Int32).toNatClampNeg (0 : Int32).toNatClampNeg (4 : Int32).toNatClampNeg))) rfl]
    exact hP1
  exact W.vret X.hx X.hb B.returns (fun t ht hW => ⟨⟨va_cpy (fun j => ([4, 3, 150, 2] : List Int32).getD j 0) (σ k) (0 : Int32).toNatClampNeg (0 : Int32).toNatClampNeg (4 : Int32).toNatClampNeg, rfl, ⟨pk_cpy_in (by decide) (by decide), pk_cpy_in (by decide) (by decide), pk_cpy_in (by decide) (by decide), pk_cpy_in (by decide) (by decide)⟩, (show va_P D vwCl _ t.heap by rw [ht]; exact hP2)⟩, hS1.F ht⟩) hS1.2.2 d_cp_14 (hlocks := B.notSynchronized)
theorem d_of_0 : decode prog_6_method_3_code 0 = .ok (.getstatic 76, 3) := by decide +kernel
theorem d_of_3 : decode prog_6_method_3_code 3 = .ok (.aload_n 0, 1) := by decide +kernel
theorem d_of_4 : decode prog_6_method_3_code 4 = .ok (.getfield 46, 3) := by decide +kernel
theorem d_of_7 : decode prog_6_method_3_code 7 = .ok (.invokestatic 70, 3) := by decide +kernel
theorem d_of_10 : decode prog_6_method_3_code 10 = .ok (.iconst 0, 1) := by decide +kernel
theorem d_of_11 : decode prog_6_method_3_code 11 = .ok (.istore_n 1, 1) := by decide +kernel
theorem d_of_12 : decode prog_6_method_3_code 12 = .ok (.iload_n 1, 1) := by decide +kernel
theorem d_of_13 : decode prog_6_method_3_code 13 = .ok (.iconst 2, 1) := by decide +kernel
theorem d_of_14 : decode prog_6_method_3_code 14 = .ok (.if_icmp .ge 39, 3) := by decide +kernel
theorem d_of_17 : decode prog_6_method_3_code 17 = .ok (.aload_n 0, 1) := by decide +kernel
theorem d_of_18 : decode prog_6_method_3_code 18 = .ok (.getfield 28, 3) := by decide +kernel
theorem d_of_21 : decode prog_6_method_3_code 21 = .ok (.getfield 79, 3) := by decide +kernel
theorem d_of_24 : decode prog_6_method_3_code 24 = .ok (.iload_n 1, 1) := by decide +kernel
theorem d_of_25 : decode prog_6_method_3_code 25 = .ok (.iconst 1, 1) := by decide +kernel
theorem d_of_26 : decode prog_6_method_3_code 26 = .ok (.iastore, 1) := by decide +kernel
theorem d_of_27 : decode prog_6_method_3_code 27 = .ok (.aload_n 0, 1) := by decide +kernel
theorem d_of_28 : decode prog_6_method_3_code 28 = .ok (.getfield 28, 3) := by decide +kernel
theorem d_of_31 : decode prog_6_method_3_code 31 = .ok (.getfield 82, 3) := by decide +kernel
theorem d_of_34 : decode prog_6_method_3_code 34 = .ok (.iload_n 1, 1) := by decide +kernel
theorem d_of_35 : decode prog_6_method_3_code 35 = .ok (.iconst 0, 1) := by decide +kernel
theorem d_of_36 : decode prog_6_method_3_code 36 = .ok (.iastore, 1) := by decide +kernel
theorem d_of_37 : decode prog_6_method_3_code 37 = .ok (.aload_n 0, 1) := by decide +kernel
theorem d_of_38 : decode prog_6_method_3_code 38 = .ok (.getfield 12, 3) := by decide +kernel
theorem d_of_41 : decode prog_6_method_3_code 41 = .ok (.getfield 85, 3) := by decide +kernel
theorem d_of_44 : decode prog_6_method_3_code 44 = .ok (.iload_n 1, 1) := by decide +kernel
theorem d_of_45 : decode prog_6_method_3_code 45 = .ok (.iconst (-1), 1) := by decide +kernel
theorem d_of_46 : decode prog_6_method_3_code 46 = .ok (.iastore, 1) := by decide +kernel
theorem d_of_47 : decode prog_6_method_3_code 47 = .ok (.iinc 1 1, 3) := by decide +kernel
theorem d_of_50 : decode prog_6_method_3_code 50 = .ok (.goto (-38), 3) := by decide +kernel
theorem d_of_53 : decode prog_6_method_3_code 53 = .ok (.return_, 1) := by decide +kernel
def y_of : MethodName := ⟨"SpansAway$Memory", "openFirst", "()V"⟩
set_option maxRecDepth 100000 in
set_option maxHeartbeats 400000 in
/-- openFirst: what was told first, and two spans that are on -/
theorem ct_of {l : Launch} {cA : Nat → ClassId} {D : va_G} {tb : Nat → Nat} {Lim : Nat} {ad : Nat → Nat} {σ : sm_S} {A0 : Nat → Prop} {sz : Nat} (hD0 : va_D A0 (sm_W xR ad cA σ)) (hLa : ∀ q, sm_A xR ad q → Lim ≤ q) (hs : Lim ≤ sz) : Met l y_of (cws y_of prog_6_method_3_code 2) { frames := 2, cells := 0, slots := 0, locals := 61 } (va_Pc [.ref (ad 0)] (ctB cA D tb Lim sz (sm_W xR ad cA σ))) (va_Qv (S := sm_S) (fun σ' => ∃ f : Nat → Int32, (f 0 = 4 ∧ f 1 = 3 ∧ f 2 = 150 ∧ f 3 = 2) ∧ σ' = ofX (0 + 1) (ofX 0 (sm_set σ 39 f))) (fun σ' t => va_P D vwCl (sm_W xR ad cA σ') t.heap ∧ va_D (va_A (sm_W xR ad cA σ) sz) (sm_W xR ad cA σ')) (va_A (sm_W xR ad cA σ) sz)) 0 0 (va_A (sm_W xR ad cA σ) sz) := by
  refine Met.ofW (cc := prog_6_method_3_code) (maxL := 2) (ret := none) (by decide) rfl ?_
  intro p e s m args below meth c s₁ B hml hv
  obtain ⟨rfl, rfl, hP, hK, hZ, hN⟩ := hv
  have hl := lv_entry ([.ref (ad 0)]) (n := 2) (Nat.le_of_ble_eq_true rfl)
  rw [lg_entry_eq]
  generalize (lg_sl ([.ref (ad 0)]) ++ List.replicate (2 - (lg_sl ([.ref (ad 0)])).length) Slot.unset).toArray = L at hl ⊢
  have hl : lv_has L 2 [(0, .ref (ad 0))] := hl
  have hD : va_D (va_A (sm_W xR ad cA σ) s.heap.size) (sm_W xR ad cA σ) := hD0.self
  have X : CX p s m #[.ref (ad 0)] c (cws y_of prog_6_method_3_code 2) "SpansAway$Memory" prog_6_method_3_code 2 D cA tb Lim (va_A (sm_W xR ad cA σ) s.heap.size) := ⟨B.exec, B.bytes, hml, findClass_of_methodNamed B.named, atoms_spec (ws := cws y_of prog_6_method_3_code 2) B.pre, cws_has, hK, hZ, fun q h => Or.inr h, sm_A_of hD0 hLa hs⟩
  have hZF : va_Z "SpansAway" "FIRST_TOLD" "[I" (.ref (tb 1003)) (va_A (sm_W xR ad cA σ) s.heap.size) s s.heap := hZ.2.1.narrow X.hL
  have hS : va_S (va_A (sm_W xR ad cA σ) s.heap.size) s.heap s.heap [] := va_S.rf
  have hr := B.returns
  have hlocks := B.notSynchronized
  generalize va_A (sm_W xR ad cA σ) s.heap.size = A at X hZF hS hD ⊢
  have hm : ∀ τ : sm_S, (sm_W xR ad cA τ)[0]? = some (ad 0, .inr (4, [.ref (ad 1), .ref (ad 8), .ref (ad 17), .ref (ad 26), .ref (ad 34), .ref (ad 39), .ref (ad 40), .int (τ 0 7)])) := fun τ => sm_W_at (SH := xR) (s := .inr (4, [.inr 1, .inr 8, .inr 17, .inr 26, .inr 34, .inr 39, .inr 40, .inl 0])) rfl
  have hs0 := hs
  have hs : ∀ τ : sm_S, (sm_W xR ad cA τ)[17]? = some (ad 17, .inr (5, [.ref (ad 18), .ref (ad 19), .ref (ad 20), .ref (ad 21), .ref (ad 22), .ref (ad 23), .ref (ad 24), .ref (ad 25)])) := fun τ => sm_W_at (SH := xR) (s := .inr (5, [.inr 18, .inr 19, .inr 20, .inr 21, .inr 22, .inr 23, .inr 24, .inr 25])) rfl
  have hf : ∀ τ : sm_S, (sm_W xR ad cA τ)[1]? = some (ad 1, .inr (1, [.ref (ad 2), .ref (ad 3), .ref (ad 4), .ref (ad 5), .ref (ad 6), .ref (ad 7)])) := fun τ => sm_W_at (SH := xR) (s := .inr (1, [.inr 2, .inr 3, .inr 4, .inr 5, .inr 6, .inr 7])) rfl
  have body : ∀ (x : Int32) (τ : sm_S) (H : Heap) (locs : List Loc) (L : Array Slot), vp_in x 8 → lv_has L 2 [(1, .int x), (0, .ref (ad 0))] → va_P D vwCl (sm_W xR ad cA τ) H → va_D A (sm_W xR ad cA τ) → va_S A s.heap H locs →
      (∀ (τ' : sm_S) (H : Heap) (locs : List Loc) (L : Array Slot), τ' = ofX x τ → lv_has L 2 [(1, .int (x + 1)), (0, .ref (ad 0))] → va_P D vwCl (sm_W xR ad cA τ') H → va_D A (sm_W xR ad cA τ') → va_S A s.heap H locs → W p l e { frames := 2, cells := 0, slots := 0, locals := 61 } s m #[.ref (ad 0)] below meth c H locs 0 0 (MQ below (va_Qv (S := sm_S) (fun σ' => ∃ f : Nat → Int32, (f 0 = 4 ∧ f 1 = 3 ∧ f 2 = 150 ∧ f 3 = 2) ∧ σ' = ofX (0 + 1) (ofX 0 (sm_set σ 39 f))) (fun σ' t => va_P D vwCl (sm_W xR ad cA σ') t.heap ∧ va_D A (sm_W xR ad cA σ')) A) #[.ref (ad 0)] s 0 0 A) (F0 m 12 L [])) →
      W p l e { frames := 2, cells := 0, slots := 0, locals := 61 } s m #[.ref (ad 0)] below meth c H locs 0 0 (MQ below (va_Qv (S := sm_S) (fun σ' => ∃ f : Nat → Int32, (f 0 = 4 ∧ f 1 = 3 ∧ f 2 = 150 ∧ f 3 = 2) ∧ σ' = ofX (0 + 1) (ofX 0 (sm_set σ 39 f))) (fun σ' t => va_P D vwCl (sm_W xR ad cA σ') t.heap ∧ va_D A (sm_W xR ad cA σ')) A) #[.ref (ad 0)] s 0 0 A) (F0 m 17 L []) := by
    intro x τ H locs L hx hl hP hD hS kk
    refine lv_aload_n X.hx X.hb d_of_17 rfl (lv_at hl 1 rfl) ?_
    refine R_gf X hP 0 (hm _) (cT := (RX4, TX4, 8)) rfl 2 (Nat.le_of_ble_eq_true rfl) (v := .ref (ad 17)) rfl (ctW_ok (i := 99) rfl) d_of_18 ?_
    refine R_gf X hP 17 (hs _) (cT := (RX6, TX6, 8)) rfl 0 (Nat.le_of_ble_eq_true rfl) (v := .ref (ad 18)) rfl (ctW_ok (i := 144) rfl) d_of_21 ?_
    refine lv_iload_n X.hx X.hb d_of_24 rfl (lv_at hl 0 rfl) ?_
    refine lv_iconst (v := 1) X.hx X.hb d_of_25 (by decide) ?_
    refine va_iast X.hx X.hb X.hK hP hD hS 18 0 (sm_W_at (s := .inl (0, 8)) rfl) rfl hx d_of_26 (fun H locs hP hD hS => ?_)
    rw [sm_W_set (SH := xR) (ad := ad) (cA := cA) (σ := τ) (k := 18) (s := .inl (0, 8)) (f := upd (τ 18) x.toNatClampNeg 1) (e := .inl (cA 0, 8, .inl (upd (τ 18) x.toNatClampNeg 1))) rfl rfl] at hP hD
    refine lv_aload_n X.hx X.hb d_of_27 rfl (lv_at hl 1 rfl) ?_
    refine R_gf X hP 0 (hm _) (cT := (RX4, TX4, 8)) rfl 2 (Nat.le_of_ble_eq_true rfl) (v := .ref (ad 17)) rfl (ctW_ok (i := 99) rfl) d_of_28 ?_
    refine R_gf X hP 17 (hs _) (cT := (RX6, TX6, 8)) rfl 1 (Nat.le_of_ble_eq_true rfl) (v := .ref (ad 19)) rfl (ctW_ok (i := 145) rfl) d_of_31 ?_
    refine lv_iload_n X.hx X.hb d_of_34 rfl (lv_at hl 0 rfl) ?_
    refine lv_iconst (v := 0) X.hx X.hb d_of_35 (by decide) ?_
    refine va_iast X.hx X.hb X.hK hP hD hS 19 0 (sm_W_at (s := .inl (0, 8)) rfl) rfl hx d_of_36 (fun H locs hP hD hS => ?_)
    rw [sm_W_set (SH := xR) (ad := ad) (cA := cA) (σ := (sm_set τ 18 (upd (τ 18) x.toNatClampNeg 1))) (k := 19) (s := .inl (0, 8)) (f := upd ((sm_set τ 18 (upd (τ 18) x.toNatClampNeg 1)) 19) x.toNatClampNeg 0) (e := .inl (cA 0, 8, .inl (upd ((sm_set τ 18 (upd (τ 18) x.toNatClampNeg 1)) 19) x.toNatClampNeg 0))) rfl rfl] at hP hD
    refine lv_aload_n X.hx X.hb d_of_37 rfl (lv_at hl 1 rfl) ?_
    refine R_gf X hP 0 (hm _) (cT := (RX4, TX4, 8)) rfl 0 (Nat.le_of_ble_eq_true rfl) (v := .ref (ad 1)) rfl (ctW_ok (i := 93) rfl) d_of_38 ?_
    refine R_gf X hP 1 (hf _) (cT := (RX1, TX1, 6)) rfl 0 (Nat.le_of_ble_eq_true rfl) (v := .ref (ad 2)) rfl (ctW_ok (i := 146) rfl) d_of_41 ?_
    refine lv_iload_n X.hx X.hb d_of_44 rfl (lv_at hl 0 rfl) ?_
    refine lv_iconst (v := -1) X.hx X.hb d_of_45 (by decide) ?_
    refine va_iast X.hx X.hb X.hK hP hD hS 2 0 (sm_W_at (s := .inl (0, 8)) rfl) rfl hx d_of_46 (fun H locs hP hD hS => ?_)
    rw [sm_W_set (SH := xR) (ad := ad) (cA := cA) (σ := (sm_set (sm_set τ 18 (upd (τ 18) x.toNatClampNeg 1)) 19 (upd ((sm_set τ 18 (upd (τ 18) x.toNatClampNeg 1)) 19) x.toNatClampNeg 0))) (k := 2) (s := .inl (0, 8)) (f := upd ((sm_set (sm_set τ 18 (upd (τ 18) x.toNatClampNeg 1)) 19 (upd ((sm_set τ 18 (upd (τ 18) x.toNatClampNeg 1)) 19) x.toNatClampNeg 0)) 2) x.toNatClampNeg (-1)) (e := .inl (cA 0, 8, .inl (upd ((sm_set (sm_set τ 18 (upd (τ 18) x.toNatClampNeg 1)) 19 (upd ((sm_set τ 18 (upd (τ 18) x.toNatClampNeg 1)) 19) x.toNatClampNeg 0)) 2) x.toNatClampNeg (-1)))) rfl rfl] at hP hD
    refine lv_iinc (v := x + 1) (lv' := [(1, .int (x + 1)), (0, .ref (ad 0))]) X.hx X.hb d_of_47 hl (k := 0) rfl rfl (by decide) rfl (fun L hl => ?_)
    refine lv_goto (tgt := 12) X.hx X.hb d_of_50 (by decide) ?_
    exact kk _ H locs L rfl hl hP hD hS
  refine va_getsN X.hx X.hb hZF hS X.hown (va_Nw.use rfl hN.2) (fun _ h => h) d_of_0 ?_
  refine lv_aload_n X.hx X.hb d_of_3 rfl (lv_at hl 0 rfl) ?_
  refine R_gf X hP 0 (hm _) (cT := (RX4, TX4, 8)) rfl 5 (Nat.le_of_ble_eq_true rfl) (v := .ref (ad 39)) rfl (ctW_ok (i := 105) rfl) d_of_4 ?_
  have hFc : ∀ q, va_A (sm_W xR ad cA σ) s.heap.size q → A q := by
    rintro q (⟨i, e, h⟩ | h)
    · exact hD.2 i (q, e) h
    · exact X.hA q h
  have hG : GoodIn (cws y_of prog_6_method_3_code 2) (va_wsS "SpansAway$Memory" 70 y_cp (cws y_cp prog_7_method_8_code 2)) := by
    intro w hw
    unfold va_wsS at hw
    rcases List.mem_append.mp hw with hw | hw
    · simp only [List.mem_cons, List.not_mem_nil, or_false] at hw
      rcases hw with rfl | rfl | rfl
      · exact good_in X.hTs (ctW_ok (i := 147) rfl) rfl
      · exact good_in X.hTs (sm_st_ok 1 (by decide)) rfl
      · exact good_in X.hTs (sm_in_ok m_R_copy (List.mem_of_getElem? (i := 1) rfl)) rfl
    · exact good_c X.hTs (sm_cd_ok m_R_copy (List.mem_of_getElem? (i := 1) rfl)) w hw
  refine va_callv (va_runS (As := [.ref (tb 1003), .ref (ad 39)]) (rest := []) ⟨X.hx, X.hb, X.hml, X.hown, X.hts⟩ (ct_cp (SH := xR) (ad := ad) (σ := σ) (k := 39) rfl hD0 hLa hs0) (va_cwS 2 X.hts hG rfl rfl rfl (by decide +kernel) ⟨Nat.le_of_ble_eq_true rfl, Nat.le_of_ble_eq_true rfl⟩) ⟨ctB_blind, fun U hU hW => ⟨rfl, by rw [hU], by rw [hU]; exact hP, va_K.moved hW.alike X.hK, by rw [hU]; exact (X.zt hS).moved hW.alike, hN.warm hW⟩⟩ rfl rfl hl.1 rfl (lv_room (Nat.le_of_ble_eq_true rfl)) d_of_7 ⟨Nat.le_refl 0, Nat.le_refl 0⟩) hS (fun q _ h => hFc q h) hFc (fun f t H1 locs1 ht hvm hw hB hz1 hk1 hS => ?_)
  rw [ht] at hB
  have hP : va_P D vwCl (sm_W xR ad cA (sm_set σ 39 f)) H1 := hB
  have hD : va_D A (sm_W xR ad cA (sm_set σ 39 f)) := sm_DA hD
  refine lv_iconst (v := 0) X.hx X.hb d_of_10 (by decide) ?_
  refine lv_istore_n (lv' := [(1, .int 0), (0, .ref (ad 0))]) X.hx X.hb d_of_11 rfl hl (by decide) rfl (fun L hl => ?_)
  refine lv_iload_n X.hx X.hb d_of_12 rfl (lv_at hl 0 rfl) ?_
  refine lv_iconst (v := 2) X.hx X.hb d_of_13 (by decide) ?_
  refine lv_icmp_ge (tgt := 53) X.hx X.hb d_of_14 (by decide) (fun h => absurd h (by decide)) (fun _ => ?_)
  refine body 0 _ H1 _ L (t_vp (n := 0) rfl (by decide)) hl hP hD hS (fun τ1 H2 locs2 L2 h1 hl hP hD hS => ?_)
  refine lv_iload_n X.hx X.hb d_of_12 rfl (lv_at hl 0 rfl) ?_
  refine lv_iconst (v := 2) X.hx X.hb d_of_13 (by decide) ?_
  refine lv_icmp_ge (tgt := 53) X.hx X.hb d_of_14 (by decide) (fun h => absurd h (by decide)) (fun _ => ?_)
  refine body (0 + 1) _ H2 _ L2 (t_vp (n := 1) rfl (by decide)) hl hP hD hS (fun τ2 H3 locs3 L3 h2 hl hP hD hS => ?_)
  refine lv_iload_n X.hx X.hb d_of_12 rfl (lv_at hl 0 rfl) ?_
  refine lv_iconst (v := 2) X.hx X.hb d_of_13 (by decide) ?_
  refine lv_icmp_ge (tgt := 53) X.hx X.hb d_of_14 (by decide) (fun _ => ?_) (fun h => absurd (by decide) h)
  exact W.vret X.hx X.hb hr (fun t ht hW => ⟨⟨τ2, rfl, ⟨f, hw, by rw [h2, h1]⟩, (show va_P D vwCl _ t.heap by rw [ht]; exact hP), hD⟩, hS.F ht⟩) hS.2.2 d_of_53 (hlocks := hlocks)
end
section
/-! ===== the constructor of SpansAway ===== -/
def xA : List sm_Sh := [.inr (4, [.inr 1, .inr 8, .inr 17, .inr 26, .inr 34, .inr 39, .inr 40, .inl 0]), .inr (1, [.inr 2, .inr 3, .inr 4, .inr 5, .inr 6, .inr 7]), .inl (0, 8), .inl (0, 8), .inl (0, 8), .inl (0, 8), .inl (0, 256), .inl (0, 256), .inr (0, [.inr 9, .inr 10, .inr 11, .inr 12, .inr 13, .inr 14, .inr 15, .inr 16, .inl 0]), .inl (0, 96), .inl (0, 96), .inl (0, 96), .inl (0, 96), .inl (0, 96), .inl (0, 96), .inl (0, 96), .inl (0, 96), .inr (5, [.inr 18, .inr 19, .inr 20, .inr 21, .inr 22, .inr 23, .inr 24, .inr 25]), .inl (0, 8), .inl (0, 8), .inl (0, 8), .inl (0, 8), .inl (0, 8), .inl (0, 8), .inl (0, 8), .inl (0, 8), .inr (6, [.inr 27, .inr 28, .inr 29, .inr 30, .inr 31, .inr 32, .inr 33, .inl 0]), .inl (0, 6), .inl (0, 6), .inl (0, 6), .inl (0, 6), .inl (0, 6), .inl (0, 6), .inl (0, 6), .inr (3, [.inr 35, .inr 36, .inr 37, .inr 38, .inl 0, .inl 0]), .inl (0, 60), .inl (0, 60), .inl (0, 60), .inl (0, 60), .inl (0, 4), .inl (0, 11), .inr (2, [.inr 0, .inr 1, .inr 8, .inr 17]), .inr (8, [.inr 41, .inr 0, .inr 127, .inr 85, .inl 1]), .inr (4, [.inr 44, .inr 51, .inr 60, .inr 69, .inr 77, .inr 82, .inr 83, .inl 0]), .inr (1, [.inr 45, .inr 46, .inr 47, .inr 48, .inr 49, .inr 50]), .inl (0, 8), .inl (0, 8), .inl (0, 8), .inl (0, 8), .inl (0, 256), .inl (0, 256), .inr (0, [.inr 52, .inr 53, .inr 54, .inr 55, .inr 56, .inr 57, .inr 58, .inr 59, .inl 0]), .inl (0, 96), .inl (0, 96), .inl (0, 96), .inl (0, 96), .inl (0, 96), .inl (0, 96), .inl (0, 96), .inl (0, 96), .inr (5, [.inr 61, .inr 62, .inr 63, .inr 64, .inr 65, .inr 66, .inr 67, .inr 68]), .inl (0, 8), .inl (0, 8), .inl (0, 8), .inl (0, 8), .inl (0, 8), .inl (0, 8), .inl (0, 8), .inl (0, 8), .inr (6, [.inr 70, .inr 71, .inr 72, .inr 73, .inr 74, .inr 75, .inr 76, .inl 0]), .inl (0, 6), .inl (0, 6), .inl (0, 6), .inl (0, 6), .inl (0, 6), .inl (0, 6), .inl (0, 6), .inr (3, [.inr 78, .inr 79, .inr 80, .inr 81, .inl 0, .inl 0]), .inl (0, 60), .inl (0, 60), .inl (0, 60), .inl (0, 60), .inl (0, 4), .inl (0, 11), .inr (2, [.inr 43, .inr 44, .inr 51, .inr 60]), .inr (7, [.inr 84, .inr 43, .inr 86, .inl 0, .inl 0]), .inr (4, [.inr 87, .inr 94, .inr 103, .inr 112, .inr 120, .inr 125, .inr 126, .inl 0]), .inr (1, [.inr 88, .inr 89, .inr 90, .inr 91, .inr 92, .inr 93]), .inl (0, 8), .inl (0, 8), .inl (0, 8), .inl (0, 8), .inl (0, 256), .inl (0, 256), .inr (0, [.inr 95, .inr 96, .inr 97, .inr 98, .inr 99, .inr 100, .inr 101, .inr 102, .inl 0]), .inl (0, 96), .inl (0, 96), .inl (0, 96), .inl (0, 96), .inl (0, 96), .inl (0, 96), .inl (0, 96), .inl (0, 96), .inr (5, [.inr 104, .inr 105, .inr 106, .inr 107, .inr 108, .inr 109, .inr 110, .inr 111]), .inl (0, 8), .inl (0, 8), .inl (0, 8), .inl (0, 8), .inl (0, 8), .inl (0, 8), .inl (0, 8), .inl (0, 8), .inr (6, [.inr 113, .inr 114, .inr 115, .inr 116, .inr 117, .inr 118, .inr 119, .inl 0]), .inl (0, 6), .inl (0, 6), .inl (0, 6), .inl (0, 6), .inl (0, 6), .inl (0, 6), .inl (0, 6), .inr (3, [.inr 121, .inr 122, .inr 123, .inr 124, .inl 0, .inl 0]), .inl (0, 60), .inl (0, 60), .inl (0, 60), .inl (0, 60), .inl (0, 4), .inl (0, 11), .inr (4, [.inr 128, .inr 135, .inr 144, .inr 153, .inr 161, .inr 166, .inr 167, .inl 0]), .inr (1, [.inr 129, .inr 130, .inr 131, .inr 132, .inr 133, .inr 134]), .inl (0, 8), .inl (0, 8), .inl (0, 8), .inl (0, 8), .inl (0, 256), .inl (0, 256), .inr (0, [.inr 136, .inr 137, .inr 138, .inr 139, .inr 140, .inr 141, .inr 142, .inr 143, .inl 0]), .inl (0, 96), .inl (0, 96), .inl (0, 96), .inl (0, 96), .inl (0, 96), .inl (0, 96), .inl (0, 96), .inl (0, 96), .inr (5, [.inr 145, .inr 146, .inr 147, .inr 148, .inr 149, .inr 150, .inr 151, .inr 152]), .inl (0, 8), .inl (0, 8), .inl (0, 8), .inl (0, 8), .inl (0, 8), .inl (0, 8), .inl (0, 8), .inl (0, 8), .inr (6, [.inr 154, .inr 155, .inr 156, .inr 157, .inr 158, .inr 159, .inr 160, .inl 0]), .inl (0, 6), .inl (0, 6), .inl (0, 6), .inl (0, 6), .inl (0, 6), .inl (0, 6), .inl (0, 6), .inr (3, [.inr 162, .inr 163, .inr 164, .inr 165, .inl 0, .inl 0]), .inl (0, 60), .inl (0, 60), .inl (0, 60), .inl (0, 60), .inl (0, 4), .inl (0, 11)]
theorem va_P_r {D : va_G} {cl : List vw_C} {a b : va_W} {H : Heap} (h : va_P D cl (a ++ b) H) : va_P D cl b H := fun k q hk => h (a.length + k) q (by rw [List.getElem?_append_right (by omega), Nat.add_sub_cancel_left]; exact hk)
theorem va_D_r {A : Nat → Prop} {a b : va_W} (h : va_D A (a ++ b)) : va_D A b := by
  rw [va_D_iff] at h ⊢
  exact ⟨(List.pairwise_append.mp h.1).2.1, fun q hq => h.2 q (List.mem_append_right _ hq)⟩
theorem sm_W_D {ad : Nat → Nat} {cA : Nat → ClassId} {σ : sm_S} : sm_W xD ad cA σ = sm_W xR ad cA σ ++ [(ad 41, .inr (2, [.ref (ad 0), .ref (ad 1), .ref (ad 8), .ref (ad 17)]))] := by
  unfold sm_W
  rw [show xD = xR ++ [.inr (2, [.inr 0, .inr 1, .inr 8, .inr 17])] from rfl, List.mapIdx_append]
  rfl
theorem pm1 {o g : Nat × va_E} {M K T : va_W} : List.Perm (o :: (M ++ [g] ++ K ++ T)) ((o :: g :: (K ++ T)) ++ M) := by
  rw [List.append_assoc, List.append_assoc, List.cons_append]
  exact List.Perm.cons _ List.perm_append_comm
theorem pm2 {o g : Nat × va_E} {M K T : va_W} : List.Perm ((o :: g :: (K ++ T)) ++ M) (M ++ [g] ++ ([o] ++ (T ++ K))) := by
  rw [List.append_assoc]
  exact List.perm_append_comm.trans (List.Perm.append_left _ ((List.Perm.swap _ _ _).trans (List.Perm.cons _ (List.Perm.cons _ List.perm_append_comm))))
theorem kk_ini {τ : sm_S} (h1 : ∀ i, i < 256 → τ 6 i = -1) (h2 : ∀ b, b < 96 → τ 9 b = -1 ∧ τ 14 b = -1 ∧ τ 15 b = 0) (h3 : ∀ s, s < 8 → τ 20 s = 0 ∧ τ 23 s = 0 ∧ τ 24 s = -1) (h4 : τ 26 7 = 0) (h5 : ∀ t, t < 6 → τ 28 t = -1) (h6 : τ 34 5 = 0) (h7 : τ 39 0 = 4) : kk τ := by
  refine ⟨fun b hb => Or.inl (h2 b hb), fun s hs => ⟨0, 0, ?_, by omega, fun _ => by omega, ?_, by omega, Or.inl (h3 s hs).2.2⟩, ⟨0, ?_, by omega, fun k hk => absurd hk (by omega), fun t ht => Or.inl (h5 t ht)⟩, fun f hf => ⟨0, by omega, ?_⟩, ⟨0, by omega, ?_⟩, ?_⟩
  · rw [(h3 s hs).1]; rfl
  · rw [(h3 s hs).2.1]; rfl
  · rw [h4]; rfl
  · rw [h1 f hf]; rfl
  · rw [h6]; rfl
  · rw [h7]; decide
theorem d_SA_0 : decode prog_1_method_1_code 0 = .ok (.aload_n 0, 1) := by decide +kernel
theorem d_SA_1 : decode prog_1_method_1_code 1 = .ok (.invokespecial 3, 3) := by decide +kernel
theorem d_SA_4 : decode prog_1_method_1_code 4 = .ok (.aload_n 0, 1) := by decide +kernel
theorem d_SA_5 : decode prog_1_method_1_code 5 = .ok (.new 9, 3) := by decide +kernel
theorem d_SA_8 : decode prog_1_method_1_code 8 = .ok (.dup, 1) := by decide +kernel
theorem d_SA_9 : decode prog_1_method_1_code 9 = .ok (.invokespecial 11, 3) := by decide +kernel
theorem d_SA_12 : decode prog_1_method_1_code 12 = .ok (.putfield 12, 3) := by decide +kernel
theorem d_SA_15 : decode prog_1_method_1_code 15 = .ok (.aload_n 0, 1) := by decide +kernel
theorem d_SA_16 : decode prog_1_method_1_code 16 = .ok (.aload_n 0, 1) := by decide +kernel
theorem d_SA_17 : decode prog_1_method_1_code 17 = .ok (.getfield 12, 3) := by decide +kernel
theorem d_SA_20 : decode prog_1_method_1_code 20 = .ok (.getfield 16, 3) := by decide +kernel
theorem d_SA_23 : decode prog_1_method_1_code 23 = .ok (.putfield 20, 3) := by decide +kernel
theorem d_SA_26 : decode prog_1_method_1_code 26 = .ok (.aload_n 0, 1) := by decide +kernel
theorem d_SA_27 : decode prog_1_method_1_code 27 = .ok (.new 23, 3) := by decide +kernel
theorem d_SA_30 : decode prog_1_method_1_code 30 = .ok (.dup, 1) := by decide +kernel
theorem d_SA_31 : decode prog_1_method_1_code 31 = .ok (.invokespecial 25, 3) := by decide +kernel
theorem d_SA_34 : decode prog_1_method_1_code 34 = .ok (.putfield 26, 3) := by decide +kernel
theorem d_SA_37 : decode prog_1_method_1_code 37 = .ok (.aload_n 0, 1) := by decide +kernel
theorem d_SA_38 : decode prog_1_method_1_code 38 = .ok (.new 29, 3) := by decide +kernel
theorem d_SA_41 : decode prog_1_method_1_code 41 = .ok (.dup, 1) := by decide +kernel
theorem d_SA_42 : decode prog_1_method_1_code 42 = .ok (.invokespecial 31, 3) := by decide +kernel
theorem d_SA_45 : decode prog_1_method_1_code 45 = .ok (.putfield 32, 3) := by decide +kernel
theorem d_SA_48 : decode prog_1_method_1_code 48 = .ok (.aload_n 0, 1) := by decide +kernel
theorem d_SA_49 : decode prog_1_method_1_code 49 = .ok (.iconst 0, 1) := by decide +kernel
theorem d_SA_50 : decode prog_1_method_1_code 50 = .ok (.putfield 36, 3) := by decide +kernel
theorem d_SA_53 : decode prog_1_method_1_code 53 = .ok (.aload_n 0, 1) := by decide +kernel
theorem d_SA_54 : decode prog_1_method_1_code 54 = .ok (.getfield 20, 3) := by decide +kernel
theorem d_SA_57 : decode prog_1_method_1_code 57 = .ok (.invokevirtual 40, 3) := by decide +kernel
theorem d_SA_60 : decode prog_1_method_1_code 60 = .ok (.return_, 1) := by decide +kernel
set_option maxRecDepth 100000 in
set_option maxHeartbeats 400000 in
theorem W_SA {AD : Nat → Nat} {cA : Nat → ClassId} {h0 : Nat} {a1 a2 a3 : Nat → Nat} {σ1 σ2 σ3 : sm_S} (e0 : ∀ k, k < 42 → AD (0 + k) = a1 k) (e1 : AD 42 = h0) (e2 : ∀ k, k < 84 → AD (43 + k) = a3 k) (e3 : ∀ k, k < 41 → AD (127 + k) = a2 k) : wlk AD xA (glu 42 a1 (glu 1 (fun _ => h0) (glu 84 a3 a2))) cA (glu 42 σ1 (glu 1 (fun _ _ => 0) (glu 84 σ3 σ2))) = sm_W xD a1 cA σ1 ++ (([(h0, .inr (8, [.ref (a1 41), .ref (a1 0), .ref (a2 0), .ref (a3 42), .int 0]))] : va_W) ++ (sm_W xTh a3 cA σ3 ++ (sm_W xR a2 cA σ2))) := (wlk_app2 (SH := xA) (P := xD.map (shf 0)) (S := xA.drop 42) (by decide +kernel) rfl (wlk_shf (n := 42) (by decide +kernel) e0) (wlk_app2 (SH := xA.drop 42) (P := (xA.drop 42).take 1) (S := xA.drop 43) (by decide +kernel) rfl (by show ([(h0, .inr (8, [.ref (AD 41), .ref (AD 0), .ref (AD 127), .ref (AD 85), .int 0]))] : va_W) = [(h0, .inr (8, [.ref (a1 41), .ref (a1 0), .ref (a2 0), .ref (a3 42), .int 0]))]; rw [(show AD 41 = a1 41 from e0 41 (by decide)), (show AD 0 = a1 0 from e0 0 (by decide)), (show AD 127 = a2 0 from e3 0 (by decide)), (show AD 85 = a3 42 from e2 42 (by decide))]) (wlk_app2 (SH := xA.drop 43) (P := xTh.map (shf 43)) (S := xA.drop 127) (by decide +kernel) rfl (wlk_shf (n := 84) (by decide +kernel) e2) ((congrArg (fun z => wlk AD z a2 cA σ2) (show xA.drop 127 = xR.map (shf 127) from by decide +kernel)).trans (wlk_shf (n := 41) (by decide +kernel) e3)))))
def I_SA (σ : sm_S) : Prop := WW σ ∧ σ 42 4 = 0 ∧ ini σ
set_option maxRecDepth 100000 in
set_option maxHeartbeats 400000 in
theorem ct_SA {l : Launch} {cA : Nat → ClassId} {D : va_G} {tb : Nat → Nat} {Lim : Nat} : Ctor l cA D tb Lim ⟨"SpansAway", "<init>", "()V"⟩ prog_1_method_1_code 5 103 167 6885 8 [.null, .null, .null, .null, .int 0] xA 42 I_SA := by
  refine Ctor.ofW (by decide) rfl ?_
  intro h0 p e s m args below meth c A L X hN hin hr hlocks hl hP hD hS
  refine lv_aload_n X.hx X.hb d_SA_0 rfl (lv_at hl 0 rfl) ?_
  refine R_obj X hl.1 (ctW_ok (i := 126) rfl) ⟨(Nat.le_of_ble_eq_true rfl), (Nat.le_of_ble_eq_true rfl)⟩ d_SA_1 ?_
  refine lv_aload_n X.hx X.hb d_SA_4 rfl (lv_at hl 0 rfl) ?_
  refine R_new3 X hN hP hD hS hl.1 ct_Go (cT := (RX2, TX2, 4)) rfl rfl tyX2_ok df_Go rfl (by decide +kernel) (ctW_ok (i := 127) rfl) (ctW_ok (i := 31) rfl) (ctW_ok (i := 30) rfl) (ctW_ok (i := 29) rfl) (ctW_ok (i := 28) rfl) (Or.inr (List.mem_of_getElem? (i := 4) rfl)) ⟨(Nat.le_of_ble_eq_true rfl), (Nat.le_of_ble_eq_true rfl)⟩ (Nat.le_of_ble_eq_true rfl) (Nat.le_of_ble_eq_true rfl) (Nat.le_of_ble_eq_true rfl) d_SA_5 d_SA_8 d_SA_9 (fun a1 σ1 H locs i1 hP hD hS => ?_)
  have hP : va_P D vwCl ((h0, .inr (8, [.null, .null, .null, .null, .int 0])) :: (sm_W xD a1 cA σ1)) H := hP
  have hD : va_D A ((h0, .inr (8, [.null, .null, .null, .null, .int 0])) :: (sm_W xD a1 cA σ1)) := hD
  refine R_pf X hin hP hD hS (cT := (RX9, TX9, 5)) rfl 0 (Nat.le_of_ble_eq_true rfl) (Nat.le_of_ble_eq_true rfl) rfl rfl (ty := .object "SpansAway$Going") (by decide +kernel) rfl rfl (ctW_ok (i := 128) rfl) d_SA_12 (fun H locs hP hD hS => ?_)
  have hP : va_P D vwCl ((h0, .inr (8, [.ref (a1 41), .null, .null, .null, .int 0])) :: (sm_W xD a1 cA σ1)) H := hP
  have hD : va_D A ((h0, .inr (8, [.ref (a1 41), .null, .null, .null, .int 0])) :: (sm_W xD a1 cA σ1)) := hD
  have hg : ∀ x : Nat × va_E, (x :: sm_W xD a1 cA σ1)[42]? = some (a1 41, .inr (2, [.ref (a1 0), .ref (a1 1), .ref (a1 8), .ref (a1 17)])) := fun x => at_cons (i := 41) <| sm_W_at (SH := xD) (s := .inr (2, [.inr 0, .inr 1, .inr 8, .inr 17])) rfl
  refine lv_aload_n X.hx X.hb d_SA_15 rfl (lv_at hl 0 rfl) ?_
  refine lv_aload_n X.hx X.hb d_SA_16 rfl (lv_at hl 0 rfl) ?_
  refine R_gf X hP 0 rfl (cT := (RX9, TX9, 5)) rfl 0 (Nat.le_of_ble_eq_true rfl) (v := .ref (a1 41)) rfl (ctW_ok (i := 128) rfl) d_SA_17 ?_
  refine R_gf X hP 42 (hg _) (cT := (RX2, TX2, 4)) rfl 0 (Nat.le_of_ble_eq_true rfl) (v := .ref (a1 0)) rfl (ctW_ok (i := 129) rfl) d_SA_20 ?_
  refine R_pf X hin hP hD hS (cT := (RX9, TX9, 5)) rfl 1 (Nat.le_of_ble_eq_true rfl) (Nat.le_of_ble_eq_true rfl) rfl rfl (ty := .object "SpansAway$Memory") (by decide +kernel) rfl rfl (ctW_ok (i := 130) rfl) d_SA_23 (fun H locs hP hD hS => ?_)
  have hP : va_P D vwCl ((h0, .inr (8, [.ref (a1 41), .ref (a1 0), .null, .null, .int 0])) :: (sm_W xD a1 cA σ1)) H := hP
  have hD : va_D A ((h0, .inr (8, [.ref (a1 41), .ref (a1 0), .null, .null, .int 0])) :: (sm_W xD a1 cA σ1)) := hD
  refine lv_aload_n X.hx X.hb d_SA_26 rfl (lv_at hl 0 rfl) ?_
  refine R_new3 X hN hP hD hS hl.1 ct_Me (cT := (RX4, TX4, 8)) rfl rfl tyX4_ok df_Me rfl (by decide +kernel) (ctW_ok (i := 131) rfl) (ctW_ok (i := 27) rfl) (ctW_ok (i := 26) rfl) (ctW_ok (i := 25) rfl) (ctW_ok (i := 24) rfl) (Or.inr (List.mem_of_getElem? (i := 5) rfl)) ⟨(Nat.le_of_ble_eq_true rfl), (Nat.le_of_ble_eq_true rfl)⟩ (Nat.le_of_ble_eq_true rfl) (Nat.le_of_ble_eq_true rfl) (Nat.le_of_ble_eq_true rfl) d_SA_27 d_SA_30 d_SA_31 (fun a2 σ2 H locs i2 hP hD hS => ?_)
  have hP : va_P D vwCl ((h0, .inr (8, [.ref (a1 41), .ref (a1 0), .null, .null, .int 0])) :: (sm_W xD a1 cA σ1 ++ sm_W xR a2 cA σ2)) H := hP
  have hD : va_D A ((h0, .inr (8, [.ref (a1 41), .ref (a1 0), .null, .null, .int 0])) :: (sm_W xD a1 cA σ1 ++ sm_W xR a2 cA σ2)) := hD
  refine R_pf X hin hP hD hS (cT := (RX9, TX9, 5)) rfl 2 (Nat.le_of_ble_eq_true rfl) (Nat.le_of_ble_eq_true rfl) rfl rfl (ty := .object "SpansAway$Memory") (by decide +kernel) rfl rfl (ctW_ok (i := 132) rfl) d_SA_34 (fun H locs hP hD hS => ?_)
  have hP : va_P D vwCl ((h0, .inr (8, [.ref (a1 41), .ref (a1 0), .ref (a2 0), .null, .int 0])) :: (sm_W xD a1 cA σ1 ++ sm_W xR a2 cA σ2)) H := hP
  have hD : va_D A ((h0, .inr (8, [.ref (a1 41), .ref (a1 0), .ref (a2 0), .null, .int 0])) :: (sm_W xD a1 cA σ1 ++ sm_W xR a2 cA σ2)) := hD
  refine lv_aload_n X.hx X.hb d_SA_37 rfl (lv_at hl 0 rfl) ?_
  refine R_new3 X hN hP hD hS hl.1 ct_Th (cT := (RX8, TX8, 5)) rfl rfl tyX8_ok df_Th rfl (by decide +kernel) (ctW_ok (i := 133) rfl) (ctW_ok (i := 35) rfl) (ctW_ok (i := 34) rfl) (ctW_ok (i := 33) rfl) (ctW_ok (i := 32) rfl) (Or.inr (List.mem_of_getElem? (i := 6) rfl)) ⟨(Nat.le_of_ble_eq_true rfl), (Nat.le_of_ble_eq_true rfl)⟩ (Nat.le_of_ble_eq_true rfl) (Nat.le_of_ble_eq_true rfl) (Nat.le_of_ble_eq_true rfl) d_SA_38 d_SA_41 d_SA_42 (fun a3 σ3 H locs i3 hP hD hS => ?_)
  have hP : va_P D vwCl ((h0, .inr (8, [.ref (a1 41), .ref (a1 0), .ref (a2 0), .null, .int 0])) :: (sm_W xD a1 cA σ1 ++ sm_W xR a2 cA σ2 ++ sm_W xTh a3 cA σ3)) H := hP
  have hD : va_D A ((h0, .inr (8, [.ref (a1 41), .ref (a1 0), .ref (a2 0), .null, .int 0])) :: (sm_W xD a1 cA σ1 ++ sm_W xR a2 cA σ2 ++ sm_W xTh a3 cA σ3)) := hD
  refine R_pf X hin hP hD hS (cT := (RX9, TX9, 5)) rfl 3 (Nat.le_of_ble_eq_true rfl) (Nat.le_of_ble_eq_true rfl) rfl rfl (ty := .object "SpansAway$Thought") (by decide +kernel) rfl rfl (ctW_ok (i := 134) rfl) d_SA_45 (fun H locs hP hD hS => ?_)
  have hP : va_P D vwCl ((h0, .inr (8, [.ref (a1 41), .ref (a1 0), .ref (a2 0), .ref (a3 42), .int 0])) :: (sm_W xD a1 cA σ1 ++ sm_W xR a2 cA σ2 ++ sm_W xTh a3 cA σ3)) H := hP
  have hD : va_D A ((h0, .inr (8, [.ref (a1 41), .ref (a1 0), .ref (a2 0), .ref (a3 42), .int 0])) :: (sm_W xD a1 cA σ1 ++ sm_W xR a2 cA σ2 ++ sm_W xTh a3 cA σ3)) := hD
  refine lv_aload_n X.hx X.hb d_SA_48 rfl (lv_at hl 0 rfl) ?_
  refine lv_iconst (v := 0) X.hx X.hb d_SA_49 (by decide) ?_
  refine R_pi X hP hD hS (cT := (RX9, TX9, 5)) rfl 4 (Nat.le_of_ble_eq_true rfl) (Nat.le_of_ble_eq_true rfl) rfl (ty := .boolean) (by decide +kernel) rfl rfl (ctW_ok (i := 135) rfl) d_SA_50 (fun H locs hP hD hS => ?_)
  have hP : va_P D vwCl ((h0, .inr (8, [.ref (a1 41), .ref (a1 0), .ref (a2 0), .ref (a3 42), .int 0])) :: (sm_W xD a1 cA σ1 ++ sm_W xR a2 cA σ2 ++ sm_W xTh a3 cA σ3)) H := hP
  have hD : va_D A ((h0, .inr (8, [.ref (a1 41), .ref (a1 0), .ref (a2 0), .ref (a3 42), .int 0])) :: (sm_W xD a1 cA σ1 ++ sm_W xR a2 cA σ2 ++ sm_W xTh a3 cA σ3)) := hD
  refine lv_aload_n X.hx X.hb d_SA_53 rfl (lv_at hl 0 rfl) ?_
  refine R_gf X hP 0 rfl (cT := (RX9, TX9, 5)) rfl 1 (Nat.le_of_ble_eq_true rfl) (v := .ref (a1 0)) rfl (ctW_ok (i := 130) rfl) d_SA_54 ?_
  have hp1 : List.Perm ((h0, .inr (8, [.ref (a1 41), .ref (a1 0), .ref (a2 0), .ref (a3 42), .int 0])) :: (sm_W xD a1 cA σ1 ++ sm_W xR a2 cA σ2 ++ sm_W xTh a3 cA σ3) : va_W) (((h0, .inr (8, [.ref (a1 41), .ref (a1 0), .ref (a2 0), .ref (a3 42), .int 0])) :: (a1 41, .inr (2, [.ref (a1 0), .ref (a1 1), .ref (a1 8), .ref (a1 17)])) :: (sm_W xR a2 cA σ2 ++ sm_W xTh a3 cA σ3)) ++ sm_W xR a1 cA σ1) := by
    rw [sm_W_D]
    exact pm1
  have hP := hP.perm hp1
  have hD := hD.perm hp1
  have hPM := va_P_r hP
  have hDM := va_D_r hD
  have hFc := free_end (wc := sm_W xR a1 cA σ1) hD hS X.hA
  have hG : GoodIn (cws ⟨"SpansAway", "<init>", "()V"⟩ prog_1_method_1_code 1) (wsV "SpansAway" 40 "SpansAway$Memory" y_of (cws y_of prog_6_method_3_code 2)) := by
    intro w hw
    unfold wsV at hw
    rcases List.mem_append.mp hw with hw | hw
    · simp only [List.mem_cons, List.not_mem_nil, or_false] at hw
      rcases hw with rfl | rfl | rfl | rfl
      · exact good_in X.hTs (ctW_ok (i := 136) rfl) rfl
      · exact good_in X.hTs (ctW_ok (i := 149) rfl) rfl
      · exact good_in X.hTs (ctW_ok (i := 150) rfl) rfl
      · exact good_in X.hTs (ctW_ok (i := 26) rfl) rfl
    · exact good_c X.hTs (ctW_ok (i := 148) rfl) w hw
  have hm : (sm_W xR a1 cA σ1)[0]? = some (a1 0, .inr (4, [.ref (a1 1), .ref (a1 8), .ref (a1 17), .ref (a1 26), .ref (a1 34), .ref (a1 39), .ref (a1 40), .int (σ1 0 7)])) := sm_W_at (SH := xR) (s := .inr (4, [.inr 1, .inr 8, .inr 17, .inr 26, .inr 34, .inr 39, .inr 40, .inl 0])) rfl
  refine va_callv (va_runV (As := []) (rest := []) ⟨X.hx, X.hb, X.hml, X.hown, X.hts⟩ (ct_of (sz := H.size) hDM (fun q h => X.hL q (sm_subA hDM q h)) (Nat.le_trans (X.hL _ (X.hA _ (Nat.le_refl _))) hS.1)) (cwV 0 X.hts hG rfl rfl rfl ⟨rfl, by decide +kernel⟩ ⟨(Nat.le_of_ble_eq_true rfl), (Nat.le_of_ble_eq_true rfl)⟩) ⟨ctB_blind, va_recv X.hK hPM (ci := 4) (q := (RX4, TX4, 8)) rfl hm, fun U hU hW => ⟨rfl, by rw [hU], by rw [hU]; exact hPM, va_K.moved hW.alike X.hK, by rw [hU]; exact (X.zt hS).moved hW.alike, hN.warm hW⟩⟩ rfl rfl hl.1 rfl (lv_room (Nat.le_of_ble_eq_true rfl)) d_SA_57 ⟨(Nat.le_of_ble_eq_true rfl), (Nat.le_of_ble_eq_true rfl)⟩) hS (fun q _ h => hFc q h) hFc (fun τ t H1 locs1 ht hvm hw hB hz1 hk1 hS => ?_)
  obtain ⟨hP1, hD1⟩ := hB
  rw [ht] at hP1
  obtain ⟨hP, hD⟩ := join_end hP hD hk1 hFc hP1 hD1
  obtain ⟨f, hf, hof⟩ := hw
  refine W.widen (k := 167) (n := 6885) (Nat.le_of_ble_eq_true rfl) (Nat.le_of_ble_eq_true rfl) ?_
  have hE := W_SA (cA := cA) (AD := (glu 42 a1 (glu 1 (fun _ => h0) (glu 84 a3 a2)))) (h0 := h0) (a1 := a1) (a2 := a2) (a3 := a3) (σ1 := τ) (σ2 := σ2) (σ3 := σ3) (fun k hk => by rw [glu_l (by omega)]; exact congrArg a1 (by omega)) rfl (fun k hk => by rw [glu_s (by omega), glu_s (by omega), glu_l (by omega)]; exact congrArg a3 (by omega)) (fun k hk => by rw [glu_s (by omega), glu_s (by omega), glu_s (by omega)]; exact congrArg a2 (by omega))
  have hp2 : List.Perm (((h0, .inr (8, [.ref (a1 41), .ref (a1 0), .ref (a2 0), .ref (a3 42), .int 0])) :: (a1 41, .inr (2, [.ref (a1 0), .ref (a1 1), .ref (a1 8), .ref (a1 17)])) :: (sm_W xR a2 cA σ2 ++ sm_W xTh a3 cA σ3)) ++ sm_W xR a1 cA τ : va_W) (wlk (glu 42 a1 (glu 1 (fun _ => h0) (glu 84 a3 a2))) xA (glu 42 a1 (glu 1 (fun _ => h0) (glu 84 a3 a2))) cA (glu 42 τ (glu 1 (fun _ _ => 0) (glu 84 σ3 σ2)))) := by
    rw [hE, sm_W_D]
    exact pm2
  have n39 : ∀ k, k ≠ 2 → k ≠ 18 → k ≠ 19 → k ≠ 39 → τ k = σ1 k := fun k a b c d => (by rw [hof, ofX_o a b c, ofX_o a b c]; exact s_ne d)
  obtain ⟨j1, j2, j3, j4, j5, j6, j7⟩ := i1
  have hkk : kk τ := by
    refine kk_ini ?_ ?_ ?_ ?_ ?_ ?_ ?_
    · rw [n39 6 (by decide) (by decide) (by decide) (by decide)]; exact j1
    · rw [n39 9 (by decide) (by decide) (by decide) (by decide), n39 14 (by decide) (by decide) (by decide) (by decide), n39 15 (by decide) (by decide) (by decide) (by decide)]; exact j2
    · rw [n39 20 (by decide) (by decide) (by decide) (by decide), n39 23 (by decide) (by decide) (by decide) (by decide), n39 24 (by decide) (by decide) (by decide) (by decide)]; exact fun s hs => (j3 s hs).2
    · rw [n39 26 (by decide) (by decide) (by decide) (by decide)]; exact j4.1
    · rw [n39 28 (by decide) (by decide) (by decide) (by decide)]; exact j4.2
    · rw [n39 34 (by decide) (by decide) (by decide) (by decide)]; exact j5
    · rw [hof, ofX_o (by decide) (by decide) (by decide), ofX_o (by decide) (by decide) (by decide), s_at]; exact hf.1
  have hWW : WW (glu 42 τ (glu 1 (fun _ _ => 0) (glu 84 σ3 σ2))) := ⟨kk_of (fun k hk => glu_l (by omega)) hkk, ⟨0, by omega, by show (σ3 34 5).toInt = _; rw [i3.1]; rfl⟩, ⟨0, by omega, by show (σ3 77 5).toInt = _; rw [i3.2]; rfl⟩, Or.inl rfl, fun h => absurd rfl h⟩
  exact R_ret X hr hlocks (SH := xA) (ad := (glu 42 a1 (glu 1 (fun _ => h0) (glu 84 a3 a2)))) (σ := (glu 42 τ (glu 1 (fun _ _ => 0) (glu 84 σ3 σ2)))) (hP.perm hp2) (hD.perm hp2) hS rfl ⟨hWW, rfl, (ini_of j1 j2 j3 j4 j5 j7 hf hof).cg (fun k hk => glu_l (by omega))⟩ d_SA_60
theorem df_SA : ∀ j, j < 5 → defaultValue (tyX9 j) = vp_V [.null, .null, .null, .null, .int 0] j := by
  intro j hj
  match j, hj with
  | 0, _ => rfl
  | 1, _ => rfl
  | 2, _ => rfl
  | 3, _ => rfl
  | 4, _ => rfl
  | k + 5, hj => omega
end
section
/-! ===== the constructor of the model ===== -/
def xMF : List sm_Sh := [.inr (9, [.inl 0, .inr 1, .inr 2, .inr 3, .inr 4, .inl 0, .inl 1, .inr 5]), .inl (0, 2662), .inl (0, 2662), .inl (0, 2662), .inl (1, 96), .inl (0, 2662)]
theorem xMF_ok : xMF.all sm_shB = true := by decide +kernel
set_option maxRecDepth 100000 in
theorem shMM : sm_shR id xM xMF := shR_of (by decide +kernel) (fun _ _ _ _ h => h) (fun _ _ => rfl) (by decide)
def I_Mo (σ : sm_S) : Prop := lw 0 σ ∧ σ 0 6 = 0 ∧ σ 1 = stF 2 64
theorem c_beginsF (σ : sm_S) (h : ∀ i, σ 1 i = 0) (h6 : σ 0 6 = 0) : xC xMF j_M_begins [.ref 0] σ (fun r σ' => r = none ∧ I_Mo σ') := by
  have := x_up shMM (σ := σ) (c_begins2 σ h)
  refine this.mono ?_
  rintro r σ' ⟨r1, τ, rfl, ⟨rfl, rfl⟩, hs, -⟩
  have e1 : σ' 1 = stF 2 64 := by
    have := hs.1 1 (0, 2662) rfl
    rw [s_at] at this
    exact this
  have e6 : σ' 0 6 = 0 := by
    have := hs.2 0 9 _ 6 1 rfl rfl (by decide)
    rw [s_ne (by decide)] at this
    exact this.trans h6
  exact ⟨rfl, ⟨⟨0, Nat.le_refl 0, by rw [e1]; exact stF_jj⟩, fun z => absurd e6 z⟩, e6, e1⟩
theorem d_Mo_0 : decode prog_12_method_3_code 0 = .ok (.aload_n 0, 1) := by decide +kernel
theorem d_Mo_1 : decode prog_12_method_3_code 1 = .ok (.invokespecial 7, 3) := by decide +kernel
theorem d_Mo_4 : decode prog_12_method_3_code 4 = .ok (.aload_n 0, 1) := by decide +kernel
theorem d_Mo_5 : decode prog_12_method_3_code 5 = .ok (.sipush 2662, 3) := by decide +kernel
theorem d_Mo_8 : decode prog_12_method_3_code 8 = .ok (.newarray .int, 2) := by decide +kernel
theorem d_Mo_10 : decode prog_12_method_3_code 10 = .ok (.putfield 13, 3) := by decide +kernel
theorem d_Mo_13 : decode prog_12_method_3_code 13 = .ok (.aload_n 0, 1) := by decide +kernel
theorem d_Mo_14 : decode prog_12_method_3_code 14 = .ok (.sipush 2662, 3) := by decide +kernel
theorem d_Mo_17 : decode prog_12_method_3_code 17 = .ok (.newarray .int, 2) := by decide +kernel
theorem d_Mo_19 : decode prog_12_method_3_code 19 = .ok (.putfield 17, 3) := by decide +kernel
theorem d_Mo_22 : decode prog_12_method_3_code 22 = .ok (.aload_n 0, 1) := by decide +kernel
theorem d_Mo_23 : decode prog_12_method_3_code 23 = .ok (.sipush 2662, 3) := by decide +kernel
theorem d_Mo_26 : decode prog_12_method_3_code 26 = .ok (.newarray .int, 2) := by decide +kernel
theorem d_Mo_28 : decode prog_12_method_3_code 28 = .ok (.putfield 20, 3) := by decide +kernel
theorem d_Mo_31 : decode prog_12_method_3_code 31 = .ok (.aload_n 0, 1) := by decide +kernel
theorem d_Mo_32 : decode prog_12_method_3_code 32 = .ok (.bipush 96, 2) := by decide +kernel
theorem d_Mo_34 : decode prog_12_method_3_code 34 = .ok (.newarray .boolean, 2) := by decide +kernel
theorem d_Mo_36 : decode prog_12_method_3_code 36 = .ok (.putfield 23, 3) := by decide +kernel
theorem d_Mo_39 : decode prog_12_method_3_code 39 = .ok (.aload_n 0, 1) := by decide +kernel
theorem d_Mo_40 : decode prog_12_method_3_code 40 = .ok (.sipush 2662, 3) := by decide +kernel
theorem d_Mo_43 : decode prog_12_method_3_code 43 = .ok (.newarray .int, 2) := by decide +kernel
theorem d_Mo_45 : decode prog_12_method_3_code 45 = .ok (.putfield 27, 3) := by decide +kernel
theorem d_Mo_48 : decode prog_12_method_3_code 48 = .ok (.aload_n 0, 1) := by decide +kernel
theorem d_Mo_49 : decode prog_12_method_3_code 49 = .ok (.invokevirtual 30, 3) := by decide +kernel
theorem d_Mo_52 : decode prog_12_method_3_code 52 = .ok (.return_, 1) := by decide +kernel
set_option maxRecDepth 100000 in
set_option maxHeartbeats 400000 in
theorem ct_Mo {l : Launch} {cA : Nat → ClassId} {D : va_G} {tb : Nat → Nat} {Lim : Nat} : Ctor l cA D tb Lim ⟨"SpansAwayModel", "<init>", "()V"⟩ prog_12_method_3_code 2 43 5 10744 9 [.int 0, .null, .null, .null, .null, .int 0, .int 0, .null] xMF 0 I_Mo := by
  refine Ctor.ofW (by decide) rfl ?_
  intro h0 p e s m args below meth c A L X hN hin hr hlocks hl hP hD hS
  refine lv_aload_n X.hx X.hb d_Mo_0 rfl (lv_at hl 0 rfl) ?_
  refine R_obj X hl.1 (ctW_ok (i := 137) rfl) ⟨(Nat.le_of_ble_eq_true rfl), (Nat.le_of_ble_eq_true rfl)⟩ d_Mo_1 ?_
  refine lv_aload_n X.hx X.hb d_Mo_4 rfl (lv_at hl 0 rfl) ?_
  refine lv_sipush (v := 2662) X.hx X.hb d_Mo_5 (by decide) ?_
  refine R_np X hin hP hD hS (cT := (RX10, TX10, 8)) rfl 1 (Nat.le_of_ble_eq_true rfl) (Nat.le_of_ble_eq_true rfl) rfl rfl (by decide +kernel) (ctW_ok (i := 138) rfl) 2662 (by decide) (by decide) (by decide) (Nat.le_of_ble_eq_true rfl) (Nat.le_of_ble_eq_true rfl) d_Mo_8 d_Mo_10 (fun q1 H locs hP hD hS => ?_)
  have hP : va_P D vwCl [(h0, .inr (9, [.int 0, .ref q1, .null, .null, .null, .int 0, .int 0, .null])), (q1, .inl (cA 0, 2662, .inl (fun _ => 0)))] H := hP
  have hD : va_D A [(h0, .inr (9, [.int 0, .ref q1, .null, .null, .null, .int 0, .int 0, .null])), (q1, .inl (cA 0, 2662, .inl (fun _ => 0)))] := hD
  refine lv_aload_n X.hx X.hb d_Mo_13 rfl (lv_at hl 0 rfl) ?_
  refine lv_sipush (v := 2662) X.hx X.hb d_Mo_14 (by decide) ?_
  refine R_np X hin hP hD hS (cT := (RX10, TX10, 8)) rfl 2 (Nat.le_of_ble_eq_true rfl) (Nat.le_of_ble_eq_true rfl) rfl rfl (by decide +kernel) (ctW_ok (i := 139) rfl) 2662 (by decide) (by decide) (by decide) (Nat.le_of_ble_eq_true rfl) (Nat.le_of_ble_eq_true rfl) d_Mo_17 d_Mo_19 (fun q2 H locs hP hD hS => ?_)
  have hP : va_P D vwCl [(h0, .inr (9, [.int 0, .ref q1, .ref q2, .null, .null, .int 0, .int 0, .null])), (q1, .inl (cA 0, 2662, .inl (fun _ => 0))), (q2, .inl (cA 0, 2662, .inl (fun _ => 0)))] H := hP
  have hD : va_D A [(h0, .inr (9, [.int 0, .ref q1, .ref q2, .null, .null, .int 0, .int 0, .null])), (q1, .inl (cA 0, 2662, .inl (fun _ => 0))), (q2, .inl (cA 0, 2662, .inl (fun _ => 0)))] := hD
  refine lv_aload_n X.hx X.hb d_Mo_22 rfl (lv_at hl 0 rfl) ?_
  refine lv_sipush (v := 2662) X.hx X.hb d_Mo_23 (by decide) ?_
  refine R_np X hin hP hD hS (cT := (RX10, TX10, 8)) rfl 3 (Nat.le_of_ble_eq_true rfl) (Nat.le_of_ble_eq_true rfl) rfl rfl (by decide +kernel) (ctW_ok (i := 140) rfl) 2662 (by decide) (by decide) (by decide) (Nat.le_of_ble_eq_true rfl) (Nat.le_of_ble_eq_true rfl) d_Mo_26 d_Mo_28 (fun q3 H locs hP hD hS => ?_)
  have hP : va_P D vwCl [(h0, .inr (9, [.int 0, .ref q1, .ref q2, .ref q3, .null, .int 0, .int 0, .null])), (q1, .inl (cA 0, 2662, .inl (fun _ => 0))), (q2, .inl (cA 0, 2662, .inl (fun _ => 0))), (q3, .inl (cA 0, 2662, .inl (fun _ => 0)))] H := hP
  have hD : va_D A [(h0, .inr (9, [.int 0, .ref q1, .ref q2, .ref q3, .null, .int 0, .int 0, .null])), (q1, .inl (cA 0, 2662, .inl (fun _ => 0))), (q2, .inl (cA 0, 2662, .inl (fun _ => 0))), (q3, .inl (cA 0, 2662, .inl (fun _ => 0)))] := hD
  refine lv_aload_n X.hx X.hb d_Mo_31 rfl (lv_at hl 0 rfl) ?_
  refine lv_bipush (v := 96) X.hx X.hb d_Mo_32 (by decide) ?_
  refine R_nb X hin hP hD hS (cT := (RX10, TX10, 8)) rfl 4 (Nat.le_of_ble_eq_true rfl) (Nat.le_of_ble_eq_true rfl) rfl rfl (by decide +kernel) (ctW_ok (i := 141) rfl) 96 (by decide) (by decide) (by decide) (Nat.le_of_ble_eq_true rfl) (Nat.le_of_ble_eq_true rfl) d_Mo_34 d_Mo_36 (fun q4 H locs hP hD hS => ?_)
  have hP : va_P D vwCl [(h0, .inr (9, [.int 0, .ref q1, .ref q2, .ref q3, .ref q4, .int 0, .int 0, .null])), (q1, .inl (cA 0, 2662, .inl (fun _ => 0))), (q2, .inl (cA 0, 2662, .inl (fun _ => 0))), (q3, .inl (cA 0, 2662, .inl (fun _ => 0))), (q4, .inl (cA 1, 96, .inl (fun _ => 0)))] H := hP
  have hD : va_D A [(h0, .inr (9, [.int 0, .ref q1, .ref q2, .ref q3, .ref q4, .int 0, .int 0, .null])), (q1, .inl (cA 0, 2662, .inl (fun _ => 0))), (q2, .inl (cA 0, 2662, .inl (fun _ => 0))), (q3, .inl (cA 0, 2662, .inl (fun _ => 0))), (q4, .inl (cA 1, 96, .inl (fun _ => 0)))] := hD
  refine lv_aload_n X.hx X.hb d_Mo_39 rfl (lv_at hl 0 rfl) ?_
  refine lv_sipush (v := 2662) X.hx X.hb d_Mo_40 (by decide) ?_
  refine R_np X hin hP hD hS (cT := (RX10, TX10, 8)) rfl 7 (Nat.le_of_ble_eq_true rfl) (Nat.le_of_ble_eq_true rfl) rfl rfl (by decide +kernel) (ctW_ok (i := 142) rfl) 2662 (by decide) (by decide) (by decide) (Nat.le_of_ble_eq_true rfl) (Nat.le_of_ble_eq_true rfl) d_Mo_43 d_Mo_45 (fun q5 H locs hP hD hS => ?_)
  have hP : va_P D vwCl [(h0, .inr (9, [.int 0, .ref q1, .ref q2, .ref q3, .ref q4, .int 0, .int 0, .ref q5])), (q1, .inl (cA 0, 2662, .inl (fun _ => 0))), (q2, .inl (cA 0, 2662, .inl (fun _ => 0))), (q3, .inl (cA 0, 2662, .inl (fun _ => 0))), (q4, .inl (cA 1, 96, .inl (fun _ => 0))), (q5, .inl (cA 0, 2662, .inl (fun _ => 0)))] H := hP
  have hD : va_D A [(h0, .inr (9, [.int 0, .ref q1, .ref q2, .ref q3, .ref q4, .int 0, .int 0, .ref q5])), (q1, .inl (cA 0, 2662, .inl (fun _ => 0))), (q2, .inl (cA 0, 2662, .inl (fun _ => 0))), (q3, .inl (cA 0, 2662, .inl (fun _ => 0))), (q4, .inl (cA 1, 96, .inl (fun _ => 0))), (q5, .inl (cA 0, 2662, .inl (fun _ => 0)))] := hD
  have hE : ([(h0, .inr (9, [.int 0, .ref q1, .ref q2, .ref q3, .ref q4, .int 0, .int 0, .ref q5])), (q1, .inl (cA 0, 2662, .inl (fun _ => 0))), (q2, .inl (cA 0, 2662, .inl (fun _ => 0))), (q3, .inl (cA 0, 2662, .inl (fun _ => 0))), (q4, .inl (cA 1, 96, .inl (fun _ => 0))), (q5, .inl (cA 0, 2662, .inl (fun _ => 0)))] : va_W) = sm_W xMF (glu 6 (fun k => ([h0, q1, q2, q3, q4, q5] : List Nat).getD k 0) (fun k => tb (6 + k))) cA (fun _ _ => 0) := rfl
  rw [hE] at hP hD
  refine lv_aload_n X.hx X.hb d_Mo_48 rfl (lv_at hl 0 rfl) ?_
  refine R_smV (rest := []) X hP hD hS (List.all_eq_true.mp xMF_ok) (fun t z _ => by rw [glu_s (by omega)]; exact congrArg tb (by omega)) (j := j_M_begins) (M := m_M_begins) rfl (a := 0) (as := []) (c_beginsF _ (fun _ => rfl) rfl) rfl (ctW_ok (i := 143) rfl) (by decide) (by decide) (by decide) ⟨(Nat.le_of_ble_eq_true rfl), (Nat.le_of_ble_eq_true rfl)⟩ hl.1 (by decide) (Nat.le_of_ble_eq_true rfl) (Nat.le_of_ble_eq_true rfl) d_Mo_49 ?_
  rintro r σ' H1 locs1 ⟨rfl, hlw⟩ hP hD hS
  refine W.widen (k := 5) (n := 10744) (Nat.le_of_ble_eq_true rfl) (Nat.le_of_ble_eq_true rfl) ?_
  exact R_ret X hr hlocks (SH := xMF) (ad := (glu 6 (fun k => ([h0, q1, q2, q3, q4, q5] : List Nat).getD k 0) (fun k => tb (6 + k)))) hP hD hS rfl hlw d_Mo_52
theorem df_Mo : ∀ j, j < 8 → defaultValue (tyX10 j) = vp_V [.int 0, .null, .null, .null, .null, .int 0, .int 0, .null] j := by
  intro j hj
  match j, hj with
  | 0, _ => rfl
  | 1, _ => rfl
  | 2, _ => rfl
  | 3, _ => rfl
  | 4, _ => rfl
  | 5, _ => rfl
  | 6, _ => rfl
  | 7, _ => rfl
  | k + 8, hj => omega
end
