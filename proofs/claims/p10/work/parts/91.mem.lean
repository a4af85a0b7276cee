/-! ===== the constructors of Memory, Going, Thought ===== -/
theorem wlk_app2 {AD : Nat → Nat} {SH P S : List sm_Sh} {f g : Nat → Nat} {cA : Nat → ClassId} {σ τ : sm_S} {n : Nat} {w1 w2 : va_W} (hX : SH = P ++ S) (hn : P.length = n) (E1 : wlk AD P f cA σ = w1) (E2 : wlk AD S g cA τ = w2) : wlk AD SH (glu n f g) cA (glu n σ τ) = w1 ++ w2 := by
  rw [hX, wlk_app hn, E1, E2]
def xR : List sm_Sh := [.inr (4, [.inr 1, .inr 8, .inr 17, .inr 26, .inr 34, .inr 39, .inr 40, .inl 0]), .inr (1, [.inr 2, .inr 3, .inr 4, .inr 5, .inr 6, .inr 7]), .inl (0, 8), .inl (0, 8), .inl (0, 8), .inl (0, 8), .inl (0, 256), .inl (0, 256), .inr (0, [.inr 9, .inr 10, .inr 11, .inr 12, .inr 13, .inr 14, .inr 15, .inr 16, .inl 0]), .inl (0, 96), .inl (0, 96), .inl (0, 96), .inl (0, 96), .inl (0, 96), .inl (0, 96), .inl (0, 96), .inl (0, 96), .inr (5, [.inr 18, .inr 19, .inr 20, .inr 21, .inr 22, .inr 23, .inr 24, .inr 25]), .inl (0, 8), .inl (0, 8), .inl (0, 8), .inl (0, 8), .inl (0, 8), .inl (0, 8), .inl (0, 8), .inl (0, 8), .inr (6, [.inr 27, .inr 28, .inr 29, .inr 30, .inr 31, .inr 32, .inr 33, .inl 0]), .inl (0, 6), .inl (0, 6), .inl (0, 6), .inl (0, 6), .inl (0, 6), .inl (0, 6), .inl (0, 6), .inr (3, [.inr 35, .inr 36, .inr 37, .inr 38, .inl 0, .inl 0]), .inl (0, 60), .inl (0, 60), .inl (0, 60), .inl (0, 60), .inl (0, 4), .inl (0, 11)]
theorem df_Fr : ∀ j, j < 6 → defaultValue (tyX1 j) = vp_V [.null, .null, .null, .null, .null, .null] j := by
  intro j hj
  match j, hj with
  | 0, _ => rfl
  | 1, _ => rfl
  | 2, _ => rfl
  | 3, _ => rfl
  | 4, _ => rfl
  | 5, _ => rfl
  | k + 6, hj => omega
theorem df_Bl : ∀ j, j < 9 → defaultValue (tyX0 j) = vp_V [.null, .null, .null, .null, .null, .null, .null, .null, .int 0] j := by
  intro j hj
  match j, hj with
  | 0, _ => rfl
  | 1, _ => rfl
  | 2, _ => rfl
  | 3, _ => rfl
  | 4, _ => rfl
  | 5, _ => rfl
  | 6, _ => rfl
  | 7, _ => rfl
  | 8, _ => rfl
  | k + 9, hj => omega
theorem df_Sp : ∀ j, j < 8 → defaultValue (tyX6 j) = vp_V [.null, .null, .null, .null, .null, .null, .null, .null] j := by
  intro j hj
  match j, hj with
  | 0, _ => rfl
  | 1, _ => rfl
  | 2, _ => rfl
  | 3, _ => rfl
  | 4, _ => rfl
  | 5, _ => rfl
  | 6, _ => rfl
  | 7, _ => rfl
  | k + 8, hj => omega
theorem df_Ta : ∀ j, j < 8 → defaultValue (tyX7 j) = vp_V [.null, .null, .null, .null, .null, .null, .null, .int 0] j := by
  intro j hj
  match j, hj with
  | 0, _ => rfl
  | 1, _ => rfl
  | 2, _ => rfl
  | 3, _ => rfl
  | 4, _ => rfl
  | 5, _ => rfl
  | 6, _ => rfl
  | 7, _ => rfl
  | k + 8, hj => omega
theorem df_Lo : ∀ j, j < 6 → defaultValue (tyX3 j) = vp_V [.null, .null, .null, .null, .int 0, .int 0] j := by
  intro j hj
  match j, hj with
  | 0, _ => rfl
  | 1, _ => rfl
  | 2, _ => rfl
  | 3, _ => rfl
  | 4, _ => rfl
  | 5, _ => rfl
  | k + 6, hj => omega
theorem df_Me : ∀ j, j < 8 → defaultValue (tyX4 j) = vp_V [.null, .null, .null, .null, .null, .null, .null, .int 0] j := by
  intro j hj
  match j, hj with
  | 0, _ => rfl
  | 1, _ => rfl
  | 2, _ => rfl
  | 3, _ => rfl
  | 4, _ => rfl
  | 5, _ => rfl
  | 6, _ => rfl
  | 7, _ => rfl
  | k + 8, hj => omega
theorem df_Go : ∀ j, j < 4 → defaultValue (tyX2 j) = vp_V [.null, .null, .null, .null] j := by
  intro j hj
  match j, hj with
  | 0, _ => rfl
  | 1, _ => rfl
  | 2, _ => rfl
  | 3, _ => rfl
  | k + 4, hj => omega
theorem df_Th : ∀ j, j < 5 → defaultValue (tyX8 j) = vp_V [.null, .null, .null, .int 0, .int 0] j := by
  intro j hj
  match j, hj with
  | 0, _ => rfl
  | 1, _ => rfl
  | 2, _ => rfl
  | 3, _ => rfl
  | 4, _ => rfl
  | k + 5, hj => omega
theorem d_Me_0 : decode prog_6_method_1_code 0 = .ok (.aload_n 0, 1) := by decide +kernel
theorem d_Me_1 : decode prog_6_method_1_code 1 = .ok (.invokespecial 3, 3) := by decide +kernel
theorem d_Me_4 : decode prog_6_method_1_code 4 = .ok (.aload_n 0, 1) := by decide +kernel
theorem d_Me_5 : decode prog_6_method_1_code 5 = .ok (.new 9, 3) := by decide +kernel
theorem d_Me_8 : decode prog_6_method_1_code 8 = .ok (.dup, 1) := by decide +kernel
theorem d_Me_9 : decode prog_6_method_1_code 9 = .ok (.invokespecial 11, 3) := by decide +kernel
theorem d_Me_12 : decode prog_6_method_1_code 12 = .ok (.putfield 12, 3) := by decide +kernel
theorem d_Me_15 : decode prog_6_method_1_code 15 = .ok (.aload_n 0, 1) := by decide +kernel
theorem d_Me_16 : decode prog_6_method_1_code 16 = .ok (.new 18, 3) := by decide +kernel
theorem d_Me_19 : decode prog_6_method_1_code 19 = .ok (.dup, 1) := by decide +kernel
theorem d_Me_20 : decode prog_6_method_1_code 20 = .ok (.invokespecial 20, 3) := by decide +kernel
theorem d_Me_23 : decode prog_6_method_1_code 23 = .ok (.putfield 21, 3) := by decide +kernel
theorem d_Me_26 : decode prog_6_method_1_code 26 = .ok (.aload_n 0, 1) := by decide +kernel
theorem d_Me_27 : decode prog_6_method_1_code 27 = .ok (.new 25, 3) := by decide +kernel
theorem d_Me_30 : decode prog_6_method_1_code 30 = .ok (.dup, 1) := by decide +kernel
theorem d_Me_31 : decode prog_6_method_1_code 31 = .ok (.invokespecial 27, 3) := by decide +kernel
theorem d_Me_34 : decode prog_6_method_1_code 34 = .ok (.putfield 28, 3) := by decide +kernel
theorem d_Me_37 : decode prog_6_method_1_code 37 = .ok (.aload_n 0, 1) := by decide +kernel
theorem d_Me_38 : decode prog_6_method_1_code 38 = .ok (.new 32, 3) := by decide +kernel
theorem d_Me_41 : decode prog_6_method_1_code 41 = .ok (.dup, 1) := by decide +kernel
theorem d_Me_42 : decode prog_6_method_1_code 42 = .ok (.invokespecial 34, 3) := by decide +kernel
theorem d_Me_45 : decode prog_6_method_1_code 45 = .ok (.putfield 35, 3) := by decide +kernel
theorem d_Me_48 : decode prog_6_method_1_code 48 = .ok (.aload_n 0, 1) := by decide +kernel
theorem d_Me_49 : decode prog_6_method_1_code 49 = .ok (.new 39, 3) := by decide +kernel
theorem d_Me_52 : decode prog_6_method_1_code 52 = .ok (.dup, 1) := by decide +kernel
theorem d_Me_53 : decode prog_6_method_1_code 53 = .ok (.invokespecial 41, 3) := by decide +kernel
theorem d_Me_56 : decode prog_6_method_1_code 56 = .ok (.putfield 42, 3) := by decide +kernel
theorem d_Me_59 : decode prog_6_method_1_code 59 = .ok (.aload_n 0, 1) := by decide +kernel
theorem d_Me_60 : decode prog_6_method_1_code 60 = .ok (.iconst 4, 1) := by decide +kernel
theorem d_Me_61 : decode prog_6_method_1_code 61 = .ok (.newarray .int, 2) := by decide +kernel
theorem d_Me_63 : decode prog_6_method_1_code 63 = .ok (.putfield 46, 3) := by decide +kernel
theorem d_Me_66 : decode prog_6_method_1_code 66 = .ok (.aload_n 0, 1) := by decide +kernel
theorem d_Me_67 : decode prog_6_method_1_code 67 = .ok (.bipush 11, 2) := by decide +kernel
theorem d_Me_69 : decode prog_6_method_1_code 69 = .ok (.newarray .int, 2) := by decide +kernel
theorem d_Me_71 : decode prog_6_method_1_code 71 = .ok (.putfield 50, 3) := by decide +kernel
theorem d_Me_74 : decode prog_6_method_1_code 74 = .ok (.aload_n 0, 1) := by decide +kernel
theorem d_Me_75 : decode prog_6_method_1_code 75 = .ok (.iconst 0, 1) := by decide +kernel
theorem d_Me_76 : decode prog_6_method_1_code 76 = .ok (.putfield 53, 3) := by decide +kernel
theorem d_Me_79 : decode prog_6_method_1_code 79 = .ok (.return_, 1) := by decide +kernel
def I_Me (σ : sm_S) : Prop := (∀ i, i < 256 → σ 6 i = -1) ∧ (∀ b, b < 96 → σ 9 b = -1 ∧ σ 14 b = -1 ∧ σ 15 b = 0) ∧ (∀ s, s < 8 → σ 18 s = 0 ∧ σ 20 s = 0 ∧ σ 23 s = 0 ∧ σ 24 s = -1) ∧ (σ 26 7 = 0 ∧ ∀ t, t < 6 → σ 28 t = -1) ∧ σ 34 5 = 0 ∧ (∀ i, σ 39 i = 0) ∧ ini0 σ
set_option maxRecDepth 100000 in
set_option maxHeartbeats 4000000 in
theorem W_Me {AD : Nat → Nat} {cA : Nat → ClassId} {h0 q1 q2 : Nat} {a1 a2 a3 a4 a5 : Nat → Nat} {σ1 σ2 σ3 σ4 σ5 : sm_S} (e0 : AD 0 = h0) (e1 : ∀ k, k < 7 → AD (1 + k) = a1 k) (e2 : ∀ k, k < 9 → AD (8 + k) = a2 k) (e3 : ∀ k, k < 9 → AD (17 + k) = a3 k) (e4 : ∀ k, k < 8 → AD (26 + k) = a4 k) (e5 : ∀ k, k < 5 → AD (34 + k) = a5 k) (e6 : AD 39 = q1) (e7 : AD 40 = q2) : wlk AD xR (glu 1 (fun _ => h0) (glu 7 a1 (glu 9 a2 (glu 9 a3 (glu 8 a4 (glu 5 a5 (glu 1 (fun _ => q1) (fun _ => q2)))))))) cA (glu 1 (fun _ _ => 0) (glu 7 σ1 (glu 9 σ2 (glu 9 σ3 (glu 8 σ4 (glu 5 σ5 (glu 1 (fun _ _ => 0) (fun _ _ => 0)))))))) = ([(h0, .inr (4, [.ref (a1 0), .ref (a2 0), .ref (a3 0), .ref (a4 0), .ref (a5 0), .ref q1, .ref q2, .int 0]))] : va_W) ++ (sm_W xFr a1 cA σ1 ++ (sm_W xBl a2 cA σ2 ++ (sm_W xSp a3 cA σ3 ++ (sm_W xTa a4 cA σ4 ++ (sm_W xLo a5 cA σ5 ++ (([(q1, .inl (cA 0, 4, .inl (fun _ => 0)))] : va_W) ++ (([(q2, .inl (cA 0, 11, .inl (fun _ => 0)))] : va_W)))))))) := (wlk_app2 (SH := xR) (P := (xR.drop 0).take 1) (S := xR.drop 1) (by decide +kernel) rfl (by show ([(h0, .inr (4, [.ref (AD 1), .ref (AD 8), .ref (AD 17), .ref (AD 26), .ref (AD 34), .ref (AD 39), .ref (AD 40), .int 0]))] : va_W) = [(h0, .inr (4, [.ref (a1 0), .ref (a2 0), .ref (a3 0), .ref (a4 0), .ref (a5 0), .ref q1, .ref q2, .int 0]))]; rw [(show AD 1 = a1 0 from e1 0 (by decide)), (show AD 8 = a2 0 from e2 0 (by decide)), (show AD 17 = a3 0 from e3 0 (by decide)), (show AD 26 = a4 0 from e4 0 (by decide)), (show AD 34 = a5 0 from e5 0 (by decide)), e6, e7]) (wlk_app2 (SH := xR.drop 1) (P := xFr.map (shf 1)) (S := xR.drop 8) (by decide +kernel) rfl (wlk_shf (n := 7) (by decide +kernel) e1) (wlk_app2 (SH := xR.drop 8) (P := xBl.map (shf 8)) (S := xR.drop 17) (by decide +kernel) rfl (wlk_shf (n := 9) (by decide +kernel) e2) (wlk_app2 (SH := xR.drop 17) (P := xSp.map (shf 17)) (S := xR.drop 26) (by decide +kernel) rfl (wlk_shf (n := 9) (by decide +kernel) e3) (wlk_app2 (SH := xR.drop 26) (P := xTa.map (shf 26)) (S := xR.drop 34) (by decide +kernel) rfl (wlk_shf (n := 8) (by decide +kernel) e4) (wlk_app2 (SH := xR.drop 34) (P := xLo.map (shf 34)) (S := xR.drop 39) (by decide +kernel) rfl (wlk_shf (n := 5) (by decide +kernel) e5) (wlk_app2 (SH := xR.drop 39) (P := (xR.drop 39).take 1) (S := xR.drop 40) (by decide +kernel) rfl rfl rfl)))))))
set_option maxRecDepth 100000 in
set_option maxHeartbeats 4000000 in
theorem ct_Me {l : Launch} {cA : Nat → ClassId} {D : va_G} {tb : Nat → Nat} {Lim : Nat} : Ctor l cA D tb Lim ⟨"SpansAway$Memory", "<init>", "()V"⟩ prog_6_method_1_code 2 43 40 1710 4 [.null, .null, .null, .null, .null, .null, .null, .int 0] xR 0 I_Me := by
  refine Ctor.ofW (by decide) rfl ?_
  intro h0 p e s m args below meth c A L X hN hin hr hlocks hl hP hD hS
  refine lv_aload_n X.hx X.hb d_Me_0 rfl (lv_at hl 0 rfl) ?_
  refine R_obj X hl.1 (ctW_ok (i := 90) rfl) ⟨(Nat.le_of_ble_eq_true rfl), (Nat.le_of_ble_eq_true rfl)⟩ d_Me_1 ?_
  refine lv_aload_n X.hx X.hb d_Me_4 rfl (lv_at hl 0 rfl) ?_
  refine R_new3 X hN hP hD hS hl.1 ct_Fr (cT := (RX1, TX1, 6)) rfl rfl tyX1_ok df_Fr rfl (by decide +kernel) (ctW_ok (i := 91) rfl) (ctW_ok (i := 7) rfl) (ctW_ok (i := 6) rfl) (ctW_ok (i := 5) rfl) (ctW_ok (i := 4) rfl) (Or.inl (ctW_ok (i := 92) rfl)) ⟨(Nat.le_of_ble_eq_true rfl), (Nat.le_of_ble_eq_true rfl)⟩ (Nat.le_of_ble_eq_true rfl) (Nat.le_of_ble_eq_true rfl) (Nat.le_of_ble_eq_true rfl) d_Me_5 d_Me_8 d_Me_9 (fun a1 σ1 H locs i1 hP hD hS => ?_)
  have hP : va_P D vwCl ((h0, .inr (4, [.null, .null, .null, .null, .null, .null, .null, .int 0])) :: (sm_W xFr a1 cA σ1)) H := hP
  have hD : va_D A ((h0, .inr (4, [.null, .null, .null, .null, .null, .null, .null, .int 0])) :: (sm_W xFr a1 cA σ1)) := hD
  refine R_pf X hin hP hD hS (cT := (RX4, TX4, 8)) rfl 0 (Nat.le_of_ble_eq_true rfl) (Nat.le_of_ble_eq_true rfl) rfl rfl (ty := .object "SpansAway$Frames") (by decide +kernel) rfl rfl (ctW_ok (i := 93) rfl) d_Me_12 (fun H locs hP hD hS => ?_)
  have hP : va_P D vwCl ((h0, .inr (4, [.ref (a1 0), .null, .null, .null, .null, .null, .null, .int 0])) :: (sm_W xFr a1 cA σ1)) H := hP
  have hD : va_D A ((h0, .inr (4, [.ref (a1 0), .null, .null, .null, .null, .null, .null, .int 0])) :: (sm_W xFr a1 cA σ1)) := hD
  refine lv_aload_n X.hx X.hb d_Me_15 rfl (lv_at hl 0 rfl) ?_
  refine R_new3 X hN hP hD hS hl.1 ct_Bl (cT := (RX0, TX0, 9)) rfl rfl tyX0_ok df_Bl rfl (by decide +kernel) (ctW_ok (i := 94) rfl) (ctW_ok (i := 11) rfl) (ctW_ok (i := 10) rfl) (ctW_ok (i := 9) rfl) (ctW_ok (i := 8) rfl) (Or.inl (ctW_ok (i := 95) rfl)) ⟨(Nat.le_of_ble_eq_true rfl), (Nat.le_of_ble_eq_true rfl)⟩ (Nat.le_of_ble_eq_true rfl) (Nat.le_of_ble_eq_true rfl) (Nat.le_of_ble_eq_true rfl) d_Me_16 d_Me_19 d_Me_20 (fun a2 σ2 H locs i2 hP hD hS => ?_)
  have hP : va_P D vwCl ((h0, .inr (4, [.ref (a1 0), .null, .null, .null, .null, .null, .null, .int 0])) :: ((sm_W xFr a1 cA σ1) ++ sm_W xBl a2 cA σ2)) H := hP
  have hD : va_D A ((h0, .inr (4, [.ref (a1 0), .null, .null, .null, .null, .null, .null, .int 0])) :: ((sm_W xFr a1 cA σ1) ++ sm_W xBl a2 cA σ2)) := hD
  refine R_pf X hin hP hD hS (cT := (RX4, TX4, 8)) rfl 1 (Nat.le_of_ble_eq_true rfl) (Nat.le_of_ble_eq_true rfl) rfl rfl (ty := .object "SpansAway$Blocks") (by decide +kernel) rfl rfl (ctW_ok (i := 96) rfl) d_Me_23 (fun H locs hP hD hS => ?_)
  have hP : va_P D vwCl ((h0, .inr (4, [.ref (a1 0), .ref (a2 0), .null, .null, .null, .null, .null, .int 0])) :: ((sm_W xFr a1 cA σ1) ++ sm_W xBl a2 cA σ2)) H := hP
  have hD : va_D A ((h0, .inr (4, [.ref (a1 0), .ref (a2 0), .null, .null, .null, .null, .null, .int 0])) :: ((sm_W xFr a1 cA σ1) ++ sm_W xBl a2 cA σ2)) := hD
  refine lv_aload_n X.hx X.hb d_Me_26 rfl (lv_at hl 0 rfl) ?_
  refine R_new3 X hN hP hD hS hl.1 ct_Sp (cT := (RX6, TX6, 8)) rfl rfl tyX6_ok df_Sp rfl (by decide +kernel) (ctW_ok (i := 97) rfl) (ctW_ok (i := 15) rfl) (ctW_ok (i := 14) rfl) (ctW_ok (i := 13) rfl) (ctW_ok (i := 12) rfl) (Or.inl (ctW_ok (i := 98) rfl)) ⟨(Nat.le_of_ble_eq_true rfl), (Nat.le_of_ble_eq_true rfl)⟩ (Nat.le_of_ble_eq_true rfl) (Nat.le_of_ble_eq_true rfl) (Nat.le_of_ble_eq_true rfl) d_Me_27 d_Me_30 d_Me_31 (fun a3 σ3 H locs i3 hP hD hS => ?_)
  have hP : va_P D vwCl ((h0, .inr (4, [.ref (a1 0), .ref (a2 0), .null, .null, .null, .null, .null, .int 0])) :: (((sm_W xFr a1 cA σ1) ++ sm_W xBl a2 cA σ2) ++ sm_W xSp a3 cA σ3)) H := hP
  have hD : va_D A ((h0, .inr (4, [.ref (a1 0), .ref (a2 0), .null, .null, .null, .null, .null, .int 0])) :: (((sm_W xFr a1 cA σ1) ++ sm_W xBl a2 cA σ2) ++ sm_W xSp a3 cA σ3)) := hD
  refine R_pf X hin hP hD hS (cT := (RX4, TX4, 8)) rfl 2 (Nat.le_of_ble_eq_true rfl) (Nat.le_of_ble_eq_true rfl) rfl rfl (ty := .object "SpansAway$Spans") (by decide +kernel) rfl rfl (ctW_ok (i := 99) rfl) d_Me_34 (fun H locs hP hD hS => ?_)
  have hP : va_P D vwCl ((h0, .inr (4, [.ref (a1 0), .ref (a2 0), .ref (a3 0), .null, .null, .null, .null, .int 0])) :: (((sm_W xFr a1 cA σ1) ++ sm_W xBl a2 cA σ2) ++ sm_W xSp a3 cA σ3)) H := hP
  have hD : va_D A ((h0, .inr (4, [.ref (a1 0), .ref (a2 0), .ref (a3 0), .null, .null, .null, .null, .int 0])) :: (((sm_W xFr a1 cA σ1) ++ sm_W xBl a2 cA σ2) ++ sm_W xSp a3 cA σ3)) := hD
  refine lv_aload_n X.hx X.hb d_Me_37 rfl (lv_at hl 0 rfl) ?_
  refine R_new3 X hN hP hD hS hl.1 ct_Ta (cT := (RX7, TX7, 8)) rfl rfl tyX7_ok df_Ta rfl (by decide +kernel) (ctW_ok (i := 100) rfl) (ctW_ok (i := 19) rfl) (ctW_ok (i := 18) rfl) (ctW_ok (i := 17) rfl) (ctW_ok (i := 16) rfl) (Or.inl (ctW_ok (i := 101) rfl)) ⟨(Nat.le_of_ble_eq_true rfl), (Nat.le_of_ble_eq_true rfl)⟩ (Nat.le_of_ble_eq_true rfl) (Nat.le_of_ble_eq_true rfl) (Nat.le_of_ble_eq_true rfl) d_Me_38 d_Me_41 d_Me_42 (fun a4 σ4 H locs i4 hP hD hS => ?_)
  have hP : va_P D vwCl ((h0, .inr (4, [.ref (a1 0), .ref (a2 0), .ref (a3 0), .null, .null, .null, .null, .int 0])) :: ((((sm_W xFr a1 cA σ1) ++ sm_W xBl a2 cA σ2) ++ sm_W xSp a3 cA σ3) ++ sm_W xTa a4 cA σ4)) H := hP
  have hD : va_D A ((h0, .inr (4, [.ref (a1 0), .ref (a2 0), .ref (a3 0), .null, .null, .null, .null, .int 0])) :: ((((sm_W xFr a1 cA σ1) ++ sm_W xBl a2 cA σ2) ++ sm_W xSp a3 cA σ3) ++ sm_W xTa a4 cA σ4)) := hD
  refine R_pf X hin hP hD hS (cT := (RX4, TX4, 8)) rfl 3 (Nat.le_of_ble_eq_true rfl) (Nat.le_of_ble_eq_true rfl) rfl rfl (ty := .object "SpansAway$Tasks") (by decide +kernel) rfl rfl (ctW_ok (i := 102) rfl) d_Me_45 (fun H locs hP hD hS => ?_)
  have hP : va_P D vwCl ((h0, .inr (4, [.ref (a1 0), .ref (a2 0), .ref (a3 0), .ref (a4 0), .null, .null, .null, .int 0])) :: ((((sm_W xFr a1 cA σ1) ++ sm_W xBl a2 cA σ2) ++ sm_W xSp a3 cA σ3) ++ sm_W xTa a4 cA σ4)) H := hP
  have hD : va_D A ((h0, .inr (4, [.ref (a1 0), .ref (a2 0), .ref (a3 0), .ref (a4 0), .null, .null, .null, .int 0])) :: ((((sm_W xFr a1 cA σ1) ++ sm_W xBl a2 cA σ2) ++ sm_W xSp a3 cA σ3) ++ sm_W xTa a4 cA σ4)) := hD
  refine lv_aload_n X.hx X.hb d_Me_48 rfl (lv_at hl 0 rfl) ?_
  refine R_new3 X hN hP hD hS hl.1 ct_Lo (cT := (RX3, TX3, 6)) rfl rfl tyX3_ok df_Lo rfl (by decide +kernel) (ctW_ok (i := 103) rfl) (ctW_ok (i := 23) rfl) (ctW_ok (i := 22) rfl) (ctW_ok (i := 21) rfl) (ctW_ok (i := 20) rfl) (Or.inr (List.mem_of_getElem? (i := 0) rfl)) ⟨(Nat.le_of_ble_eq_true rfl), (Nat.le_of_ble_eq_true rfl)⟩ (Nat.le_of_ble_eq_true rfl) (Nat.le_of_ble_eq_true rfl) (Nat.le_of_ble_eq_true rfl) d_Me_49 d_Me_52 d_Me_53 (fun a5 σ5 H locs i5 hP hD hS => ?_)
  have hP : va_P D vwCl ((h0, .inr (4, [.ref (a1 0), .ref (a2 0), .ref (a3 0), .ref (a4 0), .null, .null, .null, .int 0])) :: (((((sm_W xFr a1 cA σ1) ++ sm_W xBl a2 cA σ2) ++ sm_W xSp a3 cA σ3) ++ sm_W xTa a4 cA σ4) ++ sm_W xLo a5 cA σ5)) H := hP
  have hD : va_D A ((h0, .inr (4, [.ref (a1 0), .ref (a2 0), .ref (a3 0), .ref (a4 0), .null, .null, .null, .int 0])) :: (((((sm_W xFr a1 cA σ1) ++ sm_W xBl a2 cA σ2) ++ sm_W xSp a3 cA σ3) ++ sm_W xTa a4 cA σ4) ++ sm_W xLo a5 cA σ5)) := hD
  refine R_pf X hin hP hD hS (cT := (RX4, TX4, 8)) rfl 4 (Nat.le_of_ble_eq_true rfl) (Nat.le_of_ble_eq_true rfl) rfl rfl (ty := .object "SpansAway$Log") (by decide +kernel) rfl rfl (ctW_ok (i := 104) rfl) d_Me_56 (fun H locs hP hD hS => ?_)
  have hP : va_P D vwCl ((h0, .inr (4, [.ref (a1 0), .ref (a2 0), .ref (a3 0), .ref (a4 0), .ref (a5 0), .null, .null, .int 0])) :: (((((sm_W xFr a1 cA σ1) ++ sm_W xBl a2 cA σ2) ++ sm_W xSp a3 cA σ3) ++ sm_W xTa a4 cA σ4) ++ sm_W xLo a5 cA σ5)) H := hP
  have hD : va_D A ((h0, .inr (4, [.ref (a1 0), .ref (a2 0), .ref (a3 0), .ref (a4 0), .ref (a5 0), .null, .null, .int 0])) :: (((((sm_W xFr a1 cA σ1) ++ sm_W xBl a2 cA σ2) ++ sm_W xSp a3 cA σ3) ++ sm_W xTa a4 cA σ4) ++ sm_W xLo a5 cA σ5)) := hD
  refine lv_aload_n X.hx X.hb d_Me_59 rfl (lv_at hl 0 rfl) ?_
  refine lv_iconst (v := 4) X.hx X.hb d_Me_60 (by decide) ?_
  refine R_np X hin hP hD hS (cT := (RX4, TX4, 8)) rfl 5 (Nat.le_of_ble_eq_true rfl) (Nat.le_of_ble_eq_true rfl) rfl rfl (by decide +kernel) (ctW_ok (i := 105) rfl) 4 (by decide) (by decide) (by decide) (Nat.le_of_ble_eq_true rfl) (Nat.le_of_ble_eq_true rfl) d_Me_61 d_Me_63 (fun q1 H locs hP hD hS => ?_)
  have hP : va_P D vwCl ((h0, .inr (4, [.ref (a1 0), .ref (a2 0), .ref (a3 0), .ref (a4 0), .ref (a5 0), .ref q1, .null, .int 0])) :: ((((((sm_W xFr a1 cA σ1) ++ sm_W xBl a2 cA σ2) ++ sm_W xSp a3 cA σ3) ++ sm_W xTa a4 cA σ4) ++ sm_W xLo a5 cA σ5) ++ [(q1, .inl (cA 0, 4, .inl (fun _ => 0)))])) H := hP
  have hD : va_D A ((h0, .inr (4, [.ref (a1 0), .ref (a2 0), .ref (a3 0), .ref (a4 0), .ref (a5 0), .ref q1, .null, .int 0])) :: ((((((sm_W xFr a1 cA σ1) ++ sm_W xBl a2 cA σ2) ++ sm_W xSp a3 cA σ3) ++ sm_W xTa a4 cA σ4) ++ sm_W xLo a5 cA σ5) ++ [(q1, .inl (cA 0, 4, .inl (fun _ => 0)))])) := hD
  refine lv_aload_n X.hx X.hb d_Me_66 rfl (lv_at hl 0 rfl) ?_
  refine lv_bipush (v := 11) X.hx X.hb d_Me_67 (by decide) ?_
  refine R_np X hin hP hD hS (cT := (RX4, TX4, 8)) rfl 6 (Nat.le_of_ble_eq_true rfl) (Nat.le_of_ble_eq_true rfl) rfl rfl (by decide +kernel) (ctW_ok (i := 106) rfl) 11 (by decide) (by decide) (by decide) (Nat.le_of_ble_eq_true rfl) (Nat.le_of_ble_eq_true rfl) d_Me_69 d_Me_71 (fun q2 H locs hP hD hS => ?_)
  have hP : va_P D vwCl ((h0, .inr (4, [.ref (a1 0), .ref (a2 0), .ref (a3 0), .ref (a4 0), .ref (a5 0), .ref q1, .ref q2, .int 0])) :: (((((((sm_W xFr a1 cA σ1) ++ sm_W xBl a2 cA σ2) ++ sm_W xSp a3 cA σ3) ++ sm_W xTa a4 cA σ4) ++ sm_W xLo a5 cA σ5) ++ [(q1, .inl (cA 0, 4, .inl (fun _ => 0)))]) ++ [(q2, .inl (cA 0, 11, .inl (fun _ => 0)))])) H := hP
  have hD : va_D A ((h0, .inr (4, [.ref (a1 0), .ref (a2 0), .ref (a3 0), .ref (a4 0), .ref (a5 0), .ref q1, .ref q2, .int 0])) :: (((((((sm_W xFr a1 cA σ1) ++ sm_W xBl a2 cA σ2) ++ sm_W xSp a3 cA σ3) ++ sm_W xTa a4 cA σ4) ++ sm_W xLo a5 cA σ5) ++ [(q1, .inl (cA 0, 4, .inl (fun _ => 0)))]) ++ [(q2, .inl (cA 0, 11, .inl (fun _ => 0)))])) := hD
  refine lv_aload_n X.hx X.hb d_Me_74 rfl (lv_at hl 0 rfl) ?_
  refine lv_iconst (v := 0) X.hx X.hb d_Me_75 (by decide) ?_
  refine R_pi X hP hD hS (cT := (RX4, TX4, 8)) rfl 7 (Nat.le_of_ble_eq_true rfl) (Nat.le_of_ble_eq_true rfl) rfl (ty := .int) (by decide +kernel) rfl rfl (ctW_ok (i := 107) rfl) d_Me_76 (fun H locs hP hD hS => ?_)
  have hP : va_P D vwCl ((h0, .inr (4, [.ref (a1 0), .ref (a2 0), .ref (a3 0), .ref (a4 0), .ref (a5 0), .ref q1, .ref q2, .int 0])) :: (((((((sm_W xFr a1 cA σ1) ++ sm_W xBl a2 cA σ2) ++ sm_W xSp a3 cA σ3) ++ sm_W xTa a4 cA σ4) ++ sm_W xLo a5 cA σ5) ++ [(q1, .inl (cA 0, 4, .inl (fun _ => 0)))]) ++ [(q2, .inl (cA 0, 11, .inl (fun _ => 0)))])) H := hP
  have hD : va_D A ((h0, .inr (4, [.ref (a1 0), .ref (a2 0), .ref (a3 0), .ref (a4 0), .ref (a5 0), .ref q1, .ref q2, .int 0])) :: (((((((sm_W xFr a1 cA σ1) ++ sm_W xBl a2 cA σ2) ++ sm_W xSp a3 cA σ3) ++ sm_W xTa a4 cA σ4) ++ sm_W xLo a5 cA σ5) ++ [(q1, .inl (cA 0, 4, .inl (fun _ => 0)))]) ++ [(q2, .inl (cA 0, 11, .inl (fun _ => 0)))])) := hD
  refine W.widen (k := 40) (n := 1710) (Nat.le_of_ble_eq_true rfl) (Nat.le_of_ble_eq_true rfl) ?_
  have hE := W_Me (cA := cA) (AD := (glu 1 (fun _ => h0) (glu 7 a1 (glu 9 a2 (glu 9 a3 (glu 8 a4 (glu 5 a5 (glu 1 (fun _ => q1) (fun _ => q2))))))))) (h0 := h0) (q1 := q1) (q2 := q2) (a1 := a1) (a2 := a2) (a3 := a3) (a4 := a4) (a5 := a5) (σ1 := σ1) (σ2 := σ2) (σ3 := σ3) (σ4 := σ4) (σ5 := σ5) rfl (fun k hk => by rw [glu_s (by omega), glu_l (by omega)]; exact congrArg a1 (by omega)) (fun k hk => by rw [glu_s (by omega), glu_s (by omega), glu_l (by omega)]; exact congrArg a2 (by omega)) (fun k hk => by rw [glu_s (by omega), glu_s (by omega), glu_s (by omega), glu_l (by omega)]; exact congrArg a3 (by omega)) (fun k hk => by rw [glu_s (by omega), glu_s (by omega), glu_s (by omega), glu_s (by omega), glu_l (by omega)]; exact congrArg a4 (by omega)) (fun k hk => by rw [glu_s (by omega), glu_s (by omega), glu_s (by omega), glu_s (by omega), glu_s (by omega), glu_l (by omega)]; exact congrArg a5 (by omega)) rfl rfl
  have hT : ((h0, .inr (4, [.ref (a1 0), .ref (a2 0), .ref (a3 0), .ref (a4 0), .ref (a5 0), .ref q1, .ref q2, .int 0])) :: (((((((sm_W xFr a1 cA σ1) ++ sm_W xBl a2 cA σ2) ++ sm_W xSp a3 cA σ3) ++ sm_W xTa a4 cA σ4) ++ sm_W xLo a5 cA σ5) ++ [(q1, .inl (cA 0, 4, .inl (fun _ => 0)))]) ++ [(q2, .inl (cA 0, 11, .inl (fun _ => 0)))]) : va_W) = wlk (glu 1 (fun _ => h0) (glu 7 a1 (glu 9 a2 (glu 9 a3 (glu 8 a4 (glu 5 a5 (glu 1 (fun _ => q1) (fun _ => q2)))))))) xR (glu 1 (fun _ => h0) (glu 7 a1 (glu 9 a2 (glu 9 a3 (glu 8 a4 (glu 5 a5 (glu 1 (fun _ => q1) (fun _ => q2)))))))) cA (glu 1 (fun _ _ => 0) (glu 7 σ1 (glu 9 σ2 (glu 9 σ3 (glu 8 σ4 (glu 5 σ5 (glu 1 (fun _ _ => 0) (fun _ _ => 0)))))))) := by
    rw [hE]
    simp only [List.append_assoc]
    rfl
  rw [hT] at hP hD
  exact R_ret X hr hlocks (SH := xR) (ad := (glu 1 (fun _ => h0) (glu 7 a1 (glu 9 a2 (glu 9 a3 (glu 8 a4 (glu 5 a5 (glu 1 (fun _ => q1) (fun _ => q2))))))))) (σ := (glu 1 (fun _ _ => 0) (glu 7 σ1 (glu 9 σ2 (glu 9 σ3 (glu 8 σ4 (glu 5 σ5 (glu 1 (fun _ _ => 0) (fun _ _ => 0))))))))) hP hD hS rfl ⟨i1.1, i2.1, i3.1, i4.1, i5.1, fun _ => rfl, i1.2.1, i1.2.2, i3.2, i4.2, ⟨i5.2.1, rfl, i2.2⟩, i5.2.2, fun _ _ => rfl⟩ d_Me_79
