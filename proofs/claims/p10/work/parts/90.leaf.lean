/-! ===== the constructors of the leaves ===== -/
def xFr : List sm_Sh := [.inr (1, [.inr 1, .inr 2, .inr 3, .inr 4, .inr 5, .inr 6]), .inl (0, 8), .inl (0, 8), .inl (0, 8), .inl (0, 8), .inl (0, 256), .inl (0, 256)]
def I_Fr (σ : sm_S) : Prop := (∀ i, i < 256 → σ 5 i = -1) ∧ (∀ s, s < 8 → σ 1 s = 0 ∧ σ 2 s = 0 ∧ σ 3 s = 0 ∧ σ 4 s = 0) ∧ ∀ f, f < 256 → σ 6 f = 0
theorem d_Fr_0 : decode prog_3_method_1_code 0 = .ok (.aload_n 0, 1) := by decide +kernel
theorem d_Fr_1 : decode prog_3_method_1_code 1 = .ok (.invokespecial 3, 3) := by decide +kernel
theorem d_Fr_4 : decode prog_3_method_1_code 4 = .ok (.aload_n 0, 1) := by decide +kernel
theorem d_Fr_5 : decode prog_3_method_1_code 5 = .ok (.bipush 8, 2) := by decide +kernel
theorem d_Fr_7 : decode prog_3_method_1_code 7 = .ok (.newarray .int, 2) := by decide +kernel
theorem d_Fr_9 : decode prog_3_method_1_code 9 = .ok (.putfield 9, 3) := by decide +kernel
theorem d_Fr_12 : decode prog_3_method_1_code 12 = .ok (.aload_n 0, 1) := by decide +kernel
theorem d_Fr_13 : decode prog_3_method_1_code 13 = .ok (.bipush 8, 2) := by decide +kernel
theorem d_Fr_15 : decode prog_3_method_1_code 15 = .ok (.newarray .int, 2) := by decide +kernel
theorem d_Fr_17 : decode prog_3_method_1_code 17 = .ok (.putfield 15, 3) := by decide +kernel
theorem d_Fr_20 : decode prog_3_method_1_code 20 = .ok (.aload_n 0, 1) := by decide +kernel
theorem d_Fr_21 : decode prog_3_method_1_code 21 = .ok (.bipush 8, 2) := by decide +kernel
theorem d_Fr_23 : decode prog_3_method_1_code 23 = .ok (.newarray .int, 2) := by decide +kernel
theorem d_Fr_25 : decode prog_3_method_1_code 25 = .ok (.putfield 18, 3) := by decide +kernel
theorem d_Fr_28 : decode prog_3_method_1_code 28 = .ok (.aload_n 0, 1) := by decide +kernel
theorem d_Fr_29 : decode prog_3_method_1_code 29 = .ok (.bipush 8, 2) := by decide +kernel
theorem d_Fr_31 : decode prog_3_method_1_code 31 = .ok (.newarray .int, 2) := by decide +kernel
theorem d_Fr_33 : decode prog_3_method_1_code 33 = .ok (.putfield 21, 3) := by decide +kernel
theorem d_Fr_36 : decode prog_3_method_1_code 36 = .ok (.aload_n 0, 1) := by decide +kernel
theorem d_Fr_37 : decode prog_3_method_1_code 37 = .ok (.sipush 256, 3) := by decide +kernel
theorem d_Fr_40 : decode prog_3_method_1_code 40 = .ok (.newarray .int, 2) := by decide +kernel
theorem d_Fr_42 : decode prog_3_method_1_code 42 = .ok (.putfield 24, 3) := by decide +kernel
theorem d_Fr_45 : decode prog_3_method_1_code 45 = .ok (.aload_n 0, 1) := by decide +kernel
theorem d_Fr_46 : decode prog_3_method_1_code 46 = .ok (.sipush 256, 3) := by decide +kernel
theorem d_Fr_49 : decode prog_3_method_1_code 49 = .ok (.newarray .int, 2) := by decide +kernel
theorem d_Fr_51 : decode prog_3_method_1_code 51 = .ok (.putfield 27, 3) := by decide +kernel
theorem d_Fr_54 : decode prog_3_method_1_code 54 = .ok (.aload_n 0, 1) := by decide +kernel
theorem d_Fr_55 : decode prog_3_method_1_code 55 = .ok (.getfield 24, 3) := by decide +kernel
theorem d_Fr_58 : decode prog_3_method_1_code 58 = .ok (.iconst (-1), 1) := by decide +kernel
theorem d_Fr_59 : decode prog_3_method_1_code 59 = .ok (.invokestatic 30, 3) := by decide +kernel
theorem d_Fr_62 : decode prog_3_method_1_code 62 = .ok (.return_, 1) := by decide +kernel
set_option maxRecDepth 100000 in
set_option maxHeartbeats 4000000 in
theorem ct_Fr {l : Launch} {cA : Nat → ClassId} {D : va_G} {tb : Nat → Nat} {Lim : Nat} : Ctor l cA D tb Lim ⟨"SpansAway$Frames", "<init>", "()V"⟩ prog_3_method_1_code 1 23 6 544 1 [.null, .null, .null, .null, .null, .null] xFr 0 I_Fr := by
  refine Ctor.ofW (by decide) rfl ?_
  intro h0 p e s m args below meth c A L X hN hin hr hlocks hl hP hD hS
  refine lv_aload_n X.hx X.hb d_Fr_0 rfl (lv_at hl 0 rfl) ?_
  refine R_obj X hl.1 (ctW_ok (i := 44) rfl) ⟨(Nat.le_of_ble_eq_true rfl), (Nat.le_of_ble_eq_true rfl)⟩ d_Fr_1 ?_
  refine lv_aload_n X.hx X.hb d_Fr_4 rfl (lv_at hl 0 rfl) ?_
  refine lv_bipush (v := 8) X.hx X.hb d_Fr_5 (by decide) ?_
  refine R_np X hin hP hD hS (cT := (RX1, TX1, 6)) rfl 0 (Nat.le_of_ble_eq_true rfl) (Nat.le_of_ble_eq_true rfl) rfl rfl (by decide +kernel) (ctW_ok (i := 45) rfl) 8 (by decide) (by decide) (by decide) (Nat.le_of_ble_eq_true rfl) (Nat.le_of_ble_eq_true rfl) d_Fr_7 d_Fr_9 (fun q0 H locs hP hD hS => ?_)
  have hP : va_P D vwCl [(h0, .inr (1, [.ref q0, .null, .null, .null, .null, .null])), (q0, .inl (cA 0, 8, .inl (fun _ => 0)))] H := hP
  have hD : va_D A [(h0, .inr (1, [.ref q0, .null, .null, .null, .null, .null])), (q0, .inl (cA 0, 8, .inl (fun _ => 0)))] := hD
  refine lv_aload_n X.hx X.hb d_Fr_12 rfl (lv_at hl 0 rfl) ?_
  refine lv_bipush (v := 8) X.hx X.hb d_Fr_13 (by decide) ?_
  refine R_np X hin hP hD hS (cT := (RX1, TX1, 6)) rfl 1 (Nat.le_of_ble_eq_true rfl) (Nat.le_of_ble_eq_true rfl) rfl rfl (by decide +kernel) (ctW_ok (i := 46) rfl) 8 (by decide) (by decide) (by decide) (Nat.le_of_ble_eq_true rfl) (Nat.le_of_ble_eq_true rfl) d_Fr_15 d_Fr_17 (fun q1 H locs hP hD hS => ?_)
  have hP : va_P D vwCl [(h0, .inr (1, [.ref q0, .ref q1, .null, .null, .null, .null])), (q0, .inl (cA 0, 8, .inl (fun _ => 0))), (q1, .inl (cA 0, 8, .inl (fun _ => 0)))] H := hP
  have hD : va_D A [(h0, .inr (1, [.ref q0, .ref q1, .null, .null, .null, .null])), (q0, .inl (cA 0, 8, .inl (fun _ => 0))), (q1, .inl (cA 0, 8, .inl (fun _ => 0)))] := hD
  refine lv_aload_n X.hx X.hb d_Fr_20 rfl (lv_at hl 0 rfl) ?_
  refine lv_bipush (v := 8) X.hx X.hb d_Fr_21 (by decide) ?_
  refine R_np X hin hP hD hS (cT := (RX1, TX1, 6)) rfl 2 (Nat.le_of_ble_eq_true rfl) (Nat.le_of_ble_eq_true rfl) rfl rfl (by decide +kernel) (ctW_ok (i := 47) rfl) 8 (by decide) (by decide) (by decide) (Nat.le_of_ble_eq_true rfl) (Nat.le_of_ble_eq_true rfl) d_Fr_23 d_Fr_25 (fun q2 H locs hP hD hS => ?_)
  have hP : va_P D vwCl [(h0, .inr (1, [.ref q0, .ref q1, .ref q2, .null, .null, .null])), (q0, .inl (cA 0, 8, .inl (fun _ => 0))), (q1, .inl (cA 0, 8, .inl (fun _ => 0))), (q2, .inl (cA 0, 8, .inl (fun _ => 0)))] H := hP
  have hD : va_D A [(h0, .inr (1, [.ref q0, .ref q1, .ref q2, .null, .null, .null])), (q0, .inl (cA 0, 8, .inl (fun _ => 0))), (q1, .inl (cA 0, 8, .inl (fun _ => 0))), (q2, .inl (cA 0, 8, .inl (fun _ => 0)))] := hD
  refine lv_aload_n X.hx X.hb d_Fr_28 rfl (lv_at hl 0 rfl) ?_
  refine lv_bipush (v := 8) X.hx X.hb d_Fr_29 (by decide) ?_
  refine R_np X hin hP hD hS (cT := (RX1, TX1, 6)) rfl 3 (Nat.le_of_ble_eq_true rfl) (Nat.le_of_ble_eq_true rfl) rfl rfl (by decide +kernel) (ctW_ok (i := 48) rfl) 8 (by decide) (by decide) (by decide) (Nat.le_of_ble_eq_true rfl) (Nat.le_of_ble_eq_true rfl) d_Fr_31 d_Fr_33 (fun q3 H locs hP hD hS => ?_)
  have hP : va_P D vwCl [(h0, .inr (1, [.ref q0, .ref q1, .ref q2, .ref q3, .null, .null])), (q0, .inl (cA 0, 8, .inl (fun _ => 0))), (q1, .inl (cA 0, 8, .inl (fun _ => 0))), (q2, .inl (cA 0, 8, .inl (fun _ => 0))), (q3, .inl (cA 0, 8, .inl (fun _ => 0)))] H := hP
  have hD : va_D A [(h0, .inr (1, [.ref q0, .ref q1, .ref q2, .ref q3, .null, .null])), (q0, .inl (cA 0, 8, .inl (fun _ => 0))), (q1, .inl (cA 0, 8, .inl (fun _ => 0))), (q2, .inl (cA 0, 8, .inl (fun _ => 0))), (q3, .inl (cA 0, 8, .inl (fun _ => 0)))] := hD
  refine lv_aload_n X.hx X.hb d_Fr_36 rfl (lv_at hl 0 rfl) ?_
  refine lv_sipush (v := 256) X.hx X.hb d_Fr_37 (by decide) ?_
  refine R_np X hin hP hD hS (cT := (RX1, TX1, 6)) rfl 4 (Nat.le_of_ble_eq_true rfl) (Nat.le_of_ble_eq_true rfl) rfl rfl (by decide +kernel) (ctW_ok (i := 49) rfl) 256 (by decide) (by decide) (by decide) (Nat.le_of_ble_eq_true rfl) (Nat.le_of_ble_eq_true rfl) d_Fr_40 d_Fr_42 (fun q4 H locs hP hD hS => ?_)
  have hP : va_P D vwCl [(h0, .inr (1, [.ref q0, .ref q1, .ref q2, .ref q3, .ref q4, .null])), (q0, .inl (cA 0, 8, .inl (fun _ => 0))), (q1, .inl (cA 0, 8, .inl (fun _ => 0))), (q2, .inl (cA 0, 8, .inl (fun _ => 0))), (q3, .inl (cA 0, 8, .inl (fun _ => 0))), (q4, .inl (cA 0, 256, .inl (fun _ => 0)))] H := hP
  have hD : va_D A [(h0, .inr (1, [.ref q0, .ref q1, .ref q2, .ref q3, .ref q4, .null])), (q0, .inl (cA 0, 8, .inl (fun _ => 0))), (q1, .inl (cA 0, 8, .inl (fun _ => 0))), (q2, .inl (cA 0, 8, .inl (fun _ => 0))), (q3, .inl (cA 0, 8, .inl (fun _ => 0))), (q4, .inl (cA 0, 256, .inl (fun _ => 0)))] := hD
  refine lv_aload_n X.hx X.hb d_Fr_45 rfl (lv_at hl 0 rfl) ?_
  refine lv_sipush (v := 256) X.hx X.hb d_Fr_46 (by decide) ?_
  refine R_np X hin hP hD hS (cT := (RX1, TX1, 6)) rfl 5 (Nat.le_of_ble_eq_true rfl) (Nat.le_of_ble_eq_true rfl) rfl rfl (by decide +kernel) (ctW_ok (i := 50) rfl) 256 (by decide) (by decide) (by decide) (Nat.le_of_ble_eq_true rfl) (Nat.le_of_ble_eq_true rfl) d_Fr_49 d_Fr_51 (fun q5 H locs hP hD hS => ?_)
  have hP : va_P D vwCl [(h0, .inr (1, [.ref q0, .ref q1, .ref q2, .ref q3, .ref q4, .ref q5])), (q0, .inl (cA 0, 8, .inl (fun _ => 0))), (q1, .inl (cA 0, 8, .inl (fun _ => 0))), (q2, .inl (cA 0, 8, .inl (fun _ => 0))), (q3, .inl (cA 0, 8, .inl (fun _ => 0))), (q4, .inl (cA 0, 256, .inl (fun _ => 0))), (q5, .inl (cA 0, 256, .inl (fun _ => 0)))] H := hP
  have hD : va_D A [(h0, .inr (1, [.ref q0, .ref q1, .ref q2, .ref q3, .ref q4, .ref q5])), (q0, .inl (cA 0, 8, .inl (fun _ => 0))), (q1, .inl (cA 0, 8, .inl (fun _ => 0))), (q2, .inl (cA 0, 8, .inl (fun _ => 0))), (q3, .inl (cA 0, 8, .inl (fun _ => 0))), (q4, .inl (cA 0, 256, .inl (fun _ => 0))), (q5, .inl (cA 0, 256, .inl (fun _ => 0)))] := hD
  refine lv_aload_n X.hx X.hb d_Fr_54 rfl (lv_at hl 0 rfl) ?_
  refine R_gf X hP 0 rfl (cT := (RX1, TX1, 6)) rfl 4 (Nat.le_of_ble_eq_true rfl) (v := .ref q4) rfl (ctW_ok (i := 49) rfl) d_Fr_55 ?_
  refine lv_iconst (v := -1) X.hx X.hb d_Fr_58 (by decide) ?_
  refine R_fill (wr := [(h0, .inr (1, [.ref q0, .ref q1, .ref q2, .ref q3, .ref q4, .ref q5])), (q0, .inl (cA 0, 8, .inl (fun _ => 0))), (q1, .inl (cA 0, 8, .inl (fun _ => 0))), (q2, .inl (cA 0, 8, .inl (fun _ => 0))), (q3, .inl (cA 0, 8, .inl (fun _ => 0))), (q5, .inl (cA 0, 256, .inl (fun _ => 0)))]) X hP hD hS 5 [0, 1, 2, 3, 4, 6] rfl (by decide) rfl (by decide) (by decide) (ctW_ok (i := 51) rfl) ⟨(Nat.le_of_ble_eq_true rfl), (Nat.le_of_ble_eq_true rfl)⟩ hl.1 (Nat.le_of_ble_eq_true rfl) (Nat.le_of_ble_eq_true rfl) d_Fr_59 (fun g4 H locs G104 hP hD hS => ?_)
  have hP : va_P D vwCl [(h0, .inr (1, [.ref q0, .ref q1, .ref q2, .ref q3, .ref q4, .ref q5])), (q0, .inl (cA 0, 8, .inl (fun _ => 0))), (q1, .inl (cA 0, 8, .inl (fun _ => 0))), (q2, .inl (cA 0, 8, .inl (fun _ => 0))), (q3, .inl (cA 0, 8, .inl (fun _ => 0))), (q5, .inl (cA 0, 256, .inl (fun _ => 0))), (q4, .inl (cA 0, 256, .inl g4))] H := hP
  have hD : va_D A [(h0, .inr (1, [.ref q0, .ref q1, .ref q2, .ref q3, .ref q4, .ref q5])), (q0, .inl (cA 0, 8, .inl (fun _ => 0))), (q1, .inl (cA 0, 8, .inl (fun _ => 0))), (q2, .inl (cA 0, 8, .inl (fun _ => 0))), (q3, .inl (cA 0, 8, .inl (fun _ => 0))), (q5, .inl (cA 0, 256, .inl (fun _ => 0))), (q4, .inl (cA 0, 256, .inl g4))] := hD
  refine W.widen (k := 6) (n := 544) (Nat.le_of_ble_eq_true rfl) (Nat.le_of_ble_eq_true rfl) ?_
  exact R_ret X hr hlocks (SH := xFr) (ad := (fun k => ([h0, q0, q1, q2, q3, q4, q5] : List Nat).getD k 0)) (σ := (fun k => ([fun _ => 0, fun _ => 0, fun _ => 0, fun _ => 0, fun _ => 0, g4, fun _ => 0] : List (Nat → Int32)).getD k (fun _ => 0))) (hP.sub [0, 1, 2, 3, 4, 6, 5] rfl) (hD.sub [0, 1, 2, 3, 4, 6, 5] (by decide) rfl) hS rfl (⟨fun i hi => G104 i hi, fun s hs => ⟨rfl, rfl, rfl, rfl⟩, fun f hf => rfl⟩) d_Fr_62
def xBl : List sm_Sh := [.inr (0, [.inr 1, .inr 2, .inr 3, .inr 4, .inr 5, .inr 6, .inr 7, .inr 8, .inl 0]), .inl (0, 96), .inl (0, 96), .inl (0, 96), .inl (0, 96), .inl (0, 96), .inl (0, 96), .inl (0, 96), .inl (0, 96)]
def I_Bl (σ : sm_S) : Prop := (∀ b, b < 96 → σ 1 b = -1 ∧ σ 6 b = -1 ∧ σ 7 b = 0) ∧ σ 0 8 = 0
theorem d_Bl_0 : decode prog_2_method_1_code 0 = .ok (.aload_n 0, 1) := by decide +kernel
theorem d_Bl_1 : decode prog_2_method_1_code 1 = .ok (.invokespecial 3, 3) := by decide +kernel
theorem d_Bl_4 : decode prog_2_method_1_code 4 = .ok (.aload_n 0, 1) := by decide +kernel
theorem d_Bl_5 : decode prog_2_method_1_code 5 = .ok (.bipush 96, 2) := by decide +kernel
theorem d_Bl_7 : decode prog_2_method_1_code 7 = .ok (.newarray .int, 2) := by decide +kernel
theorem d_Bl_9 : decode prog_2_method_1_code 9 = .ok (.putfield 9, 3) := by decide +kernel
theorem d_Bl_12 : decode prog_2_method_1_code 12 = .ok (.aload_n 0, 1) := by decide +kernel
theorem d_Bl_13 : decode prog_2_method_1_code 13 = .ok (.bipush 96, 2) := by decide +kernel
theorem d_Bl_15 : decode prog_2_method_1_code 15 = .ok (.newarray .int, 2) := by decide +kernel
theorem d_Bl_17 : decode prog_2_method_1_code 17 = .ok (.putfield 15, 3) := by decide +kernel
theorem d_Bl_20 : decode prog_2_method_1_code 20 = .ok (.aload_n 0, 1) := by decide +kernel
theorem d_Bl_21 : decode prog_2_method_1_code 21 = .ok (.bipush 96, 2) := by decide +kernel
theorem d_Bl_23 : decode prog_2_method_1_code 23 = .ok (.newarray .int, 2) := by decide +kernel
theorem d_Bl_25 : decode prog_2_method_1_code 25 = .ok (.putfield 18, 3) := by decide +kernel
theorem d_Bl_28 : decode prog_2_method_1_code 28 = .ok (.aload_n 0, 1) := by decide +kernel
theorem d_Bl_29 : decode prog_2_method_1_code 29 = .ok (.bipush 96, 2) := by decide +kernel
theorem d_Bl_31 : decode prog_2_method_1_code 31 = .ok (.newarray .int, 2) := by decide +kernel
theorem d_Bl_33 : decode prog_2_method_1_code 33 = .ok (.putfield 21, 3) := by decide +kernel
theorem d_Bl_36 : decode prog_2_method_1_code 36 = .ok (.aload_n 0, 1) := by decide +kernel
theorem d_Bl_37 : decode prog_2_method_1_code 37 = .ok (.bipush 96, 2) := by decide +kernel
theorem d_Bl_39 : decode prog_2_method_1_code 39 = .ok (.newarray .int, 2) := by decide +kernel
theorem d_Bl_41 : decode prog_2_method_1_code 41 = .ok (.putfield 24, 3) := by decide +kernel
theorem d_Bl_44 : decode prog_2_method_1_code 44 = .ok (.aload_n 0, 1) := by decide +kernel
theorem d_Bl_45 : decode prog_2_method_1_code 45 = .ok (.bipush 96, 2) := by decide +kernel
theorem d_Bl_47 : decode prog_2_method_1_code 47 = .ok (.newarray .int, 2) := by decide +kernel
theorem d_Bl_49 : decode prog_2_method_1_code 49 = .ok (.putfield 27, 3) := by decide +kernel
theorem d_Bl_52 : decode prog_2_method_1_code 52 = .ok (.aload_n 0, 1) := by decide +kernel
theorem d_Bl_53 : decode prog_2_method_1_code 53 = .ok (.bipush 96, 2) := by decide +kernel
theorem d_Bl_55 : decode prog_2_method_1_code 55 = .ok (.newarray .int, 2) := by decide +kernel
theorem d_Bl_57 : decode prog_2_method_1_code 57 = .ok (.putfield 30, 3) := by decide +kernel
theorem d_Bl_60 : decode prog_2_method_1_code 60 = .ok (.aload_n 0, 1) := by decide +kernel
theorem d_Bl_61 : decode prog_2_method_1_code 61 = .ok (.bipush 96, 2) := by decide +kernel
theorem d_Bl_63 : decode prog_2_method_1_code 63 = .ok (.newarray .int, 2) := by decide +kernel
theorem d_Bl_65 : decode prog_2_method_1_code 65 = .ok (.putfield 33, 3) := by decide +kernel
theorem d_Bl_68 : decode prog_2_method_1_code 68 = .ok (.aload_n 0, 1) := by decide +kernel
theorem d_Bl_69 : decode prog_2_method_1_code 69 = .ok (.iconst 0, 1) := by decide +kernel
theorem d_Bl_70 : decode prog_2_method_1_code 70 = .ok (.putfield 36, 3) := by decide +kernel
theorem d_Bl_73 : decode prog_2_method_1_code 73 = .ok (.aload_n 0, 1) := by decide +kernel
theorem d_Bl_74 : decode prog_2_method_1_code 74 = .ok (.getfield 9, 3) := by decide +kernel
theorem d_Bl_77 : decode prog_2_method_1_code 77 = .ok (.iconst (-1), 1) := by decide +kernel
theorem d_Bl_78 : decode prog_2_method_1_code 78 = .ok (.invokestatic 40, 3) := by decide +kernel
theorem d_Bl_81 : decode prog_2_method_1_code 81 = .ok (.aload_n 0, 1) := by decide +kernel
theorem d_Bl_82 : decode prog_2_method_1_code 82 = .ok (.getfield 27, 3) := by decide +kernel
theorem d_Bl_85 : decode prog_2_method_1_code 85 = .ok (.iconst (-1), 1) := by decide +kernel
theorem d_Bl_86 : decode prog_2_method_1_code 86 = .ok (.invokestatic 40, 3) := by decide +kernel
theorem d_Bl_89 : decode prog_2_method_1_code 89 = .ok (.return_, 1) := by decide +kernel
set_option maxRecDepth 100000 in
set_option maxHeartbeats 4000000 in
theorem ct_Bl {l : Launch} {cA : Nat → ClassId} {D : va_G} {tb : Nat → Nat} {Lim : Nat} : Ctor l cA D tb Lim ⟨"SpansAway$Blocks", "<init>", "()V"⟩ prog_2_method_1_code 1 23 8 768 0 [.null, .null, .null, .null, .null, .null, .null, .null, .int 0] xBl 0 I_Bl := by
  refine Ctor.ofW (by decide) rfl ?_
  intro h0 p e s m args below meth c A L X hN hin hr hlocks hl hP hD hS
  refine lv_aload_n X.hx X.hb d_Bl_0 rfl (lv_at hl 0 rfl) ?_
  refine R_obj X hl.1 (ctW_ok (i := 52) rfl) ⟨(Nat.le_of_ble_eq_true rfl), (Nat.le_of_ble_eq_true rfl)⟩ d_Bl_1 ?_
  refine lv_aload_n X.hx X.hb d_Bl_4 rfl (lv_at hl 0 rfl) ?_
  refine lv_bipush (v := 96) X.hx X.hb d_Bl_5 (by decide) ?_
  refine R_np X hin hP hD hS (cT := (RX0, TX0, 9)) rfl 0 (Nat.le_of_ble_eq_true rfl) (Nat.le_of_ble_eq_true rfl) rfl rfl (by decide +kernel) (ctW_ok (i := 53) rfl) 96 (by decide) (by decide) (by decide) (Nat.le_of_ble_eq_true rfl) (Nat.le_of_ble_eq_true rfl) d_Bl_7 d_Bl_9 (fun q0 H locs hP hD hS => ?_)
  have hP : va_P D vwCl [(h0, .inr (0, [.ref q0, .null, .null, .null, .null, .null, .null, .null, .int 0])), (q0, .inl (cA 0, 96, .inl (fun _ => 0)))] H := hP
  have hD : va_D A [(h0, .inr (0, [.ref q0, .null, .null, .null, .null, .null, .null, .null, .int 0])), (q0, .inl (cA 0, 96, .inl (fun _ => 0)))] := hD
  refine lv_aload_n X.hx X.hb d_Bl_12 rfl (lv_at hl 0 rfl) ?_
  refine lv_bipush (v := 96) X.hx X.hb d_Bl_13 (by decide) ?_
  refine R_np X hin hP hD hS (cT := (RX0, TX0, 9)) rfl 1 (Nat.le_of_ble_eq_true rfl) (Nat.le_of_ble_eq_true rfl) rfl rfl (by decide +kernel) (ctW_ok (i := 54) rfl) 96 (by decide) (by decide) (by decide) (Nat.le_of_ble_eq_true rfl) (Nat.le_of_ble_eq_true rfl) d_Bl_15 d_Bl_17 (fun q1 H locs hP hD hS => ?_)
  have hP : va_P D vwCl [(h0, .inr (0, [.ref q0, .ref q1, .null, .null, .null, .null, .null, .null, .int 0])), (q0, .inl (cA 0, 96, .inl (fun _ => 0))), (q1, .inl (cA 0, 96, .inl (fun _ => 0)))] H := hP
  have hD : va_D A [(h0, .inr (0, [.ref q0, .ref q1, .null, .null, .null, .null, .null, .null, .int 0])), (q0, .inl (cA 0, 96, .inl (fun _ => 0))), (q1, .inl (cA 0, 96, .inl (fun _ => 0)))] := hD
  refine lv_aload_n X.hx X.hb d_Bl_20 rfl (lv_at hl 0 rfl) ?_
  refine lv_bipush (v := 96) X.hx X.hb d_Bl_21 (by decide) ?_
  refine R_np X hin hP hD hS (cT := (RX0, TX0, 9)) rfl 2 (Nat.le_of_ble_eq_true rfl) (Nat.le_of_ble_eq_true rfl) rfl rfl (by decide +kernel) (ctW_ok (i := 55) rfl) 96 (by decide) (by decide) (by decide) (Nat.le_of_ble_eq_true rfl) (Nat.le_of_ble_eq_true rfl) d_Bl_23 d_Bl_25 (fun q2 H locs hP hD hS => ?_)
  have hP : va_P D vwCl [(h0, .inr (0, [.ref q0, .ref q1, .ref q2, .null, .null, .null, .null, .null, .int 0])), (q0, .inl (cA 0, 96, .inl (fun _ => 0))), (q1, .inl (cA 0, 96, .inl (fun _ => 0))), (q2, .inl (cA 0, 96, .inl (fun _ => 0)))] H := hP
  have hD : va_D A [(h0, .inr (0, [.ref q0, .ref q1, .ref q2, .null, .null, .null, .null, .null, .int 0])), (q0, .inl (cA 0, 96, .inl (fun _ => 0))), (q1, .inl (cA 0, 96, .inl (fun _ => 0))), (q2, .inl (cA 0, 96, .inl (fun _ => 0)))] := hD
  refine lv_aload_n X.hx X.hb d_Bl_28 rfl (lv_at hl 0 rfl) ?_
  refine lv_bipush (v := 96) X.hx X.hb d_Bl_29 (by decide) ?_
  refine R_np X hin hP hD hS (cT := (RX0, TX0, 9)) rfl 3 (Nat.le_of_ble_eq_true rfl) (Nat.le_of_ble_eq_true rfl) rfl rfl (by decide +kernel) (ctW_ok (i := 56) rfl) 96 (by decide) (by decide) (by decide) (Nat.le_of_ble_eq_true rfl) (Nat.le_of_ble_eq_true rfl) d_Bl_31 d_Bl_33 (fun q3 H locs hP hD hS => ?_)
  have hP : va_P D vwCl [(h0, .inr (0, [.ref q0, .ref q1, .ref q2, .ref q3, .null, .null, .null, .null, .int 0])), (q0, .inl (cA 0, 96, .inl (fun _ => 0))), (q1, .inl (cA 0, 96, .inl (fun _ => 0))), (q2, .inl (cA 0, 96, .inl (fun _ => 0))), (q3, .inl (cA 0, 96, .inl (fun _ => 0)))] H := hP
  have hD : va_D A [(h0, .inr (0, [.ref q0, .ref q1, .ref q2, .ref q3, .null, .null, .null, .null, .int 0])), (q0, .inl (cA 0, 96, .inl (fun _ => 0))), (q1, .inl (cA 0, 96, .inl (fun _ => 0))), (q2, .inl (cA 0, 96, .inl (fun _ => 0))), (q3, .inl (cA 0, 96, .inl (fun _ => 0)))] := hD
  refine lv_aload_n X.hx X.hb d_Bl_36 rfl (lv_at hl 0 rfl) ?_
  refine lv_bipush (v := 96) X.hx X.hb d_Bl_37 (by decide) ?_
  refine R_np X hin hP hD hS (cT := (RX0, TX0, 9)) rfl 4 (Nat.le_of_ble_eq_true rfl) (Nat.le_of_ble_eq_true rfl) rfl rfl (by decide +kernel) (ctW_ok (i := 57) rfl) 96 (by decide) (by decide) (by decide) (Nat.le_of_ble_eq_true rfl) (Nat.le_of_ble_eq_true rfl) d_Bl_39 d_Bl_41 (fun q4 H locs hP hD hS => ?_)
  have hP : va_P D vwCl [(h0, .inr (0, [.ref q0, .ref q1, .ref q2, .ref q3, .ref q4, .null, .null, .null, .int 0])), (q0, .inl (cA 0, 96, .inl (fun _ => 0))), (q1, .inl (cA 0, 96, .inl (fun _ => 0))), (q2, .inl (cA 0, 96, .inl (fun _ => 0))), (q3, .inl (cA 0, 96, .inl (fun _ => 0))), (q4, .inl (cA 0, 96, .inl (fun _ => 0)))] H := hP
  have hD : va_D A [(h0, .inr (0, [.ref q0, .ref q1, .ref q2, .ref q3, .ref q4, .null, .null, .null, .int 0])), (q0, .inl (cA 0, 96, .inl (fun _ => 0))), (q1, .inl (cA 0, 96, .inl (fun _ => 0))), (q2, .inl (cA 0, 96, .inl (fun _ => 0))), (q3, .inl (cA 0, 96, .inl (fun _ => 0))), (q4, .inl (cA 0, 96, .inl (fun _ => 0)))] := hD
  refine lv_aload_n X.hx X.hb d_Bl_44 rfl (lv_at hl 0 rfl) ?_
  refine lv_bipush (v := 96) X.hx X.hb d_Bl_45 (by decide) ?_
  refine R_np X hin hP hD hS (cT := (RX0, TX0, 9)) rfl 5 (Nat.le_of_ble_eq_true rfl) (Nat.le_of_ble_eq_true rfl) rfl rfl (by decide +kernel) (ctW_ok (i := 58) rfl) 96 (by decide) (by decide) (by decide) (Nat.le_of_ble_eq_true rfl) (Nat.le_of_ble_eq_true rfl) d_Bl_47 d_Bl_49 (fun q5 H locs hP hD hS => ?_)
  have hP : va_P D vwCl [(h0, .inr (0, [.ref q0, .ref q1, .ref q2, .ref q3, .ref q4, .ref q5, .null, .null, .int 0])), (q0, .inl (cA 0, 96, .inl (fun _ => 0))), (q1, .inl (cA 0, 96, .inl (fun _ => 0))), (q2, .inl (cA 0, 96, .inl (fun _ => 0))), (q3, .inl (cA 0, 96, .inl (fun _ => 0))), (q4, .inl (cA 0, 96, .inl (fun _ => 0))), (q5, .inl (cA 0, 96, .inl (fun _ => 0)))] H := hP
  have hD : va_D A [(h0, .inr (0, [.ref q0, .ref q1, .ref q2, .ref q3, .ref q4, .ref q5, .null, .null, .int 0])), (q0, .inl (cA 0, 96, .inl (fun _ => 0))), (q1, .inl (cA 0, 96, .inl (fun _ => 0))), (q2, .inl (cA 0, 96, .inl (fun _ => 0))), (q3, .inl (cA 0, 96, .inl (fun _ => 0))), (q4, .inl (cA 0, 96, .inl (fun _ => 0))), (q5, .inl (cA 0, 96, .inl (fun _ => 0)))] := hD
  refine lv_aload_n X.hx X.hb d_Bl_52 rfl (lv_at hl 0 rfl) ?_
  refine lv_bipush (v := 96) X.hx X.hb d_Bl_53 (by decide) ?_
  refine R_np X hin hP hD hS (cT := (RX0, TX0, 9)) rfl 6 (Nat.le_of_ble_eq_true rfl) (Nat.le_of_ble_eq_true rfl) rfl rfl (by decide +kernel) (ctW_ok (i := 59) rfl) 96 (by decide) (by decide) (by decide) (Nat.le_of_ble_eq_true rfl) (Nat.le_of_ble_eq_true rfl) d_Bl_55 d_Bl_57 (fun q6 H locs hP hD hS => ?_)
  have hP : va_P D vwCl [(h0, .inr (0, [.ref q0, .ref q1, .ref q2, .ref q3, .ref q4, .ref q5, .ref q6, .null, .int 0])), (q0, .inl (cA 0, 96, .inl (fun _ => 0))), (q1, .inl (cA 0, 96, .inl (fun _ => 0))), (q2, .inl (cA 0, 96, .inl (fun _ => 0))), (q3, .inl (cA 0, 96, .inl (fun _ => 0))), (q4, .inl (cA 0, 96, .inl (fun _ => 0))), (q5, .inl (cA 0, 96, .inl (fun _ => 0))), (q6, .inl (cA 0, 96, .inl (fun _ => 0)))] H := hP
  have hD : va_D A [(h0, .inr (0, [.ref q0, .ref q1, .ref q2, .ref q3, .ref q4, .ref q5, .ref q6, .null, .int 0])), (q0, .inl (cA 0, 96, .inl (fun _ => 0))), (q1, .inl (cA 0, 96, .inl (fun _ => 0))), (q2, .inl (cA 0, 96, .inl (fun _ => 0))), (q3, .inl (cA 0, 96, .inl (fun _ => 0))), (q4, .inl (cA 0, 96, .inl (fun _ => 0))), (q5, .inl (cA 0, 96, .inl (fun _ => 0))), (q6, .inl (cA 0, 96, .inl (fun _ => 0)))] := hD
  refine lv_aload_n X.hx X.hb d_Bl_60 rfl (lv_at hl 0 rfl) ?_
  refine lv_bipush (v := 96) X.hx X.hb d_Bl_61 (by decide) ?_
  refine R_np X hin hP hD hS (cT := (RX0, TX0, 9)) rfl 7 (Nat.le_of_ble_eq_true rfl) (Nat.le_of_ble_eq_true rfl) rfl rfl (by decide +kernel) (ctW_ok (i := 60) rfl) 96 (by decide) (by decide) (by decide) (Nat.le_of_ble_eq_true rfl) (Nat.le_of_ble_eq_true rfl) d_Bl_63 d_Bl_65 (fun q7 H locs hP hD hS => ?_)
  have hP : va_P D vwCl [(h0, .inr (0, [.ref q0, .ref q1, .ref q2, .ref q3, .ref q4, .ref q5, .ref q6, .ref q7, .int 0])), (q0, .inl (cA 0, 96, .inl (fun _ => 0))), (q1, .inl (cA 0, 96, .inl (fun _ => 0))), (q2, .inl (cA 0, 96, .inl (fun _ => 0))), (q3, .inl (cA 0, 96, .inl (fun _ => 0))), (q4, .inl (cA 0, 96, .inl (fun _ => 0))), (q5, .inl (cA 0, 96, .inl (fun _ => 0))), (q6, .inl (cA 0, 96, .inl (fun _ => 0))), (q7, .inl (cA 0, 96, .inl (fun _ => 0)))] H := hP
  have hD : va_D A [(h0, .inr (0, [.ref q0, .ref q1, .ref q2, .ref q3, .ref q4, .ref q5, .ref q6, .ref q7, .int 0])), (q0, .inl (cA 0, 96, .inl (fun _ => 0))), (q1, .inl (cA 0, 96, .inl (fun _ => 0))), (q2, .inl (cA 0, 96, .inl (fun _ => 0))), (q3, .inl (cA 0, 96, .inl (fun _ => 0))), (q4, .inl (cA 0, 96, .inl (fun _ => 0))), (q5, .inl (cA 0, 96, .inl (fun _ => 0))), (q6, .inl (cA 0, 96, .inl (fun _ => 0))), (q7, .inl (cA 0, 96, .inl (fun _ => 0)))] := hD
  refine lv_aload_n X.hx X.hb d_Bl_68 rfl (lv_at hl 0 rfl) ?_
  refine lv_iconst (v := 0) X.hx X.hb d_Bl_69 (by decide) ?_
  refine R_pi X hP hD hS (cT := (RX0, TX0, 9)) rfl 8 (Nat.le_of_ble_eq_true rfl) (Nat.le_of_ble_eq_true rfl) rfl (ty := .int) (by decide +kernel) rfl rfl (ctW_ok (i := 61) rfl) d_Bl_70 (fun H locs hP hD hS => ?_)
  have hP : va_P D vwCl [(h0, .inr (0, [.ref q0, .ref q1, .ref q2, .ref q3, .ref q4, .ref q5, .ref q6, .ref q7, .int 0])), (q0, .inl (cA 0, 96, .inl (fun _ => 0))), (q1, .inl (cA 0, 96, .inl (fun _ => 0))), (q2, .inl (cA 0, 96, .inl (fun _ => 0))), (q3, .inl (cA 0, 96, .inl (fun _ => 0))), (q4, .inl (cA 0, 96, .inl (fun _ => 0))), (q5, .inl (cA 0, 96, .inl (fun _ => 0))), (q6, .inl (cA 0, 96, .inl (fun _ => 0))), (q7, .inl (cA 0, 96, .inl (fun _ => 0)))] H := hP
  have hD : va_D A [(h0, .inr (0, [.ref q0, .ref q1, .ref q2, .ref q3, .ref q4, .ref q5, .ref q6, .ref q7, .int 0])), (q0, .inl (cA 0, 96, .inl (fun _ => 0))), (q1, .inl (cA 0, 96, .inl (fun _ => 0))), (q2, .inl (cA 0, 96, .inl (fun _ => 0))), (q3, .inl (cA 0, 96, .inl (fun _ => 0))), (q4, .inl (cA 0, 96, .inl (fun _ => 0))), (q5, .inl (cA 0, 96, .inl (fun _ => 0))), (q6, .inl (cA 0, 96, .inl (fun _ => 0))), (q7, .inl (cA 0, 96, .inl (fun _ => 0)))] := hD
  refine lv_aload_n X.hx X.hb d_Bl_73 rfl (lv_at hl 0 rfl) ?_
  refine R_gf X hP 0 rfl (cT := (RX0, TX0, 9)) rfl 0 (Nat.le_of_ble_eq_true rfl) (v := .ref q0) rfl (ctW_ok (i := 53) rfl) d_Bl_74 ?_
  refine lv_iconst (v := -1) X.hx X.hb d_Bl_77 (by decide) ?_
  refine R_fill (wr := [(h0, .inr (0, [.ref q0, .ref q1, .ref q2, .ref q3, .ref q4, .ref q5, .ref q6, .ref q7, .int 0])), (q1, .inl (cA 0, 96, .inl (fun _ => 0))), (q2, .inl (cA 0, 96, .inl (fun _ => 0))), (q3, .inl (cA 0, 96, .inl (fun _ => 0))), (q4, .inl (cA 0, 96, .inl (fun _ => 0))), (q5, .inl (cA 0, 96, .inl (fun _ => 0))), (q6, .inl (cA 0, 96, .inl (fun _ => 0))), (q7, .inl (cA 0, 96, .inl (fun _ => 0)))]) X hP hD hS 1 [0, 2, 3, 4, 5, 6, 7, 8] rfl (by decide) rfl (by decide) (by decide) (ctW_ok (i := 62) rfl) ⟨(Nat.le_of_ble_eq_true rfl), (Nat.le_of_ble_eq_true rfl)⟩ hl.1 (Nat.le_of_ble_eq_true rfl) (Nat.le_of_ble_eq_true rfl) d_Bl_78 (fun g0 H locs G0 hP hD hS => ?_)
  have hP : va_P D vwCl [(h0, .inr (0, [.ref q0, .ref q1, .ref q2, .ref q3, .ref q4, .ref q5, .ref q6, .ref q7, .int 0])), (q1, .inl (cA 0, 96, .inl (fun _ => 0))), (q2, .inl (cA 0, 96, .inl (fun _ => 0))), (q3, .inl (cA 0, 96, .inl (fun _ => 0))), (q4, .inl (cA 0, 96, .inl (fun _ => 0))), (q5, .inl (cA 0, 96, .inl (fun _ => 0))), (q6, .inl (cA 0, 96, .inl (fun _ => 0))), (q7, .inl (cA 0, 96, .inl (fun _ => 0))), (q0, .inl (cA 0, 96, .inl g0))] H := hP
  have hD : va_D A [(h0, .inr (0, [.ref q0, .ref q1, .ref q2, .ref q3, .ref q4, .ref q5, .ref q6, .ref q7, .int 0])), (q1, .inl (cA 0, 96, .inl (fun _ => 0))), (q2, .inl (cA 0, 96, .inl (fun _ => 0))), (q3, .inl (cA 0, 96, .inl (fun _ => 0))), (q4, .inl (cA 0, 96, .inl (fun _ => 0))), (q5, .inl (cA 0, 96, .inl (fun _ => 0))), (q6, .inl (cA 0, 96, .inl (fun _ => 0))), (q7, .inl (cA 0, 96, .inl (fun _ => 0))), (q0, .inl (cA 0, 96, .inl g0))] := hD
  refine lv_aload_n X.hx X.hb d_Bl_81 rfl (lv_at hl 0 rfl) ?_
  refine R_gf X hP 0 rfl (cT := (RX0, TX0, 9)) rfl 5 (Nat.le_of_ble_eq_true rfl) (v := .ref q5) rfl (ctW_ok (i := 58) rfl) d_Bl_82 ?_
  refine lv_iconst (v := -1) X.hx X.hb d_Bl_85 (by decide) ?_
  refine R_fill (wr := [(h0, .inr (0, [.ref q0, .ref q1, .ref q2, .ref q3, .ref q4, .ref q5, .ref q6, .ref q7, .int 0])), (q1, .inl (cA 0, 96, .inl (fun _ => 0))), (q2, .inl (cA 0, 96, .inl (fun _ => 0))), (q3, .inl (cA 0, 96, .inl (fun _ => 0))), (q4, .inl (cA 0, 96, .inl (fun _ => 0))), (q6, .inl (cA 0, 96, .inl (fun _ => 0))), (q7, .inl (cA 0, 96, .inl (fun _ => 0))), (q0, .inl (cA 0, 96, .inl g0))]) X hP hD hS 5 [0, 1, 2, 3, 4, 6, 7, 8] rfl (by decide) rfl (by decide) (by decide) (ctW_ok (i := 62) rfl) ⟨(Nat.le_of_ble_eq_true rfl), (Nat.le_of_ble_eq_true rfl)⟩ hl.1 (Nat.le_of_ble_eq_true rfl) (Nat.le_of_ble_eq_true rfl) d_Bl_86 (fun g5 H locs G5 hP hD hS => ?_)
  have hP : va_P D vwCl [(h0, .inr (0, [.ref q0, .ref q1, .ref q2, .ref q3, .ref q4, .ref q5, .ref q6, .ref q7, .int 0])), (q1, .inl (cA 0, 96, .inl (fun _ => 0))), (q2, .inl (cA 0, 96, .inl (fun _ => 0))), (q3, .inl (cA 0, 96, .inl (fun _ => 0))), (q4, .inl (cA 0, 96, .inl (fun _ => 0))), (q6, .inl (cA 0, 96, .inl (fun _ => 0))), (q7, .inl (cA 0, 96, .inl (fun _ => 0))), (q0, .inl (cA 0, 96, .inl g0)), (q5, .inl (cA 0, 96, .inl g5))] H := hP
  have hD : va_D A [(h0, .inr (0, [.ref q0, .ref q1, .ref q2, .ref q3, .ref q4, .ref q5, .ref q6, .ref q7, .int 0])), (q1, .inl (cA 0, 96, .inl (fun _ => 0))), (q2, .inl (cA 0, 96, .inl (fun _ => 0))), (q3, .inl (cA 0, 96, .inl (fun _ => 0))), (q4, .inl (cA 0, 96, .inl (fun _ => 0))), (q6, .inl (cA 0, 96, .inl (fun _ => 0))), (q7, .inl (cA 0, 96, .inl (fun _ => 0))), (q0, .inl (cA 0, 96, .inl g0)), (q5, .inl (cA 0, 96, .inl g5))] := hD
  refine W.widen (k := 8) (n := 768) (Nat.le_of_ble_eq_true rfl) (Nat.le_of_ble_eq_true rfl) ?_
  exact R_ret X hr hlocks (SH := xBl) (ad := (fun k => ([h0, q0, q1, q2, q3, q4, q5, q6, q7] : List Nat).getD k 0)) (σ := (fun k => ([fun _ => 0, g0, fun _ => 0, fun _ => 0, fun _ => 0, fun _ => 0, g5, fun _ => 0, fun _ => 0] : List (Nat → Int32)).getD k (fun _ => 0))) (hP.sub [0, 7, 1, 2, 3, 4, 8, 5, 6] rfl) (hD.sub [0, 7, 1, 2, 3, 4, 8, 5, 6] (by decide) rfl) hS rfl (⟨fun b hb => ⟨G0 b hb, G5 b hb, rfl⟩, rfl⟩) d_Bl_89
def xSp : List sm_Sh := [.inr (5, [.inr 1, .inr 2, .inr 3, .inr 4, .inr 5, .inr 6, .inr 7, .inr 8]), .inl (0, 8), .inl (0, 8), .inl (0, 8), .inl (0, 8), .inl (0, 8), .inl (0, 8), .inl (0, 8), .inl (0, 8)]
def I_Sp (σ : sm_S) : Prop := (∀ s, s < 8 → σ 1 s = 0 ∧ σ 3 s = 0 ∧ σ 6 s = 0 ∧ σ 7 s = -1) ∧ ∀ s, s < 8 → σ 2 s = -1 ∧ σ 4 s = 0 ∧ σ 5 s = 0 ∧ σ 8 s = -1
theorem d_Sp_0 : decode prog_8_method_1_code 0 = .ok (.aload_n 0, 1) := by decide +kernel
theorem d_Sp_1 : decode prog_8_method_1_code 1 = .ok (.invokespecial 3, 3) := by decide +kernel
theorem d_Sp_4 : decode prog_8_method_1_code 4 = .ok (.aload_n 0, 1) := by decide +kernel
theorem d_Sp_5 : decode prog_8_method_1_code 5 = .ok (.bipush 8, 2) := by decide +kernel
theorem d_Sp_7 : decode prog_8_method_1_code 7 = .ok (.newarray .int, 2) := by decide +kernel
theorem d_Sp_9 : decode prog_8_method_1_code 9 = .ok (.putfield 9, 3) := by decide +kernel
theorem d_Sp_12 : decode prog_8_method_1_code 12 = .ok (.aload_n 0, 1) := by decide +kernel
theorem d_Sp_13 : decode prog_8_method_1_code 13 = .ok (.bipush 8, 2) := by decide +kernel
theorem d_Sp_15 : decode prog_8_method_1_code 15 = .ok (.newarray .int, 2) := by decide +kernel
theorem d_Sp_17 : decode prog_8_method_1_code 17 = .ok (.putfield 15, 3) := by decide +kernel
theorem d_Sp_20 : decode prog_8_method_1_code 20 = .ok (.aload_n 0, 1) := by decide +kernel
theorem d_Sp_21 : decode prog_8_method_1_code 21 = .ok (.bipush 8, 2) := by decide +kernel
theorem d_Sp_23 : decode prog_8_method_1_code 23 = .ok (.newarray .int, 2) := by decide +kernel
theorem d_Sp_25 : decode prog_8_method_1_code 25 = .ok (.putfield 18, 3) := by decide +kernel
theorem d_Sp_28 : decode prog_8_method_1_code 28 = .ok (.aload_n 0, 1) := by decide +kernel
theorem d_Sp_29 : decode prog_8_method_1_code 29 = .ok (.bipush 8, 2) := by decide +kernel
theorem d_Sp_31 : decode prog_8_method_1_code 31 = .ok (.newarray .int, 2) := by decide +kernel
theorem d_Sp_33 : decode prog_8_method_1_code 33 = .ok (.putfield 21, 3) := by decide +kernel
theorem d_Sp_36 : decode prog_8_method_1_code 36 = .ok (.aload_n 0, 1) := by decide +kernel
theorem d_Sp_37 : decode prog_8_method_1_code 37 = .ok (.bipush 8, 2) := by decide +kernel
theorem d_Sp_39 : decode prog_8_method_1_code 39 = .ok (.newarray .int, 2) := by decide +kernel
theorem d_Sp_41 : decode prog_8_method_1_code 41 = .ok (.putfield 24, 3) := by decide +kernel
theorem d_Sp_44 : decode prog_8_method_1_code 44 = .ok (.aload_n 0, 1) := by decide +kernel
theorem d_Sp_45 : decode prog_8_method_1_code 45 = .ok (.bipush 8, 2) := by decide +kernel
theorem d_Sp_47 : decode prog_8_method_1_code 47 = .ok (.newarray .int, 2) := by decide +kernel
theorem d_Sp_49 : decode prog_8_method_1_code 49 = .ok (.putfield 27, 3) := by decide +kernel
theorem d_Sp_52 : decode prog_8_method_1_code 52 = .ok (.aload_n 0, 1) := by decide +kernel
theorem d_Sp_53 : decode prog_8_method_1_code 53 = .ok (.bipush 8, 2) := by decide +kernel
theorem d_Sp_55 : decode prog_8_method_1_code 55 = .ok (.newarray .int, 2) := by decide +kernel
theorem d_Sp_57 : decode prog_8_method_1_code 57 = .ok (.putfield 30, 3) := by decide +kernel
theorem d_Sp_60 : decode prog_8_method_1_code 60 = .ok (.aload_n 0, 1) := by decide +kernel
theorem d_Sp_61 : decode prog_8_method_1_code 61 = .ok (.bipush 8, 2) := by decide +kernel
theorem d_Sp_63 : decode prog_8_method_1_code 63 = .ok (.newarray .int, 2) := by decide +kernel
theorem d_Sp_65 : decode prog_8_method_1_code 65 = .ok (.putfield 33, 3) := by decide +kernel
theorem d_Sp_68 : decode prog_8_method_1_code 68 = .ok (.aload_n 0, 1) := by decide +kernel
theorem d_Sp_69 : decode prog_8_method_1_code 69 = .ok (.getfield 15, 3) := by decide +kernel
theorem d_Sp_72 : decode prog_8_method_1_code 72 = .ok (.iconst (-1), 1) := by decide +kernel
theorem d_Sp_73 : decode prog_8_method_1_code 73 = .ok (.invokestatic 36, 3) := by decide +kernel
theorem d_Sp_76 : decode prog_8_method_1_code 76 = .ok (.aload_n 0, 1) := by decide +kernel
theorem d_Sp_77 : decode prog_8_method_1_code 77 = .ok (.getfield 30, 3) := by decide +kernel
theorem d_Sp_80 : decode prog_8_method_1_code 80 = .ok (.iconst (-1), 1) := by decide +kernel
theorem d_Sp_81 : decode prog_8_method_1_code 81 = .ok (.invokestatic 36, 3) := by decide +kernel
theorem d_Sp_84 : decode prog_8_method_1_code 84 = .ok (.aload_n 0, 1) := by decide +kernel
theorem d_Sp_85 : decode prog_8_method_1_code 85 = .ok (.getfield 33, 3) := by decide +kernel
theorem d_Sp_88 : decode prog_8_method_1_code 88 = .ok (.iconst (-1), 1) := by decide +kernel
theorem d_Sp_89 : decode prog_8_method_1_code 89 = .ok (.invokestatic 36, 3) := by decide +kernel
theorem d_Sp_92 : decode prog_8_method_1_code 92 = .ok (.return_, 1) := by decide +kernel
set_option maxRecDepth 100000 in
set_option maxHeartbeats 4000000 in
theorem ct_Sp {l : Launch} {cA : Nat → ClassId} {D : va_G} {tb : Nat → Nat} {Lim : Nat} : Ctor l cA D tb Lim ⟨"SpansAway$Spans", "<init>", "()V"⟩ prog_8_method_1_code 1 23 8 64 5 [.null, .null, .null, .null, .null, .null, .null, .null] xSp 0 I_Sp := by
  refine Ctor.ofW (by decide) rfl ?_
  intro h0 p e s m args below meth c A L X hN hin hr hlocks hl hP hD hS
  refine lv_aload_n X.hx X.hb d_Sp_0 rfl (lv_at hl 0 rfl) ?_
  refine R_obj X hl.1 (ctW_ok (i := 63) rfl) ⟨(Nat.le_of_ble_eq_true rfl), (Nat.le_of_ble_eq_true rfl)⟩ d_Sp_1 ?_
  refine lv_aload_n X.hx X.hb d_Sp_4 rfl (lv_at hl 0 rfl) ?_
  refine lv_bipush (v := 8) X.hx X.hb d_Sp_5 (by decide) ?_
  refine R_np X hin hP hD hS (cT := (RX6, TX6, 8)) rfl 0 (Nat.le_of_ble_eq_true rfl) (Nat.le_of_ble_eq_true rfl) rfl rfl (by decide +kernel) (ctW_ok (i := 64) rfl) 8 (by decide) (by decide) (by decide) (Nat.le_of_ble_eq_true rfl) (Nat.le_of_ble_eq_true rfl) d_Sp_7 d_Sp_9 (fun q0 H locs hP hD hS => ?_)
  have hP : va_P D vwCl [(h0, .inr (5, [.ref q0, .null, .null, .null, .null, .null, .null, .null])), (q0, .inl (cA 0, 8, .inl (fun _ => 0)))] H := hP
  have hD : va_D A [(h0, .inr (5, [.ref q0, .null, .null, .null, .null, .null, .null, .null])), (q0, .inl (cA 0, 8, .inl (fun _ => 0)))] := hD
  refine lv_aload_n X.hx X.hb d_Sp_12 rfl (lv_at hl 0 rfl) ?_
  refine lv_bipush (v := 8) X.hx X.hb d_Sp_13 (by decide) ?_
  refine R_np X hin hP hD hS (cT := (RX6, TX6, 8)) rfl 1 (Nat.le_of_ble_eq_true rfl) (Nat.le_of_ble_eq_true rfl) rfl rfl (by decide +kernel) (ctW_ok (i := 65) rfl) 8 (by decide) (by decide) (by decide) (Nat.le_of_ble_eq_true rfl) (Nat.le_of_ble_eq_true rfl) d_Sp_15 d_Sp_17 (fun q1 H locs hP hD hS => ?_)
  have hP : va_P D vwCl [(h0, .inr (5, [.ref q0, .ref q1, .null, .null, .null, .null, .null, .null])), (q0, .inl (cA 0, 8, .inl (fun _ => 0))), (q1, .inl (cA 0, 8, .inl (fun _ => 0)))] H := hP
  have hD : va_D A [(h0, .inr (5, [.ref q0, .ref q1, .null, .null, .null, .null, .null, .null])), (q0, .inl (cA 0, 8, .inl (fun _ => 0))), (q1, .inl (cA 0, 8, .inl (fun _ => 0)))] := hD
  refine lv_aload_n X.hx X.hb d_Sp_20 rfl (lv_at hl 0 rfl) ?_
  refine lv_bipush (v := 8) X.hx X.hb d_Sp_21 (by decide) ?_
  refine R_np X hin hP hD hS (cT := (RX6, TX6, 8)) rfl 2 (Nat.le_of_ble_eq_true rfl) (Nat.le_of_ble_eq_true rfl) rfl rfl (by decide +kernel) (ctW_ok (i := 66) rfl) 8 (by decide) (by decide) (by decide) (Nat.le_of_ble_eq_true rfl) (Nat.le_of_ble_eq_true rfl) d_Sp_23 d_Sp_25 (fun q2 H locs hP hD hS => ?_)
  have hP : va_P D vwCl [(h0, .inr (5, [.ref q0, .ref q1, .ref q2, .null, .null, .null, .null, .null])), (q0, .inl (cA 0, 8, .inl (fun _ => 0))), (q1, .inl (cA 0, 8, .inl (fun _ => 0))), (q2, .inl (cA 0, 8, .inl (fun _ => 0)))] H := hP
  have hD : va_D A [(h0, .inr (5, [.ref q0, .ref q1, .ref q2, .null, .null, .null, .null, .null])), (q0, .inl (cA 0, 8, .inl (fun _ => 0))), (q1, .inl (cA 0, 8, .inl (fun _ => 0))), (q2, .inl (cA 0, 8, .inl (fun _ => 0)))] := hD
  refine lv_aload_n X.hx X.hb d_Sp_28 rfl (lv_at hl 0 rfl) ?_
  refine lv_bipush (v := 8) X.hx X.hb d_Sp_29 (by decide) ?_
  refine R_np X hin hP hD hS (cT := (RX6, TX6, 8)) rfl 3 (Nat.le_of_ble_eq_true rfl) (Nat.le_of_ble_eq_true rfl) rfl rfl (by decide +kernel) (ctW_ok (i := 67) rfl) 8 (by decide) (by decide) (by decide) (Nat.le_of_ble_eq_true rfl) (Nat.le_of_ble_eq_true rfl) d_Sp_31 d_Sp_33 (fun q3 H locs hP hD hS => ?_)
  have hP : va_P D vwCl [(h0, .inr (5, [.ref q0, .ref q1, .ref q2, .ref q3, .null, .null, .null, .null])), (q0, .inl (cA 0, 8, .inl (fun _ => 0))), (q1, .inl (cA 0, 8, .inl (fun _ => 0))), (q2, .inl (cA 0, 8, .inl (fun _ => 0))), (q3, .inl (cA 0, 8, .inl (fun _ => 0)))] H := hP
  have hD : va_D A [(h0, .inr (5, [.ref q0, .ref q1, .ref q2, .ref q3, .null, .null, .null, .null])), (q0, .inl (cA 0, 8, .inl (fun _ => 0))), (q1, .inl (cA 0, 8, .inl (fun _ => 0))), (q2, .inl (cA 0, 8, .inl (fun _ => 0))), (q3, .inl (cA 0, 8, .inl (fun _ => 0)))] := hD
  refine lv_aload_n X.hx X.hb d_Sp_36 rfl (lv_at hl 0 rfl) ?_
  refine lv_bipush (v := 8) X.hx X.hb d_Sp_37 (by decide) ?_
  refine R_np X hin hP hD hS (cT := (RX6, TX6, 8)) rfl 4 (Nat.le_of_ble_eq_true rfl) (Nat.le_of_ble_eq_true rfl) rfl rfl (by decide +kernel) (ctW_ok (i := 68) rfl) 8 (by decide) (by decide) (by decide) (Nat.le_of_ble_eq_true rfl) (Nat.le_of_ble_eq_true rfl) d_Sp_39 d_Sp_41 (fun q4 H locs hP hD hS => ?_)
  have hP : va_P D vwCl [(h0, .inr (5, [.ref q0, .ref q1, .ref q2, .ref q3, .ref q4, .null, .null, .null])), (q0, .inl (cA 0, 8, .inl (fun _ => 0))), (q1, .inl (cA 0, 8, .inl (fun _ => 0))), (q2, .inl (cA 0, 8, .inl (fun _ => 0))), (q3, .inl (cA 0, 8, .inl (fun _ => 0))), (q4, .inl (cA 0, 8, .inl (fun _ => 0)))] H := hP
  have hD : va_D A [(h0, .inr (5, [.ref q0, .ref q1, .ref q2, .ref q3, .ref q4, .null, .null, .null])), (q0, .inl (cA 0, 8, .inl (fun _ => 0))), (q1, .inl (cA 0, 8, .inl (fun _ => 0))), (q2, .inl (cA 0, 8, .inl (fun _ => 0))), (q3, .inl (cA 0, 8, .inl (fun _ => 0))), (q4, .inl (cA 0, 8, .inl (fun _ => 0)))] := hD
  refine lv_aload_n X.hx X.hb d_Sp_44 rfl (lv_at hl 0 rfl) ?_
  refine lv_bipush (v := 8) X.hx X.hb d_Sp_45 (by decide) ?_
  refine R_np X hin hP hD hS (cT := (RX6, TX6, 8)) rfl 5 (Nat.le_of_ble_eq_true rfl) (Nat.le_of_ble_eq_true rfl) rfl rfl (by decide +kernel) (ctW_ok (i := 69) rfl) 8 (by decide) (by decide) (by decide) (Nat.le_of_ble_eq_true rfl) (Nat.le_of_ble_eq_true rfl) d_Sp_47 d_Sp_49 (fun q5 H locs hP hD hS => ?_)
  have hP : va_P D vwCl [(h0, .inr (5, [.ref q0, .ref q1, .ref q2, .ref q3, .ref q4, .ref q5, .null, .null])), (q0, .inl (cA 0, 8, .inl (fun _ => 0))), (q1, .inl (cA 0, 8, .inl (fun _ => 0))), (q2, .inl (cA 0, 8, .inl (fun _ => 0))), (q3, .inl (cA 0, 8, .inl (fun _ => 0))), (q4, .inl (cA 0, 8, .inl (fun _ => 0))), (q5, .inl (cA 0, 8, .inl (fun _ => 0)))] H := hP
  have hD : va_D A [(h0, .inr (5, [.ref q0, .ref q1, .ref q2, .ref q3, .ref q4, .ref q5, .null, .null])), (q0, .inl (cA 0, 8, .inl (fun _ => 0))), (q1, .inl (cA 0, 8, .inl (fun _ => 0))), (q2, .inl (cA 0, 8, .inl (fun _ => 0))), (q3, .inl (cA 0, 8, .inl (fun _ => 0))), (q4, .inl (cA 0, 8, .inl (fun _ => 0))), (q5, .inl (cA 0, 8, .inl (fun _ => 0)))] := hD
  refine lv_aload_n X.hx X.hb d_Sp_52 rfl (lv_at hl 0 rfl) ?_
  refine lv_bipush (v := 8) X.hx X.hb d_Sp_53 (by decide) ?_
  refine R_np X hin hP hD hS (cT := (RX6, TX6, 8)) rfl 6 (Nat.le_of_ble_eq_true rfl) (Nat.le_of_ble_eq_true rfl) rfl rfl (by decide +kernel) (ctW_ok (i := 70) rfl) 8 (by decide) (by decide) (by decide) (Nat.le_of_ble_eq_true rfl) (Nat.le_of_ble_eq_true rfl) d_Sp_55 d_Sp_57 (fun q6 H locs hP hD hS => ?_)
  have hP : va_P D vwCl [(h0, .inr (5, [.ref q0, .ref q1, .ref q2, .ref q3, .ref q4, .ref q5, .ref q6, .null])), (q0, .inl (cA 0, 8, .inl (fun _ => 0))), (q1, .inl (cA 0, 8, .inl (fun _ => 0))), (q2, .inl (cA 0, 8, .inl (fun _ => 0))), (q3, .inl (cA 0, 8, .inl (fun _ => 0))), (q4, .inl (cA 0, 8, .inl (fun _ => 0))), (q5, .inl (cA 0, 8, .inl (fun _ => 0))), (q6, .inl (cA 0, 8, .inl (fun _ => 0)))] H := hP
  have hD : va_D A [(h0, .inr (5, [.ref q0, .ref q1, .ref q2, .ref q3, .ref q4, .ref q5, .ref q6, .null])), (q0, .inl (cA 0, 8, .inl (fun _ => 0))), (q1, .inl (cA 0, 8, .inl (fun _ => 0))), (q2, .inl (cA 0, 8, .inl (fun _ => 0))), (q3, .inl (cA 0, 8, .inl (fun _ => 0))), (q4, .inl (cA 0, 8, .inl (fun _ => 0))), (q5, .inl (cA 0, 8, .inl (fun _ => 0))), (q6, .inl (cA 0, 8, .inl (fun _ => 0)))] := hD
  refine lv_aload_n X.hx X.hb d_Sp_60 rfl (lv_at hl 0 rfl) ?_
  refine lv_bipush (v := 8) X.hx X.hb d_Sp_61 (by decide) ?_
  refine R_np X hin hP hD hS (cT := (RX6, TX6, 8)) rfl 7 (Nat.le_of_ble_eq_true rfl) (Nat.le_of_ble_eq_true rfl) rfl rfl (by decide +kernel) (ctW_ok (i := 71) rfl) 8 (by decide) (by decide) (by decide) (Nat.le_of_ble_eq_true rfl) (Nat.le_of_ble_eq_true rfl) d_Sp_63 d_Sp_65 (fun q7 H locs hP hD hS => ?_)
  have hP : va_P D vwCl [(h0, .inr (5, [.ref q0, .ref q1, .ref q2, .ref q3, .ref q4, .ref q5, .ref q6, .ref q7])), (q0, .inl (cA 0, 8, .inl (fun _ => 0))), (q1, .inl (cA 0, 8, .inl (fun _ => 0))), (q2, .inl (cA 0, 8, .inl (fun _ => 0))), (q3, .inl (cA 0, 8, .inl (fun _ => 0))), (q4, .inl (cA 0, 8, .inl (fun _ => 0))), (q5, .inl (cA 0, 8, .inl (fun _ => 0))), (q6, .inl (cA 0, 8, .inl (fun _ => 0))), (q7, .inl (cA 0, 8, .inl (fun _ => 0)))] H := hP
  have hD : va_D A [(h0, .inr (5, [.ref q0, .ref q1, .ref q2, .ref q3, .ref q4, .ref q5, .ref q6, .ref q7])), (q0, .inl (cA 0, 8, .inl (fun _ => 0))), (q1, .inl (cA 0, 8, .inl (fun _ => 0))), (q2, .inl (cA 0, 8, .inl (fun _ => 0))), (q3, .inl (cA 0, 8, .inl (fun _ => 0))), (q4, .inl (cA 0, 8, .inl (fun _ => 0))), (q5, .inl (cA 0, 8, .inl (fun _ => 0))), (q6, .inl (cA 0, 8, .inl (fun _ => 0))), (q7, .inl (cA 0, 8, .inl (fun _ => 0)))] := hD
  refine lv_aload_n X.hx X.hb d_Sp_68 rfl (lv_at hl 0 rfl) ?_
  refine R_gf X hP 0 rfl (cT := (RX6, TX6, 8)) rfl 1 (Nat.le_of_ble_eq_true rfl) (v := .ref q1) rfl (ctW_ok (i := 65) rfl) d_Sp_69 ?_
  refine lv_iconst (v := -1) X.hx X.hb d_Sp_72 (by decide) ?_
  refine R_fill (wr := [(h0, .inr (5, [.ref q0, .ref q1, .ref q2, .ref q3, .ref q4, .ref q5, .ref q6, .ref q7])), (q0, .inl (cA 0, 8, .inl (fun _ => 0))), (q2, .inl (cA 0, 8, .inl (fun _ => 0))), (q3, .inl (cA 0, 8, .inl (fun _ => 0))), (q4, .inl (cA 0, 8, .inl (fun _ => 0))), (q5, .inl (cA 0, 8, .inl (fun _ => 0))), (q6, .inl (cA 0, 8, .inl (fun _ => 0))), (q7, .inl (cA 0, 8, .inl (fun _ => 0)))]) X hP hD hS 2 [0, 1, 3, 4, 5, 6, 7, 8] rfl (by decide) rfl (by decide) (by decide) (ctW_ok (i := 72) rfl) ⟨(Nat.le_of_ble_eq_true rfl), (Nat.le_of_ble_eq_true rfl)⟩ hl.1 (Nat.le_of_ble_eq_true rfl) (Nat.le_of_ble_eq_true rfl) d_Sp_73 (fun g1 H locs G501 hP hD hS => ?_)
  have hP : va_P D vwCl [(h0, .inr (5, [.ref q0, .ref q1, .ref q2, .ref q3, .ref q4, .ref q5, .ref q6, .ref q7])), (q0, .inl (cA 0, 8, .inl (fun _ => 0))), (q2, .inl (cA 0, 8, .inl (fun _ => 0))), (q3, .inl (cA 0, 8, .inl (fun _ => 0))), (q4, .inl (cA 0, 8, .inl (fun _ => 0))), (q5, .inl (cA 0, 8, .inl (fun _ => 0))), (q6, .inl (cA 0, 8, .inl (fun _ => 0))), (q7, .inl (cA 0, 8, .inl (fun _ => 0))), (q1, .inl (cA 0, 8, .inl g1))] H := hP
  have hD : va_D A [(h0, .inr (5, [.ref q0, .ref q1, .ref q2, .ref q3, .ref q4, .ref q5, .ref q6, .ref q7])), (q0, .inl (cA 0, 8, .inl (fun _ => 0))), (q2, .inl (cA 0, 8, .inl (fun _ => 0))), (q3, .inl (cA 0, 8, .inl (fun _ => 0))), (q4, .inl (cA 0, 8, .inl (fun _ => 0))), (q5, .inl (cA 0, 8, .inl (fun _ => 0))), (q6, .inl (cA 0, 8, .inl (fun _ => 0))), (q7, .inl (cA 0, 8, .inl (fun _ => 0))), (q1, .inl (cA 0, 8, .inl g1))] := hD
  refine lv_aload_n X.hx X.hb d_Sp_76 rfl (lv_at hl 0 rfl) ?_
  refine R_gf X hP 0 rfl (cT := (RX6, TX6, 8)) rfl 6 (Nat.le_of_ble_eq_true rfl) (v := .ref q6) rfl (ctW_ok (i := 70) rfl) d_Sp_77 ?_
  refine lv_iconst (v := -1) X.hx X.hb d_Sp_80 (by decide) ?_
  refine R_fill (wr := [(h0, .inr (5, [.ref q0, .ref q1, .ref q2, .ref q3, .ref q4, .ref q5, .ref q6, .ref q7])), (q0, .inl (cA 0, 8, .inl (fun _ => 0))), (q2, .inl (cA 0, 8, .inl (fun _ => 0))), (q3, .inl (cA 0, 8, .inl (fun _ => 0))), (q4, .inl (cA 0, 8, .inl (fun _ => 0))), (q5, .inl (cA 0, 8, .inl (fun _ => 0))), (q7, .inl (cA 0, 8, .inl (fun _ => 0))), (q1, .inl (cA 0, 8, .inl g1))]) X hP hD hS 6 [0, 1, 2, 3, 4, 5, 7, 8] rfl (by decide) rfl (by decide) (by decide) (ctW_ok (i := 72) rfl) ⟨(Nat.le_of_ble_eq_true rfl), (Nat.le_of_ble_eq_true rfl)⟩ hl.1 (Nat.le_of_ble_eq_true rfl) (Nat.le_of_ble_eq_true rfl) d_Sp_81 (fun g6 H locs G506 hP hD hS => ?_)
  have hP : va_P D vwCl [(h0, .inr (5, [.ref q0, .ref q1, .ref q2, .ref q3, .ref q4, .ref q5, .ref q6, .ref q7])), (q0, .inl (cA 0, 8, .inl (fun _ => 0))), (q2, .inl (cA 0, 8, .inl (fun _ => 0))), (q3, .inl (cA 0, 8, .inl (fun _ => 0))), (q4, .inl (cA 0, 8, .inl (fun _ => 0))), (q5, .inl (cA 0, 8, .inl (fun _ => 0))), (q7, .inl (cA 0, 8, .inl (fun _ => 0))), (q1, .inl (cA 0, 8, .inl g1)), (q6, .inl (cA 0, 8, .inl g6))] H := hP
  have hD : va_D A [(h0, .inr (5, [.ref q0, .ref q1, .ref q2, .ref q3, .ref q4, .ref q5, .ref q6, .ref q7])), (q0, .inl (cA 0, 8, .inl (fun _ => 0))), (q2, .inl (cA 0, 8, .inl (fun _ => 0))), (q3, .inl (cA 0, 8, .inl (fun _ => 0))), (q4, .inl (cA 0, 8, .inl (fun _ => 0))), (q5, .inl (cA 0, 8, .inl (fun _ => 0))), (q7, .inl (cA 0, 8, .inl (fun _ => 0))), (q1, .inl (cA 0, 8, .inl g1)), (q6, .inl (cA 0, 8, .inl g6))] := hD
  refine lv_aload_n X.hx X.hb d_Sp_84 rfl (lv_at hl 0 rfl) ?_
  refine R_gf X hP 0 rfl (cT := (RX6, TX6, 8)) rfl 7 (Nat.le_of_ble_eq_true rfl) (v := .ref q7) rfl (ctW_ok (i := 71) rfl) d_Sp_85 ?_
  refine lv_iconst (v := -1) X.hx X.hb d_Sp_88 (by decide) ?_
  refine R_fill (wr := [(h0, .inr (5, [.ref q0, .ref q1, .ref q2, .ref q3, .ref q4, .ref q5, .ref q6, .ref q7])), (q0, .inl (cA 0, 8, .inl (fun _ => 0))), (q2, .inl (cA 0, 8, .inl (fun _ => 0))), (q3, .inl (cA 0, 8, .inl (fun _ => 0))), (q4, .inl (cA 0, 8, .inl (fun _ => 0))), (q5, .inl (cA 0, 8, .inl (fun _ => 0))), (q1, .inl (cA 0, 8, .inl g1)), (q6, .inl (cA 0, 8, .inl g6))]) X hP hD hS 6 [0, 1, 2, 3, 4, 5, 7, 8] rfl (by decide) rfl (by decide) (by decide) (ctW_ok (i := 72) rfl) ⟨(Nat.le_of_ble_eq_true rfl), (Nat.le_of_ble_eq_true rfl)⟩ hl.1 (Nat.le_of_ble_eq_true rfl) (Nat.le_of_ble_eq_true rfl) d_Sp_89 (fun g7 H locs G507 hP hD hS => ?_)
  have hP : va_P D vwCl [(h0, .inr (5, [.ref q0, .ref q1, .ref q2, .ref q3, .ref q4, .ref q5, .ref q6, .ref q7])), (q0, .inl (cA 0, 8, .inl (fun _ => 0))), (q2, .inl (cA 0, 8, .inl (fun _ => 0))), (q3, .inl (cA 0, 8, .inl (fun _ => 0))), (q4, .inl (cA 0, 8, .inl (fun _ => 0))), (q5, .inl (cA 0, 8, .inl (fun _ => 0))), (q1, .inl (cA 0, 8, .inl g1)), (q6, .inl (cA 0, 8, .inl g6)), (q7, .inl (cA 0, 8, .inl g7))] H := hP
  have hD : va_D A [(h0, .inr (5, [.ref q0, .ref q1, .ref q2, .ref q3, .ref q4, .ref q5, .ref q6, .ref q7])), (q0, .inl (cA 0, 8, .inl (fun _ => 0))), (q2, .inl (cA 0, 8, .inl (fun _ => 0))), (q3, .inl (cA 0, 8, .inl (fun _ => 0))), (q4, .inl (cA 0, 8, .inl (fun _ => 0))), (q5, .inl (cA 0, 8, .inl (fun _ => 0))), (q1, .inl (cA 0, 8, .inl g1)), (q6, .inl (cA 0, 8, .inl g6)), (q7, .inl (cA 0, 8, .inl g7))] := hD
  refine W.widen (k := 8) (n := 64) (Nat.le_of_ble_eq_true rfl) (Nat.le_of_ble_eq_true rfl) ?_
  exact R_ret X hr hlocks (SH := xSp) (ad := (fun k => ([h0, q0, q1, q2, q3, q4, q5, q6, q7] : List Nat).getD k 0)) (σ := (fun k => ([fun _ => 0, fun _ => 0, g1, fun _ => 0, fun _ => 0, fun _ => 0, fun _ => 0, g6, g7] : List (Nat → Int32)).getD k (fun _ => 0))) (hP.sub [0, 1, 6, 2, 3, 4, 5, 7, 8] rfl) (hD.sub [0, 1, 6, 2, 3, 4, 5, 7, 8] (by decide) rfl) hS rfl (⟨fun s hs => ⟨rfl, rfl, rfl, G506 s hs⟩, fun s hs => ⟨G501 s hs, rfl, rfl, G507 s hs⟩⟩) d_Sp_92
def xTa : List sm_Sh := [.inr (6, [.inr 1, .inr 2, .inr 3, .inr 4, .inr 5, .inr 6, .inr 7, .inl 0]), .inl (0, 6), .inl (0, 6), .inl (0, 6), .inl (0, 6), .inl (0, 6), .inl (0, 6), .inl (0, 6)]
def I_Ta (σ : sm_S) : Prop := (σ 0 7 = 0 ∧ ∀ t, t < 6 → σ 2 t = -1) ∧ ∀ t, t < 6 → σ 1 t = 0 ∧ σ 3 t = 0
theorem d_Ta_0 : decode prog_9_method_1_code 0 = .ok (.aload_n 0, 1) := by decide +kernel
theorem d_Ta_1 : decode prog_9_method_1_code 1 = .ok (.invokespecial 3, 3) := by decide +kernel
theorem d_Ta_4 : decode prog_9_method_1_code 4 = .ok (.aload_n 0, 1) := by decide +kernel
theorem d_Ta_5 : decode prog_9_method_1_code 5 = .ok (.bipush 6, 2) := by decide +kernel
theorem d_Ta_7 : decode prog_9_method_1_code 7 = .ok (.newarray .int, 2) := by decide +kernel
theorem d_Ta_9 : decode prog_9_method_1_code 9 = .ok (.putfield 9, 3) := by decide +kernel
theorem d_Ta_12 : decode prog_9_method_1_code 12 = .ok (.aload_n 0, 1) := by decide +kernel
theorem d_Ta_13 : decode prog_9_method_1_code 13 = .ok (.bipush 6, 2) := by decide +kernel
theorem d_Ta_15 : decode prog_9_method_1_code 15 = .ok (.newarray .int, 2) := by decide +kernel
theorem d_Ta_17 : decode prog_9_method_1_code 17 = .ok (.putfield 15, 3) := by decide +kernel
theorem d_Ta_20 : decode prog_9_method_1_code 20 = .ok (.aload_n 0, 1) := by decide +kernel
theorem d_Ta_21 : decode prog_9_method_1_code 21 = .ok (.bipush 6, 2) := by decide +kernel
theorem d_Ta_23 : decode prog_9_method_1_code 23 = .ok (.newarray .int, 2) := by decide +kernel
theorem d_Ta_25 : decode prog_9_method_1_code 25 = .ok (.putfield 18, 3) := by decide +kernel
theorem d_Ta_28 : decode prog_9_method_1_code 28 = .ok (.aload_n 0, 1) := by decide +kernel
theorem d_Ta_29 : decode prog_9_method_1_code 29 = .ok (.bipush 6, 2) := by decide +kernel
theorem d_Ta_31 : decode prog_9_method_1_code 31 = .ok (.newarray .int, 2) := by decide +kernel
theorem d_Ta_33 : decode prog_9_method_1_code 33 = .ok (.putfield 21, 3) := by decide +kernel
theorem d_Ta_36 : decode prog_9_method_1_code 36 = .ok (.aload_n 0, 1) := by decide +kernel
theorem d_Ta_37 : decode prog_9_method_1_code 37 = .ok (.bipush 6, 2) := by decide +kernel
theorem d_Ta_39 : decode prog_9_method_1_code 39 = .ok (.newarray .int, 2) := by decide +kernel
theorem d_Ta_41 : decode prog_9_method_1_code 41 = .ok (.putfield 24, 3) := by decide +kernel
theorem d_Ta_44 : decode prog_9_method_1_code 44 = .ok (.aload_n 0, 1) := by decide +kernel
theorem d_Ta_45 : decode prog_9_method_1_code 45 = .ok (.bipush 6, 2) := by decide +kernel
theorem d_Ta_47 : decode prog_9_method_1_code 47 = .ok (.newarray .int, 2) := by decide +kernel
theorem d_Ta_49 : decode prog_9_method_1_code 49 = .ok (.putfield 27, 3) := by decide +kernel
theorem d_Ta_52 : decode prog_9_method_1_code 52 = .ok (.aload_n 0, 1) := by decide +kernel
theorem d_Ta_53 : decode prog_9_method_1_code 53 = .ok (.bipush 6, 2) := by decide +kernel
theorem d_Ta_55 : decode prog_9_method_1_code 55 = .ok (.newarray .int, 2) := by decide +kernel
theorem d_Ta_57 : decode prog_9_method_1_code 57 = .ok (.putfield 30, 3) := by decide +kernel
theorem d_Ta_60 : decode prog_9_method_1_code 60 = .ok (.aload_n 0, 1) := by decide +kernel
theorem d_Ta_61 : decode prog_9_method_1_code 61 = .ok (.iconst 0, 1) := by decide +kernel
theorem d_Ta_62 : decode prog_9_method_1_code 62 = .ok (.putfield 33, 3) := by decide +kernel
theorem d_Ta_65 : decode prog_9_method_1_code 65 = .ok (.aload_n 0, 1) := by decide +kernel
theorem d_Ta_66 : decode prog_9_method_1_code 66 = .ok (.getfield 15, 3) := by decide +kernel
theorem d_Ta_69 : decode prog_9_method_1_code 69 = .ok (.iconst (-1), 1) := by decide +kernel
theorem d_Ta_70 : decode prog_9_method_1_code 70 = .ok (.invokestatic 37, 3) := by decide +kernel
theorem d_Ta_73 : decode prog_9_method_1_code 73 = .ok (.return_, 1) := by decide +kernel
set_option maxRecDepth 100000 in
set_option maxHeartbeats 4000000 in
theorem ct_Ta {l : Launch} {cA : Nat → ClassId} {D : va_G} {tb : Nat → Nat} {Lim : Nat} : Ctor l cA D tb Lim ⟨"SpansAway$Tasks", "<init>", "()V"⟩ prog_9_method_1_code 1 23 7 42 6 [.null, .null, .null, .null, .null, .null, .null, .int 0] xTa 0 I_Ta := by
  refine Ctor.ofW (by decide) rfl ?_
  intro h0 p e s m args below meth c A L X hN hin hr hlocks hl hP hD hS
  refine lv_aload_n X.hx X.hb d_Ta_0 rfl (lv_at hl 0 rfl) ?_
  refine R_obj X hl.1 (ctW_ok (i := 73) rfl) ⟨(Nat.le_of_ble_eq_true rfl), (Nat.le_of_ble_eq_true rfl)⟩ d_Ta_1 ?_
  refine lv_aload_n X.hx X.hb d_Ta_4 rfl (lv_at hl 0 rfl) ?_
  refine lv_bipush (v := 6) X.hx X.hb d_Ta_5 (by decide) ?_
  refine R_np X hin hP hD hS (cT := (RX7, TX7, 8)) rfl 0 (Nat.le_of_ble_eq_true rfl) (Nat.le_of_ble_eq_true rfl) rfl rfl (by decide +kernel) (ctW_ok (i := 74) rfl) 6 (by decide) (by decide) (by decide) (Nat.le_of_ble_eq_true rfl) (Nat.le_of_ble_eq_true rfl) d_Ta_7 d_Ta_9 (fun q0 H locs hP hD hS => ?_)
  have hP : va_P D vwCl [(h0, .inr (6, [.ref q0, .null, .null, .null, .null, .null, .null, .int 0])), (q0, .inl (cA 0, 6, .inl (fun _ => 0)))] H := hP
  have hD : va_D A [(h0, .inr (6, [.ref q0, .null, .null, .null, .null, .null, .null, .int 0])), (q0, .inl (cA 0, 6, .inl (fun _ => 0)))] := hD
  refine lv_aload_n X.hx X.hb d_Ta_12 rfl (lv_at hl 0 rfl) ?_
  refine lv_bipush (v := 6) X.hx X.hb d_Ta_13 (by decide) ?_
  refine R_np X hin hP hD hS (cT := (RX7, TX7, 8)) rfl 1 (Nat.le_of_ble_eq_true rfl) (Nat.le_of_ble_eq_true rfl) rfl rfl (by decide +kernel) (ctW_ok (i := 75) rfl) 6 (by decide) (by decide) (by decide) (Nat.le_of_ble_eq_true rfl) (Nat.le_of_ble_eq_true rfl) d_Ta_15 d_Ta_17 (fun q1 H locs hP hD hS => ?_)
  have hP : va_P D vwCl [(h0, .inr (6, [.ref q0, .ref q1, .null, .null, .null, .null, .null, .int 0])), (q0, .inl (cA 0, 6, .inl (fun _ => 0))), (q1, .inl (cA 0, 6, .inl (fun _ => 0)))] H := hP
  have hD : va_D A [(h0, .inr (6, [.ref q0, .ref q1, .null, .null, .null, .null, .null, .int 0])), (q0, .inl (cA 0, 6, .inl (fun _ => 0))), (q1, .inl (cA 0, 6, .inl (fun _ => 0)))] := hD
  refine lv_aload_n X.hx X.hb d_Ta_20 rfl (lv_at hl 0 rfl) ?_
  refine lv_bipush (v := 6) X.hx X.hb d_Ta_21 (by decide) ?_
  refine R_np X hin hP hD hS (cT := (RX7, TX7, 8)) rfl 2 (Nat.le_of_ble_eq_true rfl) (Nat.le_of_ble_eq_true rfl) rfl rfl (by decide +kernel) (ctW_ok (i := 76) rfl) 6 (by decide) (by decide) (by decide) (Nat.le_of_ble_eq_true rfl) (Nat.le_of_ble_eq_true rfl) d_Ta_23 d_Ta_25 (fun q2 H locs hP hD hS => ?_)
  have hP : va_P D vwCl [(h0, .inr (6, [.ref q0, .ref q1, .ref q2, .null, .null, .null, .null, .int 0])), (q0, .inl (cA 0, 6, .inl (fun _ => 0))), (q1, .inl (cA 0, 6, .inl (fun _ => 0))), (q2, .inl (cA 0, 6, .inl (fun _ => 0)))] H := hP
  have hD : va_D A [(h0, .inr (6, [.ref q0, .ref q1, .ref q2, .null, .null, .null, .null, .int 0])), (q0, .inl (cA 0, 6, .inl (fun _ => 0))), (q1, .inl (cA 0, 6, .inl (fun _ => 0))), (q2, .inl (cA 0, 6, .inl (fun _ => 0)))] := hD
  refine lv_aload_n X.hx X.hb d_Ta_28 rfl (lv_at hl 0 rfl) ?_
  refine lv_bipush (v := 6) X.hx X.hb d_Ta_29 (by decide) ?_
  refine R_np X hin hP hD hS (cT := (RX7, TX7, 8)) rfl 3 (Nat.le_of_ble_eq_true rfl) (Nat.le_of_ble_eq_true rfl) rfl rfl (by decide +kernel) (ctW_ok (i := 77) rfl) 6 (by decide) (by decide) (by decide) (Nat.le_of_ble_eq_true rfl) (Nat.le_of_ble_eq_true rfl) d_Ta_31 d_Ta_33 (fun q3 H locs hP hD hS => ?_)
  have hP : va_P D vwCl [(h0, .inr (6, [.ref q0, .ref q1, .ref q2, .ref q3, .null, .null, .null, .int 0])), (q0, .inl (cA 0, 6, .inl (fun _ => 0))), (q1, .inl (cA 0, 6, .inl (fun _ => 0))), (q2, .inl (cA 0, 6, .inl (fun _ => 0))), (q3, .inl (cA 0, 6, .inl (fun _ => 0)))] H := hP
  have hD : va_D A [(h0, .inr (6, [.ref q0, .ref q1, .ref q2, .ref q3, .null, .null, .null, .int 0])), (q0, .inl (cA 0, 6, .inl (fun _ => 0))), (q1, .inl (cA 0, 6, .inl (fun _ => 0))), (q2, .inl (cA 0, 6, .inl (fun _ => 0))), (q3, .inl (cA 0, 6, .inl (fun _ => 0)))] := hD
  refine lv_aload_n X.hx X.hb d_Ta_36 rfl (lv_at hl 0 rfl) ?_
  refine lv_bipush (v := 6) X.hx X.hb d_Ta_37 (by decide) ?_
  refine R_np X hin hP hD hS (cT := (RX7, TX7, 8)) rfl 4 (Nat.le_of_ble_eq_true rfl) (Nat.le_of_ble_eq_true rfl) rfl rfl (by decide +kernel) (ctW_ok (i := 78) rfl) 6 (by decide) (by decide) (by decide) (Nat.le_of_ble_eq_true rfl) (Nat.le_of_ble_eq_true rfl) d_Ta_39 d_Ta_41 (fun q4 H locs hP hD hS => ?_)
  have hP : va_P D vwCl [(h0, .inr (6, [.ref q0, .ref q1, .ref q2, .ref q3, .ref q4, .null, .null, .int 0])), (q0, .inl (cA 0, 6, .inl (fun _ => 0))), (q1, .inl (cA 0, 6, .inl (fun _ => 0))), (q2, .inl (cA 0, 6, .inl (fun _ => 0))), (q3, .inl (cA 0, 6, .inl (fun _ => 0))), (q4, .inl (cA 0, 6, .inl (fun _ => 0)))] H := hP
  have hD : va_D A [(h0, .inr (6, [.ref q0, .ref q1, .ref q2, .ref q3, .ref q4, .null, .null, .int 0])), (q0, .inl (cA 0, 6, .inl (fun _ => 0))), (q1, .inl (cA 0, 6, .inl (fun _ => 0))), (q2, .inl (cA 0, 6, .inl (fun _ => 0))), (q3, .inl (cA 0, 6, .inl (fun _ => 0))), (q4, .inl (cA 0, 6, .inl (fun _ => 0)))] := hD
  refine lv_aload_n X.hx X.hb d_Ta_44 rfl (lv_at hl 0 rfl) ?_
  refine lv_bipush (v := 6) X.hx X.hb d_Ta_45 (by decide) ?_
  refine R_np X hin hP hD hS (cT := (RX7, TX7, 8)) rfl 5 (Nat.le_of_ble_eq_true rfl) (Nat.le_of_ble_eq_true rfl) rfl rfl (by decide +kernel) (ctW_ok (i := 79) rfl) 6 (by decide) (by decide) (by decide) (Nat.le_of_ble_eq_true rfl) (Nat.le_of_ble_eq_true rfl) d_Ta_47 d_Ta_49 (fun q5 H locs hP hD hS => ?_)
  have hP : va_P D vwCl [(h0, .inr (6, [.ref q0, .ref q1, .ref q2, .ref q3, .ref q4, .ref q5, .null, .int 0])), (q0, .inl (cA 0, 6, .inl (fun _ => 0))), (q1, .inl (cA 0, 6, .inl (fun _ => 0))), (q2, .inl (cA 0, 6, .inl (fun _ => 0))), (q3, .inl (cA 0, 6, .inl (fun _ => 0))), (q4, .inl (cA 0, 6, .inl (fun _ => 0))), (q5, .inl (cA 0, 6, .inl (fun _ => 0)))] H := hP
  have hD : va_D A [(h0, .inr (6, [.ref q0, .ref q1, .ref q2, .ref q3, .ref q4, .ref q5, .null, .int 0])), (q0, .inl (cA 0, 6, .inl (fun _ => 0))), (q1, .inl (cA 0, 6, .inl (fun _ => 0))), (q2, .inl (cA 0, 6, .inl (fun _ => 0))), (q3, .inl (cA 0, 6, .inl (fun _ => 0))), (q4, .inl (cA 0, 6, .inl (fun _ => 0))), (q5, .inl (cA 0, 6, .inl (fun _ => 0)))] := hD
  refine lv_aload_n X.hx X.hb d_Ta_52 rfl (lv_at hl 0 rfl) ?_
  refine lv_bipush (v := 6) X.hx X.hb d_Ta_53 (by decide) ?_
  refine R_np X hin hP hD hS (cT := (RX7, TX7, 8)) rfl 6 (Nat.le_of_ble_eq_true rfl) (Nat.le_of_ble_eq_true rfl) rfl rfl (by decide +kernel) (ctW_ok (i := 80) rfl) 6 (by decide) (by decide) (by decide) (Nat.le_of_ble_eq_true rfl) (Nat.le_of_ble_eq_true rfl) d_Ta_55 d_Ta_57 (fun q6 H locs hP hD hS => ?_)
  have hP : va_P D vwCl [(h0, .inr (6, [.ref q0, .ref q1, .ref q2, .ref q3, .ref q4, .ref q5, .ref q6, .int 0])), (q0, .inl (cA 0, 6, .inl (fun _ => 0))), (q1, .inl (cA 0, 6, .inl (fun _ => 0))), (q2, .inl (cA 0, 6, .inl (fun _ => 0))), (q3, .inl (cA 0, 6, .inl (fun _ => 0))), (q4, .inl (cA 0, 6, .inl (fun _ => 0))), (q5, .inl (cA 0, 6, .inl (fun _ => 0))), (q6, .inl (cA 0, 6, .inl (fun _ => 0)))] H := hP
  have hD : va_D A [(h0, .inr (6, [.ref q0, .ref q1, .ref q2, .ref q3, .ref q4, .ref q5, .ref q6, .int 0])), (q0, .inl (cA 0, 6, .inl (fun _ => 0))), (q1, .inl (cA 0, 6, .inl (fun _ => 0))), (q2, .inl (cA 0, 6, .inl (fun _ => 0))), (q3, .inl (cA 0, 6, .inl (fun _ => 0))), (q4, .inl (cA 0, 6, .inl (fun _ => 0))), (q5, .inl (cA 0, 6, .inl (fun _ => 0))), (q6, .inl (cA 0, 6, .inl (fun _ => 0)))] := hD
  refine lv_aload_n X.hx X.hb d_Ta_60 rfl (lv_at hl 0 rfl) ?_
  refine lv_iconst (v := 0) X.hx X.hb d_Ta_61 (by decide) ?_
  refine R_pi X hP hD hS (cT := (RX7, TX7, 8)) rfl 7 (Nat.le_of_ble_eq_true rfl) (Nat.le_of_ble_eq_true rfl) rfl (ty := .int) (by decide +kernel) rfl rfl (ctW_ok (i := 81) rfl) d_Ta_62 (fun H locs hP hD hS => ?_)
  have hP : va_P D vwCl [(h0, .inr (6, [.ref q0, .ref q1, .ref q2, .ref q3, .ref q4, .ref q5, .ref q6, .int 0])), (q0, .inl (cA 0, 6, .inl (fun _ => 0))), (q1, .inl (cA 0, 6, .inl (fun _ => 0))), (q2, .inl (cA 0, 6, .inl (fun _ => 0))), (q3, .inl (cA 0, 6, .inl (fun _ => 0))), (q4, .inl (cA 0, 6, .inl (fun _ => 0))), (q5, .inl (cA 0, 6, .inl (fun _ => 0))), (q6, .inl (cA 0, 6, .inl (fun _ => 0)))] H := hP
  have hD : va_D A [(h0, .inr (6, [.ref q0, .ref q1, .ref q2, .ref q3, .ref q4, .ref q5, .ref q6, .int 0])), (q0, .inl (cA 0, 6, .inl (fun _ => 0))), (q1, .inl (cA 0, 6, .inl (fun _ => 0))), (q2, .inl (cA 0, 6, .inl (fun _ => 0))), (q3, .inl (cA 0, 6, .inl (fun _ => 0))), (q4, .inl (cA 0, 6, .inl (fun _ => 0))), (q5, .inl (cA 0, 6, .inl (fun _ => 0))), (q6, .inl (cA 0, 6, .inl (fun _ => 0)))] := hD
  refine lv_aload_n X.hx X.hb d_Ta_65 rfl (lv_at hl 0 rfl) ?_
  refine R_gf X hP 0 rfl (cT := (RX7, TX7, 8)) rfl 1 (Nat.le_of_ble_eq_true rfl) (v := .ref q1) rfl (ctW_ok (i := 75) rfl) d_Ta_66 ?_
  refine lv_iconst (v := -1) X.hx X.hb d_Ta_69 (by decide) ?_
  refine R_fill (wr := [(h0, .inr (6, [.ref q0, .ref q1, .ref q2, .ref q3, .ref q4, .ref q5, .ref q6, .int 0])), (q0, .inl (cA 0, 6, .inl (fun _ => 0))), (q2, .inl (cA 0, 6, .inl (fun _ => 0))), (q3, .inl (cA 0, 6, .inl (fun _ => 0))), (q4, .inl (cA 0, 6, .inl (fun _ => 0))), (q5, .inl (cA 0, 6, .inl (fun _ => 0))), (q6, .inl (cA 0, 6, .inl (fun _ => 0)))]) X hP hD hS 2 [0, 1, 3, 4, 5, 6, 7] rfl (by decide) rfl (by decide) (by decide) (ctW_ok (i := 82) rfl) ⟨(Nat.le_of_ble_eq_true rfl), (Nat.le_of_ble_eq_true rfl)⟩ hl.1 (Nat.le_of_ble_eq_true rfl) (Nat.le_of_ble_eq_true rfl) d_Ta_70 (fun g1 H locs G601 hP hD hS => ?_)
  have hP : va_P D vwCl [(h0, .inr (6, [.ref q0, .ref q1, .ref q2, .ref q3, .ref q4, .ref q5, .ref q6, .int 0])), (q0, .inl (cA 0, 6, .inl (fun _ => 0))), (q2, .inl (cA 0, 6, .inl (fun _ => 0))), (q3, .inl (cA 0, 6, .inl (fun _ => 0))), (q4, .inl (cA 0, 6, .inl (fun _ => 0))), (q5, .inl (cA 0, 6, .inl (fun _ => 0))), (q6, .inl (cA 0, 6, .inl (fun _ => 0))), (q1, .inl (cA 0, 6, .inl g1))] H := hP
  have hD : va_D A [(h0, .inr (6, [.ref q0, .ref q1, .ref q2, .ref q3, .ref q4, .ref q5, .ref q6, .int 0])), (q0, .inl (cA 0, 6, .inl (fun _ => 0))), (q2, .inl (cA 0, 6, .inl (fun _ => 0))), (q3, .inl (cA 0, 6, .inl (fun _ => 0))), (q4, .inl (cA 0, 6, .inl (fun _ => 0))), (q5, .inl (cA 0, 6, .inl (fun _ => 0))), (q6, .inl (cA 0, 6, .inl (fun _ => 0))), (q1, .inl (cA 0, 6, .inl g1))] := hD
  refine W.widen (k := 7) (n := 42) (Nat.le_of_ble_eq_true rfl) (Nat.le_of_ble_eq_true rfl) ?_
  exact R_ret X hr hlocks (SH := xTa) (ad := (fun k => ([h0, q0, q1, q2, q3, q4, q5, q6] : List Nat).getD k 0)) (σ := (fun k => ([fun _ => 0, fun _ => 0, g1, fun _ => 0, fun _ => 0, fun _ => 0, fun _ => 0, fun _ => 0] : List (Nat → Int32)).getD k (fun _ => 0))) (hP.sub [0, 1, 7, 2, 3, 4, 5, 6] rfl) (hD.sub [0, 1, 7, 2, 3, 4, 5, 6] (by decide) rfl) hS rfl (⟨⟨rfl, fun t ht => G601 t ht⟩, fun t ht => ⟨rfl, rfl⟩⟩) d_Ta_73
def xLo : List sm_Sh := [.inr (3, [.inr 1, .inr 2, .inr 3, .inr 4, .inl 0, .inl 0]), .inl (0, 60), .inl (0, 60), .inl (0, 60), .inl (0, 60)]
def I_Lo (σ : sm_S) : Prop := σ 0 5 = 0 ∧ σ 0 4 = 0 ∧ ∀ k, k < 60 → σ 1 k = 0 ∧ σ 2 k = 0 ∧ σ 3 k = 0 ∧ σ 4 k = 0
theorem d_Lo_0 : decode prog_5_method_1_code 0 = .ok (.aload_n 0, 1) := by decide +kernel
theorem d_Lo_1 : decode prog_5_method_1_code 1 = .ok (.invokespecial 3, 3) := by decide +kernel
theorem d_Lo_4 : decode prog_5_method_1_code 4 = .ok (.aload_n 0, 1) := by decide +kernel
theorem d_Lo_5 : decode prog_5_method_1_code 5 = .ok (.bipush 60, 2) := by decide +kernel
theorem d_Lo_7 : decode prog_5_method_1_code 7 = .ok (.newarray .int, 2) := by decide +kernel
theorem d_Lo_9 : decode prog_5_method_1_code 9 = .ok (.putfield 9, 3) := by decide +kernel
theorem d_Lo_12 : decode prog_5_method_1_code 12 = .ok (.aload_n 0, 1) := by decide +kernel
theorem d_Lo_13 : decode prog_5_method_1_code 13 = .ok (.bipush 60, 2) := by decide +kernel
theorem d_Lo_15 : decode prog_5_method_1_code 15 = .ok (.newarray .int, 2) := by decide +kernel
theorem d_Lo_17 : decode prog_5_method_1_code 17 = .ok (.putfield 15, 3) := by decide +kernel
theorem d_Lo_20 : decode prog_5_method_1_code 20 = .ok (.aload_n 0, 1) := by decide +kernel
theorem d_Lo_21 : decode prog_5_method_1_code 21 = .ok (.bipush 60, 2) := by decide +kernel
theorem d_Lo_23 : decode prog_5_method_1_code 23 = .ok (.newarray .int, 2) := by decide +kernel
theorem d_Lo_25 : decode prog_5_method_1_code 25 = .ok (.putfield 18, 3) := by decide +kernel
theorem d_Lo_28 : decode prog_5_method_1_code 28 = .ok (.aload_n 0, 1) := by decide +kernel
theorem d_Lo_29 : decode prog_5_method_1_code 29 = .ok (.bipush 60, 2) := by decide +kernel
theorem d_Lo_31 : decode prog_5_method_1_code 31 = .ok (.newarray .int, 2) := by decide +kernel
theorem d_Lo_33 : decode prog_5_method_1_code 33 = .ok (.putfield 21, 3) := by decide +kernel
theorem d_Lo_36 : decode prog_5_method_1_code 36 = .ok (.aload_n 0, 1) := by decide +kernel
theorem d_Lo_37 : decode prog_5_method_1_code 37 = .ok (.iconst 0, 1) := by decide +kernel
theorem d_Lo_38 : decode prog_5_method_1_code 38 = .ok (.putfield 24, 3) := by decide +kernel
theorem d_Lo_41 : decode prog_5_method_1_code 41 = .ok (.aload_n 0, 1) := by decide +kernel
theorem d_Lo_42 : decode prog_5_method_1_code 42 = .ok (.iconst 0, 1) := by decide +kernel
theorem d_Lo_43 : decode prog_5_method_1_code 43 = .ok (.putfield 28, 3) := by decide +kernel
theorem d_Lo_46 : decode prog_5_method_1_code 46 = .ok (.return_, 1) := by decide +kernel
set_option maxRecDepth 100000 in
set_option maxHeartbeats 4000000 in
theorem ct_Lo {l : Launch} {cA : Nat → ClassId} {D : va_G} {tb : Nat → Nat} {Lim : Nat} : Ctor l cA D tb Lim ⟨"SpansAway$Log", "<init>", "()V"⟩ prog_5_method_1_code 1 23 4 240 3 [.null, .null, .null, .null, .int 0, .int 0] xLo 0 I_Lo := by
  refine Ctor.ofW (by decide) rfl ?_
  intro h0 p e s m args below meth c A L X hN hin hr hlocks hl hP hD hS
  refine lv_aload_n X.hx X.hb d_Lo_0 rfl (lv_at hl 0 rfl) ?_
  refine R_obj X hl.1 (ctW_ok (i := 83) rfl) ⟨(Nat.le_of_ble_eq_true rfl), (Nat.le_of_ble_eq_true rfl)⟩ d_Lo_1 ?_
  refine lv_aload_n X.hx X.hb d_Lo_4 rfl (lv_at hl 0 rfl) ?_
  refine lv_bipush (v := 60) X.hx X.hb d_Lo_5 (by decide) ?_
  refine R_np X hin hP hD hS (cT := (RX3, TX3, 6)) rfl 0 (Nat.le_of_ble_eq_true rfl) (Nat.le_of_ble_eq_true rfl) rfl rfl (by decide +kernel) (ctW_ok (i := 84) rfl) 60 (by decide) (by decide) (by decide) (Nat.le_of_ble_eq_true rfl) (Nat.le_of_ble_eq_true rfl) d_Lo_7 d_Lo_9 (fun q0 H locs hP hD hS => ?_)
  have hP : va_P D vwCl [(h0, .inr (3, [.ref q0, .null, .null, .null, .int 0, .int 0])), (q0, .inl (cA 0, 60, .inl (fun _ => 0)))] H := hP
  have hD : va_D A [(h0, .inr (3, [.ref q0, .null, .null, .null, .int 0, .int 0])), (q0, .inl (cA 0, 60, .inl (fun _ => 0)))] := hD
  refine lv_aload_n X.hx X.hb d_Lo_12 rfl (lv_at hl 0 rfl) ?_
  refine lv_bipush (v := 60) X.hx X.hb d_Lo_13 (by decide) ?_
  refine R_np X hin hP hD hS (cT := (RX3, TX3, 6)) rfl 1 (Nat.le_of_ble_eq_true rfl) (Nat.le_of_ble_eq_true rfl) rfl rfl (by decide +kernel) (ctW_ok (i := 85) rfl) 60 (by decide) (by decide) (by decide) (Nat.le_of_ble_eq_true rfl) (Nat.le_of_ble_eq_true rfl) d_Lo_15 d_Lo_17 (fun q1 H locs hP hD hS => ?_)
  have hP : va_P D vwCl [(h0, .inr (3, [.ref q0, .ref q1, .null, .null, .int 0, .int 0])), (q0, .inl (cA 0, 60, .inl (fun _ => 0))), (q1, .inl (cA 0, 60, .inl (fun _ => 0)))] H := hP
  have hD : va_D A [(h0, .inr (3, [.ref q0, .ref q1, .null, .null, .int 0, .int 0])), (q0, .inl (cA 0, 60, .inl (fun _ => 0))), (q1, .inl (cA 0, 60, .inl (fun _ => 0)))] := hD
  refine lv_aload_n X.hx X.hb d_Lo_20 rfl (lv_at hl 0 rfl) ?_
  refine lv_bipush (v := 60) X.hx X.hb d_Lo_21 (by decide) ?_
  refine R_np X hin hP hD hS (cT := (RX3, TX3, 6)) rfl 2 (Nat.le_of_ble_eq_true rfl) (Nat.le_of_ble_eq_true rfl) rfl rfl (by decide +kernel) (ctW_ok (i := 86) rfl) 60 (by decide) (by decide) (by decide) (Nat.le_of_ble_eq_true rfl) (Nat.le_of_ble_eq_true rfl) d_Lo_23 d_Lo_25 (fun q2 H locs hP hD hS => ?_)
  have hP : va_P D vwCl [(h0, .inr (3, [.ref q0, .ref q1, .ref q2, .null, .int 0, .int 0])), (q0, .inl (cA 0, 60, .inl (fun _ => 0))), (q1, .inl (cA 0, 60, .inl (fun _ => 0))), (q2, .inl (cA 0, 60, .inl (fun _ => 0)))] H := hP
  have hD : va_D A [(h0, .inr (3, [.ref q0, .ref q1, .ref q2, .null, .int 0, .int 0])), (q0, .inl (cA 0, 60, .inl (fun _ => 0))), (q1, .inl (cA 0, 60, .inl (fun _ => 0))), (q2, .inl (cA 0, 60, .inl (fun _ => 0)))] := hD
  refine lv_aload_n X.hx X.hb d_Lo_28 rfl (lv_at hl 0 rfl) ?_
  refine lv_bipush (v := 60) X.hx X.hb d_Lo_29 (by decide) ?_
  refine R_np X hin hP hD hS (cT := (RX3, TX3, 6)) rfl 3 (Nat.le_of_ble_eq_true rfl) (Nat.le_of_ble_eq_true rfl) rfl rfl (by decide +kernel) (ctW_ok (i := 87) rfl) 60 (by decide) (by decide) (by decide) (Nat.le_of_ble_eq_true rfl) (Nat.le_of_ble_eq_true rfl) d_Lo_31 d_Lo_33 (fun q3 H locs hP hD hS => ?_)
  have hP : va_P D vwCl [(h0, .inr (3, [.ref q0, .ref q1, .ref q2, .ref q3, .int 0, .int 0])), (q0, .inl (cA 0, 60, .inl (fun _ => 0))), (q1, .inl (cA 0, 60, .inl (fun _ => 0))), (q2, .inl (cA 0, 60, .inl (fun _ => 0))), (q3, .inl (cA 0, 60, .inl (fun _ => 0)))] H := hP
  have hD : va_D A [(h0, .inr (3, [.ref q0, .ref q1, .ref q2, .ref q3, .int 0, .int 0])), (q0, .inl (cA 0, 60, .inl (fun _ => 0))), (q1, .inl (cA 0, 60, .inl (fun _ => 0))), (q2, .inl (cA 0, 60, .inl (fun _ => 0))), (q3, .inl (cA 0, 60, .inl (fun _ => 0)))] := hD
  refine lv_aload_n X.hx X.hb d_Lo_36 rfl (lv_at hl 0 rfl) ?_
  refine lv_iconst (v := 0) X.hx X.hb d_Lo_37 (by decide) ?_
  refine R_pi X hP hD hS (cT := (RX3, TX3, 6)) rfl 4 (Nat.le_of_ble_eq_true rfl) (Nat.le_of_ble_eq_true rfl) rfl (ty := .int) (by decide +kernel) rfl rfl (ctW_ok (i := 88) rfl) d_Lo_38 (fun H locs hP hD hS => ?_)
  have hP : va_P D vwCl [(h0, .inr (3, [.ref q0, .ref q1, .ref q2, .ref q3, .int 0, .int 0])), (q0, .inl (cA 0, 60, .inl (fun _ => 0))), (q1, .inl (cA 0, 60, .inl (fun _ => 0))), (q2, .inl (cA 0, 60, .inl (fun _ => 0))), (q3, .inl (cA 0, 60, .inl (fun _ => 0)))] H := hP
  have hD : va_D A [(h0, .inr (3, [.ref q0, .ref q1, .ref q2, .ref q3, .int 0, .int 0])), (q0, .inl (cA 0, 60, .inl (fun _ => 0))), (q1, .inl (cA 0, 60, .inl (fun _ => 0))), (q2, .inl (cA 0, 60, .inl (fun _ => 0))), (q3, .inl (cA 0, 60, .inl (fun _ => 0)))] := hD
  refine lv_aload_n X.hx X.hb d_Lo_41 rfl (lv_at hl 0 rfl) ?_
  refine lv_iconst (v := 0) X.hx X.hb d_Lo_42 (by decide) ?_
  refine R_pi X hP hD hS (cT := (RX3, TX3, 6)) rfl 5 (Nat.le_of_ble_eq_true rfl) (Nat.le_of_ble_eq_true rfl) rfl (ty := .int) (by decide +kernel) rfl rfl (ctW_ok (i := 89) rfl) d_Lo_43 (fun H locs hP hD hS => ?_)
  have hP : va_P D vwCl [(h0, .inr (3, [.ref q0, .ref q1, .ref q2, .ref q3, .int 0, .int 0])), (q0, .inl (cA 0, 60, .inl (fun _ => 0))), (q1, .inl (cA 0, 60, .inl (fun _ => 0))), (q2, .inl (cA 0, 60, .inl (fun _ => 0))), (q3, .inl (cA 0, 60, .inl (fun _ => 0)))] H := hP
  have hD : va_D A [(h0, .inr (3, [.ref q0, .ref q1, .ref q2, .ref q3, .int 0, .int 0])), (q0, .inl (cA 0, 60, .inl (fun _ => 0))), (q1, .inl (cA 0, 60, .inl (fun _ => 0))), (q2, .inl (cA 0, 60, .inl (fun _ => 0))), (q3, .inl (cA 0, 60, .inl (fun _ => 0)))] := hD
  refine W.widen (k := 4) (n := 240) (Nat.le_of_ble_eq_true rfl) (Nat.le_of_ble_eq_true rfl) ?_
  exact R_ret X hr hlocks (SH := xLo) (ad := (fun k => ([h0, q0, q1, q2, q3] : List Nat).getD k 0)) (σ := (fun k => ([fun _ => 0, fun _ => 0, fun _ => 0, fun _ => 0, fun _ => 0] : List (Nat → Int32)).getD k (fun _ => 0))) (hP.sub [0, 1, 2, 3, 4] rfl) (hD.sub [0, 1, 2, 3, 4] (by decide) rfl) hS rfl (⟨rfl, rfl, fun k hk => ⟨rfl, rfl, rfl, rfl⟩⟩) d_Lo_46
