/-! ===== the constructor of the model ===== -/
def xMF : List sm_Sh := [.inr (9, [.inl 0, .inr 1, .inr 2, .inr 3, .inr 4, .inl 0, .inl 1, .inr 5]), .inl (0, 2662), .inl (0, 2662), .inl (0, 2662), .inl (1, 96), .inl (0, 2662)]
theorem xMF_ok : xMF.all sm_shB = true := by decide +kernel
set_option maxRecDepth 100000 in
theorem shMM : sm_shR id xM xMF := shR_of (by decide +kernel) (fun _ _ _ _ h => h) (fun _ _ => rfl) (by decide)
def I_Mo (σ : sm_S) : Prop := lw 0 σ ∧ σ 0 6 = 0 ∧ σ 1 = stF 2 64
theorem c_beginsF (σ : sm_S) (h : ∀ i, σ 1 i = 0) (h6 : σ 0 6 = 0) : xC xMF j_M_begins [.ref 0] σ (fun r σ' => r = none ∧ I_Mo σ') := by
  have := x_up shMM (σ := σ) (c_begins2 σ h)
  refine this.mono ?_
  rintro r σ' ⟨r1, τ, rfl, ⟨rfl, rfl⟩, hs, -⟩
  have e1 : σ' 1 = stF 2 64 := by
    have := hs.1 1 (0, 2662) rfl
    rw [s_at] at this
    exact this
  have e6 : σ' 0 6 = 0 := by
    have := hs.2 0 9 _ 6 1 rfl rfl (by decide)
    rw [s_ne (by decide)] at this
    exact this.trans h6
  exact ⟨rfl, ⟨⟨0, Nat.le_refl 0, by rw [e1]; exact stF_jj⟩, fun z => absurd e6 z⟩, e6, e1⟩
theorem d_Mo_0 : decode prog_12_method_3_code 0 = .ok (.aload_n 0, 1) := by decide +kernel
theorem d_Mo_1 : decode prog_12_method_3_code 1 = .ok (.invokespecial 7, 3) := by decide +kernel
theorem d_Mo_4 : decode prog_12_method_3_code 4 = .ok (.aload_n 0, 1) := by decide +kernel
theorem d_Mo_5 : decode prog_12_method_3_code 5 = .ok (.sipush 2662, 3) := by decide +kernel
theorem d_Mo_8 : decode prog_12_method_3_code 8 = .ok (.newarray .int, 2) := by decide +kernel
theorem d_Mo_10 : decode prog_12_method_3_code 10 = .ok (.putfield 13, 3) := by decide +kernel
theorem d_Mo_13 : decode prog_12_method_3_code 13 = .ok (.aload_n 0, 1) := by decide +kernel
theorem d_Mo_14 : decode prog_12_method_3_code 14 = .ok (.sipush 2662, 3) := by decide +kernel
theorem d_Mo_17 : decode prog_12_method_3_code 17 = .ok (.newarray .int, 2) := by decide +kernel
theorem d_Mo_19 : decode prog_12_method_3_code 19 = .ok (.putfield 17, 3) := by decide +kernel
theorem d_Mo_22 : decode prog_12_method_3_code 22 = .ok (.aload_n 0, 1) := by decide +kernel
theorem d_Mo_23 : decode prog_12_method_3_code 23 = .ok (.sipush 2662, 3) := by decide +kernel
theorem d_Mo_26 : decode prog_12_method_3_code 26 = .ok (.newarray .int, 2) := by decide +kernel
theorem d_Mo_28 : decode prog_12_method_3_code 28 = .ok (.putfield 20, 3) := by decide +kernel
theorem d_Mo_31 : decode prog_12_method_3_code 31 = .ok (.aload_n 0, 1) := by decide +kernel
theorem d_Mo_32 : decode prog_12_method_3_code 32 = .ok (.bipush 96, 2) := by decide +kernel
theorem d_Mo_34 : decode prog_12_method_3_code 34 = .ok (.newarray .boolean, 2) := by decide +kernel
theorem d_Mo_36 : decode prog_12_method_3_code 36 = .ok (.putfield 23, 3) := by decide +kernel
theorem d_Mo_39 : decode prog_12_method_3_code 39 = .ok (.aload_n 0, 1) := by decide +kernel
theorem d_Mo_40 : decode prog_12_method_3_code 40 = .ok (.sipush 2662, 3) := by decide +kernel
theorem d_Mo_43 : decode prog_12_method_3_code 43 = .ok (.newarray .int, 2) := by decide +kernel
theorem d_Mo_45 : decode prog_12_method_3_code 45 = .ok (.putfield 27, 3) := by decide +kernel
theorem d_Mo_48 : decode prog_12_method_3_code 48 = .ok (.aload_n 0, 1) := by decide +kernel
theorem d_Mo_49 : decode prog_12_method_3_code 49 = .ok (.invokevirtual 30, 3) := by decide +kernel
theorem d_Mo_52 : decode prog_12_method_3_code 52 = .ok (.return_, 1) := by decide +kernel
set_option maxRecDepth 100000 in
set_option maxHeartbeats 400000 in
theorem ct_Mo {l : Launch} {cA : Nat → ClassId} {D : va_G} {tb : Nat → Nat} {Lim : Nat} : Ctor l cA D tb Lim ⟨"SpansAwayModel", "<init>", "()V"⟩ prog_12_method_3_code 2 43 5 10744 9 [.int 0, .null, .null, .null, .null, .int 0, .int 0, .null] xMF 0 I_Mo := by
  refine Ctor.ofW (by decide) rfl ?_
  intro h0 p e s m args below meth c A L X hN hin hr hlocks hl hP hD hS
  refine lv_aload_n X.hx X.hb d_Mo_0 rfl (lv_at hl 0 rfl) ?_
  refine R_obj X hl.1 (ctW_ok (i := 137) rfl) ⟨(Nat.le_of_ble_eq_true rfl), (Nat.le_of_ble_eq_true rfl)⟩ d_Mo_1 ?_
  refine lv_aload_n X.hx X.hb d_Mo_4 rfl (lv_at hl 0 rfl) ?_
  refine lv_sipush (v := 2662) X.hx X.hb d_Mo_5 (by decide) ?_
  refine R_np X hin hP hD hS (cT := (RX10, TX10, 8)) rfl 1 (Nat.le_of_ble_eq_true rfl) (Nat.le_of_ble_eq_true rfl) rfl rfl (by decide +kernel) (ctW_ok (i := 138) rfl) 2662 (by decide) (by decide) (by decide) (Nat.le_of_ble_eq_true rfl) (Nat.le_of_ble_eq_true rfl) d_Mo_8 d_Mo_10 (fun q1 H locs hP hD hS => ?_)
  have hP : va_P D vwCl [(h0, .inr (9, [.int 0, .ref q1, .null, .null, .null, .int 0, .int 0, .null])), (q1, .inl (cA 0, 2662, .inl (fun _ => 0)))] H := hP
  have hD : va_D A [(h0, .inr (9, [.int 0, .ref q1, .null, .null, .null, .int 0, .int 0, .null])), (q1, .inl (cA 0, 2662, .inl (fun _ => 0)))] := hD
  refine lv_aload_n X.hx X.hb d_Mo_13 rfl (lv_at hl 0 rfl) ?_
  refine lv_sipush (v := 2662) X.hx X.hb d_Mo_14 (by decide) ?_
  refine R_np X hin hP hD hS (cT := (RX10, TX10, 8)) rfl 2 (Nat.le_of_ble_eq_true rfl) (Nat.le_of_ble_eq_true rfl) rfl rfl (by decide +kernel) (ctW_ok (i := 139) rfl) 2662 (by decide) (by decide) (by decide) (Nat.le_of_ble_eq_true rfl) (Nat.le_of_ble_eq_true rfl) d_Mo_17 d_Mo_19 (fun q2 H locs hP hD hS => ?_)
  have hP : va_P D vwCl [(h0, .inr (9, [.int 0, .ref q1, .ref q2, .null, .null, .int 0, .int 0, .null])), (q1, .inl (cA 0, 2662, .inl (fun _ => 0))), (q2, .inl (cA 0, 2662, .inl (fun _ => 0)))] H := hP
  have hD : va_D A [(h0, .inr (9, [.int 0, .ref q1, .ref q2, .null, .null, .int 0, .int 0, .null])), (q1, .inl (cA 0, 2662, .inl (fun _ => 0))), (q2, .inl (cA 0, 2662, .inl (fun _ => 0)))] := hD
  refine lv_aload_n X.hx X.hb d_Mo_22 rfl (lv_at hl 0 rfl) ?_
  refine lv_sipush (v := 2662) X.hx X.hb d_Mo_23 (by decide) ?_
  refine R_np X hin hP hD hS (cT := (RX10, TX10, 8)) rfl 3 (Nat.le_of_ble_eq_true rfl) (Nat.le_of_ble_eq_true rfl) rfl rfl (by decide +kernel) (ctW_ok (i := 140) rfl) 2662 (by decide) (by decide) (by decide) (Nat.le_of_ble_eq_true rfl) (Nat.le_of_ble_eq_true rfl) d_Mo_26 d_Mo_28 (fun q3 H locs hP hD hS => ?_)
  have hP : va_P D vwCl [(h0, .inr (9, [.int 0, .ref q1, .ref q2, .ref q3, .null, .int 0, .int 0, .null])), (q1, .inl (cA 0, 2662, .inl (fun _ => 0))), (q2, .inl (cA 0, 2662, .inl (fun _ => 0))), (q3, .inl (cA 0, 2662, .inl (fun _ => 0)))] H := hP
  have hD : va_D A [(h0, .inr (9, [.int 0, .ref q1, .ref q2, .ref q3, .null, .int 0, .int 0, .null])), (q1, .inl (cA 0, 2662, .inl (fun _ => 0))), (q2, .inl (cA 0, 2662, .inl (fun _ => 0))), (q3, .inl (cA 0, 2662, .inl (fun _ => 0)))] := hD
  refine lv_aload_n X.hx X.hb d_Mo_31 rfl (lv_at hl 0 rfl) ?_
  refine lv_bipush (v := 96) X.hx X.hb d_Mo_32 (by decide) ?_
  refine R_nb X hin hP hD hS (cT := (RX10, TX10, 8)) rfl 4 (Nat.le_of_ble_eq_true rfl) (Nat.le_of_ble_eq_true rfl) rfl rfl (by decide +kernel) (ctW_ok (i := 141) rfl) 96 (by decide) (by decide) (by decide) (Nat.le_of_ble_eq_true rfl) (Nat.le_of_ble_eq_true rfl) d_Mo_34 d_Mo_36 (fun q4 H locs hP hD hS => ?_)
  have hP : va_P D vwCl [(h0, .inr (9, [.int 0, .ref q1, .ref q2, .ref q3, .ref q4, .int 0, .int 0, .null])), (q1, .inl (cA 0, 2662, .inl (fun _ => 0))), (q2, .inl (cA 0, 2662, .inl (fun _ => 0))), (q3, .inl (cA 0, 2662, .inl (fun _ => 0))), (q4, .inl (cA 1, 96, .inl (fun _ => 0)))] H := hP
  have hD : va_D A [(h0, .inr (9, [.int 0, .ref q1, .ref q2, .ref q3, .ref q4, .int 0, .int 0, .null])), (q1, .inl (cA 0, 2662, .inl (fun _ => 0))), (q2, .inl (cA 0, 2662, .inl (fun _ => 0))), (q3, .inl (cA 0, 2662, .inl (fun _ => 0))), (q4, .inl (cA 1, 96, .inl (fun _ => 0)))] := hD
  refine lv_aload_n X.hx X.hb d_Mo_39 rfl (lv_at hl 0 rfl) ?_
  refine lv_sipush (v := 2662) X.hx X.hb d_Mo_40 (by decide) ?_
  refine R_np X hin hP hD hS (cT := (RX10, TX10, 8)) rfl 7 (Nat.le_of_ble_eq_true rfl) (Nat.le_of_ble_eq_true rfl) rfl rfl (by decide +kernel) (ctW_ok (i := 142) rfl) 2662 (by decide) (by decide) (by decide) (Nat.le_of_ble_eq_true rfl) (Nat.le_of_ble_eq_true rfl) d_Mo_43 d_Mo_45 (fun q5 H locs hP hD hS => ?_)
  have hP : va_P D vwCl [(h0, .inr (9, [.int 0, .ref q1, .ref q2, .ref q3, .ref q4, .int 0, .int 0, .ref q5])), (q1, .inl (cA 0, 2662, .inl (fun _ => 0))), (q2, .inl (cA 0, 2662, .inl (fun _ => 0))), (q3, .inl (cA 0, 2662, .inl (fun _ => 0))), (q4, .inl (cA 1, 96, .inl (fun _ => 0))), (q5, .inl (cA 0, 2662, .inl (fun _ => 0)))] H := hP
  have hD : va_D A [(h0, .inr (9, [.int 0, .ref q1, .ref q2, .ref q3, .ref q4, .int 0, .int 0, .ref q5])), (q1, .inl (cA 0, 2662, .inl (fun _ => 0))), (q2, .inl (cA 0, 2662, .inl (fun _ => 0))), (q3, .inl (cA 0, 2662, .inl (fun _ => 0))), (q4, .inl (cA 1, 96, .inl (fun _ => 0))), (q5, .inl (cA 0, 2662, .inl (fun _ => 0)))] := hD
  have hE : ([(h0, .inr (9, [.int 0, .ref q1, .ref q2, .ref q3, .ref q4, .int 0, .int 0, .ref q5])), (q1, .inl (cA 0, 2662, .inl (fun _ => 0))), (q2, .inl (cA 0, 2662, .inl (fun _ => 0))), (q3, .inl (cA 0, 2662, .inl (fun _ => 0))), (q4, .inl (cA 1, 96, .inl (fun _ => 0))), (q5, .inl (cA 0, 2662, .inl (fun _ => 0)))] : va_W) = sm_W xMF (glu 6 (fun k => ([h0, q1, q2, q3, q4, q5] : List Nat).getD k 0) (fun k => tb (6 + k))) cA (fun _ _ => 0) := rfl
  rw [hE] at hP hD
  refine lv_aload_n X.hx X.hb d_Mo_48 rfl (lv_at hl 0 rfl) ?_
  refine R_smV (rest := []) X hP hD hS (List.all_eq_true.mp xMF_ok) (fun t z _ => by rw [glu_s (by omega)]; exact congrArg tb (by omega)) (j := j_M_begins) (M := m_M_begins) rfl (a := 0) (as := []) (c_beginsF _ (fun _ => rfl) rfl) rfl (ctW_ok (i := 143) rfl) (by decide) (by decide) (by decide) ⟨(Nat.le_of_ble_eq_true rfl), (Nat.le_of_ble_eq_true rfl)⟩ hl.1 (by decide) (Nat.le_of_ble_eq_true rfl) (Nat.le_of_ble_eq_true rfl) d_Mo_49 ?_
  rintro r σ' H1 locs1 ⟨rfl, hlw⟩ hP hD hS
  refine W.widen (k := 5) (n := 10744) (Nat.le_of_ble_eq_true rfl) (Nat.le_of_ble_eq_true rfl) ?_
  exact R_ret X hr hlocks (SH := xMF) (ad := (glu 6 (fun k => ([h0, q1, q2, q3, q4, q5] : List Nat).getD k 0) (fun k => tb (6 + k)))) hP hD hS rfl hlw d_Mo_52
theorem df_Mo : ∀ j, j < 8 → defaultValue (tyX10 j) = vp_V [.int 0, .null, .null, .null, .null, .int 0, .int 0, .null] j := by
  intro j hj
  match j, hj with
  | 0, _ => rfl
  | 1, _ => rfl
  | 2, _ => rfl
  | 3, _ => rfl
  | 4, _ => rfl
  | 5, _ => rfl
  | 6, _ => rfl
  | 7, _ => rfl
  | k + 8, hj => omega
