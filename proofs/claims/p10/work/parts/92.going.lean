/-! ===== the constructors of Going and Thought ===== -/
theorem at_cons {x : Nat × va_E} {l : va_W} {i : Nat} {q : Nat × va_E} (h : l[i]? = some q) : (x :: l)[i + 1]? = some q := by
  rw [List.getElem?_cons_succ]
  exact h
theorem d_Go_0 : decode prog_4_method_1_code 0 = .ok (.aload_n 0, 1) := by decide +kernel
theorem d_Go_1 : decode prog_4_method_1_code 1 = .ok (.invokespecial 3, 3) := by decide +kernel
theorem d_Go_4 : decode prog_4_method_1_code 4 = .ok (.aload_n 0, 1) := by decide +kernel
theorem d_Go_5 : decode prog_4_method_1_code 5 = .ok (.new 9, 3) := by decide +kernel
theorem d_Go_8 : decode prog_4_method_1_code 8 = .ok (.dup, 1) := by decide +kernel
theorem d_Go_9 : decode prog_4_method_1_code 9 = .ok (.invokespecial 11, 3) := by decide +kernel
theorem d_Go_12 : decode prog_4_method_1_code 12 = .ok (.putfield 12, 3) := by decide +kernel
theorem d_Go_15 : decode prog_4_method_1_code 15 = .ok (.aload_n 0, 1) := by decide +kernel
theorem d_Go_16 : decode prog_4_method_1_code 16 = .ok (.aload_n 0, 1) := by decide +kernel
theorem d_Go_17 : decode prog_4_method_1_code 17 = .ok (.getfield 12, 3) := by decide +kernel
theorem d_Go_20 : decode prog_4_method_1_code 20 = .ok (.getfield 18, 3) := by decide +kernel
theorem d_Go_23 : decode prog_4_method_1_code 23 = .ok (.putfield 22, 3) := by decide +kernel
theorem d_Go_26 : decode prog_4_method_1_code 26 = .ok (.aload_n 0, 1) := by decide +kernel
theorem d_Go_27 : decode prog_4_method_1_code 27 = .ok (.aload_n 0, 1) := by decide +kernel
theorem d_Go_28 : decode prog_4_method_1_code 28 = .ok (.getfield 12, 3) := by decide +kernel
theorem d_Go_31 : decode prog_4_method_1_code 31 = .ok (.getfield 23, 3) := by decide +kernel
theorem d_Go_34 : decode prog_4_method_1_code 34 = .ok (.putfield 27, 3) := by decide +kernel
theorem d_Go_37 : decode prog_4_method_1_code 37 = .ok (.aload_n 0, 1) := by decide +kernel
theorem d_Go_38 : decode prog_4_method_1_code 38 = .ok (.aload_n 0, 1) := by decide +kernel
theorem d_Go_39 : decode prog_4_method_1_code 39 = .ok (.getfield 12, 3) := by decide +kernel
theorem d_Go_42 : decode prog_4_method_1_code 42 = .ok (.getfield 28, 3) := by decide +kernel
theorem d_Go_45 : decode prog_4_method_1_code 45 = .ok (.putfield 32, 3) := by decide +kernel
theorem d_Go_48 : decode prog_4_method_1_code 48 = .ok (.return_, 1) := by decide +kernel
set_option maxRecDepth 100000 in
set_option maxHeartbeats 400000 in
theorem W_Go {AD : Nat → Nat} {cA : Nat → ClassId} {h0 : Nat} {a1 : Nat → Nat} {σ1 : sm_S} (e0 : ∀ k, k < 41 → AD (0 + k) = a1 k) (e1 : AD 41 = h0) : wlk AD xD (glu 41 a1 (fun _ => h0)) cA (glu 41 σ1 (fun _ _ => 0)) = sm_W xR a1 cA σ1 ++ (([(h0, .inr (2, [.ref (a1 0), .ref (a1 1), .ref (a1 8), .ref (a1 17)]))] : va_W)) := (wlk_app2 (SH := xD) (P := xR.map (shf 0)) (S := xD.drop 41) (by decide +kernel) rfl (wlk_shf (n := 41) (by decide +kernel) e0) (by show ([(h0, .inr (2, [.ref (AD 0), .ref (AD 1), .ref (AD 8), .ref (AD 17)]))] : va_W) = [(h0, .inr (2, [.ref (a1 0), .ref (a1 1), .ref (a1 8), .ref (a1 17)]))]; rw [(show AD 0 = a1 0 from e0 0 (by decide)), (show AD 1 = a1 1 from e0 1 (by decide)), (show AD 8 = a1 8 from e0 8 (by decide)), (show AD 17 = a1 17 from e0 17 (by decide))]))
def I_Go (σ : sm_S) : Prop := I_Me σ
set_option maxRecDepth 100000 in
set_option maxHeartbeats 400000 in
theorem ct_Go {l : Launch} {cA : Nat → ClassId} {D : va_G} {tb : Nat → Nat} {Lim : Nat} : Ctor l cA D tb Lim ⟨"SpansAway$Going", "<init>", "()V"⟩ prog_4_method_1_code 3 63 41 1718 2 [.null, .null, .null, .null] xD 41 I_Go := by
  refine Ctor.ofW (by decide) rfl ?_
  intro h0 p e s m args below meth c A L X hN hin hr hlocks hl hP hD hS
  refine lv_aload_n X.hx X.hb d_Go_0 rfl (lv_at hl 0 rfl) ?_
  refine R_obj X hl.1 (ctW_ok (i := 108) rfl) ⟨(Nat.le_of_ble_eq_true rfl), (Nat.le_of_ble_eq_true rfl)⟩ d_Go_1 ?_
  refine lv_aload_n X.hx X.hb d_Go_4 rfl (lv_at hl 0 rfl) ?_
  refine R_new3 X hN hP hD hS hl.1 ct_Me (cT := (RX4, TX4, 8)) rfl rfl tyX4_ok df_Me rfl (by decide +kernel) (ctW_ok (i := 109) rfl) (ctW_ok (i := 27) rfl) (ctW_ok (i := 26) rfl) (ctW_ok (i := 25) rfl) (ctW_ok (i := 24) rfl) (Or.inr (List.mem_of_getElem? (i := 1) rfl)) ⟨(Nat.le_of_ble_eq_true rfl), (Nat.le_of_ble_eq_true rfl)⟩ (Nat.le_of_ble_eq_true rfl) (Nat.le_of_ble_eq_true rfl) (Nat.le_of_ble_eq_true rfl) d_Go_5 d_Go_8 d_Go_9 (fun a1 σ1 H locs i1 hP hD hS => ?_)
  have hP : va_P D vwCl ((h0, .inr (2, [.null, .null, .null, .null])) :: (sm_W xR a1 cA σ1)) H := hP
  have hD : va_D A ((h0, .inr (2, [.null, .null, .null, .null])) :: (sm_W xR a1 cA σ1)) := hD
  refine R_pf X hin hP hD hS (cT := (RX2, TX2, 4)) rfl 0 (Nat.le_of_ble_eq_true rfl) (Nat.le_of_ble_eq_true rfl) rfl rfl (ty := .object "SpansAway$Memory") (by decide +kernel) rfl rfl (ctW_ok (i := 110) rfl) d_Go_12 (fun H locs hP hD hS => ?_)
  have hP : va_P D vwCl ((h0, .inr (2, [.ref (a1 0), .null, .null, .null])) :: (sm_W xR a1 cA σ1)) H := hP
  have hD : va_D A ((h0, .inr (2, [.ref (a1 0), .null, .null, .null])) :: (sm_W xR a1 cA σ1)) := hD
  have hm : ∀ x : Nat × va_E, (x :: sm_W xR a1 cA σ1)[1]? = some (a1 0, .inr (4, [.ref (a1 1), .ref (a1 8), .ref (a1 17), .ref (a1 26), .ref (a1 34), .ref (a1 39), .ref (a1 40), .int (σ1 0 7)])) := fun x => at_cons (i := 0) <| sm_W_at (SH := xR) (s := .inr (4, [.inr 1, .inr 8, .inr 17, .inr 26, .inr 34, .inr 39, .inr 40, .inl 0])) rfl
  refine lv_aload_n X.hx X.hb d_Go_15 rfl (lv_at hl 0 rfl) ?_
  refine lv_aload_n X.hx X.hb d_Go_16 rfl (lv_at hl 0 rfl) ?_
  refine R_gf X hP 0 rfl (cT := (RX2, TX2, 4)) rfl 0 (Nat.le_of_ble_eq_true rfl) (v := .ref (a1 0)) rfl (ctW_ok (i := 110) rfl) d_Go_17 ?_
  refine R_gf X hP 1 (hm _) (cT := (RX4, TX4, 8)) rfl 0 (Nat.le_of_ble_eq_true rfl) (v := .ref (a1 1)) rfl (ctW_ok (i := 111) rfl) d_Go_20 ?_
  refine R_pf X hin hP hD hS (cT := (RX2, TX2, 4)) rfl 1 (Nat.le_of_ble_eq_true rfl) (Nat.le_of_ble_eq_true rfl) rfl rfl (ty := .object "SpansAway$Frames") (by decide +kernel) rfl rfl (ctW_ok (i := 112) rfl) d_Go_23 (fun H locs hP hD hS => ?_)
  have hP : va_P D vwCl ((h0, .inr (2, [.ref (a1 0), .ref (a1 1), .null, .null])) :: (sm_W xR a1 cA σ1)) H := hP
  have hD : va_D A ((h0, .inr (2, [.ref (a1 0), .ref (a1 1), .null, .null])) :: (sm_W xR a1 cA σ1)) := hD
  refine lv_aload_n X.hx X.hb d_Go_26 rfl (lv_at hl 0 rfl) ?_
  refine lv_aload_n X.hx X.hb d_Go_27 rfl (lv_at hl 0 rfl) ?_
  refine R_gf X hP 0 rfl (cT := (RX2, TX2, 4)) rfl 0 (Nat.le_of_ble_eq_true rfl) (v := .ref (a1 0)) rfl (ctW_ok (i := 110) rfl) d_Go_28 ?_
  refine R_gf X hP 1 (hm _) (cT := (RX4, TX4, 8)) rfl 1 (Nat.le_of_ble_eq_true rfl) (v := .ref (a1 8)) rfl (ctW_ok (i := 113) rfl) d_Go_31 ?_
  refine R_pf X hin hP hD hS (cT := (RX2, TX2, 4)) rfl 2 (Nat.le_of_ble_eq_true rfl) (Nat.le_of_ble_eq_true rfl) rfl rfl (ty := .object "SpansAway$Blocks") (by decide +kernel) rfl rfl (ctW_ok (i := 114) rfl) d_Go_34 (fun H locs hP hD hS => ?_)
  have hP : va_P D vwCl ((h0, .inr (2, [.ref (a1 0), .ref (a1 1), .ref (a1 8), .null])) :: (sm_W xR a1 cA σ1)) H := hP
  have hD : va_D A ((h0, .inr (2, [.ref (a1 0), .ref (a1 1), .ref (a1 8), .null])) :: (sm_W xR a1 cA σ1)) := hD
  refine lv_aload_n X.hx X.hb d_Go_37 rfl (lv_at hl 0 rfl) ?_
  refine lv_aload_n X.hx X.hb d_Go_38 rfl (lv_at hl 0 rfl) ?_
  refine R_gf X hP 0 rfl (cT := (RX2, TX2, 4)) rfl 0 (Nat.le_of_ble_eq_true rfl) (v := .ref (a1 0)) rfl (ctW_ok (i := 110) rfl) d_Go_39 ?_
  refine R_gf X hP 1 (hm _) (cT := (RX4, TX4, 8)) rfl 2 (Nat.le_of_ble_eq_true rfl) (v := .ref (a1 17)) rfl (ctW_ok (i := 115) rfl) d_Go_42 ?_
  refine R_pf X hin hP hD hS (cT := (RX2, TX2, 4)) rfl 3 (Nat.le_of_ble_eq_true rfl) (Nat.le_of_ble_eq_true rfl) rfl rfl (ty := .object "SpansAway$Spans") (by decide +kernel) rfl rfl (ctW_ok (i := 116) rfl) d_Go_45 (fun H locs hP hD hS => ?_)
  have hP : va_P D vwCl ((h0, .inr (2, [.ref (a1 0), .ref (a1 1), .ref (a1 8), .ref (a1 17)])) :: (sm_W xR a1 cA σ1)) H := hP
  have hD : va_D A ((h0, .inr (2, [.ref (a1 0), .ref (a1 1), .ref (a1 8), .ref (a1 17)])) :: (sm_W xR a1 cA σ1)) := hD
  refine W.widen (k := 41) (n := 1718) (Nat.le_of_ble_eq_true rfl) (Nat.le_of_ble_eq_true rfl) ?_
  have hE := W_Go (cA := cA) (AD := (glu 41 a1 (fun _ => h0))) (h0 := h0) (a1 := a1) (σ1 := σ1) (fun k hk => by rw [glu_l (by omega)]; exact congrArg a1 (by omega)) rfl
  have hp : List.Perm ((h0, .inr (2, [.ref (a1 0), .ref (a1 1), .ref (a1 8), .ref (a1 17)])) :: sm_W xR a1 cA σ1 : va_W) (wlk (glu 41 a1 (fun _ => h0)) xD (glu 41 a1 (fun _ => h0)) cA (glu 41 σ1 (fun _ _ => 0))) := by
    rw [hE]
    exact (List.perm_append_singleton _ _).symm
  exact R_ret X hr hlocks (SH := xD) (ad := (glu 41 a1 (fun _ => h0))) (σ := (glu 41 σ1 (fun _ _ => 0))) (hP.perm hp) (hD.perm hp) hS rfl ⟨i1.1, i1.2.1, i1.2.2.1, i1.2.2.2.1, i1.2.2.2.2.1, i1.2.2.2.2.2⟩ d_Go_48
theorem d_Th_0 : decode prog_10_method_1_code 0 = .ok (.aload_n 0, 1) := by decide +kernel
theorem d_Th_1 : decode prog_10_method_1_code 1 = .ok (.invokespecial 3, 3) := by decide +kernel
theorem d_Th_4 : decode prog_10_method_1_code 4 = .ok (.aload_n 0, 1) := by decide +kernel
theorem d_Th_5 : decode prog_10_method_1_code 5 = .ok (.new 9, 3) := by decide +kernel
theorem d_Th_8 : decode prog_10_method_1_code 8 = .ok (.dup, 1) := by decide +kernel
theorem d_Th_9 : decode prog_10_method_1_code 9 = .ok (.invokespecial 11, 3) := by decide +kernel
theorem d_Th_12 : decode prog_10_method_1_code 12 = .ok (.putfield 12, 3) := by decide +kernel
theorem d_Th_15 : decode prog_10_method_1_code 15 = .ok (.aload_n 0, 1) := by decide +kernel
theorem d_Th_16 : decode prog_10_method_1_code 16 = .ok (.aload_n 0, 1) := by decide +kernel
theorem d_Th_17 : decode prog_10_method_1_code 17 = .ok (.getfield 12, 3) := by decide +kernel
theorem d_Th_20 : decode prog_10_method_1_code 20 = .ok (.getfield 18, 3) := by decide +kernel
theorem d_Th_23 : decode prog_10_method_1_code 23 = .ok (.putfield 22, 3) := by decide +kernel
theorem d_Th_26 : decode prog_10_method_1_code 26 = .ok (.aload_n 0, 1) := by decide +kernel
theorem d_Th_27 : decode prog_10_method_1_code 27 = .ok (.new 25, 3) := by decide +kernel
theorem d_Th_30 : decode prog_10_method_1_code 30 = .ok (.dup, 1) := by decide +kernel
theorem d_Th_31 : decode prog_10_method_1_code 31 = .ok (.invokespecial 27, 3) := by decide +kernel
theorem d_Th_34 : decode prog_10_method_1_code 34 = .ok (.putfield 28, 3) := by decide +kernel
theorem d_Th_37 : decode prog_10_method_1_code 37 = .ok (.aload_n 0, 1) := by decide +kernel
theorem d_Th_38 : decode prog_10_method_1_code 38 = .ok (.iconst 0, 1) := by decide +kernel
theorem d_Th_39 : decode prog_10_method_1_code 39 = .ok (.putfield 31, 3) := by decide +kernel
theorem d_Th_42 : decode prog_10_method_1_code 42 = .ok (.aload_n 0, 1) := by decide +kernel
theorem d_Th_43 : decode prog_10_method_1_code 43 = .ok (.iconst 0, 1) := by decide +kernel
theorem d_Th_44 : decode prog_10_method_1_code 44 = .ok (.putfield 35, 3) := by decide +kernel
theorem d_Th_47 : decode prog_10_method_1_code 47 = .ok (.return_, 1) := by decide +kernel
def xTh : List sm_Sh := [.inr (4, [.inr 1, .inr 8, .inr 17, .inr 26, .inr 34, .inr 39, .inr 40, .inl 0]), .inr (1, [.inr 2, .inr 3, .inr 4, .inr 5, .inr 6, .inr 7]), .inl (0, 8), .inl (0, 8), .inl (0, 8), .inl (0, 8), .inl (0, 256), .inl (0, 256), .inr (0, [.inr 9, .inr 10, .inr 11, .inr 12, .inr 13, .inr 14, .inr 15, .inr 16, .inl 0]), .inl (0, 96), .inl (0, 96), .inl (0, 96), .inl (0, 96), .inl (0, 96), .inl (0, 96), .inl (0, 96), .inl (0, 96), .inr (5, [.inr 18, .inr 19, .inr 20, .inr 21, .inr 22, .inr 23, .inr 24, .inr 25]), .inl (0, 8), .inl (0, 8), .inl (0, 8), .inl (0, 8), .inl (0, 8), .inl (0, 8), .inl (0, 8), .inl (0, 8), .inr (6, [.inr 27, .inr 28, .inr 29, .inr 30, .inr 31, .inr 32, .inr 33, .inl 0]), .inl (0, 6), .inl (0, 6), .inl (0, 6), .inl (0, 6), .inl (0, 6), .inl (0, 6), .inl (0, 6), .inr (3, [.inr 35, .inr 36, .inr 37, .inr 38, .inl 0, .inl 0]), .inl (0, 60), .inl (0, 60), .inl (0, 60), .inl (0, 60), .inl (0, 4), .inl (0, 11), .inr (2, [.inr 0, .inr 1, .inr 8, .inr 17]), .inr (7, [.inr 41, .inr 0, .inr 43, .inl 0, .inl 0]), .inr (4, [.inr 44, .inr 51, .inr 60, .inr 69, .inr 77, .inr 82, .inr 83, .inl 0]), .inr (1, [.inr 45, .inr 46, .inr 47, .inr 48, .inr 49, .inr 50]), .inl (0, 8), .inl (0, 8), .inl (0, 8), .inl (0, 8), .inl (0, 256), .inl (0, 256), .inr (0, [.inr 52, .inr 53, .inr 54, .inr 55, .inr 56, .inr 57, .inr 58, .inr 59, .inl 0]), .inl (0, 96), .inl (0, 96), .inl (0, 96), .inl (0, 96), .inl (0, 96), .inl (0, 96), .inl (0, 96), .inl (0, 96), .inr (5, [.inr 61, .inr 62, .inr 63, .inr 64, .inr 65, .inr 66, .inr 67, .inr 68]), .inl (0, 8), .inl (0, 8), .inl (0, 8), .inl (0, 8), .inl (0, 8), .inl (0, 8), .inl (0, 8), .inl (0, 8), .inr (6, [.inr 70, .inr 71, .inr 72, .inr 73, .inr 74, .inr 75, .inr 76, .inl 0]), .inl (0, 6), .inl (0, 6), .inl (0, 6), .inl (0, 6), .inl (0, 6), .inl (0, 6), .inl (0, 6), .inr (3, [.inr 78, .inr 79, .inr 80, .inr 81, .inl 0, .inl 0]), .inl (0, 60), .inl (0, 60), .inl (0, 60), .inl (0, 60), .inl (0, 4), .inl (0, 11)]
set_option maxRecDepth 100000 in
set_option maxHeartbeats 400000 in
theorem W_Th {AD : Nat → Nat} {cA : Nat → ClassId} {h0 : Nat} {a1 a2 : Nat → Nat} {σ1 σ2 : sm_S} (e0 : ∀ k, k < 42 → AD (0 + k) = a1 k) (e1 : AD 42 = h0) (e2 : ∀ k, k < 41 → AD (43 + k) = a2 k) : wlk AD xTh (glu 42 a1 (glu 1 (fun _ => h0) a2)) cA (glu 42 σ1 (glu 1 (fun _ _ => 0) σ2)) = sm_W xD a1 cA σ1 ++ (([(h0, .inr (7, [.ref (a1 41), .ref (a1 0), .ref (a2 0), .int 0, .int 0]))] : va_W) ++ (sm_W xR a2 cA σ2)) := (wlk_app2 (SH := xTh) (P := xD.map (shf 0)) (S := xTh.drop 42) (by decide +kernel) rfl (wlk_shf (n := 42) (by decide +kernel) e0) (wlk_app2 (SH := xTh.drop 42) (P := (xTh.drop 42).take 1) (S := xTh.drop 43) (by decide +kernel) rfl (by show ([(h0, .inr (7, [.ref (AD 41), .ref (AD 0), .ref (AD 43), .int 0, .int 0]))] : va_W) = [(h0, .inr (7, [.ref (a1 41), .ref (a1 0), .ref (a2 0), .int 0, .int 0]))]; rw [(show AD 41 = a1 41 from e0 41 (by decide)), (show AD 0 = a1 0 from e0 0 (by decide)), (show AD 43 = a2 0 from e2 0 (by decide))]) ((congrArg (fun z => wlk AD z a2 cA σ2) (show xTh.drop 43 = xR.map (shf 43) from by decide +kernel)).trans (wlk_shf (n := 41) (by decide +kernel) e2))))
def I_Th (σ : sm_S) : Prop := σ 34 5 = 0 ∧ σ 77 5 = 0
set_option maxRecDepth 100000 in
set_option maxHeartbeats 400000 in
theorem ct_Th {l : Launch} {cA : Nat → ClassId} {D : va_G} {tb : Nat → Nat} {Lim : Nat} : Ctor l cA D tb Lim ⟨"SpansAway$Thought", "<init>", "()V"⟩ prog_10_method_1_code 4 83 83 3440 7 [.null, .null, .null, .int 0, .int 0] xTh 42 I_Th := by
  refine Ctor.ofW (by decide) rfl ?_
  intro h0 p e s m args below meth c A L X hN hin hr hlocks hl hP hD hS
  refine lv_aload_n X.hx X.hb d_Th_0 rfl (lv_at hl 0 rfl) ?_
  refine R_obj X hl.1 (ctW_ok (i := 117) rfl) ⟨(Nat.le_of_ble_eq_true rfl), (Nat.le_of_ble_eq_true rfl)⟩ d_Th_1 ?_
  refine lv_aload_n X.hx X.hb d_Th_4 rfl (lv_at hl 0 rfl) ?_
  refine R_new3 X hN hP hD hS hl.1 ct_Go (cT := (RX2, TX2, 4)) rfl rfl tyX2_ok df_Go rfl (by decide +kernel) (ctW_ok (i := 118) rfl) (ctW_ok (i := 31) rfl) (ctW_ok (i := 30) rfl) (ctW_ok (i := 29) rfl) (ctW_ok (i := 28) rfl) (Or.inr (List.mem_of_getElem? (i := 2) rfl)) ⟨(Nat.le_of_ble_eq_true rfl), (Nat.le_of_ble_eq_true rfl)⟩ (Nat.le_of_ble_eq_true rfl) (Nat.le_of_ble_eq_true rfl) (Nat.le_of_ble_eq_true rfl) d_Th_5 d_Th_8 d_Th_9 (fun a1 σ1 H locs i1 hP hD hS => ?_)
  have hP : va_P D vwCl ((h0, .inr (7, [.null, .null, .null, .int 0, .int 0])) :: (sm_W xD a1 cA σ1)) H := hP
  have hD : va_D A ((h0, .inr (7, [.null, .null, .null, .int 0, .int 0])) :: (sm_W xD a1 cA σ1)) := hD
  refine R_pf X hin hP hD hS (cT := (RX8, TX8, 5)) rfl 0 (Nat.le_of_ble_eq_true rfl) (Nat.le_of_ble_eq_true rfl) rfl rfl (ty := .object "SpansAway$Going") (by decide +kernel) rfl rfl (ctW_ok (i := 119) rfl) d_Th_12 (fun H locs hP hD hS => ?_)
  have hP : va_P D vwCl ((h0, .inr (7, [.ref (a1 41), .null, .null, .int 0, .int 0])) :: (sm_W xD a1 cA σ1)) H := hP
  have hD : va_D A ((h0, .inr (7, [.ref (a1 41), .null, .null, .int 0, .int 0])) :: (sm_W xD a1 cA σ1)) := hD
  have hg : ∀ x : Nat × va_E, (x :: sm_W xD a1 cA σ1)[42]? = some (a1 41, .inr (2, [.ref (a1 0), .ref (a1 1), .ref (a1 8), .ref (a1 17)])) := fun x => at_cons (i := 41) <| sm_W_at (SH := xD) (s := .inr (2, [.inr 0, .inr 1, .inr 8, .inr 17])) rfl
  refine lv_aload_n X.hx X.hb d_Th_15 rfl (lv_at hl 0 rfl) ?_
  refine lv_aload_n X.hx X.hb d_Th_16 rfl (lv_at hl 0 rfl) ?_
  refine R_gf X hP 0 rfl (cT := (RX8, TX8, 5)) rfl 0 (Nat.le_of_ble_eq_true rfl) (v := .ref (a1 41)) rfl (ctW_ok (i := 119) rfl) d_Th_17 ?_
  refine R_gf X hP 42 (hg _) (cT := (RX2, TX2, 4)) rfl 0 (Nat.le_of_ble_eq_true rfl) (v := .ref (a1 0)) rfl (ctW_ok (i := 120) rfl) d_Th_20 ?_
  refine R_pf X hin hP hD hS (cT := (RX8, TX8, 5)) rfl 1 (Nat.le_of_ble_eq_true rfl) (Nat.le_of_ble_eq_true rfl) rfl rfl (ty := .object "SpansAway$Memory") (by decide +kernel) rfl rfl (ctW_ok (i := 121) rfl) d_Th_23 (fun H locs hP hD hS => ?_)
  have hP : va_P D vwCl ((h0, .inr (7, [.ref (a1 41), .ref (a1 0), .null, .int 0, .int 0])) :: (sm_W xD a1 cA σ1)) H := hP
  have hD : va_D A ((h0, .inr (7, [.ref (a1 41), .ref (a1 0), .null, .int 0, .int 0])) :: (sm_W xD a1 cA σ1)) := hD
  refine lv_aload_n X.hx X.hb d_Th_26 rfl (lv_at hl 0 rfl) ?_
  refine R_new3 X hN hP hD hS hl.1 ct_Me (cT := (RX4, TX4, 8)) rfl rfl tyX4_ok df_Me rfl (by decide +kernel) (ctW_ok (i := 122) rfl) (ctW_ok (i := 27) rfl) (ctW_ok (i := 26) rfl) (ctW_ok (i := 25) rfl) (ctW_ok (i := 24) rfl) (Or.inr (List.mem_of_getElem? (i := 3) rfl)) ⟨(Nat.le_of_ble_eq_true rfl), (Nat.le_of_ble_eq_true rfl)⟩ (Nat.le_of_ble_eq_true rfl) (Nat.le_of_ble_eq_true rfl) (Nat.le_of_ble_eq_true rfl) d_Th_27 d_Th_30 d_Th_31 (fun a2 σ2 H locs i2 hP hD hS => ?_)
  have hP : va_P D vwCl ((h0, .inr (7, [.ref (a1 41), .ref (a1 0), .null, .int 0, .int 0])) :: (sm_W xD a1 cA σ1 ++ sm_W xR a2 cA σ2)) H := hP
  have hD : va_D A ((h0, .inr (7, [.ref (a1 41), .ref (a1 0), .null, .int 0, .int 0])) :: (sm_W xD a1 cA σ1 ++ sm_W xR a2 cA σ2)) := hD
  refine R_pf X hin hP hD hS (cT := (RX8, TX8, 5)) rfl 2 (Nat.le_of_ble_eq_true rfl) (Nat.le_of_ble_eq_true rfl) rfl rfl (ty := .object "SpansAway$Memory") (by decide +kernel) rfl rfl (ctW_ok (i := 123) rfl) d_Th_34 (fun H locs hP hD hS => ?_)
  have hP : va_P D vwCl ((h0, .inr (7, [.ref (a1 41), .ref (a1 0), .ref (a2 0), .int 0, .int 0])) :: (sm_W xD a1 cA σ1 ++ sm_W xR a2 cA σ2)) H := hP
  have hD : va_D A ((h0, .inr (7, [.ref (a1 41), .ref (a1 0), .ref (a2 0), .int 0, .int 0])) :: (sm_W xD a1 cA σ1 ++ sm_W xR a2 cA σ2)) := hD
  refine lv_aload_n X.hx X.hb d_Th_37 rfl (lv_at hl 0 rfl) ?_
  refine lv_iconst (v := 0) X.hx X.hb d_Th_38 (by decide) ?_
  refine R_pi X hP hD hS (cT := (RX8, TX8, 5)) rfl 3 (Nat.le_of_ble_eq_true rfl) (Nat.le_of_ble_eq_true rfl) rfl (ty := .int) (by decide +kernel) rfl rfl (ctW_ok (i := 124) rfl) d_Th_39 (fun H locs hP hD hS => ?_)
  have hP : va_P D vwCl ((h0, .inr (7, [.ref (a1 41), .ref (a1 0), .ref (a2 0), .int 0, .int 0])) :: (sm_W xD a1 cA σ1 ++ sm_W xR a2 cA σ2)) H := hP
  have hD : va_D A ((h0, .inr (7, [.ref (a1 41), .ref (a1 0), .ref (a2 0), .int 0, .int 0])) :: (sm_W xD a1 cA σ1 ++ sm_W xR a2 cA σ2)) := hD
  refine lv_aload_n X.hx X.hb d_Th_42 rfl (lv_at hl 0 rfl) ?_
  refine lv_iconst (v := 0) X.hx X.hb d_Th_43 (by decide) ?_
  refine R_pi X hP hD hS (cT := (RX8, TX8, 5)) rfl 4 (Nat.le_of_ble_eq_true rfl) (Nat.le_of_ble_eq_true rfl) rfl (ty := .int) (by decide +kernel) rfl rfl (ctW_ok (i := 125) rfl) d_Th_44 (fun H locs hP hD hS => ?_)
  have hP : va_P D vwCl ((h0, .inr (7, [.ref (a1 41), .ref (a1 0), .ref (a2 0), .int 0, .int 0])) :: (sm_W xD a1 cA σ1 ++ sm_W xR a2 cA σ2)) H := hP
  have hD : va_D A ((h0, .inr (7, [.ref (a1 41), .ref (a1 0), .ref (a2 0), .int 0, .int 0])) :: (sm_W xD a1 cA σ1 ++ sm_W xR a2 cA σ2)) := hD
  refine W.widen (k := 83) (n := 3440) (Nat.le_of_ble_eq_true rfl) (Nat.le_of_ble_eq_true rfl) ?_
  have hE := W_Th (cA := cA) (AD := (glu 42 a1 (glu 1 (fun _ => h0) a2))) (h0 := h0) (a1 := a1) (a2 := a2) (σ1 := σ1) (σ2 := σ2) (fun k hk => by rw [glu_l (by omega)]; exact congrArg a1 (by omega)) rfl (fun k hk => by rw [glu_s (by omega), glu_s (by omega)]; exact congrArg a2 (by omega))
  have hp : List.Perm ((h0, .inr (7, [.ref (a1 41), .ref (a1 0), .ref (a2 0), .int 0, .int 0])) :: (sm_W xD a1 cA σ1 ++ sm_W xR a2 cA σ2) : va_W) (wlk (glu 42 a1 (glu 1 (fun _ => h0) a2)) xTh (glu 42 a1 (glu 1 (fun _ => h0) a2)) cA (glu 42 σ1 (glu 1 (fun _ _ => 0) σ2))) := by
    rw [hE]
    exact List.perm_middle.symm
  exact R_ret X hr hlocks (SH := xTh) (ad := (glu 42 a1 (glu 1 (fun _ => h0) a2))) (σ := (glu 42 σ1 (glu 1 (fun _ _ => 0) σ2))) (hP.perm hp) (hD.perm hp) hS rfl ⟨i1.2.2.2.2.1, i2.2.2.2.2.1⟩ d_Th_47
