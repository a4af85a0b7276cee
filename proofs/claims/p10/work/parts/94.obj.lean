/-! ===== the constructor of SpansAway ===== -/
def xA : List sm_Sh := [.inr (4, [.inr 1, .inr 8, .inr 17, .inr 26, .inr 34, .inr 39, .inr 40, .inl 0]), .inr (1, [.inr 2, .inr 3, .inr 4, .inr 5, .inr 6, .inr 7]), .inl (0, 8), .inl (0, 8), .inl (0, 8), .inl (0, 8), .inl (0, 256), .inl (0, 256), .inr (0, [.inr 9, .inr 10, .inr 11, .inr 12, .inr 13, .inr 14, .inr 15, .inr 16, .inl 0]), .inl (0, 96), .inl (0, 96), .inl (0, 96), .inl (0, 96), .inl (0, 96), .inl (0, 96), .inl (0, 96), .inl (0, 96), .inr (5, [.inr 18, .inr 19, .inr 20, .inr 21, .inr 22, .inr 23, .inr 24, .inr 25]), .inl (0, 8), .inl (0, 8), .inl (0, 8), .inl (0, 8), .inl (0, 8), .inl (0, 8), .inl (0, 8), .inl (0, 8), .inr (6, [.inr 27, .inr 28, .inr 29, .inr 30, .inr 31, .inr 32, .inr 33, .inl 0]), .inl (0, 6), .inl (0, 6), .inl (0, 6), .inl (0, 6), .inl (0, 6), .inl (0, 6), .inl (0, 6), .inr (3, [.inr 35, .inr 36, .inr 37, .inr 38, .inl 0, .inl 0]), .inl (0, 60), .inl (0, 60), .inl (0, 60), .inl (0, 60), .inl (0, 4), .inl (0, 11), .inr (2, [.inr 0, .inr 1, .inr 8, .inr 17]), .inr (8, [.inr 41, .inr 0, .inr 127, .inr 85, .inl 1]), .inr (4, [.inr 44, .inr 51, .inr 60, .inr 69, .inr 77, .inr 82, .inr 83, .inl 0]), .inr (1, [.inr 45, .inr 46, .inr 47, .inr 48, .inr 49, .inr 50]), .inl (0, 8), .inl (0, 8), .inl (0, 8), .inl (0, 8), .inl (0, 256), .inl (0, 256), .inr (0, [.inr 52, .inr 53, .inr 54, .inr 55, .inr 56, .inr 57, .inr 58, .inr 59, .inl 0]), .inl (0, 96), .inl (0, 96), .inl (0, 96), .inl (0, 96), .inl (0, 96), .inl (0, 96), .inl (0, 96), .inl (0, 96), .inr (5, [.inr 61, .inr 62, .inr 63, .inr 64, .inr 65, .inr 66, .inr 67, .inr 68]), .inl (0, 8), .inl (0, 8), .inl (0, 8), .inl (0, 8), .inl (0, 8), .inl (0, 8), .inl (0, 8), .inl (0, 8), .inr (6, [.inr 70, .inr 71, .inr 72, .inr 73, .inr 74, .inr 75, .inr 76, .inl 0]), .inl (0, 6), .inl (0, 6), .inl (0, 6), .inl (0, 6), .inl (0, 6), .inl (0, 6), .inl (0, 6), .inr (3, [.inr 78, .inr 79, .inr 80, .inr 81, .inl 0, .inl 0]), .inl (0, 60), .inl (0, 60), .inl (0, 60), .inl (0, 60), .inl (0, 4), .inl (0, 11), .inr (2, [.inr 43, .inr 44, .inr 51, .inr 60]), .inr (7, [.inr 84, .inr 43, .inr 86, .inl 0, .inl 0]), .inr (4, [.inr 87, .inr 94, .inr 103, .inr 112, .inr 120, .inr 125, .inr 126, .inl 0]), .inr (1, [.inr 88, .inr 89, .inr 90, .inr 91, .inr 92, .inr 93]), .inl (0, 8), .inl (0, 8), .inl (0, 8), .inl (0, 8), .inl (0, 256), .inl (0, 256), .inr (0, [.inr 95, .inr 96, .inr 97, .inr 98, .inr 99, .inr 100, .inr 101, .inr 102, .inl 0]), .inl (0, 96), .inl (0, 96), .inl (0, 96), .inl (0, 96), .inl (0, 96), .inl (0, 96), .inl (0, 96), .inl (0, 96), .inr (5, [.inr 104, .inr 105, .inr 106, .inr 107, .inr 108, .inr 109, .inr 110, .inr 111]), .inl (0, 8), .inl (0, 8), .inl (0, 8), .inl (0, 8), .inl (0, 8), .inl (0, 8), .inl (0, 8), .inl (0, 8), .inr (6, [.inr 113, .inr 114, .inr 115, .inr 116, .inr 117, .inr 118, .inr 119, .inl 0]), .inl (0, 6), .inl (0, 6), .inl (0, 6), .inl (0, 6), .inl (0, 6), .inl (0, 6), .inl (0, 6), .inr (3, [.inr 121, .inr 122, .inr 123, .inr 124, .inl 0, .inl 0]), .inl (0, 60), .inl (0, 60), .inl (0, 60), .inl (0, 60), .inl (0, 4), .inl (0, 11), .inr (4, [.inr 128, .inr 135, .inr 144, .inr 153, .inr 161, .inr 166, .inr 167, .inl 0]), .inr (1, [.inr 129, .inr 130, .inr 131, .inr 132, .inr 133, .inr 134]), .inl (0, 8), .inl (0, 8), .inl (0, 8), .inl (0, 8), .inl (0, 256), .inl (0, 256), .inr (0, [.inr 136, .inr 137, .inr 138, .inr 139, .inr 140, .inr 141, .inr 142, .inr 143, .inl 0]), .inl (0, 96), .inl (0, 96), .inl (0, 96), .inl (0, 96), .inl (0, 96), .inl (0, 96), .inl (0, 96), .inl (0, 96), .inr (5, [.inr 145, .inr 146, .inr 147, .inr 148, .inr 149, .inr 150, .inr 151, .inr 152]), .inl (0, 8), .inl (0, 8), .inl (0, 8), .inl (0, 8), .inl (0, 8), .inl (0, 8), .inl (0, 8), .inl (0, 8), .inr (6, [.inr 154, .inr 155, .inr 156, .inr 157, .inr 158, .inr 159, .inr 160, .inl 0]), .inl (0, 6), .inl (0, 6), .inl (0, 6), .inl (0, 6), .inl (0, 6), .inl (0, 6), .inl (0, 6), .inr (3, [.inr 162, .inr 163, .inr 164, .inr 165, .inl 0, .inl 0]), .inl (0, 60), .inl (0, 60), .inl (0, 60), .inl (0, 60), .inl (0, 4), .inl (0, 11)]
theorem va_P_r {D : va_G} {cl : List vw_C} {a b : va_W} {H : Heap} (h : va_P D cl (a ++ b) H) : va_P D cl b H := fun k q hk => h (a.length + k) q (by rw [List.getElem?_append_right (by omega), Nat.add_sub_cancel_left]; exact hk)
theorem va_D_r {A : Nat → Prop} {a b : va_W} (h : va_D A (a ++ b)) : va_D A b := by
  rw [va_D_iff] at h ⊢
  exact ⟨(List.pairwise_append.mp h.1).2.1, fun q hq => h.2 q (List.mem_append_right _ hq)⟩
theorem sm_W_D {ad : Nat → Nat} {cA : Nat → ClassId} {σ : sm_S} : sm_W xD ad cA σ = sm_W xR ad cA σ ++ [(ad 41, .inr (2, [.ref (ad 0), .ref (ad 1), .ref (ad 8), .ref (ad 17)]))] := by
  unfold sm_W
  rw [show xD = xR ++ [.inr (2, [.inr 0, .inr 1, .inr 8, .inr 17])] from rfl, List.mapIdx_append]
  rfl
theorem pm1 {o g : Nat × va_E} {M K T : va_W} : List.Perm (o :: (M ++ [g] ++ K ++ T)) ((o :: g :: (K ++ T)) ++ M) := by
  rw [List.append_assoc, List.append_assoc, List.cons_append]
  exact List.Perm.cons _ List.perm_append_comm
theorem pm2 {o g : Nat × va_E} {M K T : va_W} : List.Perm ((o :: g :: (K ++ T)) ++ M) (M ++ [g] ++ ([o] ++ (T ++ K))) := by
  rw [List.append_assoc]
  exact List.perm_append_comm.trans (List.Perm.append_left _ ((List.Perm.swap _ _ _).trans (List.Perm.cons _ (List.Perm.cons _ List.perm_append_comm))))
theorem kk_ini {τ : sm_S} (h1 : ∀ i, i < 256 → τ 6 i = -1) (h2 : ∀ b, b < 96 → τ 9 b = -1 ∧ τ 14 b = -1 ∧ τ 15 b = 0) (h3 : ∀ s, s < 8 → τ 20 s = 0 ∧ τ 23 s = 0 ∧ τ 24 s = -1) (h4 : τ 26 7 = 0) (h5 : ∀ t, t < 6 → τ 28 t = -1) (h6 : τ 34 5 = 0) (h7 : τ 39 0 = 4) : kk τ := by
  refine ⟨fun b hb => Or.inl (h2 b hb), fun s hs => ⟨0, 0, ?_, by omega, fun _ => by omega, ?_, by omega, Or.inl (h3 s hs).2.2⟩, ⟨0, ?_, by omega, fun k hk => absurd hk (by omega), fun t ht => Or.inl (h5 t ht)⟩, fun f hf => ⟨0, by omega, ?_⟩, ⟨0, by omega, ?_⟩, ?_⟩
  · rw [(h3 s hs).1]; rfl
  · rw [(h3 s hs).2.1]; rfl
  · rw [h4]; rfl
  · rw [h1 f hf]; rfl
  · rw [h6]; rfl
  · rw [h7]; decide
theorem d_SA_0 : decode prog_1_method_1_code 0 = .ok (.aload_n 0, 1) := by decide +kernel
theorem d_SA_1 : decode prog_1_method_1_code 1 = .ok (.invokespecial 3, 3) := by decide +kernel
theorem d_SA_4 : decode prog_1_method_1_code 4 = .ok (.aload_n 0, 1) := by decide +kernel
theorem d_SA_5 : decode prog_1_method_1_code 5 = .ok (.new 9, 3) := by decide +kernel
theorem d_SA_8 : decode prog_1_method_1_code 8 = .ok (.dup, 1) := by decide +kernel
theorem d_SA_9 : decode prog_1_method_1_code 9 = .ok (.invokespecial 11, 3) := by decide +kernel
theorem d_SA_12 : decode prog_1_method_1_code 12 = .ok (.putfield 12, 3) := by decide +kernel
theorem d_SA_15 : decode prog_1_method_1_code 15 = .ok (.aload_n 0, 1) := by decide +kernel
theorem d_SA_16 : decode prog_1_method_1_code 16 = .ok (.aload_n 0, 1) := by decide +kernel
theorem d_SA_17 : decode prog_1_method_1_code 17 = .ok (.getfield 12, 3) := by decide +kernel
theorem d_SA_20 : decode prog_1_method_1_code 20 = .ok (.getfield 16, 3) := by decide +kernel
theorem d_SA_23 : decode prog_1_method_1_code 23 = .ok (.putfield 20, 3) := by decide +kernel
theorem d_SA_26 : decode prog_1_method_1_code 26 = .ok (.aload_n 0, 1) := by decide +kernel
theorem d_SA_27 : decode prog_1_method_1_code 27 = .ok (.new 23, 3) := by decide +kernel
theorem d_SA_30 : decode prog_1_method_1_code 30 = .ok (.dup, 1) := by decide +kernel
theorem d_SA_31 : decode prog_1_method_1_code 31 = .ok (.invokespecial 25, 3) := by decide +kernel
theorem d_SA_34 : decode prog_1_method_1_code 34 = .ok (.putfield 26, 3) := by decide +kernel
theorem d_SA_37 : decode prog_1_method_1_code 37 = .ok (.aload_n 0, 1) := by decide +kernel
theorem d_SA_38 : decode prog_1_method_1_code 38 = .ok (.new 29, 3) := by decide +kernel
theorem d_SA_41 : decode prog_1_method_1_code 41 = .ok (.dup, 1) := by decide +kernel
theorem d_SA_42 : decode prog_1_method_1_code 42 = .ok (.invokespecial 31, 3) := by decide +kernel
theorem d_SA_45 : decode prog_1_method_1_code 45 = .ok (.putfield 32, 3) := by decide +kernel
theorem d_SA_48 : decode prog_1_method_1_code 48 = .ok (.aload_n 0, 1) := by decide +kernel
theorem d_SA_49 : decode prog_1_method_1_code 49 = .ok (.iconst 0, 1) := by decide +kernel
theorem d_SA_50 : decode prog_1_method_1_code 50 = .ok (.putfield 36, 3) := by decide +kernel
theorem d_SA_53 : decode prog_1_method_1_code 53 = .ok (.aload_n 0, 1) := by decide +kernel
theorem d_SA_54 : decode prog_1_method_1_code 54 = .ok (.getfield 20, 3) := by decide +kernel
theorem d_SA_57 : decode prog_1_method_1_code 57 = .ok (.invokevirtual 40, 3) := by decide +kernel
theorem d_SA_60 : decode prog_1_method_1_code 60 = .ok (.return_, 1) := by decide +kernel
set_option maxRecDepth 100000 in
set_option maxHeartbeats 400000 in
theorem W_SA {AD : Nat → Nat} {cA : Nat → ClassId} {h0 : Nat} {a1 a2 a3 : Nat → Nat} {σ1 σ2 σ3 : sm_S} (e0 : ∀ k, k < 42 → AD (0 + k) = a1 k) (e1 : AD 42 = h0) (e2 : ∀ k, k < 84 → AD (43 + k) = a3 k) (e3 : ∀ k, k < 41 → AD (127 + k) = a2 k) : wlk AD xA (glu 42 a1 (glu 1 (fun _ => h0) (glu 84 a3 a2))) cA (glu 42 σ1 (glu 1 (fun _ _ => 0) (glu 84 σ3 σ2))) = sm_W xD a1 cA σ1 ++ (([(h0, .inr (8, [.ref (a1 41), .ref (a1 0), .ref (a2 0), .ref (a3 42), .int 0]))] : va_W) ++ (sm_W xTh a3 cA σ3 ++ (sm_W xR a2 cA σ2))) := (wlk_app2 (SH := xA) (P := xD.map (shf 0)) (S := xA.drop 42) (by decide +kernel) rfl (wlk_shf (n := 42) (by decide +kernel) e0) (wlk_app2 (SH := xA.drop 42) (P := (xA.drop 42).take 1) (S := xA.drop 43) (by decide +kernel) rfl (by show ([(h0, .inr (8, [.ref (AD 41), .ref (AD 0), .ref (AD 127), .ref (AD 85), .int 0]))] : va_W) = [(h0, .inr (8, [.ref (a1 41), .ref (a1 0), .ref (a2 0), .ref (a3 42), .int 0]))]; rw [(show AD 41 = a1 41 from e0 41 (by decide)), (show AD 0 = a1 0 from e0 0 (by decide)), (show AD 127 = a2 0 from e3 0 (by decide)), (show AD 85 = a3 42 from e2 42 (by decide))]) (wlk_app2 (SH := xA.drop 43) (P := xTh.map (shf 43)) (S := xA.drop 127) (by decide +kernel) rfl (wlk_shf (n := 84) (by decide +kernel) e2) ((congrArg (fun z => wlk AD z a2 cA σ2) (show xA.drop 127 = xR.map (shf 127) from by decide +kernel)).trans (wlk_shf (n := 41) (by decide +kernel) e3)))))
def I_SA (σ : sm_S) : Prop := WW σ ∧ σ 42 4 = 0 ∧ ini σ
set_option maxRecDepth 100000 in
set_option maxHeartbeats 400000 in
theorem ct_SA {l : Launch} {cA : Nat → ClassId} {D : va_G} {tb : Nat → Nat} {Lim : Nat} : Ctor l cA D tb Lim ⟨"SpansAway", "<init>", "()V"⟩ prog_1_method_1_code 5 103 167 6885 8 [.null, .null, .null, .null, .int 0] xA 42 I_SA := by
  refine Ctor.ofW (by decide) rfl ?_
  intro h0 p e s m args below meth c A L X hN hin hr hlocks hl hP hD hS
  refine lv_aload_n X.hx X.hb d_SA_0 rfl (lv_at hl 0 rfl) ?_
  refine R_obj X hl.1 (ctW_ok (i := 126) rfl) ⟨(Nat.le_of_ble_eq_true rfl), (Nat.le_of_ble_eq_true rfl)⟩ d_SA_1 ?_
  refine lv_aload_n X.hx X.hb d_SA_4 rfl (lv_at hl 0 rfl) ?_
  refine R_new3 X hN hP hD hS hl.1 ct_Go (cT := (RX2, TX2, 4)) rfl rfl tyX2_ok df_Go rfl (by decide +kernel) (ctW_ok (i := 127) rfl) (ctW_ok (i := 31) rfl) (ctW_ok (i := 30) rfl) (ctW_ok (i := 29) rfl) (ctW_ok (i := 28) rfl) (Or.inr (List.mem_of_getElem? (i := 4) rfl)) ⟨(Nat.le_of_ble_eq_true rfl), (Nat.le_of_ble_eq_true rfl)⟩ (Nat.le_of_ble_eq_true rfl) (Nat.le_of_ble_eq_true rfl) (Nat.le_of_ble_eq_true rfl) d_SA_5 d_SA_8 d_SA_9 (fun a1 σ1 H locs i1 hP hD hS => ?_)
  have hP : va_P D vwCl ((h0, .inr (8, [.null, .null, .null, .null, .int 0])) :: (sm_W xD a1 cA σ1)) H := hP
  have hD : va_D A ((h0, .inr (8, [.null, .null, .null, .null, .int 0])) :: (sm_W xD a1 cA σ1)) := hD
  refine R_pf X hin hP hD hS (cT := (RX9, TX9, 5)) rfl 0 (Nat.le_of_ble_eq_true rfl) (Nat.le_of_ble_eq_true rfl) rfl rfl (ty := .object "SpansAway$Going") (by decide +kernel) rfl rfl (ctW_ok (i := 128) rfl) d_SA_12 (fun H locs hP hD hS => ?_)
  have hP : va_P D vwCl ((h0, .inr (8, [.ref (a1 41), .null, .null, .null, .int 0])) :: (sm_W xD a1 cA σ1)) H := hP
  have hD : va_D A ((h0, .inr (8, [.ref (a1 41), .null, .null, .null, .int 0])) :: (sm_W xD a1 cA σ1)) := hD
  have hg : ∀ x : Nat × va_E, (x :: sm_W xD a1 cA σ1)[42]? = some (a1 41, .inr (2, [.ref (a1 0), .ref (a1 1), .ref (a1 8), .ref (a1 17)])) := fun x => at_cons (i := 41) <| sm_W_at (SH := xD) (s := .inr (2, [.inr 0, .inr 1, .inr 8, .inr 17])) rfl
  refine lv_aload_n X.hx X.hb d_SA_15 rfl (lv_at hl 0 rfl) ?_
  refine lv_aload_n X.hx X.hb d_SA_16 rfl (lv_at hl 0 rfl) ?_
  refine R_gf X hP 0 rfl (cT := (RX9, TX9, 5)) rfl 0 (Nat.le_of_ble_eq_true rfl) (v := .ref (a1 41)) rfl (ctW_ok (i := 128) rfl) d_SA_17 ?_
  refine R_gf X hP 42 (hg _) (cT := (RX2, TX2, 4)) rfl 0 (Nat.le_of_ble_eq_true rfl) (v := .ref (a1 0)) rfl (ctW_ok (i := 129) rfl) d_SA_20 ?_
  refine R_pf X hin hP hD hS (cT := (RX9, TX9, 5)) rfl 1 (Nat.le_of_ble_eq_true rfl) (Nat.le_of_ble_eq_true rfl) rfl rfl (ty := .object "SpansAway$Memory") (by decide +kernel) rfl rfl (ctW_ok (i := 130) rfl) d_SA_23 (fun H locs hP hD hS => ?_)
  have hP : va_P D vwCl ((h0, .inr (8, [.ref (a1 41), .ref (a1 0), .null, .null, .int 0])) :: (sm_W xD a1 cA σ1)) H := hP
  have hD : va_D A ((h0, .inr (8, [.ref (a1 41), .ref (a1 0), .null, .null, .int 0])) :: (sm_W xD a1 cA σ1)) := hD
  refine lv_aload_n X.hx X.hb d_SA_26 rfl (lv_at hl 0 rfl) ?_
  refine R_new3 X hN hP hD hS hl.1 ct_Me (cT := (RX4, TX4, 8)) rfl rfl tyX4_ok df_Me rfl (by decide +kernel) (ctW_ok (i := 131) rfl) (ctW_ok (i := 27) rfl) (ctW_ok (i := 26) rfl) (ctW_ok (i := 25) rfl) (ctW_ok (i := 24) rfl) (Or.inr (List.mem_of_getElem? (i := 5) rfl)) ⟨(Nat.le_of_ble_eq_true rfl), (Nat.le_of_ble_eq_true rfl)⟩ (Nat.le_of_ble_eq_true rfl) (Nat.le_of_ble_eq_true rfl) (Nat.le_of_ble_eq_true rfl) d_SA_27 d_SA_30 d_SA_31 (fun a2 σ2 H locs i2 hP hD hS => ?_)
  have hP : va_P D vwCl ((h0, .inr (8, [.ref (a1 41), .ref (a1 0), .null, .null, .int 0])) :: (sm_W xD a1 cA σ1 ++ sm_W xR a2 cA σ2)) H := hP
  have hD : va_D A ((h0, .inr (8, [.ref (a1 41), .ref (a1 0), .null, .null, .int 0])) :: (sm_W xD a1 cA σ1 ++ sm_W xR a2 cA σ2)) := hD
  refine R_pf X hin hP hD hS (cT := (RX9, TX9, 5)) rfl 2 (Nat.le_of_ble_eq_true rfl) (Nat.le_of_ble_eq_true rfl) rfl rfl (ty := .object "SpansAway$Memory") (by decide +kernel) rfl rfl (ctW_ok (i := 132) rfl) d_SA_34 (fun H locs hP hD hS => ?_)
  have hP : va_P D vwCl ((h0, .inr (8, [.ref (a1 41), .ref (a1 0), .ref (a2 0), .null, .int 0])) :: (sm_W xD a1 cA σ1 ++ sm_W xR a2 cA σ2)) H := hP
  have hD : va_D A ((h0, .inr (8, [.ref (a1 41), .ref (a1 0), .ref (a2 0), .null, .int 0])) :: (sm_W xD a1 cA σ1 ++ sm_W xR a2 cA σ2)) := hD
  refine lv_aload_n X.hx X.hb d_SA_37 rfl (lv_at hl 0 rfl) ?_
  refine R_new3 X hN hP hD hS hl.1 ct_Th (cT := (RX8, TX8, 5)) rfl rfl tyX8_ok df_Th rfl (by decide +kernel) (ctW_ok (i := 133) rfl) (ctW_ok (i := 35) rfl) (ctW_ok (i := 34) rfl) (ctW_ok (i := 33) rfl) (ctW_ok (i := 32) rfl) (Or.inr (List.mem_of_getElem? (i := 6) rfl)) ⟨(Nat.le_of_ble_eq_true rfl), (Nat.le_of_ble_eq_true rfl)⟩ (Nat.le_of_ble_eq_true rfl) (Nat.le_of_ble_eq_true rfl) (Nat.le_of_ble_eq_true rfl) d_SA_38 d_SA_41 d_SA_42 (fun a3 σ3 H locs i3 hP hD hS => ?_)
  have hP : va_P D vwCl ((h0, .inr (8, [.ref (a1 41), .ref (a1 0), .ref (a2 0), .null, .int 0])) :: (sm_W xD a1 cA σ1 ++ sm_W xR a2 cA σ2 ++ sm_W xTh a3 cA σ3)) H := hP
  have hD : va_D A ((h0, .inr (8, [.ref (a1 41), .ref (a1 0), .ref (a2 0), .null, .int 0])) :: (sm_W xD a1 cA σ1 ++ sm_W xR a2 cA σ2 ++ sm_W xTh a3 cA σ3)) := hD
  refine R_pf X hin hP hD hS (cT := (RX9, TX9, 5)) rfl 3 (Nat.le_of_ble_eq_true rfl) (Nat.le_of_ble_eq_true rfl) rfl rfl (ty := .object "SpansAway$Thought") (by decide +kernel) rfl rfl (ctW_ok (i := 134) rfl) d_SA_45 (fun H locs hP hD hS => ?_)
  have hP : va_P D vwCl ((h0, .inr (8, [.ref (a1 41), .ref (a1 0), .ref (a2 0), .ref (a3 42), .int 0])) :: (sm_W xD a1 cA σ1 ++ sm_W xR a2 cA σ2 ++ sm_W xTh a3 cA σ3)) H := hP
  have hD : va_D A ((h0, .inr (8, [.ref (a1 41), .ref (a1 0), .ref (a2 0), .ref (a3 42), .int 0])) :: (sm_W xD a1 cA σ1 ++ sm_W xR a2 cA σ2 ++ sm_W xTh a3 cA σ3)) := hD
  refine lv_aload_n X.hx X.hb d_SA_48 rfl (lv_at hl 0 rfl) ?_
  refine lv_iconst (v := 0) X.hx X.hb d_SA_49 (by decide) ?_
  refine R_pi X hP hD hS (cT := (RX9, TX9, 5)) rfl 4 (Nat.le_of_ble_eq_true rfl) (Nat.le_of_ble_eq_true rfl) rfl (ty := .boolean) (by decide +kernel) rfl rfl (ctW_ok (i := 135) rfl) d_SA_50 (fun H locs hP hD hS => ?_)
  have hP : va_P D vwCl ((h0, .inr (8, [.ref (a1 41), .ref (a1 0), .ref (a2 0), .ref (a3 42), .int 0])) :: (sm_W xD a1 cA σ1 ++ sm_W xR a2 cA σ2 ++ sm_W xTh a3 cA σ3)) H := hP
  have hD : va_D A ((h0, .inr (8, [.ref (a1 41), .ref (a1 0), .ref (a2 0), .ref (a3 42), .int 0])) :: (sm_W xD a1 cA σ1 ++ sm_W xR a2 cA σ2 ++ sm_W xTh a3 cA σ3)) := hD
  refine lv_aload_n X.hx X.hb d_SA_53 rfl (lv_at hl 0 rfl) ?_
  refine R_gf X hP 0 rfl (cT := (RX9, TX9, 5)) rfl 1 (Nat.le_of_ble_eq_true rfl) (v := .ref (a1 0)) rfl (ctW_ok (i := 130) rfl) d_SA_54 ?_
  have hp1 : List.Perm ((h0, .inr (8, [.ref (a1 41), .ref (a1 0), .ref (a2 0), .ref (a3 42), .int 0])) :: (sm_W xD a1 cA σ1 ++ sm_W xR a2 cA σ2 ++ sm_W xTh a3 cA σ3) : va_W) (((h0, .inr (8, [.ref (a1 41), .ref (a1 0), .ref (a2 0), .ref (a3 42), .int 0])) :: (a1 41, .inr (2, [.ref (a1 0), .ref (a1 1), .ref (a1 8), .ref (a1 17)])) :: (sm_W xR a2 cA σ2 ++ sm_W xTh a3 cA σ3)) ++ sm_W xR a1 cA σ1) := by
    rw [sm_W_D]
    exact pm1
  have hP := hP.perm hp1
  have hD := hD.perm hp1
  have hPM := va_P_r hP
  have hDM := va_D_r hD
  have hFc := free_end (wc := sm_W xR a1 cA σ1) hD hS X.hA
  have hG : GoodIn (cws ⟨"SpansAway", "<init>", "()V"⟩ prog_1_method_1_code 1) (wsV "SpansAway" 40 "SpansAway$Memory" y_of (cws y_of prog_6_method_3_code 2)) := by
    intro w hw
    unfold wsV at hw
    rcases List.mem_append.mp hw with hw | hw
    · simp only [List.mem_cons, List.not_mem_nil, or_false] at hw
      rcases hw with rfl | rfl | rfl | rfl
      · exact good_in X.hTs (ctW_ok (i := 136) rfl) rfl
      · exact good_in X.hTs (ctW_ok (i := 149) rfl) rfl
      · exact good_in X.hTs (ctW_ok (i := 150) rfl) rfl
      · exact good_in X.hTs (ctW_ok (i := 26) rfl) rfl
    · exact good_c X.hTs (ctW_ok (i := 148) rfl) w hw
  have hm : (sm_W xR a1 cA σ1)[0]? = some (a1 0, .inr (4, [.ref (a1 1), .ref (a1 8), .ref (a1 17), .ref (a1 26), .ref (a1 34), .ref (a1 39), .ref (a1 40), .int (σ1 0 7)])) := sm_W_at (SH := xR) (s := .inr (4, [.inr 1, .inr 8, .inr 17, .inr 26, .inr 34, .inr 39, .inr 40, .inl 0])) rfl
  refine va_callv (va_runV (As := []) (rest := []) ⟨X.hx, X.hb, X.hml, X.hown, X.hts⟩ (ct_of (sz := H.size) hDM (fun q h => X.hL q (sm_subA hDM q h)) (Nat.le_trans (X.hL _ (X.hA _ (Nat.le_refl _))) hS.1)) (cwV 0 X.hts hG rfl rfl rfl ⟨rfl, by decide +kernel⟩ ⟨(Nat.le_of_ble_eq_true rfl), (Nat.le_of_ble_eq_true rfl)⟩) ⟨ctB_blind, va_recv X.hK hPM (ci := 4) (q := (RX4, TX4, 8)) rfl hm, fun U hU hW => ⟨rfl, by rw [hU], by rw [hU]; exact hPM, va_K.moved hW.alike X.hK, by rw [hU]; exact (X.zt hS).moved hW.alike, hN.warm hW⟩⟩ rfl rfl hl.1 rfl (lv_room (Nat.le_of_ble_eq_true rfl)) d_SA_57 ⟨(Nat.le_of_ble_eq_true rfl), (Nat.le_of_ble_eq_true rfl)⟩) hS (fun q _ h => hFc q h) hFc (fun τ t H1 locs1 ht hvm hw hB hz1 hk1 hS => ?_)
  obtain ⟨hP1, hD1⟩ := hB
  rw [ht] at hP1
  obtain ⟨hP, hD⟩ := join_end hP hD hk1 hFc hP1 hD1
  obtain ⟨f, hf, hof⟩ := hw
  refine W.widen (k := 167) (n := 6885) (Nat.le_of_ble_eq_true rfl) (Nat.le_of_ble_eq_true rfl) ?_
  have hE := W_SA (cA := cA) (AD := (glu 42 a1 (glu 1 (fun _ => h0) (glu 84 a3 a2)))) (h0 := h0) (a1 := a1) (a2 := a2) (a3 := a3) (σ1 := τ) (σ2 := σ2) (σ3 := σ3) (fun k hk => by rw [glu_l (by omega)]; exact congrArg a1 (by omega)) rfl (fun k hk => by rw [glu_s (by omega), glu_s (by omega), glu_l (by omega)]; exact congrArg a3 (by omega)) (fun k hk => by rw [glu_s (by omega), glu_s (by omega), glu_s (by omega)]; exact congrArg a2 (by omega))
  have hp2 : List.Perm (((h0, .inr (8, [.ref (a1 41), .ref (a1 0), .ref (a2 0), .ref (a3 42), .int 0])) :: (a1 41, .inr (2, [.ref (a1 0), .ref (a1 1), .ref (a1 8), .ref (a1 17)])) :: (sm_W xR a2 cA σ2 ++ sm_W xTh a3 cA σ3)) ++ sm_W xR a1 cA τ : va_W) (wlk (glu 42 a1 (glu 1 (fun _ => h0) (glu 84 a3 a2))) xA (glu 42 a1 (glu 1 (fun _ => h0) (glu 84 a3 a2))) cA (glu 42 τ (glu 1 (fun _ _ => 0) (glu 84 σ3 σ2)))) := by
    rw [hE, sm_W_D]
    exact pm2
  have n39 : ∀ k, k ≠ 2 → k ≠ 18 → k ≠ 19 → k ≠ 39 → τ k = σ1 k := fun k a b c d => (by rw [hof, ofX_o a b c, ofX_o a b c]; exact s_ne d)
  obtain ⟨j1, j2, j3, j4, j5, j6, j7⟩ := i1
  have hkk : kk τ := by
    refine kk_ini ?_ ?_ ?_ ?_ ?_ ?_ ?_
    · rw [n39 6 (by decide) (by decide) (by decide) (by decide)]; exact j1
    · rw [n39 9 (by decide) (by decide) (by decide) (by decide), n39 14 (by decide) (by decide) (by decide) (by decide), n39 15 (by decide) (by decide) (by decide) (by decide)]; exact j2
    · rw [n39 20 (by decide) (by decide) (by decide) (by decide), n39 23 (by decide) (by decide) (by decide) (by decide), n39 24 (by decide) (by decide) (by decide) (by decide)]; exact fun s hs => (j3 s hs).2
    · rw [n39 26 (by decide) (by decide) (by decide) (by decide)]; exact j4.1
    · rw [n39 28 (by decide) (by decide) (by decide) (by decide)]; exact j4.2
    · rw [n39 34 (by decide) (by decide) (by decide) (by decide)]; exact j5
    · rw [hof, ofX_o (by decide) (by decide) (by decide), ofX_o (by decide) (by decide) (by decide), s_at]; exact hf.1
  have hWW : WW (glu 42 τ (glu 1 (fun _ _ => 0) (glu 84 σ3 σ2))) := ⟨kk_of (fun k hk => glu_l (by omega)) hkk, ⟨0, by omega, by show (σ3 34 5).toInt = _; rw [i3.1]; rfl⟩, ⟨0, by omega, by show (σ3 77 5).toInt = _; rw [i3.2]; rfl⟩, Or.inl rfl, fun h => absurd rfl h⟩
  exact R_ret X hr hlocks (SH := xA) (ad := (glu 42 a1 (glu 1 (fun _ => h0) (glu 84 a3 a2)))) (σ := (glu 42 τ (glu 1 (fun _ _ => 0) (glu 84 σ3 σ2)))) (hP.perm hp2) (hD.perm hp2) hS rfl ⟨hWW, rfl, (ini_of j1 j2 j3 j4 j5 j7 hf hof).cg (fun k hk => glu_l (by omega))⟩ d_SA_60
theorem df_SA : ∀ j, j < 5 → defaultValue (tyX9 j) = vp_V [.null, .null, .null, .null, .int 0] j := by
  intro j hj
  match j, hj with
  | 0, _ => rfl
  | 1, _ => rfl
  | 2, _ => rfl
  | 3, _ => rfl
  | 4, _ => rfl
  | k + 5, hj => omega
