/-! ===== the first words: Rows.copy out of a table, openFirst ===== -/
section ACT
variable {p : Program} {l : Launch} {e : Env} {R : Room} {s : State} {m : MethodId} {args : Array Value} {below : List Frame} {meth : Method} {c : Code} {H : Heap} {locs : List Loc} {cells slots : Nat} {Q : State → Prop} {pc : Nat} {L : Array Slot} {rest : List Value}
variable {Ts : List Cond} {own : String} {cc : ByteArray} {nL : Nat} {D : va_G} {cA : Nat → ClassId} {tb : Nat → Nat} {Lim : Nat} {A : Nat → Prop}
/-- System.arraycopy out of a table that nobody writes -/
theorem R_acT (X : CX p s m args c Ts own cc nL D cA tb Lim A) (hsz : L.size = nL) {idx : Nat} (hlk : Cond.methodLink own idx arraycopyName ∈ lw_tbl) {ws : va_W} (hP : va_P D vwCl ws H) (hD : va_D A ws) (hS : va_S A s.heap H locs) {t n0 : Nat} {f : Nat → Int32} (hT : va_T .int t n0 (fun j => .int (f j)) A s s.heap) (q1 : Nat) {a n1 : Nat} {g : Nat → Int32} (ha1 : ws[q1]? = some (a, .inl (cA 0, n1, .inl g))) {sp dp n : Int32} (h1 : ¬ sp < 0) (h2 : ¬ dp < 0) (h3 : ¬ n < 0) (h4 : sp.toNatClampNeg + n.toNatClampNeg ≤ n0) (h5 : dp.toNatClampNeg + n.toNatClampNeg ≤ n1) (hframes : 1 ≤ R.frames) (hlocals : (rest.map fun v => v.category).sum + (nativeFrameWords "java/lang/System" "arraycopy" 5 + 11) ≤ R.locals) (hd : decode cc pc = .ok (.invokestatic idx, 3))
    (kk : ∀ (H1 : Heap) (locs1 : List Loc), va_P D vwCl (ws.set q1 (a, .inl (cA 0, n1, .inl (va_cpy f g sp.toNatClampNeg dp.toNatClampNeg n.toNatClampNeg)))) H1 → va_D A (ws.set q1 (a, .inl (cA 0, n1, .inl (va_cpy f g sp.toNatClampNeg dp.toNatClampNeg n.toNatClampNeg)))) → va_S A s.heap H1 locs1 → W p l e R s m args below meth c H1 locs1 cells slots Q (F0 m (pc + 3) L rest)) : W p l e R s m args below meth c H locs cells slots Q (F0 m pc L (.int n :: .int dp :: .ref a :: .int sp :: .ref t :: rest)) := by
  have nn : ∀ z : Int32, ¬ z < 0 → z.toInt = (z.toNatClampNeg : Int) := by
    intro z hz
    rw [t_lt] at hz
    have hz : ¬ z.toInt < (0 : Int) := hz
    show z.toInt = ((z.toInt.toNat : Nat) : Int)
    omega
  intro T hT' X0
  obtain ⟨scr, hs1, hs2, hs3, hs4, -, hs5, hs6⟩ := hT
  have hc0 : H[t]? = some scr := by rw [hS.2.1 t (Array.getElem?_eq_some_iff.mp hs1).1 hs6]; exact hs1
  have hc1 : H[a]? = some (vp_cell (cA 0) (n1, .inl g)) := hP q1 _ ha1
  obtain ⟨hs7, k0, hk0, cm0, hkk0⟩ := hs2
  obtain ⟨-, k1, hk1, cm1, hkk1⟩ := (X.hK.2 0 (cA 0, .int) rfl).1 n1 (fun j => .int (g j))
  obtain ⟨vm', X', step⟩ := X0.arraycopy X.hx X.hown (X.w hlk rfl) (X.w (sm_aw_ok _ (by simp)) rfl) (X.w (sm_aw_ok _ (by simp)) rfl) (X.w (sm_aw_ok _ (by simp)) rfl) (src := t) (dst := a) (cs := scr) (cd := vp_cell (cA 0) (n1, .inl g)) (srcPos := sp) (destPos := dp) (n := n) (by rw [hT']; exact hc0) (by rw [hT']; exact hc1)
    hs7 (fun _ h => by cases h) hs3 (fun h => by cases h) hk0 hk1 hkk0 hkk1 (by simp [refKind]) h1 h2 h3
    (by rw [nn sp h1, nn n h3]; omega)
    (by rw [nn dp h2, nn n h3]; show ¬ _ > ((arrV (cA 0) n1 (fun j => .int (g j))).slots.size : Int); rw [arrV_size]; omega)
    (fun vm₁ _ i hi => by
      have e : scr.slots.getD (sp.toNatClampNeg + i) .null = .int (f (sp.toNatClampNeg + i)) := by
        rw [Array.getD_eq_getD_getElem?, hs5 _ (by omega)]
        rfl
      refine ⟨?_, ?_⟩
      · rw [e]
        rfl
      · rw [e]
        exact trivial)
    (g := F0 m pc L (.int n :: .int dp :: .ref a :: .int sp :: .ref t :: rest)) rfl (hsz.trans X.hml.symm) (rest := rest) rfl (by rw [X.hb]; exact hd) hframes (by show 2 * 0 + _ + _ ≤ _; omega)
  have e1 : copied scr (vp_cell (cA 0) (n1, .inl g)) sp dp n = vp_cell (cA 0) (n1, .inl (va_cpy f g sp.toNatClampNeg dp.toNatClampNeg n.toNatClampNeg)) := va_copiedX (fun z => .int z) scr (cA 0) f g hs5 h4
  rw [e1] at X' step
  have hl : a < H.size := (Array.getElem?_eq_some_iff.mp hc1).1
  have hheap : ((T.setVm vm').setCell a (vp_cell (cA 0) (n1, .inl (va_cpy f g sp.toNatClampNeg dp.toNatClampNeg n.toNatClampNeg)))).heap = H.setIfInBounds a (vp_cell (cA 0) (n1, .inl (va_cpy f g sp.toNatClampNeg dp.toNatClampNeg n.toNatClampNeg))) := by rw [← hT']; rfl
  have oq : ∀ q : Nat, q ≠ a → (H.setIfInBounds a (vp_cell (cA 0) (n1, .inl (va_cpy f g sp.toNatClampNeg dp.toNatClampNeg n.toNatClampNeg))))[q]? = H[q]? := fun q hq => by simp [Array.getElem?_setIfInBounds, Ne.symm hq]
  obtain ⟨t2, a1, b1⟩ := kk _ _ (hP.set hD ha1 (show (H.setIfInBounds a _)[a]? = some _ by simp [Array.getElem?_setIfInBounds, hl]) oq) (hD.set ha1) ⟨by simp; exact hS.1, fun q g1 g2 => by
      rw [oq q (fun e => g2 (by rw [e]; exact hD.2 q1 _ ha1))]
      exact hS.2.1 q g1 g2, fun q hq => by
      rcases List.mem_append.mp hq with h | h
      · exact hS.2.2 q h
      · obtain ⟨z, -, hz⟩ := List.mem_map.mp h
        rw [← hz]
        exact hD.2 q1 _ ha1⟩ _ hheap X'
  exact ⟨t2, step t2 a1, b1⟩
end ACT
/-- the addresses of a world of shapes -/
theorem sm_A_of {SH : List sm_Sh} {ad : Nat → Nat} {cA : Nat → ClassId} {σ : sm_S} {A0 : Nat → Prop} {Lim sz : Nat} (hD : va_D A0 (sm_W SH ad cA σ)) (hLa : ∀ q, sm_A SH ad q → Lim ≤ q) (hs : Lim ≤ sz) : ∀ q, va_A (sm_W SH ad cA σ) sz q → Lim ≤ q := by
  rintro q (⟨i, e, h⟩ | h)
  · exact hLa q ((sm_D (cA := cA) (σ := σ) (sm_inj hD)).2 i (q, e) h)
  · exact Nat.le_trans hs h
theorem d_cp_0 : decode prog_7_method_8_code 0 = .ok (.aload_n 0, 1) := by decide +kernel
theorem d_cp_1 : decode prog_7_method_8_code 1 = .ok (.iconst 0, 1) := by decide +kernel
theorem d_cp_2 : decode prog_7_method_8_code 2 = .ok (.aload_n 1, 1) := by decide +kernel
theorem d_cp_3 : decode prog_7_method_8_code 3 = .ok (.iconst 0, 1) := by decide +kernel
theorem d_cp_4 : decode prog_7_method_8_code 4 = .ok (.aload_n 0, 1) := by decide +kernel
theorem d_cp_5 : decode prog_7_method_8_code 5 = .ok (.arraylength, 1) := by decide +kernel
theorem d_cp_6 : decode prog_7_method_8_code 6 = .ok (.aload_n 1, 1) := by decide +kernel
theorem d_cp_7 : decode prog_7_method_8_code 7 = .ok (.arraylength, 1) := by decide +kernel
theorem d_cp_8 : decode prog_7_method_8_code 8 = .ok (.invokestatic 25, 3) := by decide +kernel
theorem d_cp_11 : decode prog_7_method_8_code 11 = .ok (.invokestatic 30, 3) := by decide +kernel
theorem d_cp_14 : decode prog_7_method_8_code 14 = .ok (.return_, 1) := by decide +kernel
def y_cp : MethodName := ⟨"SpansAway$Rows", "copy", "([I[I)V"⟩
set_option maxRecDepth 100000 in
set_option maxHeartbeats 400000 in
theorem ct_cp {l : Launch} {cA : Nat → ClassId} {D : va_G} {tb : Nat → Nat} {Lim : Nat} {SH : List sm_Sh} {ad : Nat → Nat} {σ : sm_S} {A0 : Nat → Prop} {sz k : Nat} (hk : SH[k]? = some (.inl (0, 4))) (hD0 : va_D A0 (sm_W SH ad cA σ)) (hLa : ∀ q, sm_A SH ad q → Lim ≤ q) (hs : Lim ≤ sz) : Met l y_cp (cws y_cp prog_7_method_8_code 2) { frames := 1, cells := 0, slots := 0, locals := 40 } (va_Pc [.ref (tb 1003), .ref (ad k)] (ctB cA D tb Lim sz (sm_W SH ad cA σ))) (va_Qv (S := Nat → Int32) (fun f => f 0 = 4 ∧ f 1 = 3 ∧ f 2 = 150 ∧ f 3 = 2) (fun f t => va_P D vwCl (sm_W SH ad cA (sm_set σ k f)) t.heap) (va_A (sm_W SH ad cA σ) sz)) 0 0 (va_A (sm_W SH ad cA σ) sz) := by
  refine Met.ofW (cc := prog_7_method_8_code) (maxL := 2) (ret := none) (by decide) rfl ?_
  intro p e s m args below meth c s₁ B hml hv
  obtain ⟨rfl, rfl, hP, hK, hZ, hN⟩ := hv
  have hl := lv_entry ([.ref (tb 1003), .ref (ad k)]) (n := 2) (Nat.le_of_ble_eq_true rfl)
  rw [lg_entry_eq]
  generalize (lg_sl ([.ref (tb 1003), .ref (ad k)]) ++ List.replicate (2 - (lg_sl ([.ref (tb 1003), .ref (ad k)])).length) Slot.unset).toArray = L at hl ⊢
  have hl : lv_has L 2 [(0, .ref (tb 1003)), (1, .ref (ad k))] := hl
  have hD : va_D (va_A (sm_W SH ad cA σ) s.heap.size) (sm_W SH ad cA σ) := hD0.self
  have X : CX p s m #[.ref (tb 1003), .ref (ad k)] c (cws y_cp prog_7_method_8_code 2) "SpansAway$Rows" prog_7_method_8_code 2 D cA tb Lim (va_A (sm_W SH ad cA σ) s.heap.size) := ⟨B.exec, B.bytes, hml, findClass_of_methodNamed B.named, atoms_spec (ws := cws y_cp prog_7_method_8_code 2) B.pre, cws_has, hK, hZ, fun q h => Or.inr h, sm_A_of hD0 hLa hs⟩
  have hT : va_T .int (tb 1003) 4 (fun j => .int (([4, 3, 150, 2] : List Int32).getD j 0)) (va_A (sm_W SH ad cA σ) s.heap.size) s s.heap := hZ.2.2.narrow X.hL
  have hS : va_S (va_A (sm_W SH ad cA σ) s.heap.size) s.heap s.heap [] := va_S.rf
  refine lv_aload_n X.hx X.hb d_cp_0 rfl (lv_at hl 0 rfl) ?_
  refine lv_iconst (v := 0) X.hx X.hb d_cp_1 (by decide) ?_
  refine lv_aload_n X.hx X.hb d_cp_2 rfl (lv_at hl 1 rfl) ?_
  refine lv_iconst (v := 0) X.hx X.hb d_cp_3 (by decide) ?_
  refine lv_aload_n X.hx X.hb d_cp_4 rfl (lv_at hl 0 rfl) ?_
  refine va_tlen (v := 4) X.hx X.hb hT hS (by decide) d_cp_5 ?_
  refine lv_aload_n X.hx X.hb d_cp_6 rfl (lv_at hl 1 rfl) ?_
  refine va_alen (v := 4) (x := (4, .inl (σ k))) X.hx X.hb X.hK hP k 0 (sm_W_at hk) (ty := .int) rfl rfl d_cp_7 ?_
  refine va_mmin X.hx X.hb (X.hml.trans hl.1.symm) X.hown (X.w (show Cond.methodLink "SpansAway$Rows" 25 Lib.Math.min.name ∈ lw_tbl from sm_mn_ok (5, 25, 0) (by decide)) rfl) (X.w (sm_mw_ok _ (by simp)) rfl) (X.w (sm_mw_ok _ (by simp)) rfl) (X.w (sm_mw_ok _ (by simp)) rfl) (Nat.le_refl 1) (Nat.le_of_ble_eq_true rfl) (Nat.le_refl 0) (Nat.le_refl 0) d_cp_8 ?_
  rw [show (if (4 : Int32) < 4 then (4 : Int32) else 4) = 4 from by decide]
  refine R_acT (rest := []) X hl.1 (show Cond.methodLink "SpansAway$Rows" 30 arraycopyName ∈ lw_tbl from sm_ac_ok (5, 30, 0) (by decide)) hP hD hS hT k (sm_W_at hk) (by decide) (by decide) (by decide) (by decide) (by decide) (Nat.le_refl 1) (Nat.le_of_ble_eq_true rfl) d_cp_11 (fun H1 locs1 hP1 hD1 hS1 => ?_)
  have hP2 : va_P D vwCl (sm_W SH ad cA (sm_set σ k (va_cpy (fun j => ([4, 3, 150, 2] : List Int32).getD j 0) (σ k) (0 : Int32).toNatClampNeg (0 : Int32).toNatClampNeg (4 : Int32).toNatClampNeg))) H1 := by
    rw [← sm_W_set hk (e := .inl (cA 0, 4, .inl (va_cpy (fun j => ([4, 3, 150, 2] : List Int32).getD j 0) (σ k) (0 : Int32).toNatClampNeg (0 : Int32).toNatClampNeg (4 : Int32).toNatClampNeg))) rfl]
    exact hP1
  exact W.vret X.hx X.hb B.returns (fun t ht hW => ⟨⟨va_cpy (fun j => ([4, 3, 150, 2] : List Int32).getD j 0) (σ k) (0 : Int32).toNatClampNeg (0 : Int32).toNatClampNeg (4 : Int32).toNatClampNeg, rfl, ⟨pk_cpy_in (by decide) (by decide), pk_cpy_in (by decide) (by decide), pk_cpy_in (by decide) (by decide), pk_cpy_in (by decide) (by decide)⟩, (show va_P D vwCl _ t.heap by rw [ht]; exact hP2)⟩, hS1.F ht⟩) hS1.2.2 d_cp_14 (hlocks := B.notSynchronized)
theorem d_of_0 : decode prog_6_method_3_code 0 = .ok (.getstatic 76, 3) := by decide +kernel
theorem d_of_3 : decode prog_6_method_3_code 3 = .ok (.aload_n 0, 1) := by decide +kernel
theorem d_of_4 : decode prog_6_method_3_code 4 = .ok (.getfield 46, 3) := by decide +kernel
theorem d_of_7 : decode prog_6_method_3_code 7 = .ok (.invokestatic 70, 3) := by decide +kernel
theorem d_of_10 : decode prog_6_method_3_code 10 = .ok (.iconst 0, 1) := by decide +kernel
theorem d_of_11 : decode prog_6_method_3_code 11 = .ok (.istore_n 1, 1) := by decide +kernel
theorem d_of_12 : decode prog_6_method_3_code 12 = .ok (.iload_n 1, 1) := by decide +kernel
theorem d_of_13 : decode prog_6_method_3_code 13 = .ok (.iconst 2, 1) := by decide +kernel
theorem d_of_14 : decode prog_6_method_3_code 14 = .ok (.if_icmp .ge 39, 3) := by decide +kernel
theorem d_of_17 : decode prog_6_method_3_code 17 = .ok (.aload_n 0, 1) := by decide +kernel
theorem d_of_18 : decode prog_6_method_3_code 18 = .ok (.getfield 28, 3) := by decide +kernel
theorem d_of_21 : decode prog_6_method_3_code 21 = .ok (.getfield 79, 3) := by decide +kernel
theorem d_of_24 : decode prog_6_method_3_code 24 = .ok (.iload_n 1, 1) := by decide +kernel
theorem d_of_25 : decode prog_6_method_3_code 25 = .ok (.iconst 1, 1) := by decide +kernel
theorem d_of_26 : decode prog_6_method_3_code 26 = .ok (.iastore, 1) := by decide +kernel
theorem d_of_27 : decode prog_6_method_3_code 27 = .ok (.aload_n 0, 1) := by decide +kernel
theorem d_of_28 : decode prog_6_method_3_code 28 = .ok (.getfield 28, 3) := by decide +kernel
theorem d_of_31 : decode prog_6_method_3_code 31 = .ok (.getfield 82, 3) := by decide +kernel
theorem d_of_34 : decode prog_6_method_3_code 34 = .ok (.iload_n 1, 1) := by decide +kernel
theorem d_of_35 : decode prog_6_method_3_code 35 = .ok (.iconst 0, 1) := by decide +kernel
theorem d_of_36 : decode prog_6_method_3_code 36 = .ok (.iastore, 1) := by decide +kernel
theorem d_of_37 : decode prog_6_method_3_code 37 = .ok (.aload_n 0, 1) := by decide +kernel
theorem d_of_38 : decode prog_6_method_3_code 38 = .ok (.getfield 12, 3) := by decide +kernel
theorem d_of_41 : decode prog_6_method_3_code 41 = .ok (.getfield 85, 3) := by decide +kernel
theorem d_of_44 : decode prog_6_method_3_code 44 = .ok (.iload_n 1, 1) := by decide +kernel
theorem d_of_45 : decode prog_6_method_3_code 45 = .ok (.iconst (-1), 1) := by decide +kernel
theorem d_of_46 : decode prog_6_method_3_code 46 = .ok (.iastore, 1) := by decide +kernel
theorem d_of_47 : decode prog_6_method_3_code 47 = .ok (.iinc 1 1, 3) := by decide +kernel
theorem d_of_50 : decode prog_6_method_3_code 50 = .ok (.goto (-38), 3) := by decide +kernel
theorem d_of_53 : decode prog_6_method_3_code 53 = .ok (.return_, 1) := by decide +kernel
def y_of : MethodName := ⟨"SpansAway$Memory", "openFirst", "()V"⟩
set_option maxRecDepth 100000 in
set_option maxHeartbeats 400000 in
/-- openFirst: what was told first, and two spans that are on -/
theorem ct_of {l : Launch} {cA : Nat → ClassId} {D : va_G} {tb : Nat → Nat} {Lim : Nat} {ad : Nat → Nat} {σ : sm_S} {A0 : Nat → Prop} {sz : Nat} (hD0 : va_D A0 (sm_W xR ad cA σ)) (hLa : ∀ q, sm_A xR ad q → Lim ≤ q) (hs : Lim ≤ sz) : Met l y_of (cws y_of prog_6_method_3_code 2) { frames := 2, cells := 0, slots := 0, locals := 61 } (va_Pc [.ref (ad 0)] (ctB cA D tb Lim sz (sm_W xR ad cA σ))) (va_Qv (S := sm_S) (fun σ' => ∃ f : Nat → Int32, (f 0 = 4 ∧ f 1 = 3 ∧ f 2 = 150 ∧ f 3 = 2) ∧ σ' = ofX (0 + 1) (ofX 0 (sm_set σ 39 f))) (fun σ' t => va_P D vwCl (sm_W xR ad cA σ') t.heap ∧ va_D (va_A (sm_W xR ad cA σ) sz) (sm_W xR ad cA σ')) (va_A (sm_W xR ad cA σ) sz)) 0 0 (va_A (sm_W xR ad cA σ) sz) := by
  refine Met.ofW (cc := prog_6_method_3_code) (maxL := 2) (ret := none) (by decide) rfl ?_
  intro p e s m args below meth c s₁ B hml hv
  obtain ⟨rfl, rfl, hP, hK, hZ, hN⟩ := hv
  have hl := lv_entry ([.ref (ad 0)]) (n := 2) (Nat.le_of_ble_eq_true rfl)
  rw [lg_entry_eq]
  generalize (lg_sl ([.ref (ad 0)]) ++ List.replicate (2 - (lg_sl ([.ref (ad 0)])).length) Slot.unset).toArray = L at hl ⊢
  have hl : lv_has L 2 [(0, .ref (ad 0))] := hl
  have hD : va_D (va_A (sm_W xR ad cA σ) s.heap.size) (sm_W xR ad cA σ) := hD0.self
  have X : CX p s m #[.ref (ad 0)] c (cws y_of prog_6_method_3_code 2) "SpansAway$Memory" prog_6_method_3_code 2 D cA tb Lim (va_A (sm_W xR ad cA σ) s.heap.size) := ⟨B.exec, B.bytes, hml, findClass_of_methodNamed B.named, atoms_spec (ws := cws y_of prog_6_method_3_code 2) B.pre, cws_has, hK, hZ, fun q h => Or.inr h, sm_A_of hD0 hLa hs⟩
  have hZF : va_Z "SpansAway" "FIRST_TOLD" "[I" (.ref (tb 1003)) (va_A (sm_W xR ad cA σ) s.heap.size) s s.heap := hZ.2.1.narrow X.hL
  have hS : va_S (va_A (sm_W xR ad cA σ) s.heap.size) s.heap s.heap [] := va_S.rf
  have hr := B.returns
  have hlocks := B.notSynchronized
  generalize va_A (sm_W xR ad cA σ) s.heap.size = A at X hZF hS hD ⊢
  have hm : ∀ τ : sm_S, (sm_W xR ad cA τ)[0]? = some (ad 0, .inr (4, [.ref (ad 1), .ref (ad 8), .ref (ad 17), .ref (ad 26), .ref (ad 34), .ref (ad 39), .ref (ad 40), .int (τ 0 7)])) := fun τ => sm_W_at (SH := xR) (s := .inr (4, [.inr 1, .inr 8, .inr 17, .inr 26, .inr 34, .inr 39, .inr 40, .inl 0])) rfl
  have hs0 := hs
  have hs : ∀ τ : sm_S, (sm_W xR ad cA τ)[17]? = some (ad 17, .inr (5, [.ref (ad 18), .ref (ad 19), .ref (ad 20), .ref (ad 21), .ref (ad 22), .ref (ad 23), .ref (ad 24), .ref (ad 25)])) := fun τ => sm_W_at (SH := xR) (s := .inr (5, [.inr 18, .inr 19, .inr 20, .inr 21, .inr 22, .inr 23, .inr 24, .inr 25])) rfl
  have hf : ∀ τ : sm_S, (sm_W xR ad cA τ)[1]? = some (ad 1, .inr (1, [.ref (ad 2), .ref (ad 3), .ref (ad 4), .ref (ad 5), .ref (ad 6), .ref (ad 7)])) := fun τ => sm_W_at (SH := xR) (s := .inr (1, [.inr 2, .inr 3, .inr 4, .inr 5, .inr 6, .inr 7])) rfl
  have body : ∀ (x : Int32) (τ : sm_S) (H : Heap) (locs : List Loc) (L : Array Slot), vp_in x 8 → lv_has L 2 [(1, .int x), (0, .ref (ad 0))] → va_P D vwCl (sm_W xR ad cA τ) H → va_D A (sm_W xR ad cA τ) → va_S A s.heap H locs →
      (∀ (τ' : sm_S) (H : Heap) (locs : List Loc) (L : Array Slot), τ' = ofX x τ → lv_has L 2 [(1, .int (x + 1)), (0, .ref (ad 0))] → va_P D vwCl (sm_W xR ad cA τ') H → va_D A (sm_W xR ad cA τ') → va_S A s.heap H locs → W p l e { frames := 2, cells := 0, slots := 0, locals := 61 } s m #[.ref (ad 0)] below meth c H locs 0 0 (MQ below (va_Qv (S := sm_S) (fun σ' => ∃ f : Nat → Int32, (f 0 = 4 ∧ f 1 = 3 ∧ f 2 = 150 ∧ f 3 = 2) ∧ σ' = ofX (0 + 1) (ofX 0 (sm_set σ 39 f))) (fun σ' t => va_P D vwCl (sm_W xR ad cA σ') t.heap ∧ va_D A (sm_W xR ad cA σ')) A) #[.ref (ad 0)] s 0 0 A) (F0 m 12 L [])) →
      W p l e { frames := 2, cells := 0, slots := 0, locals := 61 } s m #[.ref (ad 0)] below meth c H locs 0 0 (MQ below (va_Qv (S := sm_S) (fun σ' => ∃ f : Nat → Int32, (f 0 = 4 ∧ f 1 = 3 ∧ f 2 = 150 ∧ f 3 = 2) ∧ σ' = ofX (0 + 1) (ofX 0 (sm_set σ 39 f))) (fun σ' t => va_P D vwCl (sm_W xR ad cA σ') t.heap ∧ va_D A (sm_W xR ad cA σ')) A) #[.ref (ad 0)] s 0 0 A) (F0 m 17 L []) := by
    intro x τ H locs L hx hl hP hD hS kk
    refine lv_aload_n X.hx X.hb d_of_17 rfl (lv_at hl 1 rfl) ?_
    refine R_gf X hP 0 (hm _) (cT := (RX4, TX4, 8)) rfl 2 (Nat.le_of_ble_eq_true rfl) (v := .ref (ad 17)) rfl (ctW_ok (i := 99) rfl) d_of_18 ?_
    refine R_gf X hP 17 (hs _) (cT := (RX6, TX6, 8)) rfl 0 (Nat.le_of_ble_eq_true rfl) (v := .ref (ad 18)) rfl (ctW_ok (i := 144) rfl) d_of_21 ?_
    refine lv_iload_n X.hx X.hb d_of_24 rfl (lv_at hl 0 rfl) ?_
    refine lv_iconst (v := 1) X.hx X.hb d_of_25 (by decide) ?_
    refine va_iast X.hx X.hb X.hK hP hD hS 18 0 (sm_W_at (s := .inl (0, 8)) rfl) rfl hx d_of_26 (fun H locs hP hD hS => ?_)
    rw [sm_W_set (SH := xR) (ad := ad) (cA := cA) (σ := τ) (k := 18) (s := .inl (0, 8)) (f := upd (τ 18) x.toNatClampNeg 1) (e := .inl (cA 0, 8, .inl (upd (τ 18) x.toNatClampNeg 1))) rfl rfl] at hP hD
    refine lv_aload_n X.hx X.hb d_of_27 rfl (lv_at hl 1 rfl) ?_
    refine R_gf X hP 0 (hm _) (cT := (RX4, TX4, 8)) rfl 2 (Nat.le_of_ble_eq_true rfl) (v := .ref (ad 17)) rfl (ctW_ok (i := 99) rfl) d_of_28 ?_
    refine R_gf X hP 17 (hs _) (cT := (RX6, TX6, 8)) rfl 1 (Nat.le_of_ble_eq_true rfl) (v := .ref (ad 19)) rfl (ctW_ok (i := 145) rfl) d_of_31 ?_
    refine lv_iload_n X.hx X.hb d_of_34 rfl (lv_at hl 0 rfl) ?_
    refine lv_iconst (v := 0) X.hx X.hb d_of_35 (by decide) ?_
    refine va_iast X.hx X.hb X.hK hP hD hS 19 0 (sm_W_at (s := .inl (0, 8)) rfl) rfl hx d_of_36 (fun H locs hP hD hS => ?_)
    rw [sm_W_set (SH := xR) (ad := ad) (cA := cA) (σ := (sm_set τ 18 (upd (τ 18) x.toNatClampNeg 1))) (k := 19) (s := .inl (0, 8)) (f := upd ((sm_set τ 18 (upd (τ 18) x.toNatClampNeg 1)) 19) x.toNatClampNeg 0) (e := .inl (cA 0, 8, .inl (upd ((sm_set τ 18 (upd (τ 18) x.toNatClampNeg 1)) 19) x.toNatClampNeg 0))) rfl rfl] at hP hD
    refine lv_aload_n X.hx X.hb d_of_37 rfl (lv_at hl 1 rfl) ?_
    refine R_gf X hP 0 (hm _) (cT := (RX4, TX4, 8)) rfl 0 (Nat.le_of_ble_eq_true rfl) (v := .ref (ad 1)) rfl (ctW_ok (i := 93) rfl) d_of_38 ?_
    refine R_gf X hP 1 (hf _) (cT := (RX1, TX1, 6)) rfl 0 (Nat.le_of_ble_eq_true rfl) (v := .ref (ad 2)) rfl (ctW_ok (i := 146) rfl) d_of_41 ?_
    refine lv_iload_n X.hx X.hb d_of_44 rfl (lv_at hl 0 rfl) ?_
    refine lv_iconst (v := -1) X.hx X.hb d_of_45 (by decide) ?_
    refine va_iast X.hx X.hb X.hK hP hD hS 2 0 (sm_W_at (s := .inl (0, 8)) rfl) rfl hx d_of_46 (fun H locs hP hD hS => ?_)
    rw [sm_W_set (SH := xR) (ad := ad) (cA := cA) (σ := (sm_set (sm_set τ 18 (upd (τ 18) x.toNatClampNeg 1)) 19 (upd ((sm_set τ 18 (upd (τ 18) x.toNatClampNeg 1)) 19) x.toNatClampNeg 0))) (k := 2) (s := .inl (0, 8)) (f := upd ((sm_set (sm_set τ 18 (upd (τ 18) x.toNatClampNeg 1)) 19 (upd ((sm_set τ 18 (upd (τ 18) x.toNatClampNeg 1)) 19) x.toNatClampNeg 0)) 2) x.toNatClampNeg (-1)) (e := .inl (cA 0, 8, .inl (upd ((sm_set (sm_set τ 18 (upd (τ 18) x.toNatClampNeg 1)) 19 (upd ((sm_set τ 18 (upd (τ 18) x.toNatClampNeg 1)) 19) x.toNatClampNeg 0)) 2) x.toNatClampNeg (-1)))) rfl rfl] at hP hD
    refine lv_iinc (v := x + 1) (lv' := [(1, .int (x + 1)), (0, .ref (ad 0))]) X.hx X.hb d_of_47 hl (k := 0) rfl rfl (by decide) rfl (fun L hl => ?_)
    refine lv_goto (tgt := 12) X.hx X.hb d_of_50 (by decide) ?_
    exact kk _ H locs L rfl hl hP hD hS
  refine va_getsN X.hx X.hb hZF hS X.hown (va_Nw.use rfl hN.2) (fun _ h => h) d_of_0 ?_
  refine lv_aload_n X.hx X.hb d_of_3 rfl (lv_at hl 0 rfl) ?_
  refine R_gf X hP 0 (hm _) (cT := (RX4, TX4, 8)) rfl 5 (Nat.le_of_ble_eq_true rfl) (v := .ref (ad 39)) rfl (ctW_ok (i := 105) rfl) d_of_4 ?_
  have hFc : ∀ q, va_A (sm_W xR ad cA σ) s.heap.size q → A q := by
    rintro q (⟨i, e, h⟩ | h)
    · exact hD.2 i (q, e) h
    · exact X.hA q h
  have hG : GoodIn (cws y_of prog_6_method_3_code 2) (va_wsS "SpansAway$Memory" 70 y_cp (cws y_cp prog_7_method_8_code 2)) := by
    intro w hw
    unfold va_wsS at hw
    rcases List.mem_append.mp hw with hw | hw
    · simp only [List.mem_cons, List.not_mem_nil, or_false] at hw
      rcases hw with rfl | rfl | rfl
      · exact good_in X.hTs (ctW_ok (i := 147) rfl) rfl
      · exact good_in X.hTs (sm_st_ok 1 (by decide)) rfl
      · exact good_in X.hTs (sm_in_ok m_R_copy (List.mem_of_getElem? (i := 1) rfl)) rfl
    · exact good_c X.hTs (sm_cd_ok m_R_copy (List.mem_of_getElem? (i := 1) rfl)) w hw
  refine va_callv (va_runS (As := [.ref (tb 1003), .ref (ad 39)]) (rest := []) ⟨X.hx, X.hb, X.hml, X.hown, X.hts⟩ (ct_cp (SH := xR) (ad := ad) (σ := σ) (k := 39) rfl hD0 hLa hs0) (va_cwS 2 X.hts hG rfl rfl rfl (by decide +kernel) ⟨Nat.le_of_ble_eq_true rfl, Nat.le_of_ble_eq_true rfl⟩) ⟨ctB_blind, fun U hU hW => ⟨rfl, by rw [hU], by rw [hU]; exact hP, va_K.moved hW.alike X.hK, by rw [hU]; exact (X.zt hS).moved hW.alike, hN.warm hW⟩⟩ rfl rfl hl.1 rfl (lv_room (Nat.le_of_ble_eq_true rfl)) d_of_7 ⟨Nat.le_refl 0, Nat.le_refl 0⟩) hS (fun q _ h => hFc q h) hFc (fun f t H1 locs1 ht hvm hw hB hz1 hk1 hS => ?_)
  rw [ht] at hB
  have hP : va_P D vwCl (sm_W xR ad cA (sm_set σ 39 f)) H1 := hB
  have hD : va_D A (sm_W xR ad cA (sm_set σ 39 f)) := sm_DA hD
  refine lv_iconst (v := 0) X.hx X.hb d_of_10 (by decide) ?_
  refine lv_istore_n (lv' := [(1, .int 0), (0, .ref (ad 0))]) X.hx X.hb d_of_11 rfl hl (by decide) rfl (fun L hl => ?_)
  refine lv_iload_n X.hx X.hb d_of_12 rfl (lv_at hl 0 rfl) ?_
  refine lv_iconst (v := 2) X.hx X.hb d_of_13 (by decide) ?_
  refine lv_icmp_ge (tgt := 53) X.hx X.hb d_of_14 (by decide) (fun h => absurd h (by decide)) (fun _ => ?_)
  refine body 0 _ H1 _ L (t_vp (n := 0) rfl (by decide)) hl hP hD hS (fun τ1 H2 locs2 L2 h1 hl hP hD hS => ?_)
  refine lv_iload_n X.hx X.hb d_of_12 rfl (lv_at hl 0 rfl) ?_
  refine lv_iconst (v := 2) X.hx X.hb d_of_13 (by decide) ?_
  refine lv_icmp_ge (tgt := 53) X.hx X.hb d_of_14 (by decide) (fun h => absurd h (by decide)) (fun _ => ?_)
  refine body (0 + 1) _ H2 _ L2 (t_vp (n := 1) rfl (by decide)) hl hP hD hS (fun τ2 H3 locs3 L3 h2 hl hP hD hS => ?_)
  refine lv_iload_n X.hx X.hb d_of_12 rfl (lv_at hl 0 rfl) ?_
  refine lv_iconst (v := 2) X.hx X.hb d_of_13 (by decide) ?_
  refine lv_icmp_ge (tgt := 53) X.hx X.hb d_of_14 (by decide) (fun _ => ?_) (fun h => absurd (by decide) h)
  exact W.vret X.hx X.hb hr (fun t ht hW => ⟨⟨τ2, rfl, ⟨f, hw, by rw [h2, h1]⟩, (show va_P D vwCl _ t.heap by rw [ht]; exact hP), hD⟩, hS.F ht⟩) hS.2.2 d_of_53 (hlocks := hlocks)
