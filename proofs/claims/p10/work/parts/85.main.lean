/-! ===== the machine's walk, by sm_run ===== -/
def sm_Qc (SH : List sm_Sh) (ad : Nat → Nat) (cA : Nat → ClassId) (D : va_G) (r : Option Value) (σ' : sm_S) : Array Value → State → Outcome → State → Prop := fun _ st oc t => oc = .returned (r.map (sm_cv ad)) ∧ va_P D vwCl (sm_W SH ad cA σ') t.heap ∧ va_F (sm_A SH ad) st t
def sm_Bc (SH : List sm_Sh) (ad : Nat → Nat) (cA : Nat → ClassId) (D : va_G) (σ : sm_S) (U : State) : Prop := va_P D vwCl (sm_W SH ad cA σ) U.heap ∧ va_K D vwCl (sm_tys cA) U ∧ sm_Z ad (sm_A SH ad) U U.heap
def sm_Cx (SH : List sm_Sh) (ad : Nat → Nat) (cA : Nat → ClassId) (D : va_G) (M : sm_M) (p : Program) (s : State) (m : MethodId) (args : Array Value) (meth : Method) (c : Code) : Prop :=
  p.tables.exec = Jvm.exec ∧ c.code = M.2.1 ∧ meth.sig.returnType = M.2.2.2.1 ∧ meth.locks = false ∧ c.maxLocals = M.2.2.1 ∧ s.vm.findClass M.1.cls = some m.cls ∧ (∀ w ∈ sm_ws M, w.before args s = true) ∧ va_K D vwCl (sm_tys cA) s ∧ sm_Z ad (sm_A SH ad) s s.heap
def sm_G (l : Launch) (SH : List sm_Sh) (ad : Nat → Nat) (cA : Nat → ClassId) (D : va_G) (M : sm_M) (r : Option Value) (σ' : sm_S) (p : Program) (e : Env) (s : State) (m : MethodId) (args : Array Value) (below : List Frame) (meth : Method) (c : Code) (pc : Nat) (ls st : List Value) (σ : sm_S) : Prop :=
  ∀ (H : Heap) (locs : List Loc) (L : Array Slot), va_P D vwCl (sm_W SH ad cA σ) H → va_S (sm_A SH ad) s.heap H locs → lv_has L M.2.2.1 (sm_lv ad ls) → W p l e (sm_rm M) s m args below meth c H locs 0 0 (MQ below (sm_Qc SH ad cA D r σ') args s 0 0 (sm_A SH ad)) (F0 m pc L (st.map (sm_cv ad)))
section CALLX
variable {l : Launch} {SH : List sm_Sh} {ad : Nat → Nat} {cA : Nat → ClassId} {D : va_G} {p : Program} {e : Env} {R : Room} {s : State} {m : MethodId} {args : Array Value} {below : List Frame} {meth : Method} {c : Code} {H : Heap} {locs : List Loc}
theorem sm_callx {pc : Nat} {L : Array Slot} {st0 rest : List Value} {r0 : Option Value} {σ1 : sm_S} {Q : State → Prop} {a : Array Value} (hr : va_Run p l e R s m args below meth c H locs 0 0 0 0 (F0 m pc L st0) rest (sm_Qc SH ad cA D r0 σ1 a) (sm_A SH ad)) (hS : va_S (sm_A SH ad) s.heap H locs)
    (kk : ∀ (H1 : Heap) (locs1 : List Loc), va_P D vwCl (sm_W SH ad cA σ1) H1 → va_S (sm_A SH ad) s.heap H1 locs1 → W p l e R s m args below meth c H1 locs1 0 0 Q (F0 m (pc + 3) L ((r0.map (sm_cv ad)).toList ++ rest))) : W p l e R s m args below meth c H locs 0 0 Q (F0 m pc L st0) := by
  intro T hT X
  obtain ⟨v, st₀, t, T', L', h0, X', hL, e1, e2, ⟨hv, hp, hz, hk⟩, st⟩ := hr T hT X
  have hv' : v = r0.map (sm_cv ad) := by injection hv
  subst hv'
  rw [h0] at hz hk
  obtain ⟨t2, a1, b1⟩ := kk T'.heap (locs ++ L') (by rw [e1]; exact hp)
    ⟨Nat.le_trans hS.1 (by rw [e1]; exact hz), fun q h1 h2 => by rw [e1, hk q (Nat.lt_of_lt_of_le h1 hS.1) h2]; exact hS.2.1 q h1 h2, fun q hq => by
      rcases List.mem_append.mp hq with h | h
      · exact hS.2.2 q h
      · exact hL q h⟩ T' rfl X'
  exact ⟨t2, st t2 a1, b1⟩
theorem sm_blind {as : List Value} {σ : sm_S} : FrameBlind (va_Pc (as.map (sm_cv ad)) (sm_Bc SH ad cA D σ)) := by
  rintro a U g mk ⟨h1, h2, h3, h4⟩
  exact ⟨h1, h2, va_K.moved (u := U) (U := U.calling g mk a) (Vm.Alike.refl U.vm) h3, sm_Z.moved (u := U) (U := U.calling g mk a) (Vm.Alike.refl U.vm) h4⟩
theorem sm_preB {σ : sm_S} (hK : va_K D vwCl (sm_tys cA) s) (hZ : sm_Z ad (sm_A SH ad) s s.heap) (hP : va_P D vwCl (sm_W SH ad cA σ) H) (hS : va_S (sm_A SH ad) s.heap H locs) {U : State} (hU : U.heap = H) (hW : s.WarmedH U.vm) : sm_Bc SH ad cA D σ U := by
  refine ⟨by rw [hU]; exact hP, va_K.moved hW.alike hK, ?_⟩
  rw [hU]
  exact (hZ.moved hW.alike).kept hS.2.1
end CALLX
/-- the contract of a method, out of its walk -/
theorem sm_toMet {l : Launch} {SH : List sm_Sh} {ad : Nat → Nat} {cA : Nat → ClassId} {D : va_G} {M : sm_M} (hM : M ∈ sm_MS) {as : List Value} {σ σ' : sm_S} {r : Option Value} (hv : ∀ v ∈ as, sm_ir v) (hn : as.length ≤ M.2.2.1)
    (h : ∀ p e s m args below meth c, sm_Cx SH ad cA D M p s m args meth c → sm_G l SH ad cA D M r σ' p e s m args below meth c 0 (sm_ent M as) [] σ) :
    Met l M.1 (sm_ws M) (sm_rm M) (va_Pc (as.map (sm_cv ad)) (sm_Bc SH ad cA D σ)) (sm_Qc SH ad cA D r σ') 0 0 (sm_A SH ad) := by
  have hc := sm_ck_ok M hM
  simp only [sm_chk, sm_mok, Bool.and_eq_true, decide_eq_true_eq] at hc
  refine Met.ofW (cc := M.2.1) (maxL := M.2.2.1) (ret := M.2.2.2.1) hc.1.2.2.2.1 rfl ?_
  intro p e s m args below meth c s₁ B hml hv0
  obtain ⟨rfl, hP, hK, hZ⟩ := hv0
  have hl := lv_entry (as.map (sm_cv ad)) (n := M.2.2.1) (by rw [sm_slen as hv]; exact hn)
  rw [lg_entry_eq]
  exact h p e s m _ below meth c ⟨B.exec, B.bytes, B.returns, B.notSynchronized, hml, findClass_of_methodNamed B.named, atoms_spec (ws := sm_ws M) B.pre, hK, hZ⟩ s.heap [] _ hP va_S.rf (sm_ent_has hv hl)
theorem sm_sw_run {f : Nat → sm_X} {x : Int32} {d : Nat} {y : Option Value × sm_S} : ∀ (sw : List (Int32 × Nat)), sm_sw (fun c a b => sm_if c a b) f x d sw = some y → (∃ t, (x, t) ∈ sw ∧ f t = some y) ∨ ((∀ q ∈ sw, x ≠ q.1) ∧ f d = some y)
  | [], h => Or.inr ⟨fun _ hq => absurd hq List.not_mem_nil, h⟩
  | (v, t) :: r, h => by
    simp only [sm_sw] at h
    by_cases hc : x = v
    · rw [sm_if_t hc] at h
      exact Or.inl ⟨t, by rw [hc]; exact List.mem_cons_self, h⟩
    · rw [sm_if_f hc] at h
      rcases sm_sw_run r h with ⟨t2, h1, h2⟩ | ⟨h1, h2⟩
      · exact Or.inl ⟨t2, List.mem_cons_of_mem _ h1, h2⟩
      · refine Or.inr ⟨fun q hq => ?_, h2⟩
        rcases List.mem_cons.mp hq with rfl | hq
        · exact hc
        · exact h1 q hq
