/-! ===== constructors and the law: rows ===== -/
def cws (y : MethodName) (b : ByteArray) (mx : Nat) : List Cond := Cond.code y b mx none :: sm_wd
/-- a list that holds the good words -/
def hasWd (Ts : List Cond) : Prop := ∀ w ∈ lw_tbl, goodWord w = true → w ∈ Ts
theorem cws_has {y : MethodName} {b : ByteArray} {mx : Nat} : hasWd (cws y b mx) := fun _ h g => List.mem_cons_of_mem _ (sm_wd_of h g)
theorem tbl_has : hasWd lw_tbl := fun _ h _ => h
theorem good_in {Ts : List Cond} (h : hasWd Ts) {w : Cond} (hw : w ∈ lw_tbl) (hg : goodWord w = true) : w ∈ Ts ∧ ((w.onTables && w.keeps) = true ∨ ∃ ty, w = .arrayClass ty) := ⟨h w hw hg, good_of_word hg⟩
theorem good_M {Ts : List Cond} (h : hasWd Ts) {M' : sm_M} (hM : M' ∈ sm_MS) : GoodIn Ts (sm_ws M') := by
  intro w hw
  rcases List.mem_cons.mp hw with rfl | hw
  · exact good_in h (sm_cd_ok M' hM) rfl
  · obtain ⟨h1, h2⟩ := List.mem_filter.mp hw
    exact good_in h h1 h2
theorem good_c {Ts : List Cond} (h : hasWd Ts) {y : MethodName} {b : ByteArray} {mx : Nat} (hc : Cond.code y b mx none ∈ lw_tbl) : GoodIn Ts (cws y b mx) := by
  intro w hw
  rcases List.mem_cons.mp hw with rfl | hw
  · exact good_in h hc rfl
  · obtain ⟨h1, h2⟩ := List.mem_filter.mp hw
    exact good_in h h1 h2
theorem la_in {Ts : List Cond} (hT : hasWd Ts) {ci : Nat} {cT : vw_C} (h : vwCl[ci]? = some cT) : ∀ w ∈ u_ws cT.1 cT.2.1 cT.2.2, w ∈ Ts := by
  intro w hw
  refine hT w (sm_lays ci cT h w hw) ?_
  obtain ⟨k, -, rfl⟩ := List.mem_map.mp hw
  unfold u_lay
  split <;> rfl
def ZF (tb : Nat → Nat) (A : Nat → Prop) (U : State) (H : Heap) : Prop := va_Z "SpansAway" "FIRST_TOLD" "[I" (.ref (tb 1003)) A U H ∧ va_T .int (tb 1003) 4 (fun j => .int (([4, 3, 150, 2] : List Int32).getD j 0)) A U H
def ZT (tb : Nat → Nat) (Lim : Nat) (U : State) (H : Heap) : Prop := sm_Z tb (fun q => Lim ≤ q) U H ∧ ZF tb (fun q => Lim ≤ q) U H
theorem ZT.moved {tb : Nat → Nat} {Lim : Nat} {u U : State} {H : Heap} (hvm : u.vm.Alike U.vm) (h : ZT tb Lim u H) : ZT tb Lim U H := ⟨h.1.moved hvm, h.2.1.moved hvm, h.2.2.moved hvm⟩
theorem ZT.kept {tb : Nat → Nat} {Lim : Nat} {U : State} {H H1 : Heap} (h : ZT tb Lim U H) (hq : ∀ a : Nat, a < H.size → ¬ Lim ≤ a → H1[a]? = H[a]?) : ZT tb Lim U H1 := ⟨h.1.kept hq, h.2.1.kept hq, h.2.2.kept hq⟩
theorem sm_Z.ad {ad tb : Nat → Nat} {A B : Nat → Prop} {U : State} {H : Heap} (h : sm_Z tb A U H) (hAB : ∀ q, B q → A q) (ha : ∀ t q, sm_TB[t]? = some q → ad (1000 + t) = tb (1000 + t)) : sm_Z ad B U H := fun t q hq => by
  rw [ha t q hq]
  exact ⟨(h t q hq).1.narrow hAB, (h t q hq).2.narrow hAB⟩
/-- what stands fast in a method's walk -/
def CX (p : Program) (s : State) (m : MethodId) (args : Array Value) (c : Code) (Ts : List Cond) (own : String) (cc : ByteArray) (nL : Nat) (D : va_G) (cA : Nat → ClassId) (tb : Nat → Nat) (Lim : Nat) (A : Nat → Prop) : Prop := (p.tables.exec = Jvm.exec) ∧ (c.code = cc) ∧ (c.maxLocals = nL) ∧ (s.vm.findClass own = some m.cls) ∧ (∀ w ∈ Ts, w.before args s = true) ∧ (hasWd Ts) ∧ (va_K D vwCl (sm_tys cA) s) ∧ (ZT tb Lim s s.heap) ∧ (∀ q, s.heap.size ≤ q → A q) ∧ (∀ q, A q → Lim ≤ q)
theorem CX.hx {p : Program} {s : State} {m : MethodId} {args : Array Value} {c : Code} {Ts : List Cond} {own : String} {cc : ByteArray} {nL : Nat} {D : va_G} {cA : Nat → ClassId} {tb : Nat → Nat} {Lim : Nat} {A : Nat → Prop} (h : CX p s m args c Ts own cc nL D cA tb Lim A) : p.tables.exec = Jvm.exec := h.1
theorem CX.hb {p : Program} {s : State} {m : MethodId} {args : Array Value} {c : Code} {Ts : List Cond} {own : String} {cc : ByteArray} {nL : Nat} {D : va_G} {cA : Nat → ClassId} {tb : Nat → Nat} {Lim : Nat} {A : Nat → Prop} (h : CX p s m args c Ts own cc nL D cA tb Lim A) : c.code = cc := h.2.1
theorem CX.hml {p : Program} {s : State} {m : MethodId} {args : Array Value} {c : Code} {Ts : List Cond} {own : String} {cc : ByteArray} {nL : Nat} {D : va_G} {cA : Nat → ClassId} {tb : Nat → Nat} {Lim : Nat} {A : Nat → Prop} (h : CX p s m args c Ts own cc nL D cA tb Lim A) : c.maxLocals = nL := h.2.2.1
theorem CX.hown {p : Program} {s : State} {m : MethodId} {args : Array Value} {c : Code} {Ts : List Cond} {own : String} {cc : ByteArray} {nL : Nat} {D : va_G} {cA : Nat → ClassId} {tb : Nat → Nat} {Lim : Nat} {A : Nat → Prop} (h : CX p s m args c Ts own cc nL D cA tb Lim A) : s.vm.findClass own = some m.cls := h.2.2.2.1
theorem CX.hts {p : Program} {s : State} {m : MethodId} {args : Array Value} {c : Code} {Ts : List Cond} {own : String} {cc : ByteArray} {nL : Nat} {D : va_G} {cA : Nat → ClassId} {tb : Nat → Nat} {Lim : Nat} {A : Nat → Prop} (h : CX p s m args c Ts own cc nL D cA tb Lim A) : ∀ w ∈ Ts, w.before args s = true := h.2.2.2.2.1
theorem CX.hTs {p : Program} {s : State} {m : MethodId} {args : Array Value} {c : Code} {Ts : List Cond} {own : String} {cc : ByteArray} {nL : Nat} {D : va_G} {cA : Nat → ClassId} {tb : Nat → Nat} {Lim : Nat} {A : Nat → Prop} (h : CX p s m args c Ts own cc nL D cA tb Lim A) : hasWd Ts := h.2.2.2.2.2.1
theorem CX.hK {p : Program} {s : State} {m : MethodId} {args : Array Value} {c : Code} {Ts : List Cond} {own : String} {cc : ByteArray} {nL : Nat} {D : va_G} {cA : Nat → ClassId} {tb : Nat → Nat} {Lim : Nat} {A : Nat → Prop} (h : CX p s m args c Ts own cc nL D cA tb Lim A) : va_K D vwCl (sm_tys cA) s := h.2.2.2.2.2.2.1
theorem CX.hZ {p : Program} {s : State} {m : MethodId} {args : Array Value} {c : Code} {Ts : List Cond} {own : String} {cc : ByteArray} {nL : Nat} {D : va_G} {cA : Nat → ClassId} {tb : Nat → Nat} {Lim : Nat} {A : Nat → Prop} (h : CX p s m args c Ts own cc nL D cA tb Lim A) : ZT tb Lim s s.heap := h.2.2.2.2.2.2.2.1
theorem CX.hA {p : Program} {s : State} {m : MethodId} {args : Array Value} {c : Code} {Ts : List Cond} {own : String} {cc : ByteArray} {nL : Nat} {D : va_G} {cA : Nat → ClassId} {tb : Nat → Nat} {Lim : Nat} {A : Nat → Prop} (h : CX p s m args c Ts own cc nL D cA tb Lim A) : ∀ q, s.heap.size ≤ q → A q := h.2.2.2.2.2.2.2.2.1
theorem CX.hL {p : Program} {s : State} {m : MethodId} {args : Array Value} {c : Code} {Ts : List Cond} {own : String} {cc : ByteArray} {nL : Nat} {D : va_G} {cA : Nat → ClassId} {tb : Nat → Nat} {Lim : Nat} {A : Nat → Prop} (h : CX p s m args c Ts own cc nL D cA tb Lim A) : ∀ q, A q → Lim ≤ q := h.2.2.2.2.2.2.2.2.2
section ROWS
variable {p : Program} {l : Launch} {e : Env} {R : Room} {s : State} {m : MethodId} {args : Array Value} {below : List Frame} {meth : Method} {c : Code} {H : Heap} {locs : List Loc} {cells slots : Nat} {Q : State → Prop} {pc : Nat} {L : Array Slot} {rest : List Value}
variable {Ts : List Cond} {own : String} {cc : ByteArray} {nL : Nat} {D : va_G} {cA : Nat → ClassId} {tb : Nat → Nat} {Lim : Nat} {A : Nat → Prop}
theorem CX.w (X : CX p s m args c Ts own cc nL D cA tb Lim A) {w : Cond} (h : w ∈ lw_tbl) (hg : goodWord w = true) : w.before args s = true := X.hts w (X.hTs w h hg)
/-- the tables, in the heap as it is now -/
theorem CX.zt (X : CX p s m args c Ts own cc nL D cA tb Lim A) (hS : va_S A s.heap H locs) : ZT tb Lim s H := X.hZ.kept (fun a h1 h2 => hS.2.1 a h1 (fun z => h2 (X.hL a z)))
/-- an array of ints is made and laid into a final field -/
theorem R_np (X : CX p s m args c Ts own cc nL D cA tb Lim A) (hin : meth.name = "<init>") {h0 ci : Nat} {fs : List Value} {tl : va_W} (hP : va_P D vwCl ((h0, .inr (ci, fs)) :: tl) H) (hD : va_D A ((h0, .inr (ci, fs)) :: tl)) (hS : va_S A s.heap H locs) {cT : vw_C} (hc : vwCl[ci]? = some cT) (k : Nat) (hk : k < cT.2.2) (hfs : k < fs.length) (hfin : (cT.2.1 k).2.2.2 = true) (hdecl : (cT.2.1 k).1 = own) (hds : parseFieldDescriptor (cT.2.1 k).2.2.1 = some (.array .int)) {idx : Nat} (hlink : Cond.fieldLink own idx (cT.2.1 k).1 (cT.2.1 k).2.1 (cT.2.1 k).2.2.1 ∈ lw_tbl) {n : Int32} (N : Nat) (hn : ¬ n < 0) (hN : n.toNatClampNeg = N) (hNb : N ≤ 3000) (hcells : cells + 1 ≤ R.cells) (hslots : slots + N ≤ R.slots) (hd1 : decode cc pc = .ok (.newarray .int, 2)) (hd2 : decode cc (pc + 2) = .ok (.putfield idx, 3))
    (kk : ∀ (q : Nat) (H1 : Heap) (locs1 : List Loc), va_P D vwCl ((h0, .inr (ci, fs.set k (.ref q))) :: (tl ++ [(q, .inl (cA 0, N, .inl (fun _ => 0)))])) H1 → va_D A ((h0, .inr (ci, fs.set k (.ref q))) :: (tl ++ [(q, .inl (cA 0, N, .inl (fun _ => 0)))])) → va_S A s.heap H1 locs1 → W p l e R s m args below meth c H1 locs1 (cells + 1) (slots + N) Q (F0 m (pc + 5) L rest)) :
    W p l e R s m args below meth c H locs cells slots Q (F0 m pc L (.int n :: .ref h0 :: rest)) := by
  obtain ⟨ty0, hty, hnm⟩ := sm_tyn ci cT hc
  refine va_newa X.hx X.hb (X.w (List.mem_of_getElem? (i := 183) (by decide +kernel)) rfl) (atype := .int) (ty := .int) rfl X.hK hP hD hS X.hA (a0 := (N, .inl (fun _ => 0))) (fun _ => rfl) hn hN (by show N * 4 ≤ _; omega) hcells hslots hd1 (fun q cA' H1 hK' hP hD hS => ?_)
  have hcA : cA' = cA 0 := by
    have e1 : s.vm.findClass ("[" ++ FieldType.int.toString) = some (cA 0) := (X.hK.2 0 (cA 0, .int) rfl).2
    have e2 : s.vm.findClass ("[" ++ FieldType.int.toString) = some cA' := (hK'.2 2 (cA', .int) rfl).2
    rw [e1] at e2
    cases e2
    rfl
  subst hcA
  exact va_putF (D := D) (ci := ci) (v := .ref q) (ty := .array .int) (C := cT.1) (T := cT.2.1) (N := cT.2.2) X.hx X.hb X.hts (la_in X.hTs hc) ty0 hty hnm X.hown X.hK hP hD hS 0 rfl hc k hk (X.w hlink rfl) (fun _ h9 => h9) hfin hin hdecl hds rfl rfl hfs hd2 (fun H1 locs1 hP hD hS => kk q H1 locs1 hP hD hS)
/-- a call of a method of the store machine comes back -/
theorem sm_callA {SH : List sm_Sh} {ad : Nat → Nat} {st0 : List Value} {r0 : Option Value} {σ1 : sm_S} {a : Array Value} (hr : va_Run p l e R s m args below meth c H locs cells slots 0 0 (F0 m pc L st0) rest (sm_Qc SH ad cA D r0 σ1 a) (sm_A SH ad)) (hS : va_S A s.heap H locs) (hsub : ∀ q, sm_A SH ad q → A q)
    (kk : ∀ (H1 : Heap) (locs1 : List Loc), va_P D vwCl (sm_W SH ad cA σ1) H1 → (∀ q : Nat, q < H.size → ¬ sm_A SH ad q → H1[q]? = H[q]?) → va_S A s.heap H1 locs1 → W p l e R s m args below meth c H1 locs1 cells slots Q (F0 m (pc + 3) L ((r0.map (sm_cv ad)).toList ++ rest))) : W p l e R s m args below meth c H locs cells slots Q (F0 m pc L st0) := by
  intro T hT X
  obtain ⟨v, st₀, t, T', L', h0, X', hL, e1, e2, ⟨hv, hp, hz, hk⟩, st⟩ := hr T hT X
  have hv' : v = r0.map (sm_cv ad) := by injection hv
  subst hv'
  rw [h0] at hz hk
  obtain ⟨t2, a1, b1⟩ := kk T'.heap (locs ++ L') (by rw [e1]; exact hp) (fun q h1 h2 => by rw [e1]; exact hk q h1 h2)
    ⟨Nat.le_trans hS.1 (by rw [e1]; exact hz), fun q h1 h2 => by rw [e1, hk q (Nat.lt_of_lt_of_le h1 hS.1) (fun z => h2 (hsub q z))]; exact hS.2.1 q h1 h2, fun q hq => by
      rcases List.mem_append.mp hq with h | h
      · exact hS.2.2 q h
      · exact hsub _ (hL q h)⟩ T' rfl X'
  exact ⟨t2, st t2 a1, b1⟩
theorem sm_Av {SH : List sm_Sh} {ad : Nat → Nat} {σ : sm_S} {sz q : Nat} (h : sm_A SH ad q) : va_A (sm_W SH ad cA σ) sz q := by
  obtain ⟨k, hk, rfl⟩ := h
  exact Or.inl ⟨k, _, sm_W_at (List.getElem?_eq_getElem hk)⟩
/-- a call of a method of the store machine, static: on a part of the world -/
theorem R_smS (X : CX p s m args c Ts own cc nL D cA tb Lim A) {ws wr : va_W} (hP : va_P D vwCl ws H) (hD : va_D A ws) (hS : va_S A s.heap H locs) {SH : List sm_Sh} {ad : Nat → Nat} {σ : sm_S} (hSH : ∀ x ∈ SH, sm_shB x = true) (hinj : ∀ i j, i < SH.length → j < SH.length → ad i = ad j → i = j) (had : ∀ t q, sm_TB[t]? = some q → ad (1000 + t) = tb (1000 + t)) (isC isR : List Nat) (hC : isC.map (fun i => ws[i]?) = (sm_W SH ad cA σ).map some) (hR : isR.map (fun i => ws[i]?) = wr.map some) (hn : va_nd isR = true) (hdis : ∀ i ∈ isR, i ∉ isC)
    {j : Nat} {M : sm_M} (hj : sm_MS[j]? = some M) {as : List Value} {Qp : Option Value → sm_S → Prop} (hcall : sm_C sm_TB sm_MS SH j as σ Qp) (hir : sm_irs as = true) (hnl : as.length ≤ M.2.2.1) {idx : Nat} (hlk : Cond.methodLink own idx M.1 ∈ lw_tbl) (hst : Cond.static M.1 ∈ lw_tbl) (hini : Cond.initialized M.1.cls ∈ lw_tbl) (hds : M.1.cls ≠ "java/lang/invoke/MethodHandle" ∧ M.1.cls ≠ "java/lang/invoke/VarHandle" ∧ (parseMethodDescriptor M.1.desc).map (fun d => d.parameters.length) = some as.length) (hRm : M.2.2.2.2.1.1 + 1 ≤ R.frames ∧ 8 + (M.2.2.1 + 11) + M.2.2.2.2.1.2.1 ≤ R.locals) (hsz : L.size = nL) (hcat : (rest.map fun v => v.category).sum ≤ 8) (hcr : cells ≤ R.cells) (hsr : slots ≤ R.slots) (hd : decode cc pc = .ok (.invokestatic idx, 3))
    (kk : ∀ (r : Option Value) (σ' : sm_S) (H1 : Heap) (locs1 : List Loc), Qp r σ' → va_P D vwCl (wr ++ sm_W SH ad cA σ') H1 → va_D A (wr ++ sm_W SH ad cA σ') → va_S A s.heap H1 locs1 → W p l e R s m args below meth c H1 locs1 cells slots Q (F0 m (pc + 3) L ((r.map (sm_cv ad)).toList ++ rest))) :
    W p l e R s m args below meth c H locs cells slots Q (F0 m pc L ((as.map (sm_cv ad)).reverse ++ rest)) := by
  obtain ⟨M', hM', n, r, σ', hrun, hq⟩ := hcall
  rw [hj] at hM'
  cases hM'
  have hMm : M ∈ sm_MS := List.mem_of_getElem? hj
  have hlen : (sm_ent M as).length = M.2.2.1 := by
    unfold sm_ent
    rw [List.length_append, List.length_replicate]
    omega
  have hMet := sm_toMet (l := l) (SH := SH) (ad := ad) (cA := cA) (D := D) hMm (as := as) (σ := σ) (σ' := σ') (r := r) (sm_irs_mem hir) hnl (fun p e s m args below meth c C => sm_snd hSH hinj n M hMm 0 _ _ _ _ _ hrun hlen p e s m args below meth c C)
  have hG : GoodIn Ts (va_wsS own idx M.1 (sm_ws M)) := by
    intro w hw
    unfold va_wsS at hw
    rcases List.mem_append.mp hw with hw | hw
    · simp only [List.mem_cons, List.not_mem_nil, or_false] at hw
      rcases hw with rfl | rfl | rfl
      · exact good_in X.hTs hlk rfl
      · exact good_in X.hTs hst rfl
      · exact good_in X.hTs hini rfl
    · exact good_M X.hTs hMm w hw
  have hPc : va_P D vwCl (sm_W SH ad cA σ) H := hP.sub isC (by
    have e : isC.filterMap (fun i => ws[i]?) = sm_W SH ad cA σ := by
      have : ∀ (l : List Nat) (w : va_W), l.map (fun i => ws[i]?) = w.map some → l.filterMap (fun i => ws[i]?) = w := by
        intro l
        induction l with
        | nil => intro w h; cases w with
          | nil => rfl
          | cons a t => cases h
        | cons x t ih => intro w h; cases w with
          | nil => cases h
          | cons a t' =>
            rw [List.map_cons, List.map_cons, List.cons.injEq] at h
            rw [List.filterMap_cons, h.1, ih t' h.2]
      exact this _ _ hC
    exact e)
  have hFc := va_free (wc := sm_W SH ad cA σ) hD hS X.hA isC hC
  have hsub : ∀ q, sm_A SH ad q → A q := fun q z => hFc q (sm_Av z)
  refine sm_callA (va_runS (As := as.map (sm_cv ad)) (rest := rest) ⟨X.hx, X.hb, X.hml, X.hown, X.hts⟩ hMet (va_cwS as.length X.hts hG rfl rfl rfl hds hRm) ⟨sm_blind, fun U hU hW => ⟨rfl, by rw [hU]; exact hPc, va_K.moved hW.alike X.hK, ?_⟩⟩ rfl (by simp) hsz rfl (lv_room hcat) hd ⟨by omega, by omega⟩) hS hsub (fun H1 locs1 hP1 hk1 hS1 => ?_)
  · rw [hU]
    exact ((X.zt hS).1.moved hW.alike).ad (fun q z => X.hL q (hsub q z)) had
  · obtain ⟨hP2, hD2⟩ := va_join (wr := wr) (w1 := sm_W SH ad cA σ') hP hD isC isR hC hR hn hdis (fun q h1 h2 => hk1 q h1 (fun z => h2 (sm_Av z))) hFc hP1 ⟨(sm_D (cA := cA) (σ := σ') hinj).1, fun k q hk => sm_Av ((sm_D (cA := cA) (σ := σ') hinj).2 k q hk)⟩
    exact kk r σ' H1 locs1 hq hP2 hD2 hS1
end ROWS
