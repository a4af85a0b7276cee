section
/-! ===== the words of the constructors ===== -/
def ctW : List Cond := [Cond.instanceMethod Lib.objectInit, Cond.code Lib.objectInit ⟨#[0xb1]⟩ 1 none, Cond.arrayClass .int, Cond.arrayClass .boolean, Cond.instanceMethod ⟨"SpansAway$Frames", "<init>", "()V"⟩, Cond.code ⟨"SpansAway$Frames", "<init>", "()V"⟩ prog_3_method_1_code 1 none, Cond.initialized "SpansAway$Frames", Cond.instantiable "SpansAway$Frames" 6, Cond.instanceMethod ⟨"SpansAway$Blocks", "<init>", "()V"⟩, Cond.code ⟨"SpansAway$Blocks", "<init>", "()V"⟩ prog_2_method_1_code 1 none, Cond.initialized "SpansAway$Blocks", Cond.instantiable "SpansAway$Blocks" 9, Cond.instanceMethod ⟨"SpansAway$Spans", "<init>", "()V"⟩, Cond.code ⟨"SpansAway$Spans", "<init>", "()V"⟩ prog_8_method_1_code 1 none, Cond.initialized "SpansAway$Spans", Cond.instantiable "SpansAway$Spans" 8, Cond.instanceMethod ⟨"SpansAway$Tasks", "<init>", "()V"⟩, Cond.code ⟨"SpansAway$Tasks", "<init>", "()V"⟩ prog_9_method_1_code 1 none, Cond.initialized "SpansAway$Tasks", Cond.instantiable "SpansAway$Tasks" 8, Cond.instanceMethod ⟨"SpansAway$Log", "<init>", "()V"⟩, Cond.code ⟨"SpansAway$Log", "<init>", "()V"⟩ prog_5_method_1_code 1 none, Cond.initialized "SpansAway$Log", Cond.instantiable "SpansAway$Log" 6, Cond.instanceMethod ⟨"SpansAway$Memory", "<init>", "()V"⟩, Cond.code ⟨"SpansAway$Memory", "<init>", "()V"⟩ prog_6_method_1_code 1 none, Cond.initialized "SpansAway$Memory", Cond.instantiable "SpansAway$Memory" 8, Cond.instanceMethod ⟨"SpansAway$Going", "<init>", "()V"⟩, Cond.code ⟨"SpansAway$Going", "<init>", "()V"⟩ prog_4_method_1_code 1 none, Cond.initialized "SpansAway$Going", Cond.instantiable "SpansAway$Going" 4, Cond.instanceMethod ⟨"SpansAway$Thought", "<init>", "()V"⟩, Cond.code ⟨"SpansAway$Thought", "<init>", "()V"⟩ prog_10_method_1_code 1 none, Cond.initialized "SpansAway$Thought", Cond.instantiable "SpansAway$Thought" 5, Cond.instanceMethod ⟨"SpansAway", "<init>", "()V"⟩, Cond.code ⟨"SpansAway", "<init>", "()V"⟩ prog_1_method_1_code 1 none, Cond.initialized "SpansAway", Cond.instantiable "SpansAway" 5, Cond.instanceMethod ⟨"SpansAwayModel", "<init>", "()V"⟩, Cond.code ⟨"SpansAwayModel", "<init>", "()V"⟩ prog_12_method_3_code 1 none, Cond.initialized "SpansAwayModel", Cond.instantiable "SpansAwayModel" 8, Cond.methodLink "SpansAway$Frames" 3 ⟨"java/lang/Object", "<init>", "()V"⟩, Cond.fieldLink "SpansAway$Frames" 9 "SpansAway$Frames" "free" "[I", Cond.fieldLink "SpansAway$Frames" 15 "SpansAway$Frames" "apart" "[I", Cond.fieldLink "SpansAway$Frames" 18 "SpansAway$Frames" "taken" "[I", Cond.fieldLink "SpansAway$Frames" 21 "SpansAway$Frames" "held" "[I", Cond.fieldLink "SpansAway$Frames" 24 "SpansAway$Frames" "blockOf" "[I", Cond.fieldLink "SpansAway$Frames" 27 "SpansAway$Frames" "value" "[I", Cond.methodLink "SpansAway$Frames" 30 ⟨"java/util/Arrays", "fill", "([II)V"⟩, Cond.methodLink "SpansAway$Blocks" 3 ⟨"java/lang/Object", "<init>", "()V"⟩, Cond.fieldLink "SpansAway$Blocks" 9 "SpansAway$Blocks" "first" "[I", Cond.fieldLink "SpansAway$Blocks" 15 "SpansAway$Blocks" "order" "[I", Cond.fieldLink "SpansAway$Blocks" 18 "SpansAway$Blocks" "kind" "[I", Cond.fieldLink "SpansAway$Blocks" 21 "SpansAway$Blocks" "owner" "[I", Cond.fieldLink "SpansAway$Blocks" 24 "SpansAway$Blocks" "pins" "[I", Cond.fieldLink "SpansAway$Blocks" 27 "SpansAway$Blocks" "target" "[I", Cond.fieldLink "SpansAway$Blocks" 30 "SpansAway$Blocks" "copied" "[I", Cond.fieldLink "SpansAway$Blocks" 33 "SpansAway$Blocks" "used" "[I", Cond.fieldLink "SpansAway$Blocks" 36 "SpansAway$Blocks" "uses" "I", Cond.methodLink "SpansAway$Blocks" 40 ⟨"java/util/Arrays", "fill", "([II)V"⟩, Cond.methodLink "SpansAway$Spans" 3 ⟨"java/lang/Object", "<init>", "()V"⟩, Cond.fieldLink "SpansAway$Spans" 9 "SpansAway$Spans" "state" "[I", Cond.fieldLink "SpansAway$Spans" 15 "SpansAway$Spans" "zone" "[I", Cond.fieldLink "SpansAway$Spans" 18 "SpansAway$Spans" "shut" "[I", Cond.fieldLink "SpansAway$Spans" 21 "SpansAway$Spans" "pass" "[I", Cond.fieldLink "SpansAway$Spans" 24 "SpansAway$Spans" "pause" "[I", Cond.fieldLink "SpansAway$Spans" 27 "SpansAway$Spans" "reached" "[I", Cond.fieldLink "SpansAway$Spans" 30 "SpansAway$Spans" "leaving" "[I", Cond.fieldLink "SpansAway$Spans" 33 "SpansAway$Spans" "why" "[I", Cond.methodLink "SpansAway$Spans" 36 ⟨"java/util/Arrays", "fill", "([II)V"⟩, Cond.methodLink "SpansAway$Tasks" 3 ⟨"java/lang/Object", "<init>", "()V"⟩, Cond.fieldLink "SpansAway$Tasks" 9 "SpansAway$Tasks" "home" "[I", Cond.fieldLink "SpansAway$Tasks" 15 "SpansAway$Tasks" "waitsFor" "[I", Cond.fieldLink "SpansAway$Tasks" 18 "SpansAway$Tasks" "lastRead" "[I", Cond.fieldLink "SpansAway$Tasks" 21 "SpansAway$Tasks" "wish" "[I", Cond.fieldLink "SpansAway$Tasks" 24 "SpansAway$Tasks" "wishAt" "[I", Cond.fieldLink "SpansAway$Tasks" 27 "SpansAway$Tasks" "wishValue" "[I", Cond.fieldLink "SpansAway$Tasks" 30 "SpansAway$Tasks" "line" "[I", Cond.fieldLink "SpansAway$Tasks" 33 "SpansAway$Tasks" "inLine" "I", Cond.methodLink "SpansAway$Tasks" 37 ⟨"java/util/Arrays", "fill", "([II)V"⟩, Cond.methodLink "SpansAway$Log" 3 ⟨"java/lang/Object", "<init>", "()V"⟩, Cond.fieldLink "SpansAway$Log" 9 "SpansAway$Log" "tick" "[I", Cond.fieldLink "SpansAway$Log" 15 "SpansAway$Log" "what" "[I", Cond.fieldLink "SpansAway$Log" 18 "SpansAway$Log" "one" "[I", Cond.fieldLink "SpansAway$Log" 21 "SpansAway$Log" "other" "[I", Cond.fieldLink "SpansAway$Log" 24 "SpansAway$Log" "lines" "I", Cond.fieldLink "SpansAway$Log" 28 "SpansAway$Log" "next" "I", Cond.methodLink "SpansAway$Memory" 3 ⟨"java/lang/Object", "<init>", "()V"⟩, Cond.classLink "SpansAway$Memory" 9 "SpansAway$Frames", Cond.methodLink "SpansAway$Memory" 11 ⟨"SpansAway$Frames", "<init>", "()V"⟩, Cond.fieldLink "SpansAway$Memory" 12 "SpansAway$Memory" "frames" "LSpansAway$Frames;", Cond.classLink "SpansAway$Memory" 18 "SpansAway$Blocks", Cond.methodLink "SpansAway$Memory" 20 ⟨"SpansAway$Blocks", "<init>", "()V"⟩, Cond.fieldLink "SpansAway$Memory" 21 "SpansAway$Memory" "blocks" "LSpansAway$Blocks;", Cond.classLink "SpansAway$Memory" 25 "SpansAway$Spans", Cond.methodLink "SpansAway$Memory" 27 ⟨"SpansAway$Spans", "<init>", "()V"⟩, Cond.fieldLink "SpansAway$Memory" 28 "SpansAway$Memory" "spans" "LSpansAway$Spans;", Cond.classLink "SpansAway$Memory" 32 "SpansAway$Tasks", Cond.methodLink "SpansAway$Memory" 34 ⟨"SpansAway$Tasks", "<init>", "()V"⟩, Cond.fieldLink "SpansAway$Memory" 35 "SpansAway$Memory" "tasks" "LSpansAway$Tasks;", Cond.classLink "SpansAway$Memory" 39 "SpansAway$Log", Cond.fieldLink "SpansAway$Memory" 42 "SpansAway$Memory" "log" "LSpansAway$Log;", Cond.fieldLink "SpansAway$Memory" 46 "SpansAway$Memory" "told" "[I", Cond.fieldLink "SpansAway$Memory" 50 "SpansAway$Memory" "counts" "[I", Cond.fieldLink "SpansAway$Memory" 53 "SpansAway$Memory" "tick" "I", Cond.methodLink "SpansAway$Going" 3 ⟨"java/lang/Object", "<init>", "()V"⟩, Cond.classLink "SpansAway$Going" 9 "SpansAway$Memory", Cond.fieldLink "SpansAway$Going" 12 "SpansAway$Going" "memory" "LSpansAway$Memory;", Cond.fieldLink "SpansAway$Going" 18 "SpansAway$Memory" "frames" "LSpansAway$Frames;", Cond.fieldLink "SpansAway$Going" 22 "SpansAway$Going" "frames" "LSpansAway$Frames;", Cond.fieldLink "SpansAway$Going" 23 "SpansAway$Memory" "blocks" "LSpansAway$Blocks;", Cond.fieldLink "SpansAway$Going" 27 "SpansAway$Going" "blocks" "LSpansAway$Blocks;", Cond.fieldLink "SpansAway$Going" 28 "SpansAway$Memory" "spans" "LSpansAway$Spans;", Cond.fieldLink "SpansAway$Going" 32 "SpansAway$Going" "spans" "LSpansAway$Spans;", Cond.methodLink "SpansAway$Thought" 3 ⟨"java/lang/Object", "<init>", "()V"⟩, Cond.classLink "SpansAway$Thought" 9 "SpansAway$Going", Cond.fieldLink "SpansAway$Thought" 12 "SpansAway$Thought" "going" "LSpansAway$Going;", Cond.fieldLink "SpansAway$Thought" 18 "SpansAway$Going" "memory" "LSpansAway$Memory;", Cond.fieldLink "SpansAway$Thought" 22 "SpansAway$Thought" "trial" "LSpansAway$Memory;", Cond.classLink "SpansAway$Thought" 25 "SpansAway$Memory", Cond.fieldLink "SpansAway$Thought" 28 "SpansAway$Thought" "then" "LSpansAway$Memory;", Cond.fieldLink "SpansAway$Thought" 31 "SpansAway$Thought" "ticks" "I", Cond.fieldLink "SpansAway$Thought" 35 "SpansAway$Thought" "fewest" "I", Cond.methodLink "SpansAway" 3 ⟨"java/lang/Object", "<init>", "()V"⟩, Cond.classLink "SpansAway" 9 "SpansAway$Going", Cond.fieldLink "SpansAway" 12 "SpansAway" "going" "LSpansAway$Going;", Cond.fieldLink "SpansAway" 16 "SpansAway$Going" "memory" "LSpansAway$Memory;", Cond.fieldLink "SpansAway" 20 "SpansAway" "now" "LSpansAway$Memory;", Cond.classLink "SpansAway" 23 "SpansAway$Memory", Cond.fieldLink "SpansAway" 26 "SpansAway" "kept" "LSpansAway$Memory;", Cond.classLink "SpansAway" 29 "SpansAway$Thought", Cond.fieldLink "SpansAway" 32 "SpansAway" "thought" "LSpansAway$Thought;", Cond.fieldLink "SpansAway" 36 "SpansAway" "isKept" "Z", Cond.methodLink "SpansAway" 40 ⟨"SpansAway$Memory", "openFirst", "()V"⟩, Cond.methodLink "SpansAwayModel" 7 ⟨"java/lang/Object", "<init>", "()V"⟩, Cond.fieldLink "SpansAwayModel" 13 "SpansAwayModel" "now" "[I", Cond.fieldLink "SpansAwayModel" 17 "SpansAwayModel" "waiting" "[I", Cond.fieldLink "SpansAwayModel" 20 "SpansAwayModel" "deeper" "[I", Cond.fieldLink "SpansAwayModel" 23 "SpansAwayModel" "isDone" "[Z", Cond.fieldLink "SpansAwayModel" 27 "SpansAwayModel" "images" "[I", Cond.methodLink "SpansAwayModel" 30 ⟨"SpansAwayModel", "begins", "()V"⟩, Cond.fieldLink "SpansAway$Memory" 79 "SpansAway$Spans" "state" "[I", Cond.fieldLink "SpansAway$Memory" 82 "SpansAway$Spans" "zone" "[I", Cond.fieldLink "SpansAway$Memory" 85 "SpansAway$Frames" "free" "[I", Cond.methodLink "SpansAway$Memory" 70 ⟨"SpansAway$Rows", "copy", "([I[I)V"⟩, Cond.code ⟨"SpansAway$Memory", "openFirst", "()V"⟩ prog_6_method_3_code 2 none, Cond.instanceMethod ⟨"SpansAway$Memory", "openFirst", "()V"⟩, Cond.selects "SpansAway$Memory" ⟨"SpansAway$Memory", "openFirst", "()V"⟩ ⟨"SpansAway$Memory", "openFirst", "()V"⟩, Cond.classLink "SpansAwayLaw" 7 "SpansAway", Cond.classLink "SpansAwayLaw" 10 "SpansAwayModel", Cond.methodLink "SpansAwayLaw" 9 ⟨"SpansAway", "<init>", "()V"⟩, Cond.methodLink "SpansAwayLaw" 12 ⟨"SpansAwayModel", "<init>", "()V"⟩]
set_option maxRecDepth 100000 in
theorem ctW_in : ∀ w ∈ ctW, w ∈ lw_tbl := sm_places (f := id) [126, 127, 183, 1088, 143, 144, 108, 141, 187, 188, 110, 185, 246, 247, 111, 244, 296, 297, 112, 294, 339, 340, 113, 337, 137, 138, 107, 135, 131, 132, 106, 129, 425, 426, 114, 423, 123, 124, 105, 121, 1048, 1049, 118, 1046, 145, 149, 154, 157, 160, 163, 167, 146, 189, 191, 195, 199, 203, 207, 211, 215, 218, 222, 190, 248, 250, 255, 259, 262, 265, 268, 270, 273, 249, 298, 300, 303, 306, 309, 311, 313, 315, 317, 299, 341, 342, 343, 344, 345, 346, 348, 139, 140, 142, 362, 184, 186, 366, 243, 245, 369, 293, 295, 373, 336, 375, 378, 381, 385, 133, 134, 405, 363, 408, 367, 409, 370, 410, 427, 428, 432, 407, 433, 430, 435, 437, 439, 125, 128, 467, 406, 468, 420, 469, 422, 470, 471, 452, 1050, 1064, 1065, 1066, 1067, 1070, 1051, 253, 256, 150, 458, 455, 453, 454, 120, 1045, 122, 1047] (by decide +kernel)
theorem ctW_ok {i : Nat} {w : Cond} (h : ctW[i]? = some w) : w ∈ lw_tbl := ctW_in w (List.mem_of_getElem? h)
def nwM : List (String × Nat × MethodName) := [("SpansAway$Memory", 41, ⟨"SpansAway$Log", "<init>", "()V"⟩), ("SpansAway$Going", 11, ⟨"SpansAway$Memory", "<init>", "()V"⟩), ("SpansAway$Thought", 11, ⟨"SpansAway$Going", "<init>", "()V"⟩), ("SpansAway$Thought", 27, ⟨"SpansAway$Memory", "<init>", "()V"⟩), ("SpansAway", 11, ⟨"SpansAway$Going", "<init>", "()V"⟩), ("SpansAway", 25, ⟨"SpansAway$Memory", "<init>", "()V"⟩), ("SpansAway", 31, ⟨"SpansAway$Thought", "<init>", "()V"⟩)]
set_option maxRecDepth 100000 in
theorem nwM_in : ∀ q ∈ nwM, Cond.methodLinkNest q.1 q.2.1 q.2.2 "SpansAway" ∈ lw_tbl := sm_places [338, 136, 429, 431, 130, 421, 424] (by decide +kernel)
theorem nwF_in : Cond.fieldLinkNest "SpansAway$Memory" 76 "SpansAway" "FIRST_TOLD" "[I" "SpansAway" ∈ lw_tbl := List.mem_of_getElem? (i := 456) (by decide +kernel)
def NW (U : State) : Prop := (∀ q ∈ nwM, va_Nw (.methodLinkNest q.1 q.2.1 q.2.2 "SpansAway") U) ∧ va_Nw (.fieldLinkNest "SpansAway$Memory" 76 "SpansAway" "FIRST_TOLD" "[I" "SpansAway") U
theorem NW.warm {s U : State} (hW : s.WarmedH U.vm) (h : NW s) : NW U := ⟨fun q hq => va_Nw.warmM hW (h.1 q hq), va_Nw.warmF hW h.2⟩
theorem NW.same {s U : State} (e : s.vm = U.vm) (h : NW s) : NW U := ⟨fun q hq => va_Nw.same rfl e (h.1 q hq), va_Nw.same rfl e h.2⟩
/-! a constructor's contract: at its start the fresh object alone; at its end a world of shapes -/
def ctB (cA : Nat → ClassId) (D : va_G) (tb : Nat → Nat) (Lim sz : Nat) (ws : va_W) (U : State) : Prop := U.heap.size = sz ∧ va_P D vwCl ws U.heap ∧ va_K D vwCl (sm_tys cA) U ∧ ZT tb Lim U U.heap ∧ NW U
theorem ctB_blind {cA : Nat → ClassId} {D : va_G} {tb : Nat → Nat} {Lim sz : Nat} {ws : va_W} {av : List Value} : FrameBlind (va_Pc av (ctB cA D tb Lim sz ws)) := by
  rintro a U g mk ⟨h1, h2, h3, h4, h5, h6⟩
  exact ⟨h1, h2, h3, va_K.moved (u := U) (U := U.calling g mk a) (Vm.Alike.refl U.vm) h4, ZT.moved (u := U) (U := U.calling g mk a) (Vm.Alike.refl U.vm) h5, NW.same (s := U) (U := U.calling g mk a) rfl h6⟩
def ctQ (cA : Nat → ClassId) (D : va_G) (SH : List sm_Sh) (k0 h0 : Nat) (I : sm_S → Prop) (A : Nat → Prop) : Array Value → State → Outcome → State → Prop := va_Qv (S := (Nat → Nat) × sm_S) (fun u => u.1 k0 = h0 ∧ I u.2) (fun u t => va_P D vwCl (sm_W SH u.1 cA u.2) t.heap ∧ va_D A (sm_W SH u.1 cA u.2)) A
def Ctor (l : Launch) (cA : Nat → ClassId) (D : va_G) (tb : Nat → Nat) (Lim : Nat) (y : MethodName) (b : ByteArray) (fr lo mc ms ci : Nat) (fs0 : List Value) (SH : List sm_Sh) (k0 : Nat) (I : sm_S → Prop) : Prop := ∀ h0 sz : Nat, Lim ≤ h0 → Lim ≤ sz → Met l y (cws y b 1) { frames := fr, cells := mc, slots := ms, locals := lo } (va_Pc [.ref h0] (ctB cA D tb Lim sz [(h0, .inr (ci, fs0))])) (ctQ cA D SH k0 h0 I (va_A [(h0, .inr (ci, fs0))] sz)) mc ms (va_A [(h0, .inr (ci, fs0))] sz)
theorem Ctor.ofW {l : Launch} {cA : Nat → ClassId} {D : va_G} {tb : Nat → Nat} {Lim : Nat} {y : MethodName} {b : ByteArray} {fr lo mc ms ci : Nat} {fs0 : List Value} {SH : List sm_Sh} {k0 : Nat} {I : sm_S → Prop} (hy : plainName y.cls = true) (hyn : y.name = "<init>")
    (body : ∀ (h0 : Nat) (p : Program) (e : Env) (s : State) (m : MethodId) (args : Array Value) (below : List Frame) (meth : Method) (c : Code) (A : Nat → Prop) (L : Array Slot), CX p s m args c (cws y b 1) y.cls b 1 D cA tb Lim A → NW s → meth.name = "<init>" → meth.sig.returnType = none → meth.locks = false → lv_has L 1 [(0, .ref h0)] → va_P D vwCl [(h0, .inr (ci, fs0))] s.heap → va_D A [(h0, .inr (ci, fs0))] → va_S A s.heap s.heap [] →
      W p l e { frames := fr, cells := mc, slots := ms, locals := lo } s m args below meth c s.heap [] 0 0 (MQ below (ctQ cA D SH k0 h0 I A) args s mc ms A) (F0 m 0 L [])) : Ctor l cA D tb Lim y b fr lo mc ms ci fs0 SH k0 I := by
  intro h0 sz hh hs
  refine Met.ofW (cc := b) (maxL := 1) (ret := none) hy rfl ?_
  intro p e s m args below meth c s₁ B hml hv
  obtain ⟨rfl, rfl, hP, hK, hZ, hN⟩ := hv
  have hl := lv_entry ([.ref h0]) (n := 1) (Nat.le_of_ble_eq_true rfl)
  rw [lg_entry_eq]
  refine body h0 p e s m _ below meth c _ _ ⟨B.exec, B.bytes, hml, findClass_of_methodNamed B.named, atoms_spec (ws := cws y b 1) B.pre, cws_has, hK, hZ, fun q h => Or.inr h, ?_⟩ hN (by rw [← hyn]; exact (name_of_methodNamed B.named B.method).1) B.returns B.notSynchronized hl hP (va_D1 (Or.inl ⟨0, _, rfl⟩)) va_S.rf
  rintro q (⟨k, e, h⟩ | h)
  · have := List.mem_singleton.mp (List.mem_of_getElem? h)
    cases this
    exact hh
  · exact Nat.le_trans hs h
section ROWS2
variable {p : Program} {l : Launch} {e : Env} {R : Room} {s : State} {m : MethodId} {args : Array Value} {below : List Frame} {meth : Method} {c : Code} {H : Heap} {locs : List Loc} {cells slots : Nat} {Q : State → Prop} {pc : Nat} {L : Array Slot} {rest : List Value}
variable {Ts : List Cond} {own : String} {cc : ByteArray} {nL : Nat} {D : va_G} {cA : Nat → ClassId} {tb : Nat → Nat} {Lim : Nat} {A : Nat → Prop}
theorem R_ret (X : CX p s m args c Ts own cc nL D cA tb Lim A) (hr : meth.sig.returnType = none) (hlocks : meth.locks = false) {SH : List sm_Sh} {k0 h0 : Nat} {I : sm_S → Prop} {ad : Nat → Nat} {σ : sm_S} (hP : va_P D vwCl (sm_W SH ad cA σ) H) (hD : va_D A (sm_W SH ad cA σ)) (hS : va_S A s.heap H locs) (h0e : ad k0 = h0) (hI : I σ) (hd : decode cc pc = .ok (.return_, 1)) : W p l e R s m args below meth c H locs cells slots (MQ below (ctQ cA D SH k0 h0 I A) args s cells slots A) (F0 m pc L []) :=
  W.vret X.hx X.hb hr (fun t ht hW => ⟨⟨(ad, σ), rfl, ⟨h0e, hI⟩, by rw [ht]; exact hP, hD⟩, hS.F ht⟩) hS.2.2 hd (hlocks := hlocks)
/-- super() -/
theorem R_obj (X : CX p s m args c Ts own cc nL D cA tb Lim A) (hsz : L.size = nL) {h0 : Nat} {idx : Nat} (hlk : Cond.methodLink own idx Lib.objectInit ∈ lw_tbl) (hR : 1 ≤ R.frames ∧ 12 ≤ R.locals) (hd : decode cc pc = .ok (.invokespecial idx, 3)) (kk : W p l e R s m args below meth c H locs cells slots Q (F0 m (pc + 3) L [])) : W p l e R s m args below meth c H locs cells slots Q (F0 m pc L [.ref h0]) :=
  W.objInit X.hx X.hb X.hown (X.w hlk rfl) (X.w (ctW_ok (i := 0) rfl) rfl) (X.w (ctW_ok (i := 1) rfl) rfl) rfl (hsz.trans X.hml.symm) (rest := []) rfl hd hR.1 (by show 2 * 0 + 0 + 12 ≤ _; omega) kk
/-- an int is laid into a field of the object that is made -/
theorem R_pi (X : CX p s m args c Ts own cc nL D cA tb Lim A) {h0 ci : Nat} {fs : List Value} {tl : va_W} (hP : va_P D vwCl ((h0, .inr (ci, fs)) :: tl) H) (hD : va_D A ((h0, .inr (ci, fs)) :: tl)) (hS : va_S A s.heap H locs) {cT : vw_C} (hc : vwCl[ci]? = some cT) (k : Nat) (hk : k < cT.2.2) (hfs : k < fs.length) (hfin : (cT.2.1 k).2.2.2 = false) {ty : FieldType} {v : Int32} (hds : parseFieldDescriptor (cT.2.1 k).2.2.1 = some ty) (hn : narrow ty (.int v) = .int v) (hft : fits ty (.int v) = true) {idx : Nat} (hlink : Cond.fieldLink own idx (cT.2.1 k).1 (cT.2.1 k).2.1 (cT.2.1 k).2.2.1 ∈ lw_tbl) (hd : decode cc pc = .ok (.putfield idx, 3))
    (kk : ∀ (H1 : Heap) (locs1 : List Loc), va_P D vwCl ((h0, .inr (ci, fs.set k (.int v))) :: tl) H1 → va_D A ((h0, .inr (ci, fs.set k (.int v))) :: tl) → va_S A s.heap H1 locs1 → W p l e R s m args below meth c H1 locs1 cells slots Q (F0 m (pc + 3) L rest)) :
    W p l e R s m args below meth c H locs cells slots Q (F0 m pc L (.int v :: .ref h0 :: rest)) := by
  obtain ⟨ty0, hty, hnm⟩ := sm_tyn ci cT hc
  exact va_put (D := D) (ci := ci) (v := .int v) (ty := ty) (C := cT.1) (T := cT.2.1) (N := cT.2.2) X.hx X.hb X.hts (la_in X.hTs hc) ty0 hty hnm X.hown X.hK hP hD hS 0 rfl hc k hk (X.w hlink rfl) (fun _ h9 => h9) hfin hds hn hft hfs hd (fun H1 locs1 hP hD hS => kk H1 locs1 hP hD hS)
/-- a reference is laid into a final field of the object that is made -/
theorem R_pf (X : CX p s m args c Ts own cc nL D cA tb Lim A) (hin : meth.name = "<init>") {h0 ci q : Nat} {fs : List Value} {tl : va_W} (hP : va_P D vwCl ((h0, .inr (ci, fs)) :: tl) H) (hD : va_D A ((h0, .inr (ci, fs)) :: tl)) (hS : va_S A s.heap H locs) {cT : vw_C} (hc : vwCl[ci]? = some cT) (k : Nat) (hk : k < cT.2.2) (hfs : k < fs.length) (hfin : (cT.2.1 k).2.2.2 = true) (hdecl : (cT.2.1 k).1 = own) {ty : FieldType} (hds : parseFieldDescriptor (cT.2.1 k).2.2.1 = some ty) (hn : narrow ty (.ref q) = .ref q) (hft : fits ty (.ref q) = true) {idx : Nat} (hlink : Cond.fieldLink own idx (cT.2.1 k).1 (cT.2.1 k).2.1 (cT.2.1 k).2.2.1 ∈ lw_tbl) (hd : decode cc pc = .ok (.putfield idx, 3))
    (kk : ∀ (H1 : Heap) (locs1 : List Loc), va_P D vwCl ((h0, .inr (ci, fs.set k (.ref q))) :: tl) H1 → va_D A ((h0, .inr (ci, fs.set k (.ref q))) :: tl) → va_S A s.heap H1 locs1 → W p l e R s m args below meth c H1 locs1 cells slots Q (F0 m (pc + 3) L rest)) :
    W p l e R s m args below meth c H locs cells slots Q (F0 m pc L (.ref q :: .ref h0 :: rest)) := by
  obtain ⟨ty0, hty, hnm⟩ := sm_tyn ci cT hc
  exact va_putF (D := D) (ci := ci) (v := .ref q) (ty := ty) (C := cT.1) (T := cT.2.1) (N := cT.2.2) X.hx X.hb X.hts (la_in X.hTs hc) ty0 hty hnm X.hown X.hK hP hD hS 0 rfl hc k hk (X.w hlink rfl) (fun _ h9 => h9) hfin hin hdecl hds hn hft hfs hd (fun H1 locs1 hP hD hS => kk H1 locs1 hP hD hS)
/-- a field is read -/
theorem R_gf (X : CX p s m args c Ts own cc nL D cA tb Lim A) {ws : va_W} (hP : va_P D vwCl ws H) (q0 : Nat) {a ci : Nat} {fs : List Value} (he : ws[q0]? = some (a, .inr (ci, fs))) {cT : vw_C} (hc : vwCl[ci]? = some cT) (k : Nat) (hk : k < cT.2.2) {v : Value} (hv : fs[k]? = some v) {idx : Nat} (hlink : Cond.fieldLink own idx (cT.2.1 k).1 (cT.2.1 k).2.1 (cT.2.1 k).2.2.1 ∈ lw_tbl) (hd : decode cc pc = .ok (.getfield idx, 3))
    (kk : W p l e R s m args below meth c H locs cells slots Q (F0 m (pc + 3) L (v :: rest))) : W p l e R s m args below meth c H locs cells slots Q (F0 m pc L (.ref a :: rest)) :=
  va_get (D := D) (ci := ci) (C := cT.1) (T := cT.2.1) (N := cT.2.2) X.hx X.hb X.hts (la_in X.hTs hc) X.hown X.hK hP q0 he hc k hk (X.w hlink rfl) (fun _ h9 => h9) hv hd kk
/-- an array of booleans is made and laid into a final field -/
theorem R_nb (X : CX p s m args c Ts own cc nL D cA tb Lim A) (hin : meth.name = "<init>") {h0 ci : Nat} {fs : List Value} {tl : va_W} (hP : va_P D vwCl ((h0, .inr (ci, fs)) :: tl) H) (hD : va_D A ((h0, .inr (ci, fs)) :: tl)) (hS : va_S A s.heap H locs) {cT : vw_C} (hc : vwCl[ci]? = some cT) (k : Nat) (hk : k < cT.2.2) (hfs : k < fs.length) (hfin : (cT.2.1 k).2.2.2 = true) (hdecl : (cT.2.1 k).1 = own) (hds : parseFieldDescriptor (cT.2.1 k).2.2.1 = some (.array .boolean)) {idx : Nat} (hlink : Cond.fieldLink own idx (cT.2.1 k).1 (cT.2.1 k).2.1 (cT.2.1 k).2.2.1 ∈ lw_tbl) {n : Int32} (N : Nat) (hn : ¬ n < 0) (hN : n.toNatClampNeg = N) (hNb : N ≤ 3000) (hcells : cells + 1 ≤ R.cells) (hslots : slots + N ≤ R.slots) (hd1 : decode cc pc = .ok (.newarray .boolean, 2)) (hd2 : decode cc (pc + 2) = .ok (.putfield idx, 3))
    (kk : ∀ (q : Nat) (H1 : Heap) (locs1 : List Loc), va_P D vwCl ((h0, .inr (ci, fs.set k (.ref q))) :: (tl ++ [(q, .inl (cA 1, N, .inl (fun _ => 0)))])) H1 → va_D A ((h0, .inr (ci, fs.set k (.ref q))) :: (tl ++ [(q, .inl (cA 1, N, .inl (fun _ => 0)))])) → va_S A s.heap H1 locs1 → W p l e R s m args below meth c H1 locs1 (cells + 1) (slots + N) Q (F0 m (pc + 5) L rest)) :
    W p l e R s m args below meth c H locs cells slots Q (F0 m pc L (.int n :: .ref h0 :: rest)) := by
  obtain ⟨ty0, hty, hnm⟩ := sm_tyn ci cT hc
  refine va_newa X.hx X.hb (X.w (ctW_ok (i := 3) rfl) rfl) (atype := .boolean) (ty := .boolean) rfl X.hK hP hD hS X.hA (a0 := (N, .inl (fun _ => 0))) (fun _ => rfl) hn hN (by show N * 1 ≤ _; omega) hcells hslots hd1 (fun q cA' H1 hK' hP hD hS => ?_)
  have hcA : cA' = cA 1 := by
    have e1 : s.vm.findClass ("[" ++ FieldType.boolean.toString) = some (cA 1) := (X.hK.2 1 (cA 1, .boolean) rfl).2
    have e2 : s.vm.findClass ("[" ++ FieldType.boolean.toString) = some cA' := (hK'.2 2 (cA', .boolean) rfl).2
    rw [e1] at e2
    cases e2
    rfl
  subst hcA
  exact R_pf X hin hP hD hS hc k hk hfs hfin hdecl hds rfl rfl hlink hd2 (fun H1 locs1 hP hD hS => kk q H1 locs1 hP hD hS)
/-- new, dup, invokespecial <init> -/
theorem R_new3 (X : CX p s m args c Ts own cc nL D cA tb Lim A) (hN : NW s) {ws : va_W} (hP : va_P D vwCl ws H) (hD : va_D A ws) (hS : va_S A s.heap H locs) (hsz : L.size = nL) {y : MethodName} {b : ByteArray} {fr lo mc ms ci : Nat} {fs0 : List Value} {SH : List sm_Sh} {k0 : Nat} {I : sm_S → Prop} (hC : Ctor l cA D tb Lim y b fr lo mc ms ci fs0 SH k0 I) {cT : vw_C} (hc : vwCl[ci]? = some cT) (hcl : cT.1 = y.cls) {ty0 : Nat → FieldType} (hty : ∀ k, k < cT.2.2 → parseFieldDescriptor (cT.2.1 k).2.2.1 = some (ty0 k)) (hfs : ∀ j, j < cT.2.2 → defaultValue (ty0 j) = vp_V fs0 j) (hyn : y.name = "<init>") (hyd : y.cls ≠ "java/lang/invoke/MethodHandle" ∧ y.cls ≠ "java/lang/invoke/VarHandle" ∧ (parseMethodDescriptor y.desc).map (fun d => d.parameters.length) = some 0)
    {i1 i2 : Nat} (w1 : Cond.classLink own i1 cT.1 ∈ lw_tbl) (w2 : Cond.instantiable cT.1 cT.2.2 ∈ lw_tbl) (w3 : Cond.initialized cT.1 ∈ lw_tbl) (w4 : Cond.code y b 1 none ∈ lw_tbl) (w5 : Cond.instanceMethod y ∈ lw_tbl) (w6 : Cond.methodLink own i2 y ∈ lw_tbl ∨ (own, i2, y) ∈ nwM) (hRm : fr + 1 ≤ R.frames ∧ 20 + lo ≤ R.locals) (hcells : cells + 1 + mc ≤ R.cells) (hslots : slots + cT.2.2 + ms ≤ R.slots) (hcat : ((rest.map fun v => v.category).sum) ≤ 7) (hd1 : decode cc pc = .ok (.new i1, 3)) (hd2 : decode cc (pc + 3) = .ok (.dup, 1)) (hd3 : decode cc (pc + 4) = .ok (.invokespecial i2, 3))
    (kk : ∀ (ad : Nat → Nat) (σ : sm_S) (H1 : Heap) (locs1 : List Loc), I σ → va_P D vwCl (ws ++ sm_W SH ad cA σ) H1 → va_D A (ws ++ sm_W SH ad cA σ) → va_S A s.heap H1 locs1 → W p l e R s m args below meth c H1 locs1 (cells + 1 + mc) (slots + cT.2.2 + ms) Q (F0 m (pc + 7) L (.ref (ad k0) :: rest))) :
    W p l e R s m args below meth c H locs cells slots Q (F0 m pc L rest) := by
  refine va_new (ci := ci) (fs := fs0) (C := cT.1) (T := cT.2.1) (N := cT.2.2) X.hx X.hb X.hts (la_in X.hTs hc) ty0 hty X.hown (X.w w1 rfl) (X.w w2 rfl) (X.w w3 rfl) X.hK hP hD hS X.hA hc hfs (by omega) (by omega) hd1 (fun q H hP hD hS => ?_)
  refine lv_dup X.hx X.hb hd2 rfl ?_
  have hFc := free_end (wc := [(q, .inr (ci, fs0))]) hD hS X.hA
  have hAq : A q := hFc q (Or.inl ⟨0, _, rfl⟩)
  have hG : GoodIn Ts (cws y b 1) := good_c X.hTs w4
  have hpre : PreS s H (va_Pc [.ref q] (ctB cA D tb Lim H.size [(q, .inr (ci, fs0))])) (.ref q :: []) := ⟨ctB_blind, fun U hU hW => ⟨rfl, by rw [hU], by rw [hU]; exact fun k x hx => hP (ws.length + k) x (by rw [List.getElem?_append_right (by omega), Nat.add_sub_cancel_left]; exact hx), va_K.moved hW.alike X.hK, by rw [hU]; exact (X.zt hS).moved hW.alike, hN.warm hW⟩⟩
  have hM := hC q H.size (X.hL q hAq) (Nat.le_trans (X.hL _ (X.hA _ (Nat.le_refl _))) hS.1)
  have key : ∀ (u : (Nat → Nat) × sm_S) (t : State) (H1 : Heap) (locs1 : List Loc), t.heap = H1 → s.vm.Alike t.vm → (u.1 k0 = q ∧ I u.2) → (va_P D vwCl (sm_W SH u.1 cA u.2) t.heap ∧ va_D (va_A [(q, .inr (ci, fs0))] H.size) (sm_W SH u.1 cA u.2)) → H.size ≤ H1.size → (∀ x : Nat, x < H.size → ¬ va_A [(q, .inr (ci, fs0))] H.size x → H1[x]? = H[x]?) → va_S A s.heap H1 locs1 → W p l e R s m args below meth c H1 locs1 (cells + 1 + mc) (slots + cT.2.2 + ms) Q (F0 m (pc + 3 + 1 + 3) L (.ref q :: rest)) := by
    intro u t H1 locs1 ht hvm hw hB hz1 hk1 hS
    obtain ⟨ad, σ⟩ := u
    obtain ⟨hP1, hD1⟩ := hB
    rw [ht] at hP1
    obtain ⟨hP, hD⟩ := join_end hP hD hk1 hFc hP1 hD1
    have h0 : ad k0 = q := hw.1
    rw [← h0]
    exact kk ad σ H1 locs1 hw.2 hP hD hS
  have hini : (Cond.initialized y.cls).before args s = true := by rw [← hcl]; exact X.w w3 rfl
  rcases w6 with w6 | w6
  · exact va_callv (va_runI (As := []) (rest := .ref q :: rest) ⟨X.hx, X.hb, X.hml, X.hown, X.hts⟩ hM (cwI 0 X.hts hG rfl rfl rfl hini (X.w w6 rfl) (X.w w5 rfl) hyn hyd ⟨hRm.1, by show 8 + (1 + 11) + lo ≤ _; omega⟩) hpre rfl rfl hsz rfl (lv_room (by show 1 + (rest.map fun v => v.category).sum ≤ 8; omega)) hd3 ⟨hcells, hslots⟩) hS (fun q _ h => hFc q h) hFc key
  · exact va_callv (va_runIN (As := []) (rest := .ref q :: rest) ⟨X.hx, X.hb, X.hml, X.hown, X.hts⟩ hM ⟨va_cnB 0 X.hts hG rfl rfl rfl (hN.1 _ w6) hini hyd ⟨hRm.1, by show 8 + (1 + 11) + lo ≤ _; omega⟩, hyn, X.w w5 rfl⟩ hpre rfl rfl hsz rfl (lv_room (by show 1 + (rest.map fun v => v.category).sum ≤ 8; omega)) hd3 ⟨hcells, hslots⟩) hS (fun q _ h => hFc q h) hFc key
/-- a call of a method of the store machine, virtual: the world is the machine's -/
theorem R_smV (X : CX p s m args c Ts own cc nL D cA tb Lim A) {SH : List sm_Sh} {ad : Nat → Nat} {σ : sm_S} (hP : va_P D vwCl (sm_W SH ad cA σ) H) (hD : va_D A (sm_W SH ad cA σ)) (hS : va_S A s.heap H locs) (hSH : ∀ x ∈ SH, sm_shB x = true) (had : ∀ t q, sm_TB[t]? = some q → ad (1000 + t) = tb (1000 + t))
    {j : Nat} {M : sm_M} (hj : sm_MS[j]? = some M) {a : Nat} {as : List Value} {Qp : Option Value → sm_S → Prop} (hcall : sm_C sm_TB sm_MS SH j (.ref a :: as) σ Qp) (hir : sm_irs as = true) {idx : Nat} (hlk : Cond.methodLink own idx M.1 ∈ lw_tbl) (hv : sm_in1 sm_vm j = true) (hrc : sm_rc SH (M.2.2.2.2.1.2.2.2 / 100) [.ref a] = true) (hna : as.length + 1 = M.2.2.2.2.1.2.2.2 % 100) (hRm : M.2.2.2.2.1.1 + 1 ≤ R.frames ∧ 8 + (M.2.2.1 + 11) + M.2.2.2.2.1.2.1 ≤ R.locals) (hsz : L.size = nL) (hcat : (rest.map fun v => v.category).sum ≤ 8) (hcr : cells ≤ R.cells) (hsr : slots ≤ R.slots) (hd : decode cc pc = .ok (.invokevirtual idx, 3))
    (kk : ∀ (r : Option Value) (σ' : sm_S) (H1 : Heap) (locs1 : List Loc), Qp r σ' → va_P D vwCl (sm_W SH ad cA σ') H1 → va_D A (sm_W SH ad cA σ') → va_S A s.heap H1 locs1 → W p l e R s m args below meth c H1 locs1 cells slots Q (F0 m (pc + 3) L ((r.map (sm_cv ad)).toList ++ rest))) :
    W p l e R s m args below meth c H locs cells slots Q (F0 m pc L ((as.map (sm_cv ad)).reverse ++ .ref (ad a) :: rest)) := by
  obtain ⟨M', hM', n, r, σ', hrun, hq⟩ := hcall
  rw [hj] at hM'
  cases hM'
  have hMm : M ∈ sm_MS := List.mem_of_getElem? hj
  have hinj := sm_inj hD
  have hsub := sm_subA hD
  have hvm := sm_in1_mem hv
  have hy : sm_y j = M.1 := by unfold sm_y; rw [hj]
  have hvo := List.all_eq_true.mp sm_vm_ok j hvm
  unfold sm_vok at hvo
  rw [hj] at hvo
  simp only [Bool.and_eq_true, decide_eq_true_eq] at hvo
  obtain ⟨v1, v2, v3⟩ := hvo
  have hmo := sm_ck_ok M hMm
  simp only [sm_chk, sm_mok, Bool.and_eq_true, decide_eq_true_eq] at hmo
  obtain ⟨⟨-, m1, m2, -, m3⟩, -⟩ := hmo
  have m3 := Nat.le_of_ble_eq_true m3
  have hlen : (sm_ent M (.ref a :: as)).length = M.2.2.1 := by
    unfold sm_ent
    rw [List.length_append, List.length_replicate, List.length_cons]
    omega
  have hirs : ∀ v ∈ (Value.ref a :: as), sm_ir v := sm_irs_mem (as := .ref a :: as) hir
  have hMet := sm_toMet (l := l) (SH := SH) (ad := ad) (cA := cA) (D := D) hMm (as := .ref a :: as) (σ := σ) (σ' := σ') (r := r) hirs (by rw [List.length_cons]; omega) (fun p e s m args below meth c C => sm_snd hSH hinj n M hMm 0 _ _ _ _ _ hrun hlen p e s m args below meth c C)
  have hc : vwCl[M.2.2.2.2.1.2.2.2 / 100]? = some (sm_cT M.2.2.2.2.1.2.2.2) := by
    unfold sm_cT
    rw [List.getD_eq_getElem?_getD, List.getElem?_eq_getElem (Nat.le_of_ble_eq_true v2)]
    rfl
  have hG : GoodIn Ts (wsV own idx M.1.cls M.1 (sm_ws M)) := by
    intro w hw
    unfold wsV at hw
    rcases List.mem_append.mp hw with hw | hw
    · simp only [List.mem_cons, List.not_mem_nil, or_false] at hw
      rcases hw with rfl | rfl | rfl | rfl
      · exact good_in X.hTs hlk rfl
      · exact good_in X.hTs (by rw [← hy]; exact sm_im_ok _ hvm) rfl
      · exact good_in X.hTs (by rw [← hy]; exact sm_se_ok _ hvm) rfl
      · exact good_in X.hTs (sm_in_ok _ hMm) rfl
    · exact good_M X.hTs hMm w hw
  have hpd : (parseMethodDescriptor M.1.desc).map (fun d => d.parameters.length) = some as.length := by
    cases hz : parseMethodDescriptor M.1.desc with
    | none => rw [hz] at v3; cases v3
    | some d =>
      rw [hz] at v3
      simp only [Option.map_some, Option.some.injEq] at v3 ⊢
      omega
  simp only [sm_rc] at hrc
  split at hrc
  · next c2 fl ha =>
    have hrc := Nat.eq_of_beq_eq_true hrc
    subst hrc
    refine sm_callA (va_runV (As := as.map (sm_cv ad)) (rest := rest) ⟨X.hx, X.hb, X.hml, X.hown, X.hts⟩ hMet (cwV as.length X.hts hG rfl rfl rfl ⟨rfl, m1, m2, hpd⟩ hRm) ⟨sm_blind, ?_, fun U hU hW => ⟨rfl, by rw [hU]; exact hP, va_K.moved hW.alike X.hK, ?_⟩⟩ rfl (by simp) hsz rfl (lv_room hcat) hd ⟨by omega, by omega⟩) hS hsub (fun H1 locs1 hP1 hk1 hS1 => ?_)
    · have := va_recv X.hK hP hc (sm_W_at (ad := ad) (cA := cA) (σ := σ) ha)
      rw [← v1] at this
      exact this
    · rw [hU]
      exact ((X.zt hS).1.moved hW.alike).ad (fun q z => X.hL q (hsub q z)) had
    · exact kk r σ' H1 locs1 hq hP1 (sm_DA hD) hS1
  · cases hrc
end ROWS2
set_option maxRecDepth 100000 in
set_option maxHeartbeats 4000000 in
theorem w_fill (N : Nat) (x : Int32) (σ : sm_S) (Q : Option Value → sm_S → Prop) (h : xE [.inl (0, N)] m_I_fill 5 [.ref 0, .int x, .int 0, .int (Int32.ofNat N)] [] σ Q) : xC [.inl (0, N)] j_I_fill [.ref 0, .int x] σ Q := sm_wp_C (M := m_I_fill) rfl [5] 8 h
set_option maxRecDepth 100000 in
set_option maxHeartbeats 4000000 in
theorem w_fill_5 (N : Nat) (x a2 a3 : Int32) (σ : sm_S) (Q : Option Value → sm_S → Prop) (h : ((a3 ≤ a2 → Q none σ) ∧ (¬ (a3 ≤ a2) → (vp_in a2 N ∧ ∀ σ1, σ1 = sm_set σ 0 (upd (σ 0) a2.toNatClampNeg x) → xE [.inl (0, N)] m_I_fill 5 [.ref 0, .int x, .int (a2 + 1), .int a3] [] σ1 Q)))) : xE [.inl (0, N)] m_I_fill 5 [.ref 0, .int x, .int a2, .int a3] [] σ Q := sm_wp_E (M := m_I_fill) [5] 12 h
theorem l_fill {N : Nat} {x a3 : Int32} (h3 : a3.toInt = N) : ∀ (d k : Nat) (a2 : Int32) (σ : sm_S), a2.toInt = k → k + d = N → (∀ i, i < k → σ 0 i = x) → xE [.inl (0, N)] m_I_fill 5 [.ref 0, .int x, .int a2, .int a3] [] σ (sm_V (fun σ' => ∀ i, i < N → σ' 0 i = x)) := by
  intro d
  induction d with
  | zero =>
    intro k a2 σ h2 hk hi
    exact w_fill_5 N x a2 a3 σ _ ⟨fun _ => ⟨rfl, fun i h => hi i (by omega)⟩, fun h => absurd (by rw [t_le, h2, h3]; omega) h⟩
  | succ d ih =>
    intro k a2 σ h2 hk hi
    have hb := t_bd a3
    have h2' : (a2 + 1).toInt = ((k + 1 : Nat) : Int) := by
      rw [t_add h2 (y := 1) rfl (by omega) (by omega)]
      omega
    refine w_fill_5 N x a2 a3 σ _ ⟨fun h => ?_, fun _ => ⟨t_vp h2 (by omega), fun σ1 e1 => ?_⟩⟩
    · rw [t_le, h2, h3] at h; omega
    · rw [t_nat h2] at e1
      subst e1
      refine ih (k + 1) (a2 + 1) _ h2' (by omega) (fun i h => ?_)
      rw [s_at]
      by_cases e : i = k
      · subst e; exact u_at
      · rw [u_ne e]; exact hi i (by omega)
theorem c_fill {N : Nat} (hN : N ≤ 256) (x : Int32) (σ : sm_S) : xC [.inl (0, N)] j_I_fill [.ref 0, .int x] σ (sm_V (fun σ' => ∀ i, i < N → σ' 0 i = x)) :=
  w_fill N x σ _ (l_fill (by rw [show Int32.ofNat N = nI N from rfl, nI_toInt (by omega)]) N 0 0 σ rfl (by omega) (fun i h => absurd h (by omega)))
section ROWS3
variable {p : Program} {l : Launch} {e : Env} {R : Room} {s : State} {m : MethodId} {args : Array Value} {below : List Frame} {meth : Method} {c : Code} {H : Heap} {locs : List Loc} {cells slots : Nat} {Q : State → Prop} {pc : Nat} {L : Array Slot} {rest : List Value}
variable {Ts : List Cond} {own : String} {cc : ByteArray} {nL : Nat} {D : va_G} {cA : Nat → ClassId} {tb : Nat → Nat} {Lim : Nat} {A : Nat → Prop}
/-- Arrays.fill(row, -1) -/
theorem R_fill (X : CX p s m args c Ts own cc nL D cA tb Lim A) {ws wr : va_W} (hP : va_P D vwCl ws H) (hD : va_D A ws) (hS : va_S A s.heap H locs) {q N : Nat} {f : Nat → Int32} (i : Nat) (isR : List Nat) (hi : ws[i]? = some (q, .inl (cA 0, N, .inl f))) (hN : N ≤ 256) (hR : isR.map (fun i => ws[i]?) = wr.map some) (hn : va_nd isR = true) (hdis : ∀ j ∈ isR, j ∉ [i]) {idx : Nat} (hlk : Cond.methodLink own idx ⟨"java/util/Arrays", "fill", "([II)V"⟩ ∈ lw_tbl) (hRm : 1 ≤ R.frames ∧ 23 ≤ R.locals) (hsz : L.size = nL) (hcr : cells ≤ R.cells) (hsr : slots ≤ R.slots) (hd : decode cc pc = .ok (.invokestatic idx, 3))
    (kk : ∀ (g : Nat → Int32) (H1 : Heap) (locs1 : List Loc), (∀ i, i < N → g i = -1) → va_P D vwCl (wr ++ [(q, .inl (cA 0, N, .inl g))]) H1 → va_D A (wr ++ [(q, .inl (cA 0, N, .inl g))]) → va_S A s.heap H1 locs1 → W p l e R s m args below meth c H1 locs1 cells slots Q (F0 m (pc + 3) L [])) :
    W p l e R s m args below meth c H locs cells slots Q (F0 m pc L [.int (-1), .ref q]) := by
  refine R_smS (rest := []) X hP hD hS (SH := [.inl (0, N)]) (ad := fun k => if k = 0 then q else tb k) (σ := fun _ => f) (fun x hx => by rw [List.mem_singleton.mp hx]; rfl) (fun i j hi hj _ => by simp only [List.length_cons, List.length_nil] at hi hj; omega) (fun t z _ => if_neg (by omega)) [i] isR (by rw [List.map_cons, hi]; rfl) hR hn hdis (j := j_I_fill) (M := m_I_fill) rfl (c_fill hN (-1) _) rfl (by decide) hlk (sm_st_ok 0 (by decide)) (sm_in_ok m_I_fill (List.mem_of_getElem? (i := 0) rfl)) (by decide +kernel) hRm hsz (by decide) hcr hsr hd ?_
  rintro r σ' H1 locs1 ⟨rfl, hg⟩ hP1 hD1 hS1
  exact kk (σ' 0) H1 locs1 hg hP1 hD1 hS1
end ROWS3
end
section
/-! ===== the constructors of the leaves ===== -/
def xFr : List sm_Sh := [.inr (1, [.inr 1, .inr 2, .inr 3, .inr 4, .inr 5, .inr 6]), .inl (0, 8), .inl (0, 8), .inl (0, 8), .inl (0, 8), .inl (0, 256), .inl (0, 256)]
def I_Fr (σ : sm_S) : Prop := (∀ i, i < 256 → σ 5 i = -1) ∧ (∀ s, s < 8 → σ 1 s = 0 ∧ σ 2 s = 0 ∧ σ 3 s = 0 ∧ σ 4 s = 0) ∧ ∀ f, f < 256 → σ 6 f = 0
theorem d_Fr_0 : decode prog_3_method_1_code 0 = .ok (.aload_n 0, 1) := by decide +kernel
theorem d_Fr_1 : decode prog_3_method_1_code 1 = .ok (.invokespecial 3, 3) := by decide +kernel
theorem d_Fr_4 : decode prog_3_method_1_code 4 = .ok (.aload_n 0, 1) := by decide +kernel
theorem d_Fr_5 : decode prog_3_method_1_code 5 = .ok (.bipush 8, 2) := by decide +kernel
theorem d_Fr_7 : decode prog_3_method_1_code 7 = .ok (.newarray .int, 2) := by decide +kernel
theorem d_Fr_9 : decode prog_3_method_1_code 9 = .ok (.putfield 9, 3) := by decide +kernel
theorem d_Fr_12 : decode prog_3_method_1_code 12 = .ok (.aload_n 0, 1) := by decide +kernel
theorem d_Fr_13 : decode prog_3_method_1_code 13 = .ok (.bipush 8, 2) := by decide +kernel
theorem d_Fr_15 : decode prog_3_method_1_code 15 = .ok (.newarray .int, 2) := by decide +kernel
theorem d_Fr_17 : decode prog_3_method_1_code 17 = .ok (.putfield 15, 3) := by decide +kernel
theorem d_Fr_20 : decode prog_3_method_1_code 20 = .ok (.aload_n 0, 1) := by decide +kernel
theorem d_Fr_21 : decode prog_3_method_1_code 21 = .ok (.bipush 8, 2) := by decide +kernel
theorem d_Fr_23 : decode prog_3_method_1_code 23 = .ok (.newarray .int, 2) := by decide +kernel
theorem d_Fr_25 : decode prog_3_method_1_code 25 = .ok (.putfield 18, 3) := by decide +kernel
theorem d_Fr_28 : decode prog_3_method_1_code 28 = .ok (.aload_n 0, 1) := by decide +kernel
theorem d_Fr_29 : decode prog_3_method_1_code 29 = .ok (.bipush 8, 2) := by decide +kernel
theorem d_Fr_31 : decode prog_3_method_1_code 31 = .ok (.newarray .int, 2) := by decide +kernel
theorem d_Fr_33 : decode prog_3_method_1_code 33 = .ok (.putfield 21, 3) := by decide +kernel
theorem d_Fr_36 : decode prog_3_method_1_code 36 = .ok (.aload_n 0, 1) := by decide +kernel
theorem d_Fr_37 : decode prog_3_method_1_code 37 = .ok (.sipush 256, 3) := by decide +kernel
theorem d_Fr_40 : decode prog_3_method_1_code 40 = .ok (.newarray .int, 2) := by decide +kernel
theorem d_Fr_42 : decode prog_3_method_1_code 42 = .ok (.putfield 24, 3) := by decide +kernel
theorem d_Fr_45 : decode prog_3_method_1_code 45 = .ok (.aload_n 0, 1) := by decide +kernel
theorem d_Fr_46 : decode prog_3_method_1_code 46 = .ok (.sipush 256, 3) := by decide +kernel
theorem d_Fr_49 : decode prog_3_method_1_code 49 = .ok (.newarray .int, 2) := by decide +kernel
theorem d_Fr_51 : decode prog_3_method_1_code 51 = .ok (.putfield 27, 3) := by decide +kernel
theorem d_Fr_54 : decode prog_3_method_1_code 54 = .ok (.aload_n 0, 1) := by decide +kernel
theorem d_Fr_55 : decode prog_3_method_1_code 55 = .ok (.getfield 24, 3) := by decide +kernel
theorem d_Fr_58 : decode prog_3_method_1_code 58 = .ok (.iconst (-1), 1) := by decide +kernel
theorem d_Fr_59 : decode prog_3_method_1_code 59 = .ok (.invokestatic 30, 3) := by decide +kernel
theorem d_Fr_62 : decode prog_3_method_1_code 62 = .ok (.return_, 1) := by decide +kernel
set_option maxRecDepth 100000 in
set_option maxHeartbeats 4000000 in
theorem ct_Fr {l : Launch} {cA : Nat → ClassId} {D : va_G} {tb : Nat → Nat} {Lim : Nat} : Ctor l cA D tb Lim ⟨"SpansAway$Frames", "<init>", "()V"⟩ prog_3_method_1_code 1 23 6 544 1 [.null, .null, .null, .null, .null, .null] xFr 0 I_Fr := by
  refine Ctor.ofW (by decide) rfl ?_
  intro h0 p e s m args below meth c A L X hN hin hr hlocks hl hP hD hS
  refine lv_aload_n X.hx X.hb d_Fr_0 rfl (lv_at hl 0 rfl) ?_
  refine R_obj X hl.1 (ctW_ok (i := 44) rfl) ⟨(Nat.le_of_ble_eq_true rfl), (Nat.le_of_ble_eq_true rfl)⟩ d_Fr_1 ?_
  refine lv_aload_n X.hx X.hb d_Fr_4 rfl (lv_at hl 0 rfl) ?_
  refine lv_bipush (v := 8) X.hx X.hb d_Fr_5 (by decide) ?_
  refine R_np X hin hP hD hS (cT := (RX1, TX1, 6)) rfl 0 (Nat.le_of_ble_eq_true rfl) (Nat.le_of_ble_eq_true rfl) rfl rfl (by decide +kernel) (ctW_ok (i := 45) rfl) 8 (by decide) (by decide) (by decide) (Nat.le_of_ble_eq_true rfl) (Nat.le_of_ble_eq_true rfl) d_Fr_7 d_Fr_9 (fun q0 H locs hP hD hS => ?_)
  have hP : va_P D vwCl [(h0, .inr (1, [.ref q0, .null, .null, .null, .null, .null])), (q0, .inl (cA 0, 8, .inl (fun _ => 0)))] H := hP
  have hD : va_D A [(h0, .inr (1, [.ref q0, .null, .null, .null, .null, .null])), (q0, .inl (cA 0, 8, .inl (fun _ => 0)))] := hD
  refine lv_aload_n X.hx X.hb d_Fr_12 rfl (lv_at hl 0 rfl) ?_
  refine lv_bipush (v := 8) X.hx X.hb d_Fr_13 (by decide) ?_
  refine R_np X hin hP hD hS (cT := (RX1, TX1, 6)) rfl 1 (Nat.le_of_ble_eq_true rfl) (Nat.le_of_ble_eq_true rfl) rfl rfl (by decide +kernel) (ctW_ok (i := 46) rfl) 8 (by decide) (by decide) (by decide) (Nat.le_of_ble_eq_true rfl) (Nat.le_of_ble_eq_true rfl) d_Fr_15 d_Fr_17 (fun q1 H locs hP hD hS => ?_)
  have hP : va_P D vwCl [(h0, .inr (1, [.ref q0, .ref q1, .null, .null, .null, .null])), (q0, .inl (cA 0, 8, .inl (fun _ => 0))), (q1, .inl (cA 0, 8, .inl (fun _ => 0)))] H := hP
  have hD : va_D A [(h0, .inr (1, [.ref q0, .ref q1, .null, .null, .null, .null])), (q0, .inl (cA 0, 8, .inl (fun _ => 0))), (q1, .inl (cA 0, 8, .inl (fun _ => 0)))] := hD
  refine lv_aload_n X.hx X.hb d_Fr_20 rfl (lv_at hl 0 rfl) ?_
  refine lv_bipush (v := 8) X.hx X.hb d_Fr_21 (by decide) ?_
  refine R_np X hin hP hD hS (cT := (RX1, TX1, 6)) rfl 2 (Nat.le_of_ble_eq_true rfl) (Nat.le_of_ble_eq_true rfl) rfl rfl (by decide +kernel) (ctW_ok (i := 47) rfl) 8 (by decide) (by decide) (by decide) (Nat.le_of_ble_eq_true rfl) (Nat.le_of_ble_eq_true rfl) d_Fr_23 d_Fr_25 (fun q2 H locs hP hD hS => ?_)
  have hP : va_P D vwCl [(h0, .inr (1, [.ref q0, .ref q1, .ref q2, .null, .null, .null])), (q0, .inl (cA 0, 8, .inl (fun _ => 0))), (q1, .inl (cA 0, 8, .inl (fun _ => 0))), (q2, .inl (cA 0, 8, .inl (fun _ => 0)))] H := hP
  have hD : va_D A [(h0, .inr (1, [.ref q0, .ref q1, .ref q2, .null, .null, .null])), (q0, .inl (cA 0, 8, .inl (fun _ => 0))), (q1, .inl (cA 0, 8, .inl (fun _ => 0))), (q2, .inl (cA 0, 8, .inl (fun _ => 0)))] := hD
  refine lv_aload_n X.hx X.hb d_Fr_28 rfl (lv_at hl 0 rfl) ?_
  refine lv_bipush (v := 8) X.hx X.hb d_Fr_29 (by decide) ?_
  refine R_np X hin hP hD hS (cT := (RX1, TX1, 6)) rfl 3 (Nat.le_of_ble_eq_true rfl) (Nat.le_of_ble_eq_true rfl) rfl rfl (by decide +kernel) (ctW_ok (i := 48) rfl) 8 (by decide) (by decide) (by decide) (Nat.le_of_ble_eq_true rfl) (Nat.le_of_ble_eq_true rfl) d_Fr_31 d_Fr_33 (fun q3 H locs hP hD hS => ?_)
  have hP : va_P D vwCl [(h0, .inr (1, [.ref q0, .ref q1, .ref q2, .ref q3, .null, .null])), (q0, .inl (cA 0, 8, .inl (fun _ => 0))), (q1, .inl (cA 0, 8, .inl (fun _ => 0))), (q2, .inl (cA 0, 8, .inl (fun _ => 0))), (q3, .inl (cA 0, 8, .inl (fun _ => 0)))] H := hP
  have hD : va_D A [(h0, .inr (1, [.ref q0, .ref q1, .ref q2, .ref q3, .null, .null])), (q0, .inl (cA 0, 8, .inl (fun _ => 0))), (q1, .inl (cA 0, 8, .inl (fun _ => 0))), (q2, .inl (cA 0, 8, .inl (fun _ => 0))), (q3, .inl (cA 0, 8, .inl (fun _ => 0)))] := hD
  refine lv_aload_n X.hx X.hb d_Fr_36 rfl (lv_at hl 0 rfl) ?_
  refine lv_sipush (v := 256) X.hx X.hb d_Fr_37 (by decide) ?_
  refine R_np X hin hP hD hS (cT := (RX1, TX1, 6)) rfl 4 (Nat.le_of_ble_eq_true rfl) (Nat.le_of_ble_eq_true rfl) rfl rfl (by decide +kernel) (ctW_ok (i := 49) rfl) 256 (by decide) (by decide) (by decide) (Nat.le_of_ble_eq_true rfl) (Nat.le_of_ble_eq_true rfl) d_Fr_40 d_Fr_42 (fun q4 H locs hP hD hS => ?_)
  have hP : va_P D vwCl [(h0, .inr (1, [.ref q0, .ref q1, .ref q2, .ref q3, .ref q4, .null])), (q0, .inl (cA 0, 8, .inl (fun _ => 0))), (q1, .inl (cA 0, 8, .inl (fun _ => 0))), (q2, .inl (cA 0, 8, .inl (fun _ => 0))), (q3, .inl (cA 0, 8, .inl (fun _ => 0))), (q4, .inl (cA 0, 256, .inl (fun _ => 0)))] H := hP
  have hD : va_D A [(h0, .inr (1, [.ref q0, .ref q1, .ref q2, .ref q3, .ref q4, .null])), (q0, .inl (cA 0, 8, .inl (fun _ => 0))), (q1, .inl (cA 0, 8, .inl (fun _ => 0))), (q2, .inl (cA 0, 8, .inl (fun _ => 0))), (q3, .inl (cA 0, 8, .inl (fun _ => 0))), (q4, .inl (cA 0, 256, .inl (fun _ => 0)))] := hD
  refine lv_aload_n X.hx X.hb d_Fr_45 rfl (lv_at hl 0 rfl) ?_
  refine lv_sipush (v := 256) X.hx X.hb d_Fr_46 (by decide) ?_
  refine R_np X hin hP hD hS (cT := (RX1, TX1, 6)) rfl 5 (Nat.le_of_ble_eq_true rfl) (Nat.le_of_ble_eq_true rfl) rfl rfl (by decide +kernel) (ctW_ok (i := 50) rfl) 256 (by decide) (by decide) (by decide) (Nat.le_of_ble_eq_true rfl) (Nat.le_of_ble_eq_true rfl) d_Fr_49 d_Fr_51 (fun q5 H locs hP hD hS => ?_)
  have hP : va_P D vwCl [(h0, .inr (1, [.ref q0, .ref q1, .ref q2, .ref q3, .ref q4, .ref q5])), (q0, .inl (cA 0, 8, .inl (fun _ => 0))), (q1, .inl (cA 0, 8, .inl (fun _ => 0))), (q2, .inl (cA 0, 8, .inl (fun _ => 0))), (q3, .inl (cA 0, 8, .inl (fun _ => 0))), (q4, .inl (cA 0, 256, .inl (fun _ => 0))), (q5, .inl (cA 0, 256, .inl (fun _ => 0)))] H := hP
  have hD : va_D A [(h0, .inr (1, [.ref q0, .ref q1, .ref q2, .ref q3, .ref q4, .ref q5])), (q0, .inl (cA 0, 8, .inl (fun _ => 0))), (q1, .inl (cA 0, 8, .inl (fun _ => 0))), (q2, .inl (cA 0, 8, .inl (fun _ => 0))), (q3, .inl (cA 0, 8, .inl (fun _ => 0))), (q4, .inl (cA 0, 256, .inl (fun _ => 0))), (q5, .inl (cA 0, 256, .inl (fun _ => 0)))] := hD
  refine lv_aload_n X.hx X.hb d_Fr_54 rfl (lv_at hl 0 rfl) ?_
  refine R_gf X hP 0 rfl (cT := (RX1, TX1, 6)) rfl 4 (Nat.le_of_ble_eq_true rfl) (v := .ref q4) rfl (ctW_ok (i := 49) rfl) d_Fr_55 ?_
  refine lv_iconst (v := -1) X.hx X.hb d_Fr_58 (by decide) ?_
  refine R_fill (wr := [(h0, .inr (1, [.ref q0, .ref q1, .ref q2, .ref q3, .ref q4, .ref q5])), (q0, .inl (cA 0, 8, .inl (fun _ => 0))), (q1, .inl (cA 0, 8, .inl (fun _ => 0))), (q2, .inl (cA 0, 8, .inl (fun _ => 0))), (q3, .inl (cA 0, 8, .inl (fun _ => 0))), (q5, .inl (cA 0, 256, .inl (fun _ => 0)))]) X hP hD hS 5 [0, 1, 2, 3, 4, 6] rfl (by decide) rfl (by decide) (by decide) (ctW_ok (i := 51) rfl) ⟨(Nat.le_of_ble_eq_true rfl), (Nat.le_of_ble_eq_true rfl)⟩ hl.1 (Nat.le_of_ble_eq_true rfl) (Nat.le_of_ble_eq_true rfl) d_Fr_59 (fun g4 H locs G104 hP hD hS => ?_)
  have hP : va_P D vwCl [(h0, .inr (1, [.ref q0, .ref q1, .ref q2, .ref q3, .ref q4, .ref q5])), (q0, .inl (cA 0, 8, .inl (fun _ => 0))), (q1, .inl (cA 0, 8, .inl (fun _ => 0))), (q2, .inl (cA 0, 8, .inl (fun _ => 0))), (q3, .inl (cA 0, 8, .inl (fun _ => 0))), (q5, .inl (cA 0, 256, .inl (fun _ => 0))), (q4, .inl (cA 0, 256, .inl g4))] H := hP
  have hD : va_D A [(h0, .inr (1, [.ref q0, .ref q1, .ref q2, .ref q3, .ref q4, .ref q5])), (q0, .inl (cA 0, 8, .inl (fun _ => 0))), (q1, .inl (cA 0, 8, .inl (fun _ => 0))), (q2, .inl (cA 0, 8, .inl (fun _ => 0))), (q3, .inl (cA 0, 8, .inl (fun _ => 0))), (q5, .inl (cA 0, 256, .inl (fun _ => 0))), (q4, .inl (cA 0, 256, .inl g4))] := hD
  refine W.widen (k := 6) (n := 544) (Nat.le_of_ble_eq_true rfl) (Nat.le_of_ble_eq_true rfl) ?_
  exact R_ret X hr hlocks (SH := xFr) (ad := (fun k => ([h0, q0, q1, q2, q3, q4, q5] : List Nat).getD k 0)) (σ := (fun k => ([fun _ => 0, fun _ => 0, fun _ => 0, fun _ => 0, fun _ => 0, g4, fun _ => 0] : List (Nat → Int32)).getD k (fun _ => 0))) (hP.sub [0, 1, 2, 3, 4, 6, 5] rfl) (hD.sub [0, 1, 2, 3, 4, 6, 5] (by decide) rfl) hS rfl (⟨fun i hi => G104 i hi, fun s hs => ⟨rfl, rfl, rfl, rfl⟩, fun f hf => rfl⟩) d_Fr_62
def xBl : List sm_Sh := [.inr (0, [.inr 1, .inr 2, .inr 3, .inr 4, .inr 5, .inr 6, .inr 7, .inr 8, .inl 0]), .inl (0, 96), .inl (0, 96), .inl (0, 96), .inl (0, 96), .inl (0, 96), .inl (0, 96), .inl (0, 96), .inl (0, 96)]
def I_Bl (σ : sm_S) : Prop := (∀ b, b < 96 → σ 1 b = -1 ∧ σ 6 b = -1 ∧ σ 7 b = 0) ∧ σ 0 8 = 0
theorem d_Bl_0 : decode prog_2_method_1_code 0 = .ok (.aload_n 0, 1) := by decide +kernel
theorem d_Bl_1 : decode prog_2_method_1_code 1 = .ok (.invokespecial 3, 3) := by decide +kernel
theorem d_Bl_4 : decode prog_2_method_1_code 4 = .ok (.aload_n 0, 1) := by decide +kernel
theorem d_Bl_5 : decode prog_2_method_1_code 5 = .ok (.bipush 96, 2) := by decide +kernel
theorem d_Bl_7 : decode prog_2_method_1_code 7 = .ok (.newarray .int, 2) := by decide +kernel
theorem d_Bl_9 : decode prog_2_method_1_code 9 = .ok (.putfield 9, 3) := by decide +kernel
theorem d_Bl_12 : decode prog_2_method_1_code 12 = .ok (.aload_n 0, 1) := by decide +kernel
theorem d_Bl_13 : decode prog_2_method_1_code 13 = .ok (.bipush 96, 2) := by decide +kernel
theorem d_Bl_15 : decode prog_2_method_1_code 15 = .ok (.newarray .int, 2) := by decide +kernel
theorem d_Bl_17 : decode prog_2_method_1_code 17 = .ok (.putfield 15, 3) := by decide +kernel
theorem d_Bl_20 : decode prog_2_method_1_code 20 = .ok (.aload_n 0, 1) := by decide +kernel
theorem d_Bl_21 : decode prog_2_method_1_code 21 = .ok (.bipush 96, 2) := by decide +kernel
theorem d_Bl_23 : decode prog_2_method_1_code 23 = .ok (.newarray .int, 2) := by decide +kernel
theorem d_Bl_25 : decode prog_2_method_1_code 25 = .ok (.putfield 18, 3) := by decide +kernel
theorem d_Bl_28 : decode prog_2_method_1_code 28 = .ok (.aload_n 0, 1) := by decide +kernel
theorem d_Bl_29 : decode prog_2_method_1_code 29 = .ok (.bipush 96, 2) := by decide +kernel
theorem d_Bl_31 : decode prog_2_method_1_code 31 = .ok (.newarray .int, 2) := by decide +kernel
theorem d_Bl_33 : decode prog_2_method_1_code 33 = .ok (.putfield 21, 3) := by decide +kernel
theorem d_Bl_36 : decode prog_2_method_1_code 36 = .ok (.aload_n 0, 1) := by decide +kernel
theorem d_Bl_37 : decode prog_2_method_1_code 37 = .ok (.bipush 96, 2) := by decide +kernel
theorem d_Bl_39 : decode prog_2_method_1_code 39 = .ok (.newarray .int, 2) := by decide +kernel
theorem d_Bl_41 : decode prog_2_method_1_code 41 = .ok (.putfield 24, 3) := by decide +kernel
theorem d_Bl_44 : decode prog_2_method_1_code 44 = .ok (.aload_n 0, 1) := by decide +kernel
theorem d_Bl_45 : decode prog_2_method_1_code 45 = .ok (.bipush 96, 2) := by decide +kernel
theorem d_Bl_47 : decode prog_2_method_1_code 47 = .ok (.newarray .int, 2) := by decide +kernel
theorem d_Bl_49 : decode prog_2_method_1_code 49 = .ok (.putfield 27, 3) := by decide +kernel
theorem d_Bl_52 : decode prog_2_method_1_code 52 = .ok (.aload_n 0, 1) := by decide +kernel
theorem d_Bl_53 : decode prog_2_method_1_code 53 = .ok (.bipush 96, 2) := by decide +kernel
theorem d_Bl_55 : decode prog_2_method_1_code 55 = .ok (.newarray .int, 2) := by decide +kernel
theorem d_Bl_57 : decode prog_2_method_1_code 57 = .ok (.putfield 30, 3) := by decide +kernel
theorem d_Bl_60 : decode prog_2_method_1_code 60 = .ok (.aload_n 0, 1) := by decide +kernel
theorem d_Bl_61 : decode prog_2_method_1_code 61 = .ok (.bipush 96, 2) := by decide +kernel
theorem d_Bl_63 : decode prog_2_method_1_code 63 = .ok (.newarray .int, 2) := by decide +kernel
theorem d_Bl_65 : decode prog_2_method_1_code 65 = .ok (.putfield 33, 3) := by decide +kernel
theorem d_Bl_68 : decode prog_2_method_1_code 68 = .ok (.aload_n 0, 1) := by decide +kernel
theorem d_Bl_69 : decode prog_2_method_1_code 69 = .ok (.iconst 0, 1) := by decide +kernel
theorem d_Bl_70 : decode prog_2_method_1_code 70 = .ok (.putfield 36, 3) := by decide +kernel
theorem d_Bl_73 : decode prog_2_method_1_code 73 = .ok (.aload_n 0, 1) := by decide +kernel
theorem d_Bl_74 : decode prog_2_method_1_code 74 = .ok (.getfield 9, 3) := by decide +kernel
theorem d_Bl_77 : decode prog_2_method_1_code 77 = .ok (.iconst (-1), 1) := by decide +kernel
theorem d_Bl_78 : decode prog_2_method_1_code 78 = .ok (.invokestatic 40, 3) := by decide +kernel
theorem d_Bl_81 : decode prog_2_method_1_code 81 = .ok (.aload_n 0, 1) := by decide +kernel
theorem d_Bl_82 : decode prog_2_method_1_code 82 = .ok (.getfield 27, 3) := by decide +kernel
theorem d_Bl_85 : decode prog_2_method_1_code 85 = .ok (.iconst (-1), 1) := by decide +kernel
theorem d_Bl_86 : decode prog_2_method_1_code 86 = .ok (.invokestatic 40, 3) := by decide +kernel
theorem d_Bl_89 : decode prog_2_method_1_code 89 = .ok (.return_, 1) := by decide +kernel
set_option maxRecDepth 100000 in
set_option maxHeartbeats 4000000 in
theorem ct_Bl {l : Launch} {cA : Nat → ClassId} {D : va_G} {tb : Nat → Nat} {Lim : Nat} : Ctor l cA D tb Lim ⟨"SpansAway$Blocks", "<init>", "()V"⟩ prog_2_method_1_code 1 23 8 768 0 [.null, .null, .null, .null, .null, .null, .null, .null, .int 0] xBl 0 I_Bl := by
  refine Ctor.ofW (by decide) rfl ?_
  intro h0 p e s m args below meth c A L X hN hin hr hlocks hl hP hD hS
  refine lv_aload_n X.hx X.hb d_Bl_0 rfl (lv_at hl 0 rfl) ?_
  refine R_obj X hl.1 (ctW_ok (i := 52) rfl) ⟨(Nat.le_of_ble_eq_true rfl), (Nat.le_of_ble_eq_true rfl)⟩ d_Bl_1 ?_
  refine lv_aload_n X.hx X.hb d_Bl_4 rfl (lv_at hl 0 rfl) ?_
  refine lv_bipush (v := 96) X.hx X.hb d_Bl_5 (by decide) ?_
  refine R_np X hin hP hD hS (cT := (RX0, TX0, 9)) rfl 0 (Nat.le_of_ble_eq_true rfl) (Nat.le_of_ble_eq_true rfl) rfl rfl (by decide +kernel) (ctW_ok (i := 53) rfl) 96 (by decide) (by decide) (by decide) (Nat.le_of_ble_eq_true rfl) (Nat.le_of_ble_eq_true rfl) d_Bl_7 d_Bl_9 (fun q0 H locs hP hD hS => ?_)
  have hP : va_P D vwCl [(h0, .inr (0, [.ref q0, .null, .null, .null, .null, .null, .null, .null, .int 0])), (q0, .inl (cA 0, 96, .inl (fun _ => 0)))] H := hP
  have hD : va_D A [(h0, .inr (0, [.ref q0, .null, .null, .null, .null, .null, .null, .null, .int 0])), (q0, .inl (cA 0, 96, .inl (fun _ => 0)))] := hD
  refine lv_aload_n X.hx X.hb d_Bl_12 rfl (lv_at hl 0 rfl) ?_
  refine lv_bipush (v := 96) X.hx X.hb d_Bl_13 (by decide) ?_
  refine R_np X hin hP hD hS (cT := (RX0, TX0, 9)) rfl 1 (Nat.le_of_ble_eq_true rfl) (Nat.le_of_ble_eq_true rfl) rfl rfl (by decide +kernel) (ctW_ok (i := 54) rfl) 96 (by decide) (by decide) (by decide) (Nat.le_of_ble_eq_true rfl) (Nat.le_of_ble_eq_true rfl) d_Bl_15 d_Bl_17 (fun q1 H locs hP hD hS => ?_)
  have hP : va_P D vwCl [(h0, .inr (0, [.ref q0, .ref q1, .null, .null, .null, .null, .null, .null, .int 0])), (q0, .inl (cA 0, 96, .inl (fun _ => 0))), (q1, .inl (cA 0, 96, .inl (fun _ => 0)))] H := hP
  have hD : va_D A [(h0, .inr (0, [.ref q0, .ref q1, .null, .null, .null, .null, .null, .null, .int 0])), (q0, .inl (cA 0, 96, .inl (fun _ => 0))), (q1, .inl (cA 0, 96, .inl (fun _ => 0)))] := hD
  refine lv_aload_n X.hx X.hb d_Bl_20 rfl (lv_at hl 0 rfl) ?_
  refine lv_bipush (v := 96) X.hx X.hb d_Bl_21 (by decide) ?_
  refine R_np X hin hP hD hS (cT := (RX0, TX0, 9)) rfl 2 (Nat.le_of_ble_eq_true rfl) (Nat.le_of_ble_eq_true rfl) rfl rfl (by decide +kernel) (ctW_ok (i := 55) rfl) 96 (by decide) (by decide) (by decide) (Nat.le_of_ble_eq_true rfl) (Nat.le_of_ble_eq_true rfl) d_Bl_23 d_Bl_25 (fun q2 H locs hP hD hS => ?_)
  have hP : va_P D vwCl [(h0, .inr (0, [.ref q0, .ref q1, .ref q2, .null, .null, .null, .null, .null, .int 0])), (q0, .inl (cA 0, 96, .inl (fun _ => 0))), (q1, .inl (cA 0, 96, .inl (fun _ => 0))), (q2, .inl (cA 0, 96, .inl (fun _ => 0)))] H := hP
  have hD : va_D A [(h0, .inr (0, [.ref q0, .ref q1, .ref q2, .null, .null, .null, .null, .null, .int 0])), (q0, .inl (cA 0, 96, .inl (fun _ => 0))), (q1, .inl (cA 0, 96, .inl (fun _ => 0))), (q2, .inl (cA 0, 96, .inl (fun _ => 0)))] := hD
  refine lv_aload_n X.hx X.hb d_Bl_28 rfl (lv_at hl 0 rfl) ?_
  refine lv_bipush (v := 96) X.hx X.hb d_Bl_29 (by decide) ?_
  refine R_np X hin hP hD hS (cT := (RX0, TX0, 9)) rfl 3 (Nat.le_of_ble_eq_true rfl) (Nat.le_of_ble_eq_true rfl) rfl rfl (by decide +kernel) (ctW_ok (i := 56) rfl) 96 (by decide) (by decide) (by decide) (Nat.le_of_ble_eq_true rfl) (Nat.le_of_ble_eq_true rfl) d_Bl_31 d_Bl_33 (fun q3 H locs hP hD hS => ?_)
  have hP : va_P D vwCl [(h0, .inr (0, [.ref q0, .ref q1, .ref q2, .ref q3, .null, .null, .null, .null, .int 0])), (q0, .inl (cA 0, 96, .inl (fun _ => 0))), (q1, .inl (cA 0, 96, .inl (fun _ => 0))), (q2, .inl (cA 0, 96, .inl (fun _ => 0))), (q3, .inl (cA 0, 96, .inl (fun _ => 0)))] H := hP
  have hD : va_D A [(h0, .inr (0, [.ref q0, .ref q1, .ref q2, .ref q3, .null, .null, .null, .null, .int 0])), (q0, .inl (cA 0, 96, .inl (fun _ => 0))), (q1, .inl (cA 0, 96, .inl (fun _ => 0))), (q2, .inl (cA 0, 96, .inl (fun _ => 0))), (q3, .inl (cA 0, 96, .inl (fun _ => 0)))] := hD
  refine lv_aload_n X.hx X.hb d_Bl_36 rfl (lv_at hl 0 rfl) ?_
  refine lv_bipush (v := 96) X.hx X.hb d_Bl_37 (by decide) ?_
  refine R_np X hin hP hD hS (cT := (RX0, TX0, 9)) rfl 4 (Nat.le_of_ble_eq_true rfl) (Nat.le_of_ble_eq_true rfl) rfl rfl (by decide +kernel) (ctW_ok (i := 57) rfl) 96 (by decide) (by decide) (by decide) (Nat.le_of_ble_eq_true rfl) (Nat.le_of_ble_eq_true rfl) d_Bl_39 d_Bl_41 (fun q4 H locs hP hD hS => ?_)
  have hP : va_P D vwCl [(h0, .inr (0, [.ref q0, .ref q1, .ref q2, .ref q3, .ref q4, .null, .null, .null, .int 0])), (q0, .inl (cA 0, 96, .inl (fun _ => 0))), (q1, .inl (cA 0, 96, .inl (fun _ => 0))), (q2, .inl (cA 0, 96, .inl (fun _ => 0))), (q3, .inl (cA 0, 96, .inl (fun _ => 0))), (q4, .inl (cA 0, 96, .inl (fun _ => 0)))] H := hP
  have hD : va_D A [(h0, .inr (0, [.ref q0, .ref q1, .ref q2, .ref q3, .ref q4, .null, .null, .null, .int 0])), (q0, .inl (cA 0, 96, .inl (fun _ => 0))), (q1, .inl (cA 0, 96, .inl (fun _ => 0))), (q2, .inl (cA 0, 96, .inl (fun _ => 0))), (q3, .inl (cA 0, 96, .inl (fun _ => 0))), (q4, .inl (cA 0, 96, .inl (fun _ => 0)))] := hD
  refine lv_aload_n X.hx X.hb d_Bl_44 rfl (lv_at hl 0 rfl) ?_
  refine lv_bipush (v := 96) X.hx X.hb d_Bl_45 (by decide) ?_
  refine R_np X hin hP hD hS (cT := (RX0, TX0, 9)) rfl 5 (Nat.le_of_ble_eq_true rfl) (Nat.le_of_ble_eq_true rfl) rfl rfl (by decide +kernel) (ctW_ok (i := 58) rfl) 96 (by decide) (by decide) (by decide) (Nat.le_of_ble_eq_true rfl) (Nat.le_of_ble_eq_true rfl) d_Bl_47 d_Bl_49 (fun q5 H locs hP hD hS => ?_)
  have hP : va_P D vwCl [(h0, .inr (0, [.ref q0, .ref q1, .ref q2, .ref q3, .ref q4, .ref q5, .null, .null, .int 0])), (q0, .inl (cA 0, 96, .inl (fun _ => 0))), (q1, .inl (cA 0, 96, .inl (fun _ => 0))), (q2, .inl (cA 0, 96, .inl (fun _ => 0))), (q3, .inl (cA 0, 96, .inl (fun _ => 0))), (q4, .inl (cA 0, 96, .inl (fun _ => 0))), (q5, .inl (cA 0, 96, .inl (fun _ => 0)))] H := hP
  have hD : va_D A [(h0, .inr (0, [.ref q0, .ref q1, .ref q2, .ref q3, .ref q4, .ref q5, .null, .null, .int 0])), (q0, .inl (cA 0, 96, .inl (fun _ => 0))), (q1, .inl (cA 0, 96, .inl (fun _ => 0))), (q2, .inl (cA 0, 96, .inl (fun _ => 0))), (q3, .inl (cA 0, 96, .inl (fun _ => 0))), (q4, .inl (cA 0, 96, .inl (fun _ => 0))), (q5, .inl (cA 0, 96, .inl (fun _ => 0)))] := hD
  refine lv_aload_n X.hx X.hb d_Bl_52 rfl (lv_at hl 0 rfl) ?_
  refine lv_bipush (v := 96) X.hx X.hb d_Bl_53 (by decide) ?_
  refine R_np X hin hP hD hS (cT := (RX0, TX0, 9)) rfl 6 (Nat.le_of_ble_eq_true rfl) (Nat.le_of_ble_eq_true rfl) rfl rfl (by decide +kernel) (ctW_ok (i := 59) rfl) 96 (by decide) (by decide) (by decide) (Nat.le_of_ble_eq_true rfl) (Nat.le_of_ble_eq_true rfl) d_Bl_55 d_Bl_57 (fun q6 H locs hP hD hS => ?_)
  have hP : va_P D vwCl [(h0, .inr (0, [.ref q0, .ref q1, .ref q2, .ref q3, .ref q4, .ref q5, .ref q6, .null, .int 0])), (q0, .inl (cA 0, 96, .inl (fun _ => 0))), (q1, .inl (cA 0, 96, .inl (fun _ => 0))), (q2, .inl (cA 0, 96, .inl (fun _ => 0))), (q3, .inl (cA 0, 96, .inl (fun _ => 0))), (q4, .inl (cA 0, 96, .inl (fun _ => 0))), (q5, .inl (cA 0, 96, .inl (fun _ => 0))), (q6, .inl (cA 0, 96, .inl (fun _ => 0)))] H := hP
  have hD : va_D A [(h0, .inr (0, [.ref q0, .ref q1, .ref q2, .ref q3, .ref q4, .ref q5, .ref q6, .null, .int 0])), (q0, .inl (cA 0, 96, .inl (fun _ => 0))), (q1, .inl (cA 0, 96, .inl (fun _ => 0))), (q2, .inl (cA 0, 96, .inl (fun _ => 0))), (q3, .inl (cA 0, 96, .inl (fun _ => 0))), (q4, .inl (cA 0, 96, .inl (fun _ => 0))), (q5, .inl (cA 0, 96, .inl (fun _ => 0))), (q6, .inl (cA 0, 96, .inl (fun _ => 0)))] := hD
  refine lv_aload_n X.hx X.hb d_Bl_60 rfl (lv_at hl 0 rfl) ?_
  refine lv_bipush (v := 96) X.hx X.hb d_Bl_61 (by decide) ?_
  refine R_np X hin hP hD hS (cT := (RX0, TX0, 9)) rfl 7 (Nat.le_of_ble_eq_true rfl) (Nat.le_of_ble_eq_true rfl) rfl rfl (by decide +kernel) (ctW_ok (i := 60) rfl) 96 (by decide) (by decide) (by decide) (Nat.le_of_ble_eq_true rfl) (Nat.le_of_ble_eq_true rfl) d_Bl_63 d_Bl_65 (fun q7 H locs hP hD hS => ?_)
  have hP : va_P D vwCl [(h0, .inr (0, [.ref q0, .ref q1, .ref q2, .ref q3, .ref q4, .ref q5, .ref q6, .ref q7, .int 0])), (q0, .inl (cA 0, 96, .inl (fun _ => 0))), (q1, .inl (cA 0, 96, .inl (fun _ => 0))), (q2, .inl (cA 0, 96, .inl (fun _ => 0))), (q3, .inl (cA 0, 96, .inl (fun _ => 0))), (q4, .inl (cA 0, 96, .inl (fun _ => 0))), (q5, .inl (cA 0, 96, .inl (fun _ => 0))), (q6, .inl (cA 0, 96, .inl (fun _ => 0))), (q7, .inl (cA 0, 96, .inl (fun _ => 0)))] H := hP
  have hD : va_D A [(h0, .inr (0, [.ref q0, .ref q1, .ref q2, .ref q3, .ref q4, .ref q5, .ref q6, .ref q7, .int 0])), (q0, .inl (cA 0, 96, .inl (fun _ => 0))), (q1, .inl (cA 0, 96, .inl (fun _ => 0))), (q2, .inl (cA 0, 96, .inl (fun _ => 0))), (q3, .inl (cA 0, 96, .inl (fun _ => 0))), (q4, .inl (cA 0, 96, .inl (fun _ => 0))), (q5, .inl (cA 0, 96, .inl (fun _ => 0))), (q6, .inl (cA 0, 96, .inl (fun _ => 0))), (q7, .inl (cA 0, 96, .inl (fun _ => 0)))] := hD
  refine lv_aload_n X.hx X.hb d_Bl_68 rfl (lv_at hl 0 rfl) ?_
  refine lv_iconst (v := 0) X.hx X.hb d_Bl_69 (by decide) ?_
  refine R_pi X hP hD hS (cT := (RX0, TX0, 9)) rfl 8 (Nat.le_of_ble_eq_true rfl) (Nat.le_of_ble_eq_true rfl) rfl (ty := .int) (by decide +kernel) rfl rfl (ctW_ok (i := 61) rfl) d_Bl_70 (fun H locs hP hD hS => ?_)
  have hP : va_P D vwCl [(h0, .inr (0, [.ref q0, .ref q1, .ref q2, .ref q3, .ref q4, .ref q5, .ref q6, .ref q7, .int 0])), (q0, .inl (cA 0, 96, .inl (fun _ => 0))), (q1, .inl (cA 0, 96, .inl (fun _ => 0))), (q2, .inl (cA 0, 96, .inl (fun _ => 0))), (q3, .inl (cA 0, 96, .inl (fun _ => 0))), (q4, .inl (cA 0, 96, .inl (fun _ => 0))), (q5, .inl (cA 0, 96, .inl (fun _ => 0))), (q6, .inl (cA 0, 96, .inl (fun _ => 0))), (q7, .inl (cA 0, 96, .inl (fun _ => 0)))] H := hP
  have hD : va_D A [(h0, .inr (0, [.ref q0, .ref q1, .ref q2, .ref q3, .ref q4, .ref q5, .ref q6, .ref q7, .int 0])), (q0, .inl (cA 0, 96, .inl (fun _ => 0))), (q1, .inl (cA 0, 96, .inl (fun _ => 0))), (q2, .inl (cA 0, 96, .inl (fun _ => 0))), (q3, .inl (cA 0, 96, .inl (fun _ => 0))), (q4, .inl (cA 0, 96, .inl (fun _ => 0))), (q5, .inl (cA 0, 96, .inl (fun _ => 0))), (q6, .inl (cA 0, 96, .inl (fun _ => 0))), (q7, .inl (cA 0, 96, .inl (fun _ => 0)))] := hD
  refine lv_aload_n X.hx X.hb d_Bl_73 rfl (lv_at hl 0 rfl) ?_
  refine R_gf X hP 0 rfl (cT := (RX0, TX0, 9)) rfl 0 (Nat.le_of_ble_eq_true rfl) (v := .ref q0) rfl (ctW_ok (i := 53) rfl) d_Bl_74 ?_
  refine lv_iconst (v := -1) X.hx X.hb d_Bl_77 (by decide) ?_
  refine R_fill (wr := [(h0, .inr (0, [.ref q0, .ref q1, .ref q2, .ref q3, .ref q4, .ref q5, .ref q6, .ref q7, .int 0])), (q1, .inl (cA 0, 96, .inl (fun _ => 0))), (q2, .inl (cA 0, 96, .inl (fun _ => 0))), (q3, .inl (cA 0, 96, .inl (fun _ => 0))), (q4, .inl (cA 0, 96, .inl (fun _ => 0))), (q5, .inl (cA 0, 96, .inl (fun _ => 0))), (q6, .inl (cA 0, 96, .inl (fun _ => 0))), (q7, .inl (cA 0, 96, .inl (fun _ => 0)))]) X hP hD hS 1 [0, 2, 3, 4, 5, 6, 7, 8] rfl (by decide) rfl (by decide) (by decide) (ctW_ok (i := 62) rfl) ⟨(Nat.le_of_ble_eq_true rfl), (Nat.le_of_ble_eq_true rfl)⟩ hl.1 (Nat.le_of_ble_eq_true rfl) (Nat.le_of_ble_eq_true rfl) d_Bl_78 (fun g0 H locs G0 hP hD hS => ?_)
  have hP : va_P D vwCl [(h0, .inr (0, [.ref q0, .ref q1, .ref q2, .ref q3, .ref q4, .ref q5, .ref q6, .ref q7, .int 0])), (q1, .inl (cA 0, 96, .inl (fun _ => 0))), (q2, .inl (cA 0, 96, .inl (fun _ => 0))), (q3, .inl (cA 0, 96, .inl (fun _ => 0))), (q4, .inl (cA 0, 96, .inl (fun _ => 0))), (q5, .inl (cA 0, 96, .inl (fun _ => 0))), (q6, .inl (cA 0, 96, .inl (fun _ => 0))), (q7, .inl (cA 0, 96, .inl (fun _ => 0))), (q0, .inl (cA 0, 96, .inl g0))] H := hP
  have hD : va_D A [(h0, .inr (0, [.ref q0, .ref q1, .ref q2, .ref q3, .ref q4, .ref q5, .ref q6, .ref q7, .int 0])), (q1, .inl (cA 0, 96, .inl (fun _ => 0))), (q2, .inl (cA 0, 96, .inl (fun _ => 0))), (q3, .inl (cA 0, 96, .inl (fun _ => 0))), (q4, .inl (cA 0, 96, .inl (fun _ => 0))), (q5, .inl (cA 0, 96, .inl (fun _ => 0))), (q6, .inl (cA 0, 96, .inl (fun _ => 0))), (q7, .inl (cA 0, 96, .inl (fun _ => 0))), (q0, .inl (cA 0, 96, .inl g0))] := hD
  refine lv_aload_n X.hx X.hb d_Bl_81 rfl (lv_at hl 0 rfl) ?_
  refine R_gf X hP 0 rfl (cT := (RX0, TX0, 9)) rfl 5 (Nat.le_of_ble_eq_true rfl) (v := .ref q5) rfl (ctW_ok (i := 58) rfl) d_Bl_82 ?_
  refine lv_iconst (v := -1) X.hx X.hb d_Bl_85 (by decide) ?_
  refine R_fill (wr := [(h0, .inr (0, [.ref q0, .ref q1, .ref q2, .ref q3, .ref q4, .ref q5, .ref q6, .ref q7, .int 0])), (q1, .inl (cA 0, 96, .inl (fun _ => 0))), (q2, .inl (cA 0, 96, .inl (fun _ => 0))), (q3, .inl (cA 0, 96, .inl (fun _ => 0))), (q4, .inl (cA 0, 96, .inl (fun _ => 0))), (q6, .inl (cA 0, 96, .inl (fun _ => 0))), (q7, .inl (cA 0, 96, .inl (fun _ => 0))), (q0, .inl (cA 0, 96, .inl g0))]) X hP hD hS 5 [0, 1, 2, 3, 4, 6, 7, 8] rfl (by decide) rfl (by decide) (by decide) (ctW_ok (i := 62) rfl) ⟨(Nat.le_of_ble_eq_true rfl), (Nat.le_of_ble_eq_true rfl)⟩ hl.1 (Nat.le_of_ble_eq_true rfl) (Nat.le_of_ble_eq_true rfl) d_Bl_86 (fun g5 H locs G5 hP hD hS => ?_)
  have hP : va_P D vwCl [(h0, .inr (0, [.ref q0, .ref q1, .ref q2, .ref q3, .ref q4, .ref q5, .ref q6, .ref q7, .int 0])), (q1, .inl (cA 0, 96, .inl (fun _ => 0))), (q2, .inl (cA 0, 96, .inl (fun _ => 0))), (q3, .inl (cA 0, 96, .inl (fun _ => 0))), (q4, .inl (cA 0, 96, .inl (fun _ => 0))), (q6, .inl (cA 0, 96, .inl (fun _ => 0))), (q7, .inl (cA 0, 96, .inl (fun _ => 0))), (q0, .inl (cA 0, 96, .inl g0)), (q5, .inl (cA 0, 96, .inl g5))] H := hP
  have hD : va_D A [(h0, .inr (0, [.ref q0, .ref q1, .ref q2, .ref q3, .ref q4, .ref q5, .ref q6, .ref q7, .int 0])), (q1, .inl (cA 0, 96, .inl (fun _ => 0))), (q2, .inl (cA 0, 96, .inl (fun _ => 0))), (q3, .inl (cA 0, 96, .inl (fun _ => 0))), (q4, .inl (cA 0, 96, .inl (fun _ => 0))), (q6, .inl (cA 0, 96, .inl (fun _ => 0))), (q7, .inl (cA 0, 96, .inl (fun _ => 0))), (q0, .inl (cA 0, 96, .inl g0)), (q5, .inl (cA 0, 96, .inl g5))] := hD
  refine W.widen (k := 8) (n := 768) (Nat.le_of_ble_eq_true rfl) (Nat.le_of_ble_eq_true rfl) ?_
  exact R_ret X hr hlocks (SH := xBl) (ad := (fun k => ([h0, q0, q1, q2, q3, q4, q5, q6, q7] : List Nat).getD k 0)) (σ := (fun k => ([fun _ => 0, g0, fun _ => 0, fun _ => 0, fun _ => 0, fun _ => 0, g5, fun _ => 0, fun _ => 0] : List (Nat → Int32)).getD k (fun _ => 0))) (hP.sub [0, 7, 1, 2, 3, 4, 8, 5, 6] rfl) (hD.sub [0, 7, 1, 2, 3, 4, 8, 5, 6] (by decide) rfl) hS rfl (⟨fun b hb => ⟨G0 b hb, G5 b hb, rfl⟩, rfl⟩) d_Bl_89
def xSp : List sm_Sh := [.inr (5, [.inr 1, .inr 2, .inr 3, .inr 4, .inr 5, .inr 6, .inr 7, .inr 8]), .inl (0, 8), .inl (0, 8), .inl (0, 8), .inl (0, 8), .inl (0, 8), .inl (0, 8), .inl (0, 8), .inl (0, 8)]
def I_Sp (σ : sm_S) : Prop := (∀ s, s < 8 → σ 1 s = 0 ∧ σ 3 s = 0 ∧ σ 6 s = 0 ∧ σ 7 s = -1) ∧ ∀ s, s < 8 → σ 2 s = -1 ∧ σ 4 s = 0 ∧ σ 5 s = 0 ∧ σ 8 s = -1
theorem d_Sp_0 : decode prog_8_method_1_code 0 = .ok (.aload_n 0, 1) := by decide +kernel
theorem d_Sp_1 : decode prog_8_method_1_code 1 = .ok (.invokespecial 3, 3) := by decide +kernel
theorem d_Sp_4 : decode prog_8_method_1_code 4 = .ok (.aload_n 0, 1) := by decide +kernel
theorem d_Sp_5 : decode prog_8_method_1_code 5 = .ok (.bipush 8, 2) := by decide +kernel
theorem d_Sp_7 : decode prog_8_method_1_code 7 = .ok (.newarray .int, 2) := by decide +kernel
theorem d_Sp_9 : decode prog_8_method_1_code 9 = .ok (.putfield 9, 3) := by decide +kernel
theorem d_Sp_12 : decode prog_8_method_1_code 12 = .ok (.aload_n 0, 1) := by decide +kernel
theorem d_Sp_13 : decode prog_8_method_1_code 13 = .ok (.bipush 8, 2) := by decide +kernel
theorem d_Sp_15 : decode prog_8_method_1_code 15 = .ok (.newarray .int, 2) := by decide +kernel
theorem d_Sp_17 : decode prog_8_method_1_code 17 = .ok (.putfield 15, 3) := by decide +kernel
theorem d_Sp_20 : decode prog_8_method_1_code 20 = .ok (.aload_n 0, 1) := by decide +kernel
theorem d_Sp_21 : decode prog_8_method_1_code 21 = .ok (.bipush 8, 2) := by decide +kernel
theorem d_Sp_23 : decode prog_8_method_1_code 23 = .ok (.newarray .int, 2) := by decide +kernel
theorem d_Sp_25 : decode prog_8_method_1_code 25 = .ok (.putfield 18, 3) := by decide +kernel
theorem d_Sp_28 : decode prog_8_method_1_code 28 = .ok (.aload_n 0, 1) := by decide +kernel
theorem d_Sp_29 : decode prog_8_method_1_code 29 = .ok (.bipush 8, 2) := by decide +kernel
theorem d_Sp_31 : decode prog_8_method_1_code 31 = .ok (.newarray .int, 2) := by decide +kernel
theorem d_Sp_33 : decode prog_8_method_1_code 33 = .ok (.putfield 21, 3) := by decide +kernel
theorem d_Sp_36 : decode prog_8_method_1_code 36 = .ok (.aload_n 0, 1) := by decide +kernel
theorem d_Sp_37 : decode prog_8_method_1_code 37 = .ok (.bipush 8, 2) := by decide +kernel
theorem d_Sp_39 : decode prog_8_method_1_code 39 = .ok (.newarray .int, 2) := by decide +kernel
theorem d_Sp_41 : decode prog_8_method_1_code 41 = .ok (.putfield 24, 3) := by decide +kernel
theorem d_Sp_44 : decode prog_8_method_1_code 44 = .ok (.aload_n 0, 1) := by decide +kernel
theorem d_Sp_45 : decode prog_8_method_1_code 45 = .ok (.bipush 8, 2) := by decide +kernel
theorem d_Sp_47 : decode prog_8_method_1_code 47 = .ok (.newarray .int, 2) := by decide +kernel
theorem d_Sp_49 : decode prog_8_method_1_code 49 = .ok (.putfield 27, 3) := by decide +kernel
theorem d_Sp_52 : decode prog_8_method_1_code 52 = .ok (.aload_n 0, 1) := by decide +kernel
theorem d_Sp_53 : decode prog_8_method_1_code 53 = .ok (.bipush 8, 2) := by decide +kernel
theorem d_Sp_55 : decode prog_8_method_1_code 55 = .ok (.newarray .int, 2) := by decide +kernel
theorem d_Sp_57 : decode prog_8_method_1_code 57 = .ok (.putfield 30, 3) := by decide +kernel
theorem d_Sp_60 : decode prog_8_method_1_code 60 = .ok (.aload_n 0, 1) := by decide +kernel
theorem d_Sp_61 : decode prog_8_method_1_code 61 = .ok (.bipush 8, 2) := by decide +kernel
theorem d_Sp_63 : decode prog_8_method_1_code 63 = .ok (.newarray .int, 2) := by decide +kernel
theorem d_Sp_65 : decode prog_8_method_1_code 65 = .ok (.putfield 33, 3) := by decide +kernel
theorem d_Sp_68 : decode prog_8_method_1_code 68 = .ok (.aload_n 0, 1) := by decide +kernel
theorem d_Sp_69 : decode prog_8_method_1_code 69 = .ok (.getfield 15, 3) := by decide +kernel
theorem d_Sp_72 : decode prog_8_method_1_code 72 = .ok (.iconst (-1), 1) := by decide +kernel
theorem d_Sp_73 : decode prog_8_method_1_code 73 = .ok (.invokestatic 36, 3) := by decide +kernel
theorem d_Sp_76 : decode prog_8_method_1_code 76 = .ok (.aload_n 0, 1) := by decide +kernel
theorem d_Sp_77 : decode prog_8_method_1_code 77 = .ok (.getfield 30, 3) := by decide +kernel
theorem d_Sp_80 : decode prog_8_method_1_code 80 = .ok (.iconst (-1), 1) := by decide +kernel
theorem d_Sp_81 : decode prog_8_method_1_code 81 = .ok (.invokestatic 36, 3) := by decide +kernel
theorem d_Sp_84 : decode prog_8_method_1_code 84 = .ok (.aload_n 0, 1) := by decide +kernel
theorem d_Sp_85 : decode prog_8_method_1_code 85 = .ok (.getfield 33, 3) := by decide +kernel
theorem d_Sp_88 : decode prog_8_method_1_code 88 = .ok (.iconst (-1), 1) := by decide +kernel
theorem d_Sp_89 : decode prog_8_method_1_code 89 = .ok (.invokestatic 36, 3) := by decide +kernel
theorem d_Sp_92 : decode prog_8_method_1_code 92 = .ok (.return_, 1) := by decide +kernel
set_option maxRecDepth 100000 in
set_option maxHeartbeats 4000000 in
theorem ct_Sp {l : Launch} {cA : Nat → ClassId} {D : va_G} {tb : Nat → Nat} {Lim : Nat} : Ctor l cA D tb Lim ⟨"SpansAway$Spans", "<init>", "()V"⟩ prog_8_method_1_code 1 23 8 64 5 [.null, .null, .null, .null, .null, .null, .null, .null] xSp 0 I_Sp := by
  refine Ctor.ofW (by decide) rfl ?_
  intro h0 p e s m args below meth c A L X hN hin hr hlocks hl hP hD hS
  refine lv_aload_n X.hx X.hb d_Sp_0 rfl (lv_at hl 0 rfl) ?_
  refine R_obj X hl.1 (ctW_ok (i := 63) rfl) ⟨(Nat.le_of_ble_eq_true rfl), (Nat.le_of_ble_eq_true rfl)⟩ d_Sp_1 ?_
  refine lv_aload_n X.hx X.hb d_Sp_4 rfl (lv_at hl 0 rfl) ?_
  refine lv_bipush (v := 8) X.hx X.hb d_Sp_5 (by decide) ?_
  refine R_np X hin hP hD hS (cT := (RX6, TX6, 8)) rfl 0 (Nat.le_of_ble_eq_true rfl) (Nat.le_of_ble_eq_true rfl) rfl rfl (by decide +kernel) (ctW_ok (i := 64) rfl) 8 (by decide) (by decide) (by decide) (Nat.le_of_ble_eq_true rfl) (Nat.le_of_ble_eq_true rfl) d_Sp_7 d_Sp_9 (fun q0 H locs hP hD hS => ?_)
  have hP : va_P D vwCl [(h0, .inr (5, [.ref q0, .null, .null, .null, .null, .null, .null, .null])), (q0, .inl (cA 0, 8, .inl (fun _ => 0)))] H := hP
  have hD : va_D A [(h0, .inr (5, [.ref q0, .null, .null, .null, .null, .null, .null, .null])), (q0, .inl (cA 0, 8, .inl (fun _ => 0)))] := hD
  refine lv_aload_n X.hx X.hb d_Sp_12 rfl (lv_at hl 0 rfl) ?_
  refine lv_bipush (v := 8) X.hx X.hb d_Sp_13 (by decide) ?_
  refine R_np X hin hP hD hS (cT := (RX6, TX6, 8)) rfl 1 (Nat.le_of_ble_eq_true rfl) (Nat.le_of_ble_eq_true rfl) rfl rfl (by decide +kernel) (ctW_ok (i := 65) rfl) 8 (by decide) (by decide) (by decide) (Nat.le_of_ble_eq_true rfl) (Nat.le_of_ble_eq_true rfl) d_Sp_15 d_Sp_17 (fun q1 H locs hP hD hS => ?_)
  have hP : va_P D vwCl [(h0, .inr (5, [.ref q0, .ref q1, .null, .null, .null, .null, .null, .null])), (q0, .inl (cA 0, 8, .inl (fun _ => 0))), (q1, .inl (cA 0, 8, .inl (fun _ => 0)))] H := hP
  have hD : va_D A [(h0, .inr (5, [.ref q0, .ref q1, .null, .null, .null, .null, .null, .null])), (q0, .inl (cA 0, 8, .inl (fun _ => 0))), (q1, .inl (cA 0, 8, .inl (fun _ => 0)))] := hD
  refine lv_aload_n X.hx X.hb d_Sp_20 rfl (lv_at hl 0 rfl) ?_
  refine lv_bipush (v := 8) X.hx X.hb d_Sp_21 (by decide) ?_
  refine R_np X hin hP hD hS (cT := (RX6, TX6, 8)) rfl 2 (Nat.le_of_ble_eq_true rfl) (Nat.le_of_ble_eq_true rfl) rfl rfl (by decide +kernel) (ctW_ok (i := 66) rfl) 8 (by decide) (by decide) (by decide) (Nat.le_of_ble_eq_true rfl) (Nat.le_of_ble_eq_true rfl) d_Sp_23 d_Sp_25 (fun q2 H locs hP hD hS => ?_)
  have hP : va_P D vwCl [(h0, .inr (5, [.ref q0, .ref q1, .ref q2, .null, .null, .null, .null, .null])), (q0, .inl (cA 0, 8, .inl (fun _ => 0))), (q1, .inl (cA 0, 8, .inl (fun _ => 0))), (q2, .inl (cA 0, 8, .inl (fun _ => 0)))] H := hP
  have hD : va_D A [(h0, .inr (5, [.ref q0, .ref q1, .ref q2, .null, .null, .null, .null, .null])), (q0, .inl (cA 0, 8, .inl (fun _ => 0))), (q1, .inl (cA 0, 8, .inl (fun _ => 0))), (q2, .inl (cA 0, 8, .inl (fun _ => 0)))] := hD
  refine lv_aload_n X.hx X.hb d_Sp_28 rfl (lv_at hl 0 rfl) ?_
  refine lv_bipush (v := 8) X.hx X.hb d_Sp_29 (by decide) ?_
  refine R_np X hin hP hD hS (cT := (RX6, TX6, 8)) rfl 3 (Nat.le_of_ble_eq_true rfl) (Nat.le_of_ble_eq_true rfl) rfl rfl (by decide +kernel) (ctW_ok (i := 67) rfl) 8 (by decide) (by decide) (by decide) (Nat.le_of_ble_eq_true rfl) (Nat.le_of_ble_eq_true rfl) d_Sp_31 d_Sp_33 (fun q3 H locs hP hD hS => ?_)
  have hP : va_P D vwCl [(h0, .inr (5, [.ref q0, .ref q1, .ref q2, .ref q3, .null, .null, .null, .null])), (q0, .inl (cA 0, 8, .inl (fun _ => 0))), (q1, .inl (cA 0, 8, .inl (fun _ => 0))), (q2, .inl (cA 0, 8, .inl (fun _ => 0))), (q3, .inl (cA 0, 8, .inl (fun _ => 0)))] H := hP
  have hD : va_D A [(h0, .inr (5, [.ref q0, .ref q1, .ref q2, .ref q3, .null, .null, .null, .null])), (q0, .inl (cA 0, 8, .inl (fun _ => 0))), (q1, .inl (cA 0, 8, .inl (fun _ => 0))), (q2, .inl (cA 0, 8, .inl (fun _ => 0))), (q3, .inl (cA 0, 8, .inl (fun _ => 0)))] := hD
  refine lv_aload_n X.hx X.hb d_Sp_36 rfl (lv_at hl 0 rfl) ?_
  refine lv_bipush (v := 8) X.hx X.hb d_Sp_37 (by decide) ?_
  refine R_np X hin hP hD hS (cT := (RX6, TX6, 8)) rfl 4 (Nat.le_of_ble_eq_true rfl) (Nat.le_of_ble_eq_true rfl) rfl rfl (by decide +kernel) (ctW_ok (i := 68) rfl) 8 (by decide) (by decide) (by decide) (Nat.le_of_ble_eq_true rfl) (Nat.le_of_ble_eq_true rfl) d_Sp_39 d_Sp_41 (fun q4 H locs hP hD hS => ?_)
  have hP : va_P D vwCl [(h0, .inr (5, [.ref q0, .ref q1, .ref q2, .ref q3, .ref q4, .null, .null, .null])), (q0, .inl (cA 0, 8, .inl (fun _ => 0))), (q1, .inl (cA 0, 8, .inl (fun _ => 0))), (q2, .inl (cA 0, 8, .inl (fun _ => 0))), (q3, .inl (cA 0, 8, .inl (fun _ => 0))), (q4, .inl (cA 0, 8, .inl (fun _ => 0)))] H := hP
  have hD : va_D A [(h0, .inr (5, [.ref q0, .ref q1, .ref q2, .ref q3, .ref q4, .null, .null, .null])), (q0, .inl (cA 0, 8, .inl (fun _ => 0))), (q1, .inl (cA 0, 8, .inl (fun _ => 0))), (q2, .inl (cA 0, 8, .inl (fun _ => 0))), (q3, .inl (cA 0, 8, .inl (fun _ => 0))), (q4, .inl (cA 0, 8, .inl (fun _ => 0)))] := hD
  refine lv_aload_n X.hx X.hb d_Sp_44 rfl (lv_at hl 0 rfl) ?_
  refine lv_bipush (v := 8) X.hx X.hb d_Sp_45 (by decide) ?_
  refine R_np X hin hP hD hS (cT := (RX6, TX6, 8)) rfl 5 (Nat.le_of_ble_eq_true rfl) (Nat.le_of_ble_eq_true rfl) rfl rfl (by decide +kernel) (ctW_ok (i := 69) rfl) 8 (by decide) (by decide) (by decide) (Nat.le_of_ble_eq_true rfl) (Nat.le_of_ble_eq_true rfl) d_Sp_47 d_Sp_49 (fun q5 H locs hP hD hS => ?_)
  have hP : va_P D vwCl [(h0, .inr (5, [.ref q0, .ref q1, .ref q2, .ref q3, .ref q4, .ref q5, .null, .null])), (q0, .inl (cA 0, 8, .inl (fun _ => 0))), (q1, .inl (cA 0, 8, .inl (fun _ => 0))), (q2, .inl (cA 0, 8, .inl (fun _ => 0))), (q3, .inl (cA 0, 8, .inl (fun _ => 0))), (q4, .inl (cA 0, 8, .inl (fun _ => 0))), (q5, .inl (cA 0, 8, .inl (fun _ => 0)))] H := hP
  have hD : va_D A [(h0, .inr (5, [.ref q0, .ref q1, .ref q2, .ref q3, .ref q4, .ref q5, .null, .null])), (q0, .inl (cA 0, 8, .inl (fun _ => 0))), (q1, .inl (cA 0, 8, .inl (fun _ => 0))), (q2, .inl (cA 0, 8, .inl (fun _ => 0))), (q3, .inl (cA 0, 8, .inl (fun _ => 0))), (q4, .inl (cA 0, 8, .inl (fun _ => 0))), (q5, .inl (cA 0, 8, .inl (fun _ => 0)))] := hD
  refine lv_aload_n X.hx X.hb d_Sp_52 rfl (lv_at hl 0 rfl) ?_
  refine lv_bipush (v := 8) X.hx X.hb d_Sp_53 (by decide) ?_
  refine R_np X hin hP hD hS (cT := (RX6, TX6, 8)) rfl 6 (Nat.le_of_ble_eq_true rfl) (Nat.le_of_ble_eq_true rfl) rfl rfl (by decide +kernel) (ctW_ok (i := 70) rfl) 8 (by decide) (by decide) (by decide) (Nat.le_of_ble_eq_true rfl) (Nat.le_of_ble_eq_true rfl) d_Sp_55 d_Sp_57 (fun q6 H locs hP hD hS => ?_)
  have hP : va_P D vwCl [(h0, .inr (5, [.ref q0, .ref q1, .ref q2, .ref q3, .ref q4, .ref q5, .ref q6, .null])), (q0, .inl (cA 0, 8, .inl (fun _ => 0))), (q1, .inl (cA 0, 8, .inl (fun _ => 0))), (q2, .inl (cA 0, 8, .inl (fun _ => 0))), (q3, .inl (cA 0, 8, .inl (fun _ => 0))), (q4, .inl (cA 0, 8, .inl (fun _ => 0))), (q5, .inl (cA 0, 8, .inl (fun _ => 0))), (q6, .inl (cA 0, 8, .inl (fun _ => 0)))] H := hP
  have hD : va_D A [(h0, .inr (5, [.ref q0, .ref q1, .ref q2, .ref q3, .ref q4, .ref q5, .ref q6, .null])), (q0, .inl (cA 0, 8, .inl (fun _ => 0))), (q1, .inl (cA 0, 8, .inl (fun _ => 0))), (q2, .inl (cA 0, 8, .inl (fun _ => 0))), (q3, .inl (cA 0, 8, .inl (fun _ => 0))), (q4, .inl (cA 0, 8, .inl (fun _ => 0))), (q5, .inl (cA 0, 8, .inl (fun _ => 0))), (q6, .inl (cA 0, 8, .inl (fun _ => 0)))] := hD
  refine lv_aload_n X.hx X.hb d_Sp_60 rfl (lv_at hl 0 rfl) ?_
  refine lv_bipush (v := 8) X.hx X.hb d_Sp_61 (by decide) ?_
  refine R_np X hin hP hD hS (cT := (RX6, TX6, 8)) rfl 7 (Nat.le_of_ble_eq_true rfl) (Nat.le_of_ble_eq_true rfl) rfl rfl (by decide +kernel) (ctW_ok (i := 71) rfl) 8 (by decide) (by decide) (by decide) (Nat.le_of_ble_eq_true rfl) (Nat.le_of_ble_eq_true rfl) d_Sp_63 d_Sp_65 (fun q7 H locs hP hD hS => ?_)
  have hP : va_P D vwCl [(h0, .inr (5, [.ref q0, .ref q1, .ref q2, .ref q3, .ref q4, .ref q5, .ref q6, .ref q7])), (q0, .inl (cA 0, 8, .inl (fun _ => 0))), (q1, .inl (cA 0, 8, .inl (fun _ => 0))), (q2, .inl (cA 0, 8, .inl (fun _ => 0))), (q3, .inl (cA 0, 8, .inl (fun _ => 0))), (q4, .inl (cA 0, 8, .inl (fun _ => 0))), (q5, .inl (cA 0, 8, .inl (fun _ => 0))), (q6, .inl (cA 0, 8, .inl (fun _ => 0))), (q7, .inl (cA 0, 8, .inl (fun _ => 0)))] H := hP
  have hD : va_D A [(h0, .inr (5, [.ref q0, .ref q1, .ref q2, .ref q3, .ref q4, .ref q5, .ref q6, .ref q7])), (q0, .inl (cA 0, 8, .inl (fun _ => 0))), (q1, .inl (cA 0, 8, .inl (fun _ => 0))), (q2, .inl (cA 0, 8, .inl (fun _ => 0))), (q3, .inl (cA 0, 8, .inl (fun _ => 0))), (q4, .inl (cA 0, 8, .inl (fun _ => 0))), (q5, .inl (cA 0, 8, .inl (fun _ => 0))), (q6, .inl (cA 0, 8, .inl (fun _ => 0))), (q7, .inl (cA 0, 8, .inl (fun _ => 0)))] := hD
  refine lv_aload_n X.hx X.hb d_Sp_68 rfl (lv_at hl 0 rfl) ?_
  refine R_gf X hP 0 rfl (cT := (RX6, TX6, 8)) rfl 1 (Nat.le_of_ble_eq_true rfl) (v := .ref q1) rfl (ctW_ok (i := 65) rfl) d_Sp_69 ?_
  refine lv_iconst (v := -1) X.hx X.hb d_Sp_72 (by decide) ?_
  refine R_fill (wr := [(h0, .inr (5, [.ref q0, .ref q1, .ref q2, .ref q3, .ref q4, .ref q5, .ref q6, .ref q7])), (q0, .inl (cA 0, 8, .inl (fun _ => 0))), (q2, .inl (cA 0, 8, .inl (fun _ => 0))), (q3, .inl (cA 0, 8, .inl (fun _ => 0))), (q4, .inl (cA 0, 8, .inl (fun _ => 0))), (q5, .inl (cA 0, 8, .inl (fun _ => 0))), (q6, .inl (cA 0, 8, .inl (fun _ => 0))), (q7, .inl (cA 0, 8, .inl (fun _ => 0)))]) X hP hD hS 2 [0, 1, 3, 4, 5, 6, 7, 8] rfl (by decide) rfl (by decide) (by decide) (ctW_ok (i := 72) rfl) ⟨(Nat.le_of_ble_eq_true rfl), (Nat.le_of_ble_eq_true rfl)⟩ hl.1 (Nat.le_of_ble_eq_true rfl) (Nat.le_of_ble_eq_true rfl) d_Sp_73 (fun g1 H locs G501 hP hD hS => ?_)
  have hP : va_P D vwCl [(h0, .inr (5, [.ref q0, .ref q1, .ref q2, .ref q3, .ref q4, .ref q5, .ref q6, .ref q7])), (q0, .inl (cA 0, 8, .inl (fun _ => 0))), (q2, .inl (cA 0, 8, .inl (fun _ => 0))), (q3, .inl (cA 0, 8, .inl (fun _ => 0))), (q4, .inl (cA 0, 8, .inl (fun _ => 0))), (q5, .inl (cA 0, 8, .inl (fun _ => 0))), (q6, .inl (cA 0, 8, .inl (fun _ => 0))), (q7, .inl (cA 0, 8, .inl (fun _ => 0))), (q1, .inl (cA 0, 8, .inl g1))] H := hP
  have hD : va_D A [(h0, .inr (5, [.ref q0, .ref q1, .ref q2, .ref q3, .ref q4, .ref q5, .ref q6, .ref q7])), (q0, .inl (cA 0, 8, .inl (fun _ => 0))), (q2, .inl (cA 0, 8, .inl (fun _ => 0))), (q3, .inl (cA 0, 8, .inl (fun _ => 0))), (q4, .inl (cA 0, 8, .inl (fun _ => 0))), (q5, .inl (cA 0, 8, .inl (fun _ => 0))), (q6, .inl (cA 0, 8, .inl (fun _ => 0))), (q7, .inl (cA 0, 8, .inl (fun _ => 0))), (q1, .inl (cA 0, 8, .inl g1))] := hD
  refine lv_aload_n X.hx X.hb d_Sp_76 rfl (lv_at hl 0 rfl) ?_
  refine R_gf X hP 0 rfl (cT := (RX6, TX6, 8)) rfl 6 (Nat.le_of_ble_eq_true rfl) (v := .ref q6) rfl (ctW_ok (i := 70) rfl) d_Sp_77 ?_
  refine lv_iconst (v := -1) X.hx X.hb d_Sp_80 (by decide) ?_
  refine R_fill (wr := [(h0, .inr (5, [.ref q0, .ref q1, .ref q2, .ref q3, .ref q4, .ref q5, .ref q6, .ref q7])), (q0, .inl (cA 0, 8, .inl (fun _ => 0))), (q2, .inl (cA 0, 8, .inl (fun _ => 0))), (q3, .inl (cA 0, 8, .inl (fun _ => 0))), (q4, .inl (cA 0, 8, .inl (fun _ => 0))), (q5, .inl (cA 0, 8, .inl (fun _ => 0))), (q7, .inl (cA 0, 8, .inl (fun _ => 0))), (q1, .inl (cA 0, 8, .inl g1))]) X hP hD hS 6 [0, 1, 2, 3, 4, 5, 7, 8] rfl (by decide) rfl (by decide) (by decide) (ctW_ok (i := 72) rfl) ⟨(Nat.le_of_ble_eq_true rfl), (Nat.le_of_ble_eq_true rfl)⟩ hl.1 (Nat.le_of_ble_eq_true rfl) (Nat.le_of_ble_eq_true rfl) d_Sp_81 (fun g6 H locs G506 hP hD hS => ?_)
  have hP : va_P D vwCl [(h0, .inr (5, [.ref q0, .ref q1, .ref q2, .ref q3, .ref q4, .ref q5, .ref q6, .ref q7])), (q0, .inl (cA 0, 8, .inl (fun _ => 0))), (q2, .inl (cA 0, 8, .inl (fun _ => 0))), (q3, .inl (cA 0, 8, .inl (fun _ => 0))), (q4, .inl (cA 0, 8, .inl (fun _ => 0))), (q5, .inl (cA 0, 8, .inl (fun _ => 0))), (q7, .inl (cA 0, 8, .inl (fun _ => 0))), (q1, .inl (cA 0, 8, .inl g1)), (q6, .inl (cA 0, 8, .inl g6))] H := hP
  have hD : va_D A [(h0, .inr (5, [.ref q0, .ref q1, .ref q2, .ref q3, .ref q4, .ref q5, .ref q6, .ref q7])), (q0, .inl (cA 0, 8, .inl (fun _ => 0))), (q2, .inl (cA 0, 8, .inl (fun _ => 0))), (q3, .inl (cA 0, 8, .inl (fun _ => 0))), (q4, .inl (cA 0, 8, .inl (fun _ => 0))), (q5, .inl (cA 0, 8, .inl (fun _ => 0))), (q7, .inl (cA 0, 8, .inl (fun _ => 0))), (q1, .inl (cA 0, 8, .inl g1)), (q6, .inl (cA 0, 8, .inl g6))] := hD
  refine lv_aload_n X.hx X.hb d_Sp_84 rfl (lv_at hl 0 rfl) ?_
  refine R_gf X hP 0 rfl (cT := (RX6, TX6, 8)) rfl 7 (Nat.le_of_ble_eq_true rfl) (v := .ref q7) rfl (ctW_ok (i := 71) rfl) d_Sp_85 ?_
  refine lv_iconst (v := -1) X.hx X.hb d_Sp_88 (by decide) ?_
  refine R_fill (wr := [(h0, .inr (5, [.ref q0, .ref q1, .ref q2, .ref q3, .ref q4, .ref q5, .ref q6, .ref q7])), (q0, .inl (cA 0, 8, .inl (fun _ => 0))), (q2, .inl (cA 0, 8, .inl (fun _ => 0))), (q3, .inl (cA 0, 8, .inl (fun _ => 0))), (q4, .inl (cA 0, 8, .inl (fun _ => 0))), (q5, .inl (cA 0, 8, .inl (fun _ => 0))), (q1, .inl (cA 0, 8, .inl g1)), (q6, .inl (cA 0, 8, .inl g6))]) X hP hD hS 6 [0, 1, 2, 3, 4, 5, 7, 8] rfl (by decide) rfl (by decide) (by decide) (ctW_ok (i := 72) rfl) ⟨(Nat.le_of_ble_eq_true rfl), (Nat.le_of_ble_eq_true rfl)⟩ hl.1 (Nat.le_of_ble_eq_true rfl) (Nat.le_of_ble_eq_true rfl) d_Sp_89 (fun g7 H locs G507 hP hD hS => ?_)
  have hP : va_P D vwCl [(h0, .inr (5, [.ref q0, .ref q1, .ref q2, .ref q3, .ref q4, .ref q5, .ref q6, .ref q7])), (q0, .inl (cA 0, 8, .inl (fun _ => 0))), (q2, .inl (cA 0, 8, .inl (fun _ => 0))), (q3, .inl (cA 0, 8, .inl (fun _ => 0))), (q4, .inl (cA 0, 8, .inl (fun _ => 0))), (q5, .inl (cA 0, 8, .inl (fun _ => 0))), (q1, .inl (cA 0, 8, .inl g1)), (q6, .inl (cA 0, 8, .inl g6)), (q7, .inl (cA 0, 8, .inl g7))] H := hP
  have hD : va_D A [(h0, .inr (5, [.ref q0, .ref q1, .ref q2, .ref q3, .ref q4, .ref q5, .ref q6, .ref q7])), (q0, .inl (cA 0, 8, .inl (fun _ => 0))), (q2, .inl (cA 0, 8, .inl (fun _ => 0))), (q3, .inl (cA 0, 8, .inl (fun _ => 0))), (q4, .inl (cA 0, 8, .inl (fun _ => 0))), (q5, .inl (cA 0, 8, .inl (fun _ => 0))), (q1, .inl (cA 0, 8, .inl g1)), (q6, .inl (cA 0, 8, .inl g6)), (q7, .inl (cA 0, 8, .inl g7))] := hD
  refine W.widen (k := 8) (n := 64) (Nat.le_of_ble_eq_true rfl) (Nat.le_of_ble_eq_true rfl) ?_
  exact R_ret X hr hlocks (SH := xSp) (ad := (fun k => ([h0, q0, q1, q2, q3, q4, q5, q6, q7] : List Nat).getD k 0)) (σ := (fun k => ([fun _ => 0, fun _ => 0, g1, fun _ => 0, fun _ => 0, fun _ => 0, fun _ => 0, g6, g7] : List (Nat → Int32)).getD k (fun _ => 0))) (hP.sub [0, 1, 6, 2, 3, 4, 5, 7, 8] rfl) (hD.sub [0, 1, 6, 2, 3, 4, 5, 7, 8] (by decide) rfl) hS rfl (⟨fun s hs => ⟨rfl, rfl, rfl, G506 s hs⟩, fun s hs => ⟨G501 s hs, rfl, rfl, G507 s hs⟩⟩) d_Sp_92
def xTa : List sm_Sh := [.inr (6, [.inr 1, .inr 2, .inr 3, .inr 4, .inr 5, .inr 6, .inr 7, .inl 0]), .inl (0, 6), .inl (0, 6), .inl (0, 6), .inl (0, 6), .inl (0, 6), .inl (0, 6), .inl (0, 6)]
def I_Ta (σ : sm_S) : Prop := (σ 0 7 = 0 ∧ ∀ t, t < 6 → σ 2 t = -1) ∧ ∀ t, t < 6 → σ 1 t = 0 ∧ σ 3 t = 0
theorem d_Ta_0 : decode prog_9_method_1_code 0 = .ok (.aload_n 0, 1) := by decide +kernel
theorem d_Ta_1 : decode prog_9_method_1_code 1 = .ok (.invokespecial 3, 3) := by decide +kernel
theorem d_Ta_4 : decode prog_9_method_1_code 4 = .ok (.aload_n 0, 1) := by decide +kernel
theorem d_Ta_5 : decode prog_9_method_1_code 5 = .ok (.bipush 6, 2) := by decide +kernel
theorem d_Ta_7 : decode prog_9_method_1_code 7 = .ok (.newarray .int, 2) := by decide +kernel
theorem d_Ta_9 : decode prog_9_method_1_code 9 = .ok (.putfield 9, 3) := by decide +kernel
theorem d_Ta_12 : decode prog_9_method_1_code 12 = .ok (.aload_n 0, 1) := by decide +kernel
theorem d_Ta_13 : decode prog_9_method_1_code 13 = .ok (.bipush 6, 2) := by decide +kernel
theorem d_Ta_15 : decode prog_9_method_1_code 15 = .ok (.newarray .int, 2) := by decide +kernel
theorem d_Ta_17 : decode prog_9_method_1_code 17 = .ok (.putfield 15, 3) := by decide +kernel
theorem d_Ta_20 : decode prog_9_method_1_code 20 = .ok (.aload_n 0, 1) := by decide +kernel
theorem d_Ta_21 : decode prog_9_method_1_code 21 = .ok (.bipush 6, 2) := by decide +kernel
theorem d_Ta_23 : decode prog_9_method_1_code 23 = .ok (.newarray .int, 2) := by decide +kernel
theorem d_Ta_25 : decode prog_9_method_1_code 25 = .ok (.putfield 18, 3) := by decide +kernel
theorem d_Ta_28 : decode prog_9_method_1_code 28 = .ok (.aload_n 0, 1) := by decide +kernel
theorem d_Ta_29 : decode prog_9_method_1_code 29 = .ok (.bipush 6, 2) := by decide +kernel
theorem d_Ta_31 : decode prog_9_method_1_code 31 = .ok (.newarray .int, 2) := by decide +kernel
theorem d_Ta_33 : decode prog_9_method_1_code 33 = .ok (.putfield 21, 3) := by decide +kernel
theorem d_Ta_36 : decode prog_9_method_1_code 36 = .ok (.aload_n 0, 1) := by decide +kernel
theorem d_Ta_37 : decode prog_9_method_1_code 37 = .ok (.bipush 6, 2) := by decide +kernel
theorem d_Ta_39 : decode prog_9_method_1_code 39 = .ok (.newarray .int, 2) := by decide +kernel
theorem d_Ta_41 : decode prog_9_method_1_code 41 = .ok (.putfield 24, 3) := by decide +kernel
theorem d_Ta_44 : decode prog_9_method_1_code 44 = .ok (.aload_n 0, 1) := by decide +kernel
theorem d_Ta_45 : decode prog_9_method_1_code 45 = .ok (.bipush 6, 2) := by decide +kernel
theorem d_Ta_47 : decode prog_9_method_1_code 47 = .ok (.newarray .int, 2) := by decide +kernel
theorem d_Ta_49 : decode prog_9_method_1_code 49 = .ok (.putfield 27, 3) := by decide +kernel
theorem d_Ta_52 : decode prog_9_method_1_code 52 = .ok (.aload_n 0, 1) := by decide +kernel
theorem d_Ta_53 : decode prog_9_method_1_code 53 = .ok (.bipush 6, 2) := by decide +kernel
theorem d_Ta_55 : decode prog_9_method_1_code 55 = .ok (.newarray .int, 2) := by decide +kernel
theorem d_Ta_57 : decode prog_9_method_1_code 57 = .ok (.putfield 30, 3) := by decide +kernel
theorem d_Ta_60 : decode prog_9_method_1_code 60 = .ok (.aload_n 0, 1) := by decide +kernel
theorem d_Ta_61 : decode prog_9_method_1_code 61 = .ok (.iconst 0, 1) := by decide +kernel
theorem d_Ta_62 : decode prog_9_method_1_code 62 = .ok (.putfield 33, 3) := by decide +kernel
theorem d_Ta_65 : decode prog_9_method_1_code 65 = .ok (.aload_n 0, 1) := by decide +kernel
theorem d_Ta_66 : decode prog_9_method_1_code 66 = .ok (.getfield 15, 3) := by decide +kernel
theorem d_Ta_69 : decode prog_9_method_1_code 69 = .ok (.iconst (-1), 1) := by decide +kernel
theorem d_Ta_70 : decode prog_9_method_1_code 70 = .ok (.invokestatic 37, 3) := by decide +kernel
theorem d_Ta_73 : decode prog_9_method_1_code 73 = .ok (.return_, 1) := by decide +kernel
set_option maxRecDepth 100000 in
set_option maxHeartbeats 4000000 in
theorem ct_Ta {l : Launch} {cA : Nat → ClassId} {D : va_G} {tb : Nat → Nat} {Lim : Nat} : Ctor l cA D tb Lim ⟨"SpansAway$Tasks", "<init>", "()V"⟩ prog_9_method_1_code 1 23 7 42 6 [.null, .null, .null, .null, .null, .null, .null, .int 0] xTa 0 I_Ta := by
  refine Ctor.ofW (by decide) rfl ?_
  intro h0 p e s m args below meth c A L X hN hin hr hlocks hl hP hD hS
  refine lv_aload_n X.hx X.hb d_Ta_0 rfl (lv_at hl 0 rfl) ?_
  refine R_obj X hl.1 (ctW_ok (i := 73) rfl) ⟨(Nat.le_of_ble_eq_true rfl), (Nat.le_of_ble_eq_true rfl)⟩ d_Ta_1 ?_
  refine lv_aload_n X.hx X.hb d_Ta_4 rfl (lv_at hl 0 rfl) ?_
  refine lv_bipush (v := 6) X.hx X.hb d_Ta_5 (by decide) ?_
  refine R_np X hin hP hD hS (cT := (RX7, TX7, 8)) rfl 0 (Nat.le_of_ble_eq_true rfl) (Nat.le_of_ble_eq_true rfl) rfl rfl (by decide +kernel) (ctW_ok (i := 74) rfl) 6 (by decide) (by decide) (by decide) (Nat.le_of_ble_eq_true rfl) (Nat.le_of_ble_eq_true rfl) d_Ta_7 d_Ta_9 (fun q0 H locs hP hD hS => ?_)
  have hP : va_P D vwCl [(h0, .inr (6, [.ref q0, .null, .null, .null, .null, .null, .null, .int 0])), (q0, .inl (cA 0, 6, .inl (fun _ => 0)))] H := hP
  have hD : va_D A [(h0, .inr (6, [.ref q0, .null, .null, .null, .null, .null, .null, .int 0])), (q0, .inl (cA 0, 6, .inl (fun _ => 0)))] := hD
  refine lv_aload_n X.hx X.hb d_Ta_12 rfl (lv_at hl 0 rfl) ?_
  refine lv_bipush (v := 6) X.hx X.hb d_Ta_13 (by decide) ?_
  refine R_np X hin hP hD hS (cT := (RX7, TX7, 8)) rfl 1 (Nat.le_of_ble_eq_true rfl) (Nat.le_of_ble_eq_true rfl) rfl rfl (by decide +kernel) (ctW_ok (i := 75) rfl) 6 (by decide) (by decide) (by decide) (Nat.le_of_ble_eq_true rfl) (Nat.le_of_ble_eq_true rfl) d_Ta_15 d_Ta_17 (fun q1 H locs hP hD hS => ?_)
  have hP : va_P D vwCl [(h0, .inr (6, [.ref q0, .ref q1, .null, .null, .null, .null, .null, .int 0])), (q0, .inl (cA 0, 6, .inl (fun _ => 0))), (q1, .inl (cA 0, 6, .inl (fun _ => 0)))] H := hP
  have hD : va_D A [(h0, .inr (6, [.ref q0, .ref q1, .null, .null, .null, .null, .null, .int 0])), (q0, .inl (cA 0, 6, .inl (fun _ => 0))), (q1, .inl (cA 0, 6, .inl (fun _ => 0)))] := hD
  refine lv_aload_n X.hx X.hb d_Ta_20 rfl (lv_at hl 0 rfl) ?_
  refine lv_bipush (v := 6) X.hx X.hb d_Ta_21 (by decide) ?_
  refine R_np X hin hP hD hS (cT := (RX7, TX7, 8)) rfl 2 (Nat.le_of_ble_eq_true rfl) (Nat.le_of_ble_eq_true rfl) rfl rfl (by decide +kernel) (ctW_ok (i := 76) rfl) 6 (by decide) (by decide) (by decide) (Nat.le_of_ble_eq_true rfl) (Nat.le_of_ble_eq_true rfl) d_Ta_23 d_Ta_25 (fun q2 H locs hP hD hS => ?_)
  have hP : va_P D vwCl [(h0, .inr (6, [.ref q0, .ref q1, .ref q2, .null, .null, .null, .null, .int 0])), (q0, .inl (cA 0, 6, .inl (fun _ => 0))), (q1, .inl (cA 0, 6, .inl (fun _ => 0))), (q2, .inl (cA 0, 6, .inl (fun _ => 0)))] H := hP
  have hD : va_D A [(h0, .inr (6, [.ref q0, .ref q1, .ref q2, .null, .null, .null, .null, .int 0])), (q0, .inl (cA 0, 6, .inl (fun _ => 0))), (q1, .inl (cA 0, 6, .inl (fun _ => 0))), (q2, .inl (cA 0, 6, .inl (fun _ => 0)))] := hD
  refine lv_aload_n X.hx X.hb d_Ta_28 rfl (lv_at hl 0 rfl) ?_
  refine lv_bipush (v := 6) X.hx X.hb d_Ta_29 (by decide) ?_
  refine R_np X hin hP hD hS (cT := (RX7, TX7, 8)) rfl 3 (Nat.le_of_ble_eq_true rfl) (Nat.le_of_ble_eq_true rfl) rfl rfl (by decide +kernel) (ctW_ok (i := 77) rfl) 6 (by decide) (by decide) (by decide) (Nat.le_of_ble_eq_true rfl) (Nat.le_of_ble_eq_true rfl) d_Ta_31 d_Ta_33 (fun q3 H locs hP hD hS => ?_)
  have hP : va_P D vwCl [(h0, .inr (6, [.ref q0, .ref q1, .ref q2, .ref q3, .null, .null, .null, .int 0])), (q0, .inl (cA 0, 6, .inl (fun _ => 0))), (q1, .inl (cA 0, 6, .inl (fun _ => 0))), (q2, .inl (cA 0, 6, .inl (fun _ => 0))), (q3, .inl (cA 0, 6, .inl (fun _ => 0)))] H := hP
  have hD : va_D A [(h0, .inr (6, [.ref q0, .ref q1, .ref q2, .ref q3, .null, .null, .null, .int 0])), (q0, .inl (cA 0, 6, .inl (fun _ => 0))), (q1, .inl (cA 0, 6, .inl (fun _ => 0))), (q2, .inl (cA 0, 6, .inl (fun _ => 0))), (q3, .inl (cA 0, 6, .inl (fun _ => 0)))] := hD
  refine lv_aload_n X.hx X.hb d_Ta_36 rfl (lv_at hl 0 rfl) ?_
  refine lv_bipush (v := 6) X.hx X.hb d_Ta_37 (by decide) ?_
  refine R_np X hin hP hD hS (cT := (RX7, TX7, 8)) rfl 4 (Nat.le_of_ble_eq_true rfl) (Nat.le_of_ble_eq_true rfl) rfl rfl (by decide +kernel) (ctW_ok (i := 78) rfl) 6 (by decide) (by decide) (by decide) (Nat.le_of_ble_eq_true rfl) (Nat.le_of_ble_eq_true rfl) d_Ta_39 d_Ta_41 (fun q4 H locs hP hD hS => ?_)
  have hP : va_P D vwCl [(h0, .inr (6, [.ref q0, .ref q1, .ref q2, .ref q3, .ref q4, .null, .null, .int 0])), (q0, .inl (cA 0, 6, .inl (fun _ => 0))), (q1, .inl (cA 0, 6, .inl (fun _ => 0))), (q2, .inl (cA 0, 6, .inl (fun _ => 0))), (q3, .inl (cA 0, 6, .inl (fun _ => 0))), (q4, .inl (cA 0, 6, .inl (fun _ => 0)))] H := hP
  have hD : va_D A [(h0, .inr (6, [.ref q0, .ref q1, .ref q2, .ref q3, .ref q4, .null, .null, .int 0])), (q0, .inl (cA 0, 6, .inl (fun _ => 0))), (q1, .inl (cA 0, 6, .inl (fun _ => 0))), (q2, .inl (cA 0, 6, .inl (fun _ => 0))), (q3, .inl (cA 0, 6, .inl (fun _ => 0))), (q4, .inl (cA 0, 6, .inl (fun _ => 0)))] := hD
  refine lv_aload_n X.hx X.hb d_Ta_44 rfl (lv_at hl 0 rfl) ?_
  refine lv_bipush (v := 6) X.hx X.hb d_Ta_45 (by decide) ?_
  refine R_np X hin hP hD hS (cT := (RX7, TX7, 8)) rfl 5 (Nat.le_of_ble_eq_true rfl) (Nat.le_of_ble_eq_true rfl) rfl rfl (by decide +kernel) (ctW_ok (i := 79) rfl) 6 (by decide) (by decide) (by decide) (Nat.le_of_ble_eq_true rfl) (Nat.le_of_ble_eq_true rfl) d_Ta_47 d_Ta_49 (fun q5 H locs hP hD hS => ?_)
  have hP : va_P D vwCl [(h0, .inr (6, [.ref q0, .ref q1, .ref q2, .ref q3, .ref q4, .ref q5, .null, .int 0])), (q0, .inl (cA 0, 6, .inl (fun _ => 0))), (q1, .inl (cA 0, 6, .inl (fun _ => 0))), (q2, .inl (cA 0, 6, .inl (fun _ => 0))), (q3, .inl (cA 0, 6, .inl (fun _ => 0))), (q4, .inl (cA 0, 6, .inl (fun _ => 0))), (q5, .inl (cA 0, 6, .inl (fun _ => 0)))] H := hP
  have hD : va_D A [(h0, .inr (6, [.ref q0, .ref q1, .ref q2, .ref q3, .ref q4, .ref q5, .null, .int 0])), (q0, .inl (cA 0, 6, .inl (fun _ => 0))), (q1, .inl (cA 0, 6, .inl (fun _ => 0))), (q2, .inl (cA 0, 6, .inl (fun _ => 0))), (q3, .inl (cA 0, 6, .inl (fun _ => 0))), (q4, .inl (cA 0, 6, .inl (fun _ => 0))), (q5, .inl (cA 0, 6, .inl (fun _ => 0)))] := hD
  refine lv_aload_n X.hx X.hb d_Ta_52 rfl (lv_at hl 0 rfl) ?_
  refine lv_bipush (v := 6) X.hx X.hb d_Ta_53 (by decide) ?_
  refine R_np X hin hP hD hS (cT := (RX7, TX7, 8)) rfl 6 (Nat.le_of_ble_eq_true rfl) (Nat.le_of_ble_eq_true rfl) rfl rfl (by decide +kernel) (ctW_ok (i := 80) rfl) 6 (by decide) (by decide) (by decide) (Nat.le_of_ble_eq_true rfl) (Nat.le_of_ble_eq_true rfl) d_Ta_55 d_Ta_57 (fun q6 H locs hP hD hS => ?_)
  have hP : va_P D vwCl [(h0, .inr (6, [.ref q0, .ref q1, .ref q2, .ref q3, .ref q4, .ref q5, .ref q6, .int 0])), (q0, .inl (cA 0, 6, .inl (fun _ => 0))), (q1, .inl (cA 0, 6, .inl (fun _ => 0))), (q2, .inl (cA 0, 6, .inl (fun _ => 0))), (q3, .inl (cA 0, 6, .inl (fun _ => 0))), (q4, .inl (cA 0, 6, .inl (fun _ => 0))), (q5, .inl (cA 0, 6, .inl (fun _ => 0))), (q6, .inl (cA 0, 6, .inl (fun _ => 0)))] H := hP
  have hD : va_D A [(h0, .inr (6, [.ref q0, .ref q1, .ref q2, .ref q3, .ref q4, .ref q5, .ref q6, .int 0])), (q0, .inl (cA 0, 6, .inl (fun _ => 0))), (q1, .inl (cA 0, 6, .inl (fun _ => 0))), (q2, .inl (cA 0, 6, .inl (fun _ => 0))), (q3, .inl (cA 0, 6, .inl (fun _ => 0))), (q4, .inl (cA 0, 6, .inl (fun _ => 0))), (q5, .inl (cA 0, 6, .inl (fun _ => 0))), (q6, .inl (cA 0, 6, .inl (fun _ => 0)))] := hD
  refine lv_aload_n X.hx X.hb d_Ta_60 rfl (lv_at hl 0 rfl) ?_
  refine lv_iconst (v := 0) X.hx X.hb d_Ta_61 (by decide) ?_
  refine R_pi X hP hD hS (cT := (RX7, TX7, 8)) rfl 7 (Nat.le_of_ble_eq_true rfl) (Nat.le_of_ble_eq_true rfl) rfl (ty := .int) (by decide +kernel) rfl rfl (ctW_ok (i := 81) rfl) d_Ta_62 (fun H locs hP hD hS => ?_)
  have hP : va_P D vwCl [(h0, .inr (6, [.ref q0, .ref q1, .ref q2, .ref q3, .ref q4, .ref q5, .ref q6, .int 0])), (q0, .inl (cA 0, 6, .inl (fun _ => 0))), (q1, .inl (cA 0, 6, .inl (fun _ => 0))), (q2, .inl (cA 0, 6, .inl (fun _ => 0))), (q3, .inl (cA 0, 6, .inl (fun _ => 0))), (q4, .inl (cA 0, 6, .inl (fun _ => 0))), (q5, .inl (cA 0, 6, .inl (fun _ => 0))), (q6, .inl (cA 0, 6, .inl (fun _ => 0)))] H := hP
  have hD : va_D A [(h0, .inr (6, [.ref q0, .ref q1, .ref q2, .ref q3, .ref q4, .ref q5, .ref q6, .int 0])), (q0, .inl (cA 0, 6, .inl (fun _ => 0))), (q1, .inl (cA 0, 6, .inl (fun _ => 0))), (q2, .inl (cA 0, 6, .inl (fun _ => 0))), (q3, .inl (cA 0, 6, .inl (fun _ => 0))), (q4, .inl (cA 0, 6, .inl (fun _ => 0))), (q5, .inl (cA 0, 6, .inl (fun _ => 0))), (q6, .inl (cA 0, 6, .inl (fun _ => 0)))] := hD
  refine lv_aload_n X.hx X.hb d_Ta_65 rfl (lv_at hl 0 rfl) ?_
  refine R_gf X hP 0 rfl (cT := (RX7, TX7, 8)) rfl 1 (Nat.le_of_ble_eq_true rfl) (v := .ref q1) rfl (ctW_ok (i := 75) rfl) d_Ta_66 ?_
  refine lv_iconst (v := -1) X.hx X.hb d_Ta_69 (by decide) ?_
  refine R_fill (wr := [(h0, .inr (6, [.ref q0, .ref q1, .ref q2, .ref q3, .ref q4, .ref q5, .ref q6, .int 0])), (q0, .inl (cA 0, 6, .inl (fun _ => 0))), (q2, .inl (cA 0, 6, .inl (fun _ => 0))), (q3, .inl (cA 0, 6, .inl (fun _ => 0))), (q4, .inl (cA 0, 6, .inl (fun _ => 0))), (q5, .inl (cA 0, 6, .inl (fun _ => 0))), (q6, .inl (cA 0, 6, .inl (fun _ => 0)))]) X hP hD hS 2 [0, 1, 3, 4, 5, 6, 7] rfl (by decide) rfl (by decide) (by decide) (ctW_ok (i := 82) rfl) ⟨(Nat.le_of_ble_eq_true rfl), (Nat.le_of_ble_eq_true rfl)⟩ hl.1 (Nat.le_of_ble_eq_true rfl) (Nat.le_of_ble_eq_true rfl) d_Ta_70 (fun g1 H locs G601 hP hD hS => ?_)
  have hP : va_P D vwCl [(h0, .inr (6, [.ref q0, .ref q1, .ref q2, .ref q3, .ref q4, .ref q5, .ref q6, .int 0])), (q0, .inl (cA 0, 6, .inl (fun _ => 0))), (q2, .inl (cA 0, 6, .inl (fun _ => 0))), (q3, .inl (cA 0, 6, .inl (fun _ => 0))), (q4, .inl (cA 0, 6, .inl (fun _ => 0))), (q5, .inl (cA 0, 6, .inl (fun _ => 0))), (q6, .inl (cA 0, 6, .inl (fun _ => 0))), (q1, .inl (cA 0, 6, .inl g1))] H := hP
  have hD : va_D A [(h0, .inr (6, [.ref q0, .ref q1, .ref q2, .ref q3, .ref q4, .ref q5, .ref q6, .int 0])), (q0, .inl (cA 0, 6, .inl (fun _ => 0))), (q2, .inl (cA 0, 6, .inl (fun _ => 0))), (q3, .inl (cA 0, 6, .inl (fun _ => 0))), (q4, .inl (cA 0, 6, .inl (fun _ => 0))), (q5, .inl (cA 0, 6, .inl (fun _ => 0))), (q6, .inl (cA 0, 6, .inl (fun _ => 0))), (q1, .inl (cA 0, 6, .inl g1))] := hD
  refine W.widen (k := 7) (n := 42) (Nat.le_of_ble_eq_true rfl) (Nat.le_of_ble_eq_true rfl) ?_
  exact R_ret X hr hlocks (SH := xTa) (ad := (fun k => ([h0, q0, q1, q2, q3, q4, q5, q6] : List Nat).getD k 0)) (σ := (fun k => ([fun _ => 0, fun _ => 0, g1, fun _ => 0, fun _ => 0, fun _ => 0, fun _ => 0, fun _ => 0] : List (Nat → Int32)).getD k (fun _ => 0))) (hP.sub [0, 1, 7, 2, 3, 4, 5, 6] rfl) (hD.sub [0, 1, 7, 2, 3, 4, 5, 6] (by decide) rfl) hS rfl (⟨⟨rfl, fun t ht => G601 t ht⟩, fun t ht => ⟨rfl, rfl⟩⟩) d_Ta_73
def xLo : List sm_Sh := [.inr (3, [.inr 1, .inr 2, .inr 3, .inr 4, .inl 0, .inl 0]), .inl (0, 60), .inl (0, 60), .inl (0, 60), .inl (0, 60)]
def I_Lo (σ : sm_S) : Prop := σ 0 5 = 0 ∧ σ 0 4 = 0 ∧ ∀ k, k < 60 → σ 1 k = 0 ∧ σ 2 k = 0 ∧ σ 3 k = 0 ∧ σ 4 k = 0
theorem d_Lo_0 : decode prog_5_method_1_code 0 = .ok (.aload_n 0, 1) := by decide +kernel
theorem d_Lo_1 : decode prog_5_method_1_code 1 = .ok (.invokespecial 3, 3) := by decide +kernel
theorem d_Lo_4 : decode prog_5_method_1_code 4 = .ok (.aload_n 0, 1) := by decide +kernel
theorem d_Lo_5 : decode prog_5_method_1_code 5 = .ok (.bipush 60, 2) := by decide +kernel
theorem d_Lo_7 : decode prog_5_method_1_code 7 = .ok (.newarray .int, 2) := by decide +kernel
theorem d_Lo_9 : decode prog_5_method_1_code 9 = .ok (.putfield 9, 3) := by decide +kernel
theorem d_Lo_12 : decode prog_5_method_1_code 12 = .ok (.aload_n 0, 1) := by decide +kernel
theorem d_Lo_13 : decode prog_5_method_1_code 13 = .ok (.bipush 60, 2) := by decide +kernel
theorem d_Lo_15 : decode prog_5_method_1_code 15 = .ok (.newarray .int, 2) := by decide +kernel
theorem d_Lo_17 : decode prog_5_method_1_code 17 = .ok (.putfield 15, 3) := by decide +kernel
theorem d_Lo_20 : decode prog_5_method_1_code 20 = .ok (.aload_n 0, 1) := by decide +kernel
theorem d_Lo_21 : decode prog_5_method_1_code 21 = .ok (.bipush 60, 2) := by decide +kernel
theorem d_Lo_23 : decode prog_5_method_1_code 23 = .ok (.newarray .int, 2) := by decide +kernel
theorem d_Lo_25 : decode prog_5_method_1_code 25 = .ok (.putfield 18, 3) := by decide +kernel
theorem d_Lo_28 : decode prog_5_method_1_code 28 = .ok (.aload_n 0, 1) := by decide +kernel
theorem d_Lo_29 : decode prog_5_method_1_code 29 = .ok (.bipush 60, 2) := by decide +kernel
theorem d_Lo_31 : decode prog_5_method_1_code 31 = .ok (.newarray .int, 2) := by decide +kernel
theorem d_Lo_33 : decode prog_5_method_1_code 33 = .ok (.putfield 21, 3) := by decide +kernel
theorem d_Lo_36 : decode prog_5_method_1_code 36 = .ok (.aload_n 0, 1) := by decide +kernel
theorem d_Lo_37 : decode prog_5_method_1_code 37 = .ok (.iconst 0, 1) := by decide +kernel
theorem d_Lo_38 : decode prog_5_method_1_code 38 = .ok (.putfield 24, 3) := by decide +kernel
theorem d_Lo_41 : decode prog_5_method_1_code 41 = .ok (.aload_n 0, 1) := by decide +kernel
theorem d_Lo_42 : decode prog_5_method_1_code 42 = .ok (.iconst 0, 1) := by decide +kernel
theorem d_Lo_43 : decode prog_5_method_1_code 43 = .ok (.putfield 28, 3) := by decide +kernel
theorem d_Lo_46 : decode prog_5_method_1_code 46 = .ok (.return_, 1) := by decide +kernel
set_option maxRecDepth 100000 in
set_option maxHeartbeats 4000000 in
theorem ct_Lo {l : Launch} {cA : Nat → ClassId} {D : va_G} {tb : Nat → Nat} {Lim : Nat} : Ctor l cA D tb Lim ⟨"SpansAway$Log", "<init>", "()V"⟩ prog_5_method_1_code 1 23 4 240 3 [.null, .null, .null, .null, .int 0, .int 0] xLo 0 I_Lo := by
  refine Ctor.ofW (by decide) rfl ?_
  intro h0 p e s m args below meth c A L X hN hin hr hlocks hl hP hD hS
  refine lv_aload_n X.hx X.hb d_Lo_0 rfl (lv_at hl 0 rfl) ?_
  refine R_obj X hl.1 (ctW_ok (i := 83) rfl) ⟨(Nat.le_of_ble_eq_true rfl), (Nat.le_of_ble_eq_true rfl)⟩ d_Lo_1 ?_
  refine lv_aload_n X.hx X.hb d_Lo_4 rfl (lv_at hl 0 rfl) ?_
  refine lv_bipush (v := 60) X.hx X.hb d_Lo_5 (by decide) ?_
  refine R_np X hin hP hD hS (cT := (RX3, TX3, 6)) rfl 0 (Nat.le_of_ble_eq_true rfl) (Nat.le_of_ble_eq_true rfl) rfl rfl (by decide +kernel) (ctW_ok (i := 84) rfl) 60 (by decide) (by decide) (by decide) (Nat.le_of_ble_eq_true rfl) (Nat.le_of_ble_eq_true rfl) d_Lo_7 d_Lo_9 (fun q0 H locs hP hD hS => ?_)
  have hP : va_P D vwCl [(h0, .inr (3, [.ref q0, .null, .null, .null, .int 0, .int 0])), (q0, .inl (cA 0, 60, .inl (fun _ => 0)))] H := hP
  have hD : va_D A [(h0, .inr (3, [.ref q0, .null, .null, .null, .int 0, .int 0])), (q0, .inl (cA 0, 60, .inl (fun _ => 0)))] := hD
  refine lv_aload_n X.hx X.hb d_Lo_12 rfl (lv_at hl 0 rfl) ?_
  refine lv_bipush (v := 60) X.hx X.hb d_Lo_13 (by decide) ?_
  refine R_np X hin hP hD hS (cT := (RX3, TX3, 6)) rfl 1 (Nat.le_of_ble_eq_true rfl) (Nat.le_of_ble_eq_true rfl) rfl rfl (by decide +kernel) (ctW_ok (i := 85) rfl) 60 (by decide) (by decide) (by decide) (Nat.le_of_ble_eq_true rfl) (Nat.le_of_ble_eq_true rfl) d_Lo_15 d_Lo_17 (fun q1 H locs hP hD hS => ?_)
  have hP : va_P D vwCl [(h0, .inr (3, [.ref q0, .ref q1, .null, .null, .int 0, .int 0])), (q0, .inl (cA 0, 60, .inl (fun _ => 0))), (q1, .inl (cA 0, 60, .inl (fun _ => 0)))] H := hP
  have hD : va_D A [(h0, .inr (3, [.ref q0, .ref q1, .null, .null, .int 0, .int 0])), (q0, .inl (cA 0, 60, .inl (fun _ => 0))), (q1, .inl (cA 0, 60, .inl (fun _ => 0)))] := hD
  refine lv_aload_n X.hx X.hb d_Lo_20 rfl (lv_at hl 0 rfl) ?_
  refine lv_bipush (v := 60) X.hx X.hb d_Lo_21 (by decide) ?_
  refine R_np X hin hP hD hS (cT := (RX3, TX3, 6)) rfl 2 (Nat.le_of_ble_eq_true rfl) (Nat.le_of_ble_eq_true rfl) rfl rfl (by decide +kernel) (ctW_ok (i := 86) rfl) 60 (by decide) (by decide) (by decide) (Nat.le_of_ble_eq_true rfl) (Nat.le_of_ble_eq_true rfl) d_Lo_23 d_Lo_25 (fun q2 H locs hP hD hS => ?_)
  have hP : va_P D vwCl [(h0, .inr (3, [.ref q0, .ref q1, .ref q2, .null, .int 0, .int 0])), (q0, .inl (cA 0, 60, .inl (fun _ => 0))), (q1, .inl (cA 0, 60, .inl (fun _ => 0))), (q2, .inl (cA 0, 60, .inl (fun _ => 0)))] H := hP
  have hD : va_D A [(h0, .inr (3, [.ref q0, .ref q1, .ref q2, .null, .int 0, .int 0])), (q0, .inl (cA 0, 60, .inl (fun _ => 0))), (q1, .inl (cA 0, 60, .inl (fun _ => 0))), (q2, .inl (cA 0, 60, .inl (fun _ => 0)))] := hD
  refine lv_aload_n X.hx X.hb d_Lo_28 rfl (lv_at hl 0 rfl) ?_
  refine lv_bipush (v := 60) X.hx X.hb d_Lo_29 (by decide) ?_
  refine R_np X hin hP hD hS (cT := (RX3, TX3, 6)) rfl 3 (Nat.le_of_ble_eq_true rfl) (Nat.le_of_ble_eq_true rfl) rfl rfl (by decide +kernel) (ctW_ok (i := 87) rfl) 60 (by decide) (by decide) (by decide) (Nat.le_of_ble_eq_true rfl) (Nat.le_of_ble_eq_true rfl) d_Lo_31 d_Lo_33 (fun q3 H locs hP hD hS => ?_)
  have hP : va_P D vwCl [(h0, .inr (3, [.ref q0, .ref q1, .ref q2, .ref q3, .int 0, .int 0])), (q0, .inl (cA 0, 60, .inl (fun _ => 0))), (q1, .inl (cA 0, 60, .inl (fun _ => 0))), (q2, .inl (cA 0, 60, .inl (fun _ => 0))), (q3, .inl (cA 0, 60, .inl (fun _ => 0)))] H := hP
  have hD : va_D A [(h0, .inr (3, [.ref q0, .ref q1, .ref q2, .ref q3, .int 0, .int 0])), (q0, .inl (cA 0, 60, .inl (fun _ => 0))), (q1, .inl (cA 0, 60, .inl (fun _ => 0))), (q2, .inl (cA 0, 60, .inl (fun _ => 0))), (q3, .inl (cA 0, 60, .inl (fun _ => 0)))] := hD
  refine lv_aload_n X.hx X.hb d_Lo_36 rfl (lv_at hl 0 rfl) ?_
  refine lv_iconst (v := 0) X.hx X.hb d_Lo_37 (by decide) ?_
  refine R_pi X hP hD hS (cT := (RX3, TX3, 6)) rfl 4 (Nat.le_of_ble_eq_true rfl) (Nat.le_of_ble_eq_true rfl) rfl (ty := .int) (by decide +kernel) rfl rfl (ctW_ok (i := 88) rfl) d_Lo_38 (fun H locs hP hD hS => ?_)
  have hP : va_P D vwCl [(h0, .inr (3, [.ref q0, .ref q1, .ref q2, .ref q3, .int 0, .int 0])), (q0, .inl (cA 0, 60, .inl (fun _ => 0))), (q1, .inl (cA 0, 60, .inl (fun _ => 0))), (q2, .inl (cA 0, 60, .inl (fun _ => 0))), (q3, .inl (cA 0, 60, .inl (fun _ => 0)))] H := hP
  have hD : va_D A [(h0, .inr (3, [.ref q0, .ref q1, .ref q2, .ref q3, .int 0, .int 0])), (q0, .inl (cA 0, 60, .inl (fun _ => 0))), (q1, .inl (cA 0, 60, .inl (fun _ => 0))), (q2, .inl (cA 0, 60, .inl (fun _ => 0))), (q3, .inl (cA 0, 60, .inl (fun _ => 0)))] := hD
  refine lv_aload_n X.hx X.hb d_Lo_41 rfl (lv_at hl 0 rfl) ?_
  refine lv_iconst (v := 0) X.hx X.hb d_Lo_42 (by decide) ?_
  refine R_pi X hP hD hS (cT := (RX3, TX3, 6)) rfl 5 (Nat.le_of_ble_eq_true rfl) (Nat.le_of_ble_eq_true rfl) rfl (ty := .int) (by decide +kernel) rfl rfl (ctW_ok (i := 89) rfl) d_Lo_43 (fun H locs hP hD hS => ?_)
  have hP : va_P D vwCl [(h0, .inr (3, [.ref q0, .ref q1, .ref q2, .ref q3, .int 0, .int 0])), (q0, .inl (cA 0, 60, .inl (fun _ => 0))), (q1, .inl (cA 0, 60, .inl (fun _ => 0))), (q2, .inl (cA 0, 60, .inl (fun _ => 0))), (q3, .inl (cA 0, 60, .inl (fun _ => 0)))] H := hP
  have hD : va_D A [(h0, .inr (3, [.ref q0, .ref q1, .ref q2, .ref q3, .int 0, .int 0])), (q0, .inl (cA 0, 60, .inl (fun _ => 0))), (q1, .inl (cA 0, 60, .inl (fun _ => 0))), (q2, .inl (cA 0, 60, .inl (fun _ => 0))), (q3, .inl (cA 0, 60, .inl (fun _ => 0)))] := hD
  refine W.widen (k := 4) (n := 240) (Nat.le_of_ble_eq_true rfl) (Nat.le_of_ble_eq_true rfl) ?_
  exact R_ret X hr hlocks (SH := xLo) (ad := (fun k => ([h0, q0, q1, q2, q3] : List Nat).getD k 0)) (σ := (fun k => ([fun _ => 0, fun _ => 0, fun _ => 0, fun _ => 0, fun _ => 0] : List (Nat → Int32)).getD k (fun _ => 0))) (hP.sub [0, 1, 2, 3, 4] rfl) (hD.sub [0, 1, 2, 3, 4] (by decide) rfl) hS rfl (⟨rfl, rfl, fun k hk => ⟨rfl, rfl, rfl, rfl⟩⟩) d_Lo_46
end
