/-! THE CLAIM OUT OF ONE WALK OF THE LAW'S BODY. Your part is whole_start (and what it stands on); all else here is the same for every law, but numbers. -/
def R_law : String := "SpansAwayLaw"
def lw_P (b : Addr) (xs : List Int32) (args : Array Value) (s : State) : Prop := args = #[.ref b] ∧ s.IntsAt b xs ∧ xs.length ≤ 2560 ∧ (Jvm.Cond.and given_1 narrow_1).before args s = true
def lw_Q (_ : Array Value) (s : State) (o : Outcome) (t : State) : Prop := o = .returned (some (.int 1)) ∧ Framed s o t [] 174 17642
def lw_Z (below : List Frame) (a : Array Value) (s : State) : State → Prop := fun t => ∃ o, t.status = .running ∧ Ended t below o ∧ lw_Q a s o t
/-- the law's own end, with 1 on the stack, nothing written that was there before, its room as the claim has it -/
theorem lw_ret {p : Program} {l : Launch} {e : Env} {s : State} {m : MethodId} {below : List Frame} {meth : Method} {c : Code} {b : Nat} (hx : p.tables.exec = Jvm.exec) (hb : c.code = code) (hr : meth.sig.returnType = ret) (hlocks : meth.locks = false) {pc : Nat} {H : Heap} {ls : Array Slot} (hdg : decode code pc = .ok (.ireturn, 1)) : W p l e room_1 s m #[Value.ref b] below meth c H [] 174 17642 (lw_Z below #[Value.ref b] s) (F0 m pc ls [.int 1]) := by
  intro T hT X
  obtain ⟨fs, hret, hrun, hended, hW, hframe⟩ := X.leave (v := some (.int 1)) (hlocks := hlocks) (fun h => by rw [hr] at h; cases h)
  have hmeth' : T.vm.method? m = some meth := X.method'
  refine ⟨T.setFrames fs, ?_, .returned (some (.int 1)), hrun, hended, rfl, ⟨_, rfl⟩, hW, hframe⟩
  jvm_step X.here [X.here.top, hx, hb, hdg, hmeth', hr, ret, narrow_b1]
  (try refine ⟨rfl, ?_⟩); (try refine ⟨rfl, ?_⟩)
  first | (intro acts; rw [hret _ acts rfl rfl rfl]) | rw [hret _ _ rfl rfl rfl]
  exact Steps.refl _
/-- what holds at the law's entry: the machine, the code, the tables' words (any of lw_tbl by 'hts w (by decide +kernel)'), the script of L ints xs at the cell b, what the Statement gives of the start (any of its parts by flat_of_before) -/
def lw_At (p : Program) (s : State) (m : MethodId) (meth : Method) (c : Code) (b L : Nat) (xs : Nat → Int32) : Prop :=
  p.tables.exec = Jvm.exec ∧ c.code = code ∧ meth.sig.returnType = ret ∧ c.maxLocals = 4 ∧ s.vm.findClass R_law = some m.cls ∧ (∀ w ∈ lw_tbl, w.before #[Value.ref b] s = true) ∧ va_X b L xs s s.heap ∧ b < s.heap.size ∧ meth.locks = false ∧ (Jvm.Cond.and given_1 narrow_1).before #[Value.ref b] s = true
section LOOP
variable {p : Program} {l : Launch} {e : Env} {s : State} {m : MethodId} {below : List Frame} {meth : Method} {c : Code} {b Ln : Nat} {xs : Nat → Int32} {D : va_G} {cA : Nat → ClassId} {tb ad : Nat → Nat}
theorem and63 (x : Int32) : 0 ≤ (x &&& 63).toInt ∧ (x &&& 63).toInt < 64 := by
  have h : ∀ y : UInt32, (y &&& 63).toNat < 64 := fun y => by
    rw [UInt32.toNat_and]
    exact Nat.lt_of_le_of_lt Nat.and_le_right (by decide)
  have h1 := h x.toUInt32
  have e : (x &&& 63).toUInt32 = x.toUInt32 &&& 63 := rfl
  have h2 : (x &&& 63).toUInt32.toNat < 64 := by rw [e]; exact h1
  have h3 : (x &&& 63).toInt = ((x &&& 63).toUInt32.toNat : Int) := by
    show (x &&& 63).toBitVec.toInt = _
    rw [BitVec.toInt_eq_toNat_of_lt]
    · rfl
    · show 2 * (x &&& 63).toUInt32.toNat < 2 ^ 32
      omega
  omega
set_option maxRecDepth 100000 in
set_option maxHeartbeats 4000000 in
/-- one round of the law, from its switch -/
theorem law_sw {L : Array Slot} {H : Heap} {locs : List Loc} {Q : State → Prop} {σ : sm_S} {x3 : Int32} {i n : Nat} (X : CX p s m #[.ref b] c lw_tbl "SpansAwayLaw" code 4 D cA tb s.heap.size (fun q => s.heap.size ≤ q)) (hX : va_X b Ln xs s s.heap) (hbl : b < s.heap.size) (hL : Ln ≤ 2560) (had : ∀ t q, sm_TB[t]? = some q → ad (1000 + t) = tb (1000 + t)) (h3 : x3.toInt = i) (hi : i + 5 ≤ Ln) (hB : 1488000 * n < 1500000000) (hl : lv_has L 4 [(3, .int x3), (2, .ref (ad 168)), (1, .ref (ad 42)), (0, .ref b)]) (hQ : LR (1488000 * n) σ) (hP : va_P D vwCl (sm_W xF ad cA σ) H) (hD : va_D (fun q => s.heap.size ≤ q) (sm_W xF ad cA σ)) (hS : va_S (fun q => s.heap.size ≤ q) s.heap H locs) (kk : ∀ (σ' : sm_S) (H : Heap) (locs : List Loc), LR (1488000 * n + 1488000) σ' → va_P D vwCl (sm_W xF ad cA σ') H → va_D (fun q => s.heap.size ≤ q) (sm_W xF ad cA σ') → va_S (fun q => s.heap.size ≤ q) s.heap H locs → W p l e room_1 s m #[.ref b] below meth c H locs 174 17642 Q (F0 m 1249 L [])) (z : Int32) (hz : 0 ≤ z.toInt ∧ z.toInt < 64) : W p l e room_1 s m #[.ref b] below meth c H locs 174 17642 Q (F0 m 32 L [.int z]) := by
  obtain ⟨v, hv⟩ := t_of hz.1
  by_cases hh : v < 35
  · match v, hh, hv with
    | 0, _, hv => exact lv_tableIn (off := 156) (tgt := 188) X.hx X.hb d_law_32 (by rw [hv]; decide) (by rw [hv]; decide) (by rw [hv]; rfl) (by decide) (law_c0 X hX hbl hL had h3 hi hB hl hQ hP hD hS kk)
    | 1, _, hv => exact lv_tableIn (off := 189) (tgt := 221) X.hx X.hb d_law_32 (by rw [hv]; decide) (by rw [hv]; decide) (by rw [hv]; rfl) (by decide) (law_c1 X hX hbl hL had h3 hi hB hl hQ hP hD hS kk)
    | 2, _, hv => exact lv_tableIn (off := 222) (tgt := 254) X.hx X.hb d_law_32 (by rw [hv]; decide) (by rw [hv]; decide) (by rw [hv]; rfl) (by decide) (law_c2 X hX hbl hL had h3 hi hB hl hQ hP hD hS kk)
    | 3, _, hv => exact lv_tableIn (off := 275) (tgt := 307) X.hx X.hb d_law_32 (by rw [hv]; decide) (by rw [hv]; decide) (by rw [hv]; rfl) (by decide) (law_c3 X hX hbl hL had h3 hi hB hl hQ hP hD hS kk)
    | 4, _, hv => exact lv_tableIn (off := 298) (tgt := 330) X.hx X.hb d_law_32 (by rw [hv]; decide) (by rw [hv]; decide) (by rw [hv]; rfl) (by decide) (law_c4 X hX hbl hL had h3 hi hB hl hQ hP hD hS kk)
    | 5, _, hv => exact lv_tableIn (off := 341) (tgt := 373) X.hx X.hb d_law_32 (by rw [hv]; decide) (by rw [hv]; decide) (by rw [hv]; rfl) (by decide) (law_c5 X hX hbl hL had h3 hi hB hl hQ hP hD hS kk)
    | 6, _, hv => exact lv_tableIn (off := 394) (tgt := 426) X.hx X.hb d_law_32 (by rw [hv]; decide) (by rw [hv]; decide) (by rw [hv]; rfl) (by decide) (law_c6 X hX hbl hL had h3 hi hB hl hQ hP hD hS kk)
    | 7, _, hv => exact lv_tableIn (off := 427) (tgt := 459) X.hx X.hb d_law_32 (by rw [hv]; decide) (by rw [hv]; decide) (by rw [hv]; rfl) (by decide) (law_c7 X hX hbl hL had h3 hi hB hl hQ hP hD hS kk)
    | 8, _, hv => exact lv_tableIn (off := 460) (tgt := 492) X.hx X.hb d_law_32 (by rw [hv]; decide) (by rw [hv]; decide) (by rw [hv]; rfl) (by decide) (law_c8 X hX hbl hL had h3 hi hB hl hQ hP hD hS kk)
    | 9, _, hv => exact lv_tableIn (off := 493) (tgt := 525) X.hx X.hb d_law_32 (by rw [hv]; decide) (by rw [hv]; decide) (by rw [hv]; rfl) (by decide) (law_c9 X hX hbl hL had h3 hi hB hl hQ hP hD hS kk)
    | 10, _, hv => exact lv_tableIn (off := 516) (tgt := 548) X.hx X.hb d_law_32 (by rw [hv]; decide) (by rw [hv]; decide) (by rw [hv]; rfl) (by decide) (law_c10 X hX hbl hL had h3 hi hB hl hQ hP hD hS kk)
    | 11, _, hv => exact lv_tableIn (off := 539) (tgt := 571) X.hx X.hb d_law_32 (by rw [hv]; decide) (by rw [hv]; decide) (by rw [hv]; rfl) (by decide) (law_c11 X hX hbl hL had h3 hi hB hl hQ hP hD hS kk)
    | 12, _, hv => exact lv_tableIn (off := 562) (tgt := 594) X.hx X.hb d_law_32 (by rw [hv]; decide) (by rw [hv]; decide) (by rw [hv]; rfl) (by decide) (law_c12 X hX hbl hL had h3 hi hB hl hQ hP hD hS kk)
    | 13, _, hv => exact lv_tableIn (off := 585) (tgt := 617) X.hx X.hb d_law_32 (by rw [hv]; decide) (by rw [hv]; decide) (by rw [hv]; rfl) (by decide) (law_c13 X hX hbl hL had h3 hi hB hl hQ hP hD hS kk)
    | 14, _, hv => exact lv_tableIn (off := 608) (tgt := 640) X.hx X.hb d_law_32 (by rw [hv]; decide) (by rw [hv]; decide) (by rw [hv]; rfl) (by decide) (law_c14 X hX hbl hL had h3 hi hB hl hQ hP hD hS kk)
    | 15, _, hv => exact lv_tableIn (off := 631) (tgt := 663) X.hx X.hb d_law_32 (by rw [hv]; decide) (by rw [hv]; decide) (by rw [hv]; rfl) (by decide) (law_c15 X hX hbl hL had h3 hi hB hl hQ hP hD hS kk)
    | 16, _, hv => exact lv_tableIn (off := 664) (tgt := 696) X.hx X.hb d_law_32 (by rw [hv]; decide) (by rw [hv]; decide) (by rw [hv]; rfl) (by decide) (law_c16 X hX hbl hL had h3 hi hB hl hQ hP hD hS kk)
    | 17, _, hv => exact lv_tableIn (off := 697) (tgt := 729) X.hx X.hb d_law_32 (by rw [hv]; decide) (by rw [hv]; decide) (by rw [hv]; rfl) (by decide) (law_c17 X hX hbl hL had h3 hi hB hl hQ hP hD hS kk)
    | 18, _, hv => exact lv_tableIn (off := 730) (tgt := 762) X.hx X.hb d_law_32 (by rw [hv]; decide) (by rw [hv]; decide) (by rw [hv]; rfl) (by decide) (law_c18 X hX hbl hL had h3 hi hB hl hQ hP hD hS kk)
    | 19, _, hv => exact lv_tableIn (off := 763) (tgt := 795) X.hx X.hb d_law_32 (by rw [hv]; decide) (by rw [hv]; decide) (by rw [hv]; rfl) (by decide) (law_c19 X hX hbl hL had h3 hi hB hl hQ hP hD hS kk)
    | 20, _, hv => exact lv_tableIn (off := 796) (tgt := 828) X.hx X.hb d_law_32 (by rw [hv]; decide) (by rw [hv]; decide) (by rw [hv]; rfl) (by decide) (law_c20 X hX hbl hL had h3 hi hB hl hQ hP hD hS kk)
    | 21, _, hv => exact lv_tableIn (off := 829) (tgt := 861) X.hx X.hb d_law_32 (by rw [hv]; decide) (by rw [hv]; decide) (by rw [hv]; rfl) (by decide) (law_c21 X hX hbl hL had h3 hi hB hl hQ hP hD hS kk)
    | 22, _, hv => exact lv_tableIn (off := 872) (tgt := 904) X.hx X.hb d_law_32 (by rw [hv]; decide) (by rw [hv]; decide) (by rw [hv]; rfl) (by decide) (law_c22 X hX hbl hL had h3 hi hB hl hQ hP hD hS kk)
    | 23, _, hv => exact lv_tableIn (off := 895) (tgt := 927) X.hx X.hb d_law_32 (by rw [hv]; decide) (by rw [hv]; decide) (by rw [hv]; rfl) (by decide) (law_c23 X hX hbl hL had h3 hi hB hl hQ hP hD hS kk)
    | 24, _, hv => exact lv_tableIn (off := 938) (tgt := 970) X.hx X.hb d_law_32 (by rw [hv]; decide) (by rw [hv]; decide) (by rw [hv]; rfl) (by decide) (law_c24 X hX hbl hL had h3 hi hB hl hQ hP hD hS kk)
    | 25, _, hv => exact lv_tableIn (off := 961) (tgt := 993) X.hx X.hb d_law_32 (by rw [hv]; decide) (by rw [hv]; decide) (by rw [hv]; rfl) (by decide) (law_c25 X hX hbl hL had h3 hi hB hl hQ hP hD hS kk)
    | 26, _, hv => exact lv_tableIn (off := 984) (tgt := 1016) X.hx X.hb d_law_32 (by rw [hv]; decide) (by rw [hv]; decide) (by rw [hv]; rfl) (by decide) (law_c26 X hX hbl hL had h3 hi hB hl hQ hP hD hS kk)
    | 27, _, hv => exact lv_tableIn (off := 1017) (tgt := 1049) X.hx X.hb d_law_32 (by rw [hv]; decide) (by rw [hv]; decide) (by rw [hv]; rfl) (by decide) (law_c27 X hX hbl hL had h3 hi hB hl hQ hP hD hS kk)
    | 28, _, hv => exact lv_tableIn (off := 1030) (tgt := 1062) X.hx X.hb d_law_32 (by rw [hv]; decide) (by rw [hv]; decide) (by rw [hv]; rfl) (by decide) (law_c28 X hX hbl hL had h3 hi hB hl hQ hP hD hS kk)
    | 29, _, hv => exact lv_tableIn (off := 1063) (tgt := 1095) X.hx X.hb d_law_32 (by rw [hv]; decide) (by rw [hv]; decide) (by rw [hv]; rfl) (by decide) (law_c29 X hX hbl hL had h3 hi hB hl hQ hP hD hS kk)
    | 30, _, hv => exact lv_tableIn (off := 1086) (tgt := 1118) X.hx X.hb d_law_32 (by rw [hv]; decide) (by rw [hv]; decide) (by rw [hv]; rfl) (by decide) (law_c30 X hX hbl hL had h3 hi hB hl hQ hP hD hS kk)
    | 31, _, hv => exact lv_tableIn (off := 1099) (tgt := 1131) X.hx X.hb d_law_32 (by rw [hv]; decide) (by rw [hv]; decide) (by rw [hv]; rfl) (by decide) (law_c31 X hX hbl hL had h3 hi hB hl hQ hP hD hS kk)
    | 32, _, hv => exact lv_tableIn (off := 1132) (tgt := 1164) X.hx X.hb d_law_32 (by rw [hv]; decide) (by rw [hv]; decide) (by rw [hv]; rfl) (by decide) (law_c32 X hX hbl hL had h3 hi hB hl hQ hP hD hS kk)
    | 33, _, hv => exact lv_tableIn (off := 1155) (tgt := 1187) X.hx X.hb d_law_32 (by rw [hv]; decide) (by rw [hv]; decide) (by rw [hv]; rfl) (by decide) (law_c33 X hX hbl hL had h3 hi hB hl hQ hP hD hS kk)
    | 34, _, hv => exact lv_tableIn (off := 1194) (tgt := 1226) X.hx X.hb d_law_32 (by rw [hv]; decide) (by rw [hv]; decide) (by rw [hv]; rfl) (by decide) (law_c34 X hX hbl hL had h3 hi hB hl hQ hP hD hS kk)
    | v + 35, hh, _ => exact absurd hh (by omega)
  · exact lv_tableOut (tgt := 1249) X.hx X.hb d_law_32 (Or.inr (by rw [hv]; omega)) (by decide) (kk σ H locs (hQ.up (by omega)) hP hD hS)
set_option maxRecDepth 100000 in
set_option maxHeartbeats 400000 in
/-- the law's loop -/
theorem law_loop (hL : Ln ≤ 2560) (X : CX p s m #[.ref b] c lw_tbl "SpansAwayLaw" code 4 D cA tb s.heap.size (fun q => s.heap.size ≤ q)) (hX : va_X b Ln xs s s.heap) (hbl : b < s.heap.size) (hr : meth.sig.returnType = ret) (hlocks : meth.locks = false) (had : ∀ t q, sm_TB[t]? = some q → ad (1000 + t) = tb (1000 + t)) : ∀ (d n : Nat) (x3 : Int32) (σ : sm_S) (H : Heap) (locs : List Loc) (L : Array Slot), x3.toInt = ((5 * n : Nat) : Int) → 5 * n ≤ Ln + 5 → Ln ≤ 5 * (n + d) → LR (1488000 * n) σ → lv_has L 4 [(3, .int x3), (2, .ref (ad 168)), (1, .ref (ad 42)), (0, .ref b)] → va_P D vwCl (sm_W xF ad cA σ) H → va_D (fun q => s.heap.size ≤ q) (sm_W xF ad cA σ) → va_S (fun q => s.heap.size ≤ q) s.heap H locs → W p l e room_1 s m #[.ref b] below meth c H locs 174 17642 (lw_Z below #[.ref b] s) (F0 m 18 L []) := by
  have hLn : (Int32.ofNat Ln - 5).toInt = (Ln : Int) - 5 := t_sub (a := Int32.ofNat Ln) (x := (Ln : Int)) (b := 5) (y := 5) (by rw [show Int32.ofNat Ln = nI Ln from rfl, nI_toInt (by omega)]) rfl (by omega) (by omega)
  have ent : ∀ (n : Nat) (x3 : Int32) (H : Heap) (locs : List Loc) (L : Array Slot), x3.toInt = ((5 * n : Nat) : Int) → lv_has L 4 [(3, .int x3), (2, .ref (ad 168)), (1, .ref (ad 42)), (0, .ref b)] → va_S (fun q => s.heap.size ≤ q) s.heap H locs → (5 * n + 5 ≤ Ln → W p l e room_1 s m #[.ref b] below meth c H locs 174 17642 (lw_Z below #[.ref b] s) (F0 m 26 L [])) → W p l e room_1 s m #[.ref b] below meth c H locs 174 17642 (lw_Z below #[.ref b] s) (F0 m 18 L []) := by
    intro n x3 H locs L h3 hl hS kk
    refine lv_iload_n X.hx X.hb d_law_18 rfl (lv_at hl 0 rfl) ?_
    refine lv_aload_n X.hx X.hb d_law_19 rfl (lv_at hl 3 rfl) ?_
    refine va_slen (A := fun q => s.heap.size ≤ q) X.hx X.hb hX hbl (Nat.not_le.mpr hbl) hS d_law_20 ?_
    refine lv_iconst (v := 5) X.hx X.hb d_law_21 (by decide) ?_
    refine lv_isub X.hx X.hb d_law_22 ?_
    refine lv_icmp_gt (tgt := 1255) X.hx X.hb d_law_23 (by decide) (fun _ => ?_) (fun h => kk ?_)
    · refine va_forget hS.2.2 ?_
      refine lv_iconst (v := 1) X.hx X.hb d_law_1255 (by decide) ?_
      exact lw_ret X.hx X.hb hr hlocks d_law_1256
    · rw [t_lt, hLn, h3] at h
      omega
  intro d
  induction d with
  | zero =>
    intro n x3 σ H locs L h3 hn hd hQ hl hP hD hS
    exact ent n x3 H locs L h3 hl hS (fun h => absurd h (by omega))
  | succ d ih =>
    intro n x3 σ H locs L h3 hn hd hQ hl hP hD hS
    refine ent n x3 H locs L h3 hl hS (fun hi => ?_)
    refine lv_aload_n X.hx X.hb d_law_26 rfl (lv_at hl 3 rfl) ?_
    refine lv_iload_n X.hx X.hb d_law_27 rfl (lv_at hl 0 rfl) ?_
    refine va_sld (A := fun q => s.heap.size ≤ q) X.hx X.hb hX hbl (Nat.not_le.mpr hbl) hS (t_vp h3 (by omega)) d_law_28 ?_
    refine lv_bipush (v := 63) X.hx X.hb d_law_29 (by decide) ?_
    refine lv_iand X.hx X.hb d_law_31 ?_
    refine law_sw X hX hbl hL had h3 hi (by omega) hl hQ hP hD hS (fun σ' H1 locs1 hQ' hP' hD' hS' => ?_) _ (and63 _)
    have h3' : (x3 + 5).toInt = ((5 * (n + 1) : Nat) : Int) := by
      rw [t_add h3 (y := 5) rfl (by omega) (by omega)]
      omega
    refine lv_iinc (v := x3 + 5) (lv' := [(3, .int (x3 + 5)), (2, .ref (ad 168)), (1, .ref (ad 42)), (0, .ref b)]) X.hx X.hb d_law_1249 hl (k := 0) rfl rfl (by decide) rfl (fun L1 hl1 => ?_)
    refine lv_goto (tgt := 18) X.hx X.hb d_law_1252 (by decide) ?_
    exact ih (n + 1) (x3 + 5) σ' H1 locs1 L1 h3' (by omega) (by omega) (by rw [Nat.mul_add, Nat.mul_one]; exact hQ') hl1 hP' hD' hS'
end LOOP
theorem wlk_cg {AD f g : Nat → Nat} {SH : List sm_Sh} {cA : Nat → ClassId} {σ : sm_S} (h : ∀ k, k < SH.length → f k = g k) : wlk AD SH f cA σ = wlk AD SH g cA σ := by
  unfold wlk
  apply List.ext_getElem?
  intro i
  rw [List.getElem?_mapIdx, List.getElem?_mapIdx]
  cases hi : SH[i]? with
  | none => rfl
  | some x =>
    show some (f i, _) = some (g i, _)
    rw [h i (List.getElem?_eq_some_iff.mp hi).1]
set_option maxRecDepth 100000 in
/-- a table, as the start has it -/
theorem tb_at {s : State} {b : Nat} (hs : ∀ w ∈ flatC (Jvm.Cond.and given_1 narrow_1), w.before #[Value.ref b] s = true) (hts : ∀ w ∈ lw_tbl, w.before #[Value.ref b] s = true) {C nm : String} {q : List Int32} (hq : q.length < 2 ^ 31) (w1 : Cond.arrayOf (.static C nm "[I") .int ∈ flatC (Jvm.Cond.and given_1 narrow_1)) (w2 : Cond.eq (.length (.static C nm "[I")) (.int (Int32.ofNat q.length)) ∈ flatC (Jvm.Cond.and given_1 narrow_1)) (w3 : ∀ j, j < q.length → Cond.eq (.elem (.static C nm "[I") (.int (Int32.ofNat j))) (.int (q.getD j 0)) ∈ flatC (Jvm.Cond.and given_1 narrow_1)) (w4 : Cond.laysStatic C nm "[I" ∈ lw_tbl) (w5 : Cond.initialized C ∈ lw_tbl) : ∃ t : Nat, va_Z C nm "[I" (.ref t) (fun a => s.heap.size ≤ a) s s.heap ∧ va_T .int t q.length (fun j => .int (q.getD j 0)) (fun a => s.heap.size ≤ a) s s.heap := by
  obtain ⟨t, ht, hT⟩ := va_Tof (f := fun j => .int (q.getD j 0)) (A := fun a => s.heap.size ≤ a) hq (hs _ w1) (va_eqt (hs _ w2)) (fun j hj => va_eqt (hs _ (w3 j hj))) (fun a ha => Nat.not_le.mpr ha)
  exact ⟨t, va_Zof (hts _ w4) (hts _ w5) ht (fun a ha => Nat.not_le.mpr ha), hT⟩
set_option maxRecDepth 100000 in
theorem tb_0 {s : State} {b : Nat} (hs : ∀ w ∈ flatC (Jvm.Cond.and given_1 narrow_1), w.before #[Value.ref b] s = true) (hts : ∀ w ∈ lw_tbl, w.before #[Value.ref b] s = true) : ∃ t : Nat, va_Z "SpansAway" "LEAST_TOLD" "[I" (.ref t) (fun a => s.heap.size ≤ a) s s.heap ∧ va_T .int t 4 (fun j => .int (([1, 1, 0, 1] : List Int32).getD j 0)) (fun a => s.heap.size ≤ a) s s.heap := by
  refine tb_at (q := [1, 1, 0, 1]) hs hts (by decide) (by decide +kernel) (by decide +kernel) (fun j hj => ?_) (List.mem_of_getElem? (i := 488) (by decide +kernel)) (List.mem_of_getElem? (i := 105) (by decide +kernel))
  match j, hj with
  | 0, _ => exact (by decide +kernel : Cond.eq (.elem (.static "SpansAway" "LEAST_TOLD" "[I") (.int 0)) (.int (1)) ∈ flatC (Jvm.Cond.and given_1 narrow_1))
  | 1, _ => exact (by decide +kernel : Cond.eq (.elem (.static "SpansAway" "LEAST_TOLD" "[I") (.int 1)) (.int (1)) ∈ flatC (Jvm.Cond.and given_1 narrow_1))
  | 2, _ => exact (by decide +kernel : Cond.eq (.elem (.static "SpansAway" "LEAST_TOLD" "[I") (.int 2)) (.int (0)) ∈ flatC (Jvm.Cond.and given_1 narrow_1))
  | 3, _ => exact (by decide +kernel : Cond.eq (.elem (.static "SpansAway" "LEAST_TOLD" "[I") (.int 3)) (.int (1)) ∈ flatC (Jvm.Cond.and given_1 narrow_1))
  | j + 4, hj => exact absurd hj (by show ¬ j + 4 < 4; omega)
set_option maxRecDepth 100000 in
theorem tb_1 {s : State} {b : Nat} (hs : ∀ w ∈ flatC (Jvm.Cond.and given_1 narrow_1), w.before #[Value.ref b] s = true) (hts : ∀ w ∈ lw_tbl, w.before #[Value.ref b] s = true) : ∃ t : Nat, va_Z "SpansAway" "MOST_TOLD" "[I" (.ref t) (fun a => s.heap.size ≤ a) s s.heap ∧ va_T .int t 4 (fun j => .int (([16, 9, 400, 20] : List Int32).getD j 0)) (fun a => s.heap.size ≤ a) s s.heap := by
  refine tb_at (q := [16, 9, 400, 20]) hs hts (by decide) (by decide +kernel) (by decide +kernel) (fun j hj => ?_) (List.mem_of_getElem? (i := 490) (by decide +kernel)) (List.mem_of_getElem? (i := 105) (by decide +kernel))
  match j, hj with
  | 0, _ => exact (by decide +kernel : Cond.eq (.elem (.static "SpansAway" "MOST_TOLD" "[I") (.int 0)) (.int (16)) ∈ flatC (Jvm.Cond.and given_1 narrow_1))
  | 1, _ => exact (by decide +kernel : Cond.eq (.elem (.static "SpansAway" "MOST_TOLD" "[I") (.int 1)) (.int (9)) ∈ flatC (Jvm.Cond.and given_1 narrow_1))
  | 2, _ => exact (by decide +kernel : Cond.eq (.elem (.static "SpansAway" "MOST_TOLD" "[I") (.int 2)) (.int (400)) ∈ flatC (Jvm.Cond.and given_1 narrow_1))
  | 3, _ => exact (by decide +kernel : Cond.eq (.elem (.static "SpansAway" "MOST_TOLD" "[I") (.int 3)) (.int (20)) ∈ flatC (Jvm.Cond.and given_1 narrow_1))
  | j + 4, hj => exact absurd hj (by show ¬ j + 4 < 4; omega)
set_option maxRecDepth 100000 in
theorem tb_2 {s : State} {b : Nat} (hs : ∀ w ∈ flatC (Jvm.Cond.and given_1 narrow_1), w.before #[Value.ref b] s = true) (hts : ∀ w ∈ lw_tbl, w.before #[Value.ref b] s = true) : ∃ t : Nat, va_Z "SpansAway$Rows" "MULTIPLES" "[I" (.ref t) (fun a => s.heap.size ≤ a) s s.heap ∧ va_T .int t 6 (fun j => .int (([-1, 1431655765, 286331153, 16843009, 65537, 1] : List Int32).getD j 0)) (fun a => s.heap.size ≤ a) s s.heap := by
  refine tb_at (q := [-1, 1431655765, 286331153, 16843009, 65537, 1]) hs hts (by decide) (by decide +kernel) (by decide +kernel) (fun j hj => ?_) (List.mem_of_getElem? (i := 523) (by decide +kernel)) (List.mem_of_getElem? (i := 115) (by decide +kernel))
  match j, hj with
  | 0, _ => exact (by decide +kernel : Cond.eq (.elem (.static "SpansAway$Rows" "MULTIPLES" "[I") (.int 0)) (.int (-1)) ∈ flatC (Jvm.Cond.and given_1 narrow_1))
  | 1, _ => exact (by decide +kernel : Cond.eq (.elem (.static "SpansAway$Rows" "MULTIPLES" "[I") (.int 1)) (.int (1431655765)) ∈ flatC (Jvm.Cond.and given_1 narrow_1))
  | 2, _ => exact (by decide +kernel : Cond.eq (.elem (.static "SpansAway$Rows" "MULTIPLES" "[I") (.int 2)) (.int (286331153)) ∈ flatC (Jvm.Cond.and given_1 narrow_1))
  | 3, _ => exact (by decide +kernel : Cond.eq (.elem (.static "SpansAway$Rows" "MULTIPLES" "[I") (.int 3)) (.int (16843009)) ∈ flatC (Jvm.Cond.and given_1 narrow_1))
  | 4, _ => exact (by decide +kernel : Cond.eq (.elem (.static "SpansAway$Rows" "MULTIPLES" "[I") (.int 4)) (.int (65537)) ∈ flatC (Jvm.Cond.and given_1 narrow_1))
  | 5, _ => exact (by decide +kernel : Cond.eq (.elem (.static "SpansAway$Rows" "MULTIPLES" "[I") (.int 5)) (.int (1)) ∈ flatC (Jvm.Cond.and given_1 narrow_1))
  | j + 6, hj => exact absurd hj (by show ¬ j + 6 < 6; omega)
set_option maxRecDepth 100000 in
theorem tb_3 {s : State} {b : Nat} (hs : ∀ w ∈ flatC (Jvm.Cond.and given_1 narrow_1), w.before #[Value.ref b] s = true) (hts : ∀ w ∈ lw_tbl, w.before #[Value.ref b] s = true) : ∃ t : Nat, va_Z "SpansAway" "FIRST_TOLD" "[I" (.ref t) (fun a => s.heap.size ≤ a) s s.heap ∧ va_T .int t 4 (fun j => .int (([4, 3, 150, 2] : List Int32).getD j 0)) (fun a => s.heap.size ≤ a) s s.heap := by
  refine tb_at (q := [4, 3, 150, 2]) hs hts (by decide) (by decide +kernel) (by decide +kernel) (fun j hj => ?_) (List.mem_of_getElem? (i := 457) (by decide +kernel)) (List.mem_of_getElem? (i := 105) (by decide +kernel))
  match j, hj with
  | 0, _ => exact (by decide +kernel : Cond.eq (.elem (.static "SpansAway" "FIRST_TOLD" "[I") (.int 0)) (.int (4)) ∈ flatC (Jvm.Cond.and given_1 narrow_1))
  | 1, _ => exact (by decide +kernel : Cond.eq (.elem (.static "SpansAway" "FIRST_TOLD" "[I") (.int 1)) (.int (3)) ∈ flatC (Jvm.Cond.and given_1 narrow_1))
  | 2, _ => exact (by decide +kernel : Cond.eq (.elem (.static "SpansAway" "FIRST_TOLD" "[I") (.int 2)) (.int (150)) ∈ flatC (Jvm.Cond.and given_1 narrow_1))
  | 3, _ => exact (by decide +kernel : Cond.eq (.elem (.static "SpansAway" "FIRST_TOLD" "[I") (.int 3)) (.int (2)) ∈ flatC (Jvm.Cond.and given_1 narrow_1))
  | j + 4, hj => exact absurd hj (by show ¬ j + 4 < 4; omega)
set_option maxRecDepth 100000 in
set_option maxHeartbeats 4000000 in
/-- the classes and the array classes, as the tables have them -/
theorem vk_at {s : State} {b : Nat} (hts : ∀ w ∈ lw_tbl, w.before #[Value.ref b] s = true) : ∃ (D : va_G) (cA : Nat → ClassId), va_K D vwCl (sm_tys cA) s := by
  obtain ⟨c0, j0, h0⟩ := u_known (C := RX0) (T := TX0) (N := 9) (n := 9) hts sm_lays0 (hts _ (List.mem_of_getElem? (i := 185) (by decide +kernel)))
  obtain ⟨c1, j1, h1⟩ := u_known (C := RX1) (T := TX1) (N := 6) (n := 6) hts sm_lays1 (hts _ (List.mem_of_getElem? (i := 141) (by decide +kernel)))
  obtain ⟨c2, j2, h2⟩ := u_known (C := RX2) (T := TX2) (N := 4) (n := 4) hts sm_lays2 (hts _ (List.mem_of_getElem? (i := 129) (by decide +kernel)))
  obtain ⟨c3, j3, h3⟩ := u_known (C := RX3) (T := TX3) (N := 6) (n := 6) hts sm_lays3 (hts _ (List.mem_of_getElem? (i := 337) (by decide +kernel)))
  obtain ⟨c4, j4, h4⟩ := u_known (C := RX4) (T := TX4) (N := 8) (n := 8) hts sm_lays4 (hts _ (List.mem_of_getElem? (i := 135) (by decide +kernel)))
  obtain ⟨c5, j5, h5⟩ := u_known (C := RX6) (T := TX6) (N := 8) (n := 8) hts sm_lays5 (hts _ (List.mem_of_getElem? (i := 244) (by decide +kernel)))
  obtain ⟨c6, j6, h6⟩ := u_known (C := RX7) (T := TX7) (N := 8) (n := 8) hts sm_lays6 (hts _ (List.mem_of_getElem? (i := 294) (by decide +kernel)))
  obtain ⟨c7, j7, h7⟩ := u_known (C := RX8) (T := TX8) (N := 5) (n := 5) hts sm_lays7 (hts _ (List.mem_of_getElem? (i := 423) (by decide +kernel)))
  obtain ⟨c8, j8, h8⟩ := u_known (C := RX9) (T := TX9) (N := 5) (n := 5) hts sm_lays8 (hts _ (List.mem_of_getElem? (i := 121) (by decide +kernel)))
  obtain ⟨c9, j9, h9⟩ := u_known (C := RX10) (T := TX10) (N := 8) (n := 8) hts sm_lays9 (hts _ (List.mem_of_getElem? (i := 1046) (by decide +kernel)))
  obtain ⟨cI, kI, pI, a1, a2, a3⟩ := Cond.arrayClass_spec (hts (.arrayClass .int) (ctW_ok (i := 2) rfl))
  obtain ⟨cB, kB, pB, b1, b2, b3⟩ := Cond.arrayClass_spec (hts (.arrayClass .boolean) (ctW_ok (i := 3) rfl))
  refine ⟨(fun k => [c0, c1, c2, c3, c4, c5, c6, c7, c8, c9].getD k c0, fun k => [j0, j1, j2, j3, j4, j5, j6, j7, j8, j9].getD k j0), fun k => if k = 0 then cI else cB, fun k q hq => ?_, fun k q hq => ?_⟩
  · match k, hq with
    | 0, hq => cases hq; exact h0
    | 1, hq => cases hq; exact h1
    | 2, hq => cases hq; exact h2
    | 3, hq => cases hq; exact h3
    | 4, hq => cases hq; exact h4
    | 5, hq => cases hq; exact h5
    | 6, hq => cases hq; exact h6
    | 7, hq => cases hq; exact h7
    | 8, hq => cases hq; exact h8
    | 9, hq => cases hq; exact h9
    | k + 10, hq => simp [vwCl] at hq
  · match k, hq with
    | 0, hq => cases hq; exact ⟨fun n z => ⟨fun k h => (by cases h), kI, a2, pI, a3⟩, a1⟩
    | 1, hq => cases hq; exact ⟨fun n z => ⟨fun k h => (by cases h), kB, b2, pB, b3⟩, b1⟩
    | k + 2, hq => simp [sm_tys] at hq
set_option maxRecDepth 100000 in
set_option maxHeartbeats 4000000 in
theorem W_law {AD : Nat → Nat} {cA : Nat → ClassId} {a1 a2 g : Nat → Nat} {σ1 σ2 : sm_S} (e1 : ∀ k, k < 168 → AD (0 + k) = a1 k) (e2 : ∀ k, k < 6 → AD (168 + k) = a2 k) : wlk AD xF (glu 168 a1 (glu 6 a2 g)) cA (glu 168 σ1 σ2) = sm_W xA a1 cA σ1 ++ sm_W xMF a2 cA σ2 :=
  wlk_app2 (P := xA.map (shf 0)) (S := xMF.map (shf 168)) (by decide +kernel) rfl (wlk_shf (n := 168) (by decide +kernel) e1) ((wlk_cg (fun k hk => glu_l hk)).trans (wlk_shf (n := 6) (by decide +kernel) e2))
set_option maxRecDepth 100000 in
set_option maxHeartbeats 4000000 in
/-- the law, from its entry -/
theorem whole_start {p : Program} {e : Env} {s : State} {m : MethodId} {below : List Frame} {meth : Method} {c : Code} (l : Launch) (hflags : l.flags = flags0) {b L : Nat} {xs : Nat → Int32} (hL : L ≤ 2560) (C0 : lw_At p s m meth c b L xs) : W p l e room_1 s m #[Value.ref b] below meth c s.heap [] 0 0 (lw_Z below #[Value.ref b] s) (entryFrame m ([Value.ref b] : List Value).toArray 4) := by
  obtain ⟨hx, hb, hr, hml, hown, hts, hX, hbl, hlocks, hgv⟩ := C0
  have hs := flat_of_before _ hgv
  obtain ⟨t0, z0, y0⟩ := tb_0 hs hts
  obtain ⟨t1, z1, y1⟩ := tb_1 hs hts
  obtain ⟨t2, z2, y2⟩ := tb_2 hs hts
  obtain ⟨t3, z3, y3⟩ := tb_3 hs hts
  obtain ⟨D, cA, hK⟩ := vk_at hts
  obtain ⟨tb, htb⟩ : ∃ tb : Nat → Nat, tb = fun k => [t0, t1, t2, t3].getD (k - 1000) 0 := ⟨_, rfl⟩
  have hZ : ZT tb s.heap.size s s.heap := by
    subst htb
    refine ⟨fun t q hq => ?_, z3, y3⟩
    match t, hq with
    | 0, hq => cases hq; exact ⟨z0, y0⟩
    | 1, hq => cases hq; exact ⟨z1, y1⟩
    | 2, hq => cases hq; exact ⟨z2, y2⟩
    | t + 3, hq => simp [sm_TB] at hq
  have hN : NW s := ⟨fun q hq => va_Nw.of rfl (hts _ (nwM_in q hq)), va_Nw.of rfl (hts _ nwF_in)⟩
  have X : CX p s m #[Value.ref b] c lw_tbl "SpansAwayLaw" code 4 D cA tb s.heap.size (fun q => s.heap.size ≤ q) := ⟨hx, hb, hml, hown, hts, tbl_has, hK, hZ, fun _ h => h, fun _ h => h⟩
  have hS : va_S (fun q : Nat => s.heap.size ≤ q) s.heap s.heap [] := va_S.rf
  have hP : va_P D vwCl [] s.heap := fun k q h => by simp at h
  have hD : va_D (fun q : Nat => s.heap.size ≤ q) [] := ⟨fun i j p q h => by simp at h, fun k q h => by simp at h⟩
  have hl := lv_entry ([.ref b]) (n := 4) (Nat.le_of_ble_eq_true rfl)
  rw [lg_entry_eq]
  generalize (lg_sl ([.ref b]) ++ List.replicate (4 - (lg_sl ([.ref b])).length) Slot.unset).toArray = ls at hl ⊢
  have hl : lv_has ls 4 [(0, .ref b)] := hl
  refine R_new3 (rest := []) X hN hP hD hS hl.1 ct_SA (cT := (RX9, TX9, 5)) rfl rfl tyX9_ok df_SA rfl (by decide +kernel) (ctW_ok (i := 151) rfl) (ctW_ok (i := 39) rfl) (ctW_ok (i := 38) rfl) (ctW_ok (i := 37) rfl) (ctW_ok (i := 36) rfl) (Or.inl (ctW_ok (i := 153) rfl)) ⟨(Nat.le_of_ble_eq_true rfl), (Nat.le_of_ble_eq_true rfl)⟩ (Nat.le_of_ble_eq_true rfl) (Nat.le_of_ble_eq_true rfl) (Nat.le_of_ble_eq_true rfl) d_law_0 d_law_3 d_law_4 (fun a1 σ1 H locs i1 hP hD hS => ?_)
  rw [List.nil_append] at hP hD
  refine lv_astore_n (lv' := [(1, .ref (a1 42)), (0, .ref b)]) X.hx X.hb d_law_7 rfl hl (by decide) rfl (fun ls hl => ?_)
  refine R_new3 (rest := []) X hN hP hD hS hl.1 ct_Mo (cT := (RX10, TX10, 8)) rfl rfl tyX10_ok df_Mo rfl (by decide +kernel) (ctW_ok (i := 152) rfl) (ctW_ok (i := 43) rfl) (ctW_ok (i := 42) rfl) (ctW_ok (i := 41) rfl) (ctW_ok (i := 40) rfl) (Or.inl (ctW_ok (i := 154) rfl)) ⟨(Nat.le_of_ble_eq_true rfl), (Nat.le_of_ble_eq_true rfl)⟩ (Nat.le_of_ble_eq_true rfl) (Nat.le_of_ble_eq_true rfl) (Nat.le_of_ble_eq_true rfl) d_law_8 d_law_11 d_law_12 (fun a2 σ2 H locs i2 hP hD hS => ?_)
  refine lv_astore_n (lv' := [(2, .ref (a2 0)), (1, .ref (a1 42)), (0, .ref b)]) X.hx X.hb d_law_15 rfl hl (by decide) rfl (fun ls hl => ?_)
  refine lv_iconst (v := 0) X.hx X.hb d_law_16 (by decide) ?_
  refine lv_istore_n (lv' := [(3, .int 0), (2, .ref (a2 0)), (1, .ref (a1 42)), (0, .ref b)]) X.hx X.hb d_law_17 rfl hl (by decide) rfl (fun ls hl => ?_)
  have hE := W_law (cA := cA) (AD := (glu 168 a1 (glu 6 a2 (fun k => tb (174 + k))))) (a1 := a1) (a2 := a2) (g := fun k => tb (174 + k)) (σ1 := σ1) (σ2 := σ2) (fun k hk => by rw [glu_l (by omega)]; exact congrArg a1 (by omega)) (fun k hk => by rw [glu_s (by omega), glu_l (by omega)]; exact congrArg a2 (by omega))
  rw [← hE] at hP hD
  have had : ∀ t q, sm_TB[t]? = some q → (glu 168 a1 (glu 6 a2 (fun k => tb (174 + k)))) (1000 + t) = tb (1000 + t) := fun t q _ => by
    rw [glu_s (by omega), glu_s (by omega)]
    exact congrArg tb (by omega)
  have eb : bs 168 (glu 168 σ1 σ2) = σ2 := by
    funext k
    show glu 168 σ1 σ2 (168 + k) = σ2 k
    rw [glu_s (by omega)]
    exact congrArg σ2 (by omega)
  have hQ : LR (1488000 * 0) (glu 168 σ1 σ2) := by
    have e42 : glu 168 σ1 σ2 42 4 = 0 := i1.2.1
    have e168 : glu 168 σ1 σ2 168 6 = 0 := i2.2.1
    have e169 : glu 168 σ1 σ2 169 = stF 2 64 := i2.2.2
    refine ⟨⟨WW_off i1.1 (fun k hk => glu_l hk), by rw [eb]; exact i2.1, by rw [e42, e168]⟩, ⟨0, Nat.zero_le _, ?_⟩, fun z => absurd e42 z⟩
    rw [e169]
    exact tw_start (i1.2.2.cg (fun k hk => glu_l (by omega)))
  exact law_loop (ad := (glu 168 a1 (glu 6 a2 (fun k => tb (174 + k))))) hL X hX hbl hr hlocks had (L + 1) 0 0 _ H locs ls rfl (by omega) (by omega) hQ hl hP hD hS
set_option maxHeartbeats 4000000 in
theorem lw_walk (l : Launch) (hflags : l.flags = flags0) (b : Addr) (xs : List Int32) : MetFree l x (headSpec (Jvm.Cond.code x code maxLocals ret :: tables_1) room_1) (lw_P b xs) (fun _ _ _ _ _ => True) lw_Q := by
  refine MetFree.of_bodyS (code := code) (maxLocals := maxLocals) (ret := ret) (by decide) ?_ ?_
  · intro args s m h hn
    obtain ⟨meth, c, h1, h2, h3, h4, h5, h6, -, -⟩ := Cond.code_spec hn (atoms_spec (ws := Jvm.Cond.code x code maxLocals ret :: tables_1) h _ List.mem_cons_self)
    exact ⟨meth, c, h1, h2, h3, h4, h5, h6⟩
  · intro p e s m args below meth c s₁ B hml0 hP _
    obtain ⟨rfl, hx, hbd, hgv⟩ := hP
    obtain ⟨scr, harrAt, hlist, hof, hsmall⟩ := hx
    obtain ⟨hcb, hkn, -, -⟩ := State.arrayAt?_spec harrAt
    have hown : s.vm.findClass R_law = some m.cls := findClass_of_methodNamed B.named
    have hts0 : ∀ c ∈ (Jvm.Cond.code x code maxLocals ret :: tables_1), c.before #[Value.ref b] s = true := atoms_spec (ws := Jvm.Cond.code x code maxLocals ret :: tables_1) B.pre
    have hts : ∀ w ∈ lw_tbl, w.before #[Value.ref b] s = true := k2_hts_sels lw_privs (fun w hw => hts0 w (List.mem_cons_of_mem _ hw)) lw_privs_ok
    have hml : c.maxLocals = 4 := B.maxLocals_eq (hts0 _ List.mem_cons_self)
    have X₀ : Stand p l e room_1 s m #[Value.ref b] below meth c s₁ [] 0 0 := Stand.of_body B
    have hh0 : s₁.heap = s.heap := by rw [B.state]; rfl
    have hsz : scr.slots.size = xs.length := by rw [← Array.length_toList, hlist, List.length_map]
    have hval : ∀ j : Nat, j < xs.length → scr.slots[j]? = some (.int (xs.getD j 0)) := fun j hj => by
      rw [← Array.getElem?_toList, hlist]
      simp [hj]
    have hbl : b < s.heap.size := (Array.getElem?_eq_some_iff.mp hcb).1
    have hX : va_X b xs.length (fun j => xs.getD j 0) s s.heap := ⟨scr, hcb, hof, hkn, hsz, hval⟩
    have K : W p l e room_1 s m #[Value.ref b] below meth c s₁.heap [] 0 0 (lw_Z below #[Value.ref b] s) (entryFrame m ([Value.ref b] : List Value).toArray 4) := by
      rw [hh0]
      exact whole_start l hflags hbd ⟨B.exec, B.bytes, B.returns, hml, hown, hts, hX, hbl, B.notSynchronized, hgv⟩
    obtain ⟨t, a1, o, b1, b2, b3⟩ := K s₁ rfl X₀
    exact ⟨t, o, a1, b1, b2, b3⟩
theorem lw_pre_spec {args : Array Value} {s : State} (h : (Jvm.Cond.and given_1 narrow_1).before args s = true) (hr : rest_1_c.before args s = true) : ∃ (b : Addr) (xs : List Int32), lw_P b xs args s := by
  have hs := flat_of_before _ h
  have hq := flat_of_before _ hr
  have hc : (Cond.count 1).before args s = true := hs _ (by decide +kernel)
  have harr : (Cond.arrayOf (.arg 0) .int).before args s = true := hs _ (by decide +kernel)
  have hle : (Cond.le (.length (.arg 0)) (.int 2560)).before args s = true := hs _ (by decide +kernel)
  have hlen : (Cond.isInt (.length (.arg 0))).before args s = true := hq _ (by decide +kernel)
  have hall : (Cond.all (.arg 0) (.isInt (.elem (.arg 0) (.index 0)))).before args s = true := hq _ (by decide +kernel)
  obtain ⟨b, xs, hb, hx⟩ := State.ints_of_pre rfl harr hlen hall
  have hsm : xs.length < 2 ^ 31 := hx.choose_spec.2.2.2
  have hev : (Term.length (.arg 0)).eval args s none [] s = some (.int xs.length.toInt32) := hx.length_eval hb
  have hv := Cond.le_ints hev (show (Term.int 2560).eval args s none [] s = some (.int 2560) from rfl)
  have hd : xs.length.toInt32 ≤ 2560 := by
    simpa [Cond.before, Cond.holds, hv] using hle
  have hN : xs.length ≤ 2560 := (Int32.ofNat_le_ofNat hsm (by decide)).mp (show Int32.ofNat xs.length ≤ Int32.ofNat 2560 from hd)
  exact ⟨b, xs, Cond.one_arg hc (show args[0]? = some (.ref b) from hb), hx, hN, h⟩
theorem lw_comes (l : Launch) (hflags : l.flags = flags0) : Comes l x (Jvm.Cond.code x code maxLocals ret :: tables_1) room_1 (fun tb e args s => Calls_1 tb e args s ∧ rest_1 tb e args s ∧ Pre_1 tb e args s)
    (fun _ _ args s o t => lw_Q args s o t) := by
  intro p e ha hc hk s m args below hf hfit hheap happ hpre
  obtain ⟨b, xs, hP⟩ := lw_pre_spec hpre.2.2 hpre.2.1
  obtain ⟨k, o, h1, h2, h3, hQ⟩ := lw_walk l hflags b xs p e ha hc hk s m args below hf ((Spec.applies_iff_loose hf).mp happ).1 hP trivial
  exact ⟨k, o, h1, h2, h3, hQ⟩
theorem lw_frame {s t : State} {o : Outcome} {args : Array Value} (h : Framed s o t [] 174 17642) :
    Framed s o t (fieldLocs frame_1_writes args s ++ arrayLocs frame_1_arrays args s ++ staticLocs frame_1_statics s) 174 17642 := h
theorem lw_limb (L : Cond) (hL : ∀ (args : Array Value) (s t : State), L.after args s (.returned (some (.int 1))) t = true) :
    ArmFor flags0 classFile x code maxLocals ret World_1 tables_1 room_1 Calls_1 rest_1 Pre_1
      (fun tb e a s o t => postC L tb e a s o t ∧ Framed s o t (fieldLocs frame_1_writes a s ++ arrayLocs frame_1_arrays a s ++ staticLocs frame_1_statics s) 174 17642) := by
  intro l hflags _ _ p e ha hc hk s m args below hf hfit hheap happ hpre
  obtain ⟨k, o, h1, h2, h3, rfl, hF⟩ := lw_comes l hflags p e ha hc hk s m args below hf hfit hheap happ hpre
  exact ⟨k, _, h1, h2, h3, hL args s _, lw_frame hF⟩
theorem i_vc : Claimed_1_1 ∧ Claimed_1_2 := ⟨lw_limb limb_1_1 (fun args s t => by simp [limb_1_1, Cond.after, Cond.holds, Cond.value]), lw_limb limb_1_2 (fun args s t => Cond.after_iff.mpr (by
  first | (rw [show limb_1_2 = Cond.eq .result (.int 1) from rfl, Cond.eq_ints (x := 1) (y := 1) rfl rfl]; simp; done) | (simp [limb_1_2, Cond.value, Term.eval]; done)))⟩
