section
/-! ===== THE STORE MACHINE: ints alone change; who points where stands in a table of shapes ===== -/
abbrev sm_S : Type := Nat → Nat → Int32
def sm_set (σ : sm_S) (k : Nat) (f : Nat → Int32) : sm_S := fun a => if a = k then f else σ a
/-- a slot: inl 0 an int, inl 1 a boolean (inl of more: not to be touched); inr k the cell k -/
abbrev sm_Sl : Type := Nat ⊕ Nat
/-- a cell: inl (0 ints | 1 booleans, length); inr (class, slots) -/
abbrev sm_Sh : Type := (Nat × Nat) ⊕ (Nat × List sm_Sl)
/-- an instruction: itself, its int, its number (target, slot, callee), its count, its switch -/
abbrev sm_R : Type := Instr × Int32 × Nat × Nat × List (Int32 × Nat)
/-- a method: name, code, locals, what it answers, (frames, locals, own class, how many it takes + 100 times its object's class), instructions by pc -/
abbrev sm_M : Type := MethodName × ByteArray × Nat × Option FieldType × (Nat × Nat × Nat × Nat) × List (Nat × sm_R)
def sm_find : List (Nat × sm_R) → Nat → Option sm_R
  | [], _ => none
  | (a, r) :: t, pc => bif Nat.beq a pc then some r else sm_find t pc
def sm_pop : Nat → List Value → List Value → Option (List Value × List Value)
  | 0, acc, st => some (acc, st)
  | _ + 1, _, [] => none
  | n + 1, acc, v :: st => sm_pop n (v :: acc) st
/-- an array: its kind and length (tables stand from 1000 on) -/
def sm_arr (SH : List sm_Sh) (a : Nat) : Option (Nat × Nat) := match SH[a]? with
  | some (.inl q) => some q
  | _ => none
def sm_sw {α : Type} (br : Prop → α → α → α) (K : Nat → α) (x : Int32) (d : Nat) : List (Int32 × Nat) → α
  | [] => K d
  | (v, t) :: r => br (x = v) (K t) (sm_sw br K x d r)
def sm_cnd (c : ClassFile.Cond) (x y : Int32) : Prop := match c with
  | .eq => x = y
  | .ne => x ≠ y
  | .lt => x < y
  | .ge => y ≤ x
  | .gt => y < x
  | .le => x ≤ y
/-- what goes on behind a call that answers an int; behind one that answers nothing -/
def sm_ri {α : Type} (bad : α) (R : Int32 → sm_S → α) (r : Option Value) (σ : sm_S) : α := match r with
  | some (.int x) => R x σ
  | _ => bad
def sm_rv {α : Type} (bad : α) (R : sm_S → α) (r : Option Value) (σ : sm_S) : α := match r with
  | none => R σ
  | _ => bad
/-- the first is an object of class ci -/
def sm_rc (SH : List sm_Sh) (ci : Nat) (as : List Value) : Bool := match as with
  | .ref a :: _ => (match SH[a]? with
    | some (.inr (c, _)) => Nat.beq c ci
    | _ => false)
  | _ => false
def sm_irs : List Value → Bool
  | [] => true
  | .int _ :: t => sm_irs t
  | .ref _ :: t => sm_irs t
  | _ :: _ => false
section G
variable {α : Type} (TB : List (List Int32)) (SH : List sm_Sh) (M : sm_M) (bad : α) (need : Prop → α → α) (nam : sm_S → (sm_S → α) → α) (br : Prop → α → α → α) (call : Nat → List Value → sm_S → (Option Value → sm_S → α) → α) (ret : Option Value → sm_S → α) (K : Nat → List Value → List Value → sm_S → α)
def sm_bin (f : Int32 → Int32 → Int32) (pc : Nat) (ls st : List Value) (σ : sm_S) : α := match st with
  | .int y :: .int x :: r => K (pc + 1) ls (.int (f x y) :: r) σ
  | _ => bad
def sm_ld (pc i : Nat) (ls st : List Value) (σ : sm_S) : α := match ls[i]? with
  | some (.int x) => K pc ls (.int x :: st) σ
  | _ => bad
def sm_la (pc i : Nat) (ls st : List Value) (σ : sm_S) : α := match ls[i]? with
  | some (.ref x) => K pc ls (.ref x :: st) σ
  | _ => bad
def sm_sti (pc i : Nat) (ls st : List Value) (σ : sm_S) : α := match st with
  | .int x :: r => bif Nat.blt i ls.length then K pc (ls.set i (.int x)) r σ else bad
  | _ => bad
def sm_sta (pc i : Nat) (ls st : List Value) (σ : sm_S) : α := match st with
  | .ref x :: r => bif Nat.blt i ls.length then K pc (ls.set i (.ref x)) r σ else bad
  | _ => bad
def sm_getf (pc tgt : Nat) (ls st : List Value) (σ : sm_S) : α := match st with
  | .ref a :: r => match SH[a]? with
    | some (.inr (ci, fl)) => bif Nat.beq ci (tgt / 100) then (match fl[tgt % 100]? with
      | some (.inl t) => bif Nat.ble t 1 then K (pc + 3) ls (.int (σ a (tgt % 100)) :: r) σ else bad
      | some (.inr k) => K (pc + 3) ls (.ref k :: r) σ
      | none => bad) else bad
    | _ => bad
  | _ => bad
def sm_putf (pc tgt : Nat) (ls st : List Value) (σ : sm_S) : α := match st with
  | .int x :: .ref a :: r => match SH[a]? with
    | some (.inr (ci, fl)) => bif Nat.beq ci (tgt / 100) then (match fl[tgt % 100]? with
      | some (.inl 0) => nam (sm_set σ a (upd (σ a) (tgt % 100) x)) (fun σ' => K (pc + 3) ls r σ')
      | some (.inl 1) => need (x = 0 ∨ x = 1) (nam (sm_set σ a (upd (σ a) (tgt % 100) x)) (fun σ' => K (pc + 3) ls r σ'))
      | _ => bad) else bad
    | _ => bad
  | _ => bad
def sm_ald (ty pc : Nat) (ls st : List Value) (σ : sm_S) : α := match st with
  | .int i :: .ref a :: r => match sm_arr SH a with
    | some (t, n) => bif Nat.beq t ty then need (vp_in i n) (K (pc + 1) ls (.int (σ a i.toNatClampNeg) :: r) σ) else bad
    | none => match TB[a - 1000]? with
      | some l => bif Nat.ble 1000 a && Nat.beq ty 0 then need (vp_in i l.length) (K (pc + 1) ls (.int (l.getD i.toNatClampNeg 0) :: r) σ) else bad
      | none => bad
  | _ => bad
def sm_ast (ty pc : Nat) (ls st : List Value) (σ : sm_S) : α := match st with
  | .int x :: .int i :: .ref a :: r => match sm_arr SH a with
    | some (t, n) => bif Nat.beq t ty then need (vp_in i n) (bif Nat.beq ty 0 then nam (sm_set σ a (upd (σ a) i.toNatClampNeg x)) (fun σ' => K (pc + 1) ls r σ') else need (x = 0 ∨ x = 1) (nam (sm_set σ a (upd (σ a) i.toNatClampNeg x)) (fun σ' => K (pc + 1) ls r σ'))) else bad
    | none => bad
  | _ => bad
def sm_len (pc : Nat) (ls st : List Value) (σ : sm_S) : α := match st with
  | .ref a :: r => match sm_arr SH a with
    | some (_, n) => K (pc + 1) ls (.int (Int32.ofNat n) :: r) σ
    | none => bad
  | _ => bad
def sm_cpy (pc : Nat) (ls st : List Value) (σ : sm_S) : α := match st with
  | [.int n, .int dp, .ref b, .int sp, .ref a] => match sm_arr SH b with
    | some (0, nb) => (match sm_arr SH a with
      | some (0, na) => need (¬ sp < 0 ∧ ¬ dp < 0 ∧ ¬ n < 0 ∧ sp.toNatClampNeg + n.toNatClampNeg ≤ na ∧ dp.toNatClampNeg + n.toNatClampNeg ≤ nb) (nam (sm_set σ b (va_cpy (σ a) (σ b) sp.toNatClampNeg dp.toNatClampNeg n.toNatClampNeg)) (fun σ' => K (pc + 3) ls [] σ'))
      | _ => bad)
    | _ => bad
  | _ => bad
/-- Math.min, Math.max -/
def sm_mm (f : Int32 → Int32 → Int32) (pc : Nat) (ls st : List Value) (σ : sm_S) : α := match st with
  | .int y :: .int x :: r => bif sm_irs r && Nat.ble r.length 8 then K (pc + 3) ls (.int (f x y) :: r) σ else bad
  | _ => bad
/-- a call: 'ok' of what it takes; sw empty: it answers nothing; else an int -/
def sm_inv (ok : List Value → Bool) (pc tgt n : Nat) (sw : List (Int32 × Nat)) (ls st : List Value) (σ : sm_S) : α := match sm_pop n [] st with
  | some (as, r) => bif ok as && (sm_irs as && (sm_irs r && Nat.ble r.length 8)) then (match sw with
    | [] => call tgt as σ (sm_rv bad (fun σ' => K (pc + 3) ls r σ'))
    | _ :: _ => call tgt as σ (sm_ri bad (fun x σ' => K (pc + 3) ls (.int x :: r) σ'))) else bad
  | none => bad
/-- one instruction, whatever is made of it -/
def sm_g (pc : Nat) (ls st : List Value) (σ : sm_S) : α := match sm_find M.2.2.2.2.2 pc with
  | none => bad
  | some (ins, aux, tgt, n, sw) => match ins with
    | .iconst _ => K (pc + 1) ls (.int aux :: st) σ
    | .bipush _ => K (pc + 2) ls (.int aux :: st) σ
    | .sipush _ => K (pc + 3) ls (.int aux :: st) σ
    | .ldc_w _ => K (pc + 3) ls (.int aux :: st) σ
    | .iload i => sm_ld bad K (pc + 2) i ls st σ
    | .iload_n i => sm_ld bad K (pc + 1) i.val ls st σ
    | .aload i => sm_la bad K (pc + 2) i ls st σ
    | .aload_n i => sm_la bad K (pc + 1) i.val ls st σ
    | .istore i => sm_sti bad K (pc + 2) i ls st σ
    | .istore_n i => sm_sti bad K (pc + 1) i.val ls st σ
    | .astore i => sm_sta bad K (pc + 2) i ls st σ
    | .astore_n i => sm_sta bad K (pc + 1) i.val ls st σ
    | .iinc i _ => (match ls[i]? with
      | some (.int x) => bif Nat.blt i ls.length then K (pc + 3) (ls.set i (.int (x + aux))) st σ else bad
      | _ => bad)
    | .iadd => sm_bin bad K (fun x y => x + y) pc ls st σ
    | .isub => sm_bin bad K (fun x y => x - y) pc ls st σ
    | .imul => sm_bin bad K (fun x y => x * y) pc ls st σ
    | .iand => sm_bin bad K (fun x y => x &&& y) pc ls st σ
    | .ior => sm_bin bad K (fun x y => x ||| y) pc ls st σ
    | .ixor => sm_bin bad K (fun x y => x ^^^ y) pc ls st σ
    | .ishl => sm_bin bad K (fun x y => x <<< (y &&& 31)) pc ls st σ
    | .ishr => sm_bin bad K (fun x y => x >>> (y &&& 31)) pc ls st σ
    | .iushr => sm_bin bad K (fun x y => (x.toUInt32 >>> (y.toUInt32 &&& Int32.toUInt32 31)).toInt32) pc ls st σ
    | .idiv => (match st with
      | .int y :: .int x :: r => need (¬ y = 0) (K (pc + 1) ls (.int (x / y) :: r) σ)
      | _ => bad)
    | .irem => (match st with
      | .int y :: .int x :: r => need (¬ y = 0) (K (pc + 1) ls (.int (x - x / y * y) :: r) σ)
      | _ => bad)
    | .ineg => (match st with
      | .int x :: r => K (pc + 1) ls (.int (-x) :: r) σ
      | _ => bad)
    | .dup => (match st with
      | .int x :: r => K (pc + 1) ls (.int x :: .int x :: r) σ
      | .ref x :: r => K (pc + 1) ls (.ref x :: .ref x :: r) σ
      | _ => bad)
    | .dup2 => (match st with
      | .int i :: .ref a :: r => K (pc + 1) ls (.int i :: .ref a :: .int i :: .ref a :: r) σ
      | _ => bad)
    | .pop => (match st with
      | .int _ :: r => K (pc + 1) ls r σ
      | _ => bad)
    | .ifCond c _ => (match st with
      | .int x :: r => br (sm_cnd c x 0) (K tgt ls r σ) (K (pc + 3) ls r σ)
      | _ => bad)
    | .if_icmp c _ => (match st with
      | .int y :: .int x :: r => br (sm_cnd c x y) (K tgt ls r σ) (K (pc + 3) ls r σ)
      | _ => bad)
    | .goto _ => K tgt ls st σ
    | .tableswitch _ _ _ _ => (match st with
      | .int x :: r => sm_sw br (fun t => K t ls r σ) x tgt sw
      | _ => bad)
    | .getfield _ => sm_getf SH bad K pc tgt ls st σ
    | .putfield _ => sm_putf SH bad need nam K pc tgt ls st σ
    | .getstatic _ => K (pc + 3) ls (.ref tgt :: st) σ
    | .iaload => sm_ald TB SH bad need K 0 pc ls st σ
    | .baload => sm_ald TB SH bad need K 1 pc ls st σ
    | .iastore => sm_ast SH bad need nam K 0 pc ls st σ
    | .bastore => sm_ast SH bad need nam K 1 pc ls st σ
    | .arraylength => sm_len SH bad K pc ls st σ
    | .invokevirtual _ => sm_inv bad call K (sm_rc SH (n / 100)) pc tgt (n % 100) sw ls st σ
    | .invokestatic _ => bif Nat.beq tgt 9999 then sm_cpy SH bad need nam K pc ls st σ else bif Nat.beq tgt 9998 then sm_mm bad K (fun x y => if y < x then y else x) pc ls st σ else bif Nat.beq tgt 9997 then sm_mm bad K (fun x y => if x < y then y else x) pc ls st σ else sm_inv bad call K (fun _ => true) pc tgt n sw ls st σ
    | .ireturn => (match st with
      | [.int x] => (match M.2.2.2.1 with
        | some .int => ret (some (.int x)) σ
        | some .boolean => need (x = 0 ∨ x = 1) (ret (some (.int x)) σ)
        | _ => bad)
      | _ => bad)
    | .return_ => (match st with
      | [] => (match M.2.2.2.1 with
        | none => ret none σ
        | _ => bad)
      | _ => bad)
    | _ => bad
end G
end
section
/-! ===== two makings of one instruction, side by side ===== -/
section PAR
variable {α β : Type} {TB : List (List Int32)} {SH : List sm_Sh} {M : sm_M} {bad : α} {need : Prop → α → α} {nam : sm_S → (sm_S → α) → α} {br : Prop → α → α → α} {call : Nat → List Value → sm_S → (Option Value → sm_S → α) → α} {ret : Option Value → sm_S → α} {K : Nat → List Value → List Value → sm_S → α}
  {bad' : β} {need' : Prop → β → β} {nam' : sm_S → (sm_S → β) → β} {br' : Prop → β → β → β} {call' : Nat → List Value → sm_S → (Option Value → sm_S → β) → β} {ret' : Option Value → sm_S → β} {K' : Nat → List Value → List Value → sm_S → β}
theorem sm_sw_par (ρ : α → β → Prop) (hbr : ∀ c a a' b b', ρ a b → ρ a' b' → ρ (br c a a') (br' c b b')) {J : Nat → α} {J' : Nat → β} (hJ : ∀ t, ρ (J t) (J' t)) (x : Int32) (d : Nat) : ∀ sw : List (Int32 × Nat), ρ (sm_sw br J x d sw) (sm_sw br' J' x d sw)
  | [] => hJ d
  | (v, t) :: r => hbr _ _ _ _ _ (hJ t) (sm_sw_par ρ hbr hJ x d r)
set_option maxHeartbeats 4000000 in
theorem sm_g_par (ρ : α → β → Prop) (hbad : ρ bad bad') (hneed : ∀ c a b, ρ a b → ρ (need c a) (need' c b)) (hnam : ∀ σ k k', (∀ σ', ρ (k σ') (k' σ')) → ρ (nam σ k) (nam' σ k')) (hbr : ∀ c a a' b b', ρ a b → ρ a' b' → ρ (br c a a') (br' c b b'))
    (hcall : ∀ j as σ k k', (∀ r σ', ρ (k r σ') (k' r σ')) → ρ (call j as σ k) (call' j as σ k')) (hret : ∀ r σ, ρ (ret r σ) (ret' r σ)) (hK : ∀ pc ls st σ, ρ (K pc ls st σ) (K' pc ls st σ)) (pc : Nat) (ls st : List Value) (σ : sm_S) :
    ρ (sm_g TB SH M bad need nam br call ret K pc ls st σ) (sm_g TB SH M bad' need' nam' br' call' ret' K' pc ls st σ) := by
  have hc : ∀ (b : Bool) (x x' : α) (z z' : β), ρ x z → ρ x' z' → ρ (bif b then x else x') (bif b then z else z') := fun b x x' z z' h h' => by cases b <;> assumption
  have hri : ∀ (R : Int32 → sm_S → α) (R' : Int32 → sm_S → β), (∀ x σ', ρ (R x σ') (R' x σ')) → ∀ r σ', ρ (sm_ri bad R r σ') (sm_ri bad' R' r σ') := fun R R' h r σ' => by unfold sm_ri; split <;> first | exact h _ _ | exact hbad
  have hrv : ∀ (R : sm_S → α) (R' : sm_S → β), (∀ σ', ρ (R σ') (R' σ')) → ∀ r σ', ρ (sm_rv bad R r σ') (sm_rv bad' R' r σ') := fun R R' h r σ' => by unfold sm_rv; split <;> first | exact h _ | exact hbad
  have hN : ∀ pc ls st σ, ρ (nam σ (fun σ' => K pc ls st σ')) (nam' σ (fun σ' => K' pc ls st σ')) := fun pc ls st σ => hnam _ _ _ (fun _ => hK _ _ _ _)
  have hI : ∀ ok pc tgt n sw ls st σ, ρ (sm_inv bad call K ok pc tgt n sw ls st σ) (sm_inv bad' call' K' ok pc tgt n sw ls st σ) := fun ok pc tgt n sw ls st σ => by
    unfold sm_inv
    split
    · refine hc _ _ _ _ _ ?_ hbad
      split
      · exact hcall _ _ _ _ _ (hrv _ _ (fun _ => hK _ _ _ _))
      · exact hcall _ _ _ _ _ (hri _ _ (fun _ _ => hK _ _ _ _))
    · exact hbad
  unfold sm_g
  split
  · exact hbad
  · split
    all_goals first
      | exact hbad
      | exact hK _ _ _ _
      | exact hret _ _
      | (unfold sm_ld; split <;> first | exact hK _ _ _ _ | exact hbad)
      | (unfold sm_la; split <;> first | exact hK _ _ _ _ | exact hbad)
      | (unfold sm_bin; split <;> first | exact hK _ _ _ _ | exact hbad)
      | (unfold sm_sti; split <;> first | exact hbad | exact hc _ _ _ _ _ (hK _ _ _ _) hbad)
      | (unfold sm_sta; split <;> first | exact hbad | exact hc _ _ _ _ _ (hK _ _ _ _) hbad)
      | exact hI _ _ _ _ _ _ _ _
      | (split <;> first | exact hbad | exact hK _ _ _ _ | exact hc _ _ _ _ _ (hK _ _ _ _) hbad | exact hneed _ _ _ (hK _ _ _ _) | exact hbr _ _ _ _ _ (hK _ _ _ _) (hK _ _ _ _) | exact sm_sw_par ρ hbr (fun t => hK _ _ _ _) _ _ _ | (split <;> first | exact hret _ _ | exact hneed _ _ _ (hret _ _) | exact hbad))
      | (unfold sm_getf; split <;> first | exact hbad | (split <;> first | exact hbad | (refine hc _ _ _ _ _ ?_ hbad; split <;> first | exact hbad | exact hK _ _ _ _ | exact hc _ _ _ _ _ (hK _ _ _ _) hbad)))
      | (unfold sm_putf; split <;> first | exact hbad | (split <;> first | exact hbad | (refine hc _ _ _ _ _ ?_ hbad; split <;> first | exact hbad | exact hN _ _ _ _ | exact hneed _ _ _ (hN _ _ _ _))))
      | (unfold sm_ald; split <;> first | exact hbad | (split <;> first | exact hc _ _ _ _ _ (hneed _ _ _ (hK _ _ _ _)) hbad | (split <;> first | exact hbad | exact hc _ _ _ _ _ (hneed _ _ _ (hK _ _ _ _)) hbad)))
      | (unfold sm_ast; split <;> first | exact hbad | (split <;> first | exact hbad | exact hc _ _ _ _ _ (hneed _ _ _ (hc _ _ _ _ _ (hN _ _ _ _) (hneed _ _ _ (hN _ _ _ _)))) hbad))
      | (unfold sm_len; split <;> first | exact hbad | (split <;> first | exact hK _ _ _ _ | exact hbad))
      | (refine hc _ _ _ _ _ ?_ ?_
         · unfold sm_cpy; split <;> first | exact hbad | (split <;> first | exact hbad | (split <;> first | exact hbad | exact hneed _ _ _ (hN _ _ _ _)))
         · refine hc _ _ _ _ _ ?_ (hc _ _ _ _ _ ?_ (hI _ _ _ _ _ _ _ _))
           · unfold sm_mm; split <;> first | exact hbad | exact hc _ _ _ _ _ (hK _ _ _ _) hbad
           · unfold sm_mm; split <;> first | exact hbad | exact hc _ _ _ _ _ (hK _ _ _ _) hbad)
end PAR
end
section
/-! ===== what it comes to (sm_run), that it comes to something good (sm_E, sm_C), and how that is shown (sm_wp) ===== -/
def sm_ent (M : sm_M) (as : List Value) : List Value := as ++ List.replicate (M.2.2.1 - as.length) .null
noncomputable def sm_if {α : Type} (c : Prop) (a b : α) : α := @ite α c (Classical.propDecidable c) a b
theorem sm_if_t {α : Type} {c : Prop} {a b : α} (h : c) : sm_if c a b = a := if_pos h
theorem sm_if_f {α : Type} {c : Prop} {a b : α} (h : ¬ c) : sm_if c a b = b := if_neg h
abbrev sm_X : Type := Option (Option Value × sm_S)
noncomputable def sm_cll (MS : List sm_M) (run : sm_M → Nat → List Value → List Value → sm_S → sm_X) (j : Nat) (as : List Value) (σ : sm_S) (k : Option Value → sm_S → sm_X) : sm_X := match MS[j]? with
  | none => none
  | some M' => match run M' 0 (sm_ent M' as) [] σ with
    | none => none
    | some (r, σ') => k r σ'
noncomputable def sm_run (TB : List (List Int32)) (MS : List sm_M) (SH : List sm_Sh) : Nat → sm_M → Nat → List Value → List Value → sm_S → sm_X
  | 0, _, _, _, _, _ => none
  | n + 1, M, pc, ls, st, σ => sm_g TB SH M none (fun c a => sm_if c a none) (fun σ k => k σ) (fun c a b => sm_if c a b)
      (sm_cll MS (sm_run TB MS SH n)) (fun r σ => some (r, σ)) (fun pc ls st σ => sm_run TB MS SH n M pc ls st σ) pc ls st σ
section RUN
variable {TB : List (List Int32)} {MS : List sm_M} {SH : List sm_Sh}
/-- more steps change nothing -/
theorem sm_run_up : ∀ (n : Nat) (M : sm_M) (pc : Nat) (ls st : List Value) (σ : sm_S) (x : Option Value × sm_S), sm_run TB MS SH n M pc ls st σ = some x → sm_run TB MS SH (n + 1) M pc ls st σ = some x
  | 0, _, _, _, _, _, _, h => by cases h
  | n + 1, M, pc, ls, st, σ, x, h => by
    have ih := sm_run_up n
    have key := sm_g_par (TB := TB) (SH := SH) (M := M) (ρ := fun (a b : sm_X) => ∀ x, a = some x → b = some x)
      (bad := none) (need := fun c a => sm_if c a none) (nam := fun σ k => k σ) (br := fun c a b => sm_if c a b) (call := sm_cll MS (sm_run TB MS SH n)) (ret := fun r σ => some (r, σ)) (K := fun pc ls st σ => sm_run TB MS SH n M pc ls st σ)
      (bad' := none) (need' := fun c a => sm_if c a none) (nam' := fun σ k => k σ) (br' := fun c a b => sm_if c a b) (call' := sm_cll MS (sm_run TB MS SH (n + 1))) (ret' := fun r σ => some (r, σ)) (K' := fun pc ls st σ => sm_run TB MS SH (n + 1) M pc ls st σ)
      (fun _ h => h) (fun c a b hab x h => by
        by_cases hc : c
        · rw [sm_if_t hc] at h ⊢; exact hab x h
        · rw [sm_if_f hc] at h; cases h)
      (fun σ k k' hk x h => hk σ x h)
      (fun c a a' b b' h1 h2 x h => by
        by_cases hc : c
        · rw [sm_if_t hc] at h ⊢; exact h1 x h
        · rw [sm_if_f hc] at h ⊢; exact h2 x h)
      (fun j as σ k k' hk x h => by
        unfold sm_cll at h ⊢
        split at h
        · cases h
        · next M' hM =>
          split at h
          · cases h
          · next r σ' hr =>
            simp only [ih _ _ _ _ _ _ hr]
            exact hk r σ' x h)
      (fun _ _ _ h => h) (fun _ _ _ _ _ h => ih _ _ _ _ _ _ h) pc ls st σ
    exact key x h
theorem sm_run_le {n n' : Nat} (hn : n ≤ n') {M : sm_M} {pc : Nat} {ls st : List Value} {σ : sm_S} {x : Option Value × sm_S} (h : sm_run TB MS SH n M pc ls st σ = some x) : sm_run TB MS SH n' M pc ls st σ = some x := by
  induction hn with
  | refl => exact h
  | step _ ih => exact sm_run_up _ _ _ _ _ _ _ ih
end RUN
/-- from here the method comes to an end, with Q -/
def sm_E (TB : List (List Int32)) (MS : List sm_M) (SH : List sm_Sh) (M : sm_M) (pc : Nat) (ls st : List Value) (σ : sm_S) (Q : Option Value → sm_S → Prop) : Prop :=
  ∃ n r σ', sm_run TB MS SH n M pc ls st σ = some (r, σ') ∧ Q r σ'
/-- the call of method j comes to an end, with Q -/
def sm_C (TB : List (List Int32)) (MS : List sm_M) (SH : List sm_Sh) (j : Nat) (as : List Value) (σ : sm_S) (Q : Option Value → sm_S → Prop) : Prop :=
  ∃ M, MS[j]? = some M ∧ sm_E TB MS SH M 0 (sm_ent M as) [] σ Q
section EC
variable {TB : List (List Int32)} {MS : List sm_M} {SH : List sm_Sh} {M : sm_M} {pc j : Nat} {ls st as : List Value} {σ : sm_S} {Q Q' : Option Value → sm_S → Prop}
theorem sm_E.mono (h : sm_E TB MS SH M pc ls st σ Q) (hq : ∀ r σ', Q r σ' → Q' r σ') : sm_E TB MS SH M pc ls st σ Q' := by
  obtain ⟨n, r, σ', h1, h2⟩ := h
  exact ⟨n, r, σ', h1, hq _ _ h2⟩
theorem sm_E.and (h : sm_E TB MS SH M pc ls st σ Q) (h' : sm_E TB MS SH M pc ls st σ Q') : sm_E TB MS SH M pc ls st σ (fun r σ' => Q r σ' ∧ Q' r σ') := by
  obtain ⟨n, r, σ', h1, h2⟩ := h
  obtain ⟨m, r2, σ2, h3, h4⟩ := h'
  have e1 := sm_run_le (Nat.le_add_right n m) h1
  have e2 := sm_run_le (Nat.le_add_left m n) h3
  rw [e1] at e2
  cases e2
  exact ⟨n, r, σ', h1, h2, h4⟩
theorem sm_C.mono (h : sm_C TB MS SH j as σ Q) (hq : ∀ r σ', Q r σ' → Q' r σ') : sm_C TB MS SH j as σ Q' := by
  obtain ⟨M, h1, h2⟩ := h
  exact ⟨M, h1, h2.mono hq⟩
theorem sm_C.and (h : sm_C TB MS SH j as σ Q) (h' : sm_C TB MS SH j as σ Q') : sm_C TB MS SH j as σ (fun r σ' => Q r σ' ∧ Q' r σ') := by
  obtain ⟨M, h1, h2⟩ := h
  obtain ⟨M', h3, h4⟩ := h'
  rw [h1] at h3
  cases h3
  exact ⟨M, h1, h2.and h4⟩
end EC
/-- it answers an int, with P; it answers nothing, with P -/
def sm_I (P : Int32 → sm_S → Prop) (r : Option Value) (σ : sm_S) : Prop := ∃ x, r = some (.int x) ∧ P x σ
def sm_V (P : sm_S → Prop) (r : Option Value) (σ : sm_S) : Prop := r = none ∧ P σ
theorem sm_C.int {TB : List (List Int32)} {MS : List sm_M} {SH : List sm_Sh} {j : Nat} {as : List Value} {σ : sm_S} {P R : Int32 → sm_S → Prop} (h : sm_C TB MS SH j as σ (sm_I P)) (k : ∀ x σ', P x σ' → R x σ') : sm_C TB MS SH j as σ (sm_ri False R) :=
  h.mono (by rintro r σ' ⟨x, rfl, hx⟩; exact k x σ' hx)
theorem sm_C.void {TB : List (List Int32)} {MS : List sm_M} {SH : List sm_Sh} {j : Nat} {as : List Value} {σ : sm_S} {P R : sm_S → Prop} (h : sm_C TB MS SH j as σ (sm_V P)) (k : ∀ σ', P σ' → R σ') : sm_C TB MS SH j as σ (sm_rv False R) :=
  h.mono (by rintro r σ' ⟨rfl, hx⟩; exact k σ' hx)
def sm_mem : List Nat → Nat → Bool
  | [], _ => false
  | a :: t, x => bif Nat.beq a x then true else sm_mem t x
/-- enough for sm_E: n instructions further, or up to the first place in cs, or to the end -/
def sm_wp (TB : List (List Int32)) (MS : List sm_M) (SH : List sm_Sh) (cs : List Nat) : Nat → sm_M → Nat → List Value → List Value → sm_S → (Option Value → sm_S → Prop) → Prop
  | 0, M, pc, ls, st, σ, Q => sm_E TB MS SH M pc ls st σ Q
  | n + 1, M, pc, ls, st, σ, Q => sm_g TB SH M False (fun c a => c ∧ a) (fun σ k => ∀ σ', σ' = σ → k σ') (fun c a b => (c → a) ∧ (¬ c → b))
      (fun j as σ k => sm_C TB MS SH j as σ k) (fun r σ => Q r σ)
      (fun pc ls st σ => bif sm_mem cs pc then sm_E TB MS SH M pc ls st σ Q else sm_wp TB MS SH cs n M pc ls st σ Q) pc ls st σ
section WP
variable {TB : List (List Int32)} {MS : List sm_M} {SH : List sm_Sh}
/-- A is enough for the runs B to come to Q -/
def sm_Rel (Q : Option Value → sm_S → Prop) (A : Prop) (B : Nat → sm_X) : Prop := A → ∃ n r σ', (∀ n', n ≤ n' → B n' = some (r, σ')) ∧ Q r σ'
theorem sm_wp_E (cs : List Nat) : ∀ (n : Nat) {M : sm_M} {pc : Nat} {ls st : List Value} {σ : sm_S} {Q : Option Value → sm_S → Prop}, sm_wp TB MS SH cs n M pc ls st σ Q → sm_E TB MS SH M pc ls st σ Q
  | 0, _, _, _, _, _, _, h => h
  | n + 1, M, pc, ls, st, σ, Q, h => by
    have ih := fun {pc : Nat} {ls st : List Value} {σ : sm_S} => sm_wp_E cs n (M := M) (pc := pc) (ls := ls) (st := st) (σ := σ) (Q := Q)
    have key := sm_g_par (TB := TB) (SH := SH) (M := M) (ρ := sm_Rel Q)
      (bad := False) (need := fun c a => c ∧ a) (nam := fun σ k => ∀ σ', σ' = σ → k σ') (br := fun c a b => (c → a) ∧ (¬ c → b)) (call := fun j as σ k => sm_C TB MS SH j as σ k) (ret := fun r σ => Q r σ) (K := fun pc ls st σ => bif sm_mem cs pc then sm_E TB MS SH M pc ls st σ Q else sm_wp TB MS SH cs n M pc ls st σ Q)
      (bad' := fun _ => none) (need' := fun c a n => sm_if c (a n) none) (nam' := fun σ k => k σ) (br' := fun c a b n => sm_if c (a n) (b n)) (call' := fun j as σ k n => sm_cll MS (sm_run TB MS SH n) j as σ (fun r σ' => k r σ' n)) (ret' := fun r σ _ => some (r, σ)) (K' := fun pc ls st σ n => sm_run TB MS SH n M pc ls st σ)
      (fun h => h.elim) (fun c a b hab h => by
        obtain ⟨hc, ha⟩ := h
        obtain ⟨n, r, σ', h1, h2⟩ := hab ha
        exact ⟨n, r, σ', fun n' hn => (sm_if_t hc).trans (h1 n' hn), h2⟩)
      (fun σ k k' hk h => hk σ (h σ rfl))
      (fun c a a' b b' h1 h2 h => by
        by_cases hc : c
        · obtain ⟨n, r, σ', g1, g2⟩ := h1 (h.1 hc)
          exact ⟨n, r, σ', fun n' hn => (sm_if_t hc).trans (g1 n' hn), g2⟩
        · obtain ⟨n, r, σ', g1, g2⟩ := h2 (h.2 hc)
          exact ⟨n, r, σ', fun n' hn => (sm_if_f hc).trans (g1 n' hn), g2⟩)
      (fun j as σ k k' hk h => by
        obtain ⟨M', hM, n1, r1, σ1, g1, g2⟩ := h
        obtain ⟨n2, r, σ', g3, g4⟩ := hk r1 σ1 g2
        refine ⟨n1 + n2, r, σ', fun n' hn => ?_, g4⟩
        unfold sm_cll
        simp only [hM, sm_run_le (show n1 ≤ n' by omega) g1]
        exact g3 n' (by omega))
      (fun r σ h => ⟨0, r, σ, fun _ _ => rfl, h⟩)
      (fun pc ls st σ h => by
        have hE : sm_E TB MS SH M pc ls st σ Q := by
          revert h
          cases sm_mem cs pc
          · exact fun h => ih h
          · exact fun h => h
        obtain ⟨n, r, σ', g1, g2⟩ := hE
        exact ⟨n, r, σ', fun n' hn => sm_run_le hn g1, g2⟩) pc ls st σ
    obtain ⟨n1, r, σ', h1, h2⟩ := key h
    have eq := sm_g_par (TB := TB) (SH := SH) (M := M) (ρ := fun (a : Nat → sm_X) (b : sm_X) => a n1 = b)
      (bad := fun _ => none) (need := fun c a n => sm_if c (a n) none) (nam := fun σ k => k σ) (br := fun c a b n => sm_if c (a n) (b n)) (call := fun j as σ k n => sm_cll MS (sm_run TB MS SH n) j as σ (fun r σ' => k r σ' n)) (ret := fun r σ _ => some (r, σ)) (K := fun pc ls st σ n => sm_run TB MS SH n M pc ls st σ)
      (bad' := none) (need' := fun c a => sm_if c a none) (nam' := fun σ k => k σ) (br' := fun c a b => sm_if c a b) (call' := sm_cll MS (sm_run TB MS SH n1)) (ret' := fun r σ => some (r, σ)) (K' := fun pc ls st σ => sm_run TB MS SH n1 M pc ls st σ)
      rfl (fun c a b h => by simp only [h]) (fun σ k k' h => h σ) (fun c a a' b b' h1 h2 => by simp only [h1, h2])
      (fun j as σ k k' h => by
        show sm_cll MS (sm_run TB MS SH n1) j as σ (fun r σ' => k r σ' n1) = _
        congr 1
        funext r σ'
        exact h r σ') (fun _ _ => rfl) (fun _ _ _ _ => rfl) pc ls st σ
    exact ⟨n1 + 1, r, σ', eq.symm.trans (h1 n1 (Nat.le_refl n1)), h2⟩
/-- a call, by its method's instructions -/
theorem sm_wp_C {j : Nat} {M : sm_M} (hj : MS[j]? = some M) (cs : List Nat) (n : Nat) {as : List Value} {σ : sm_S} {Q : Option Value → sm_S → Prop} (h : sm_wp TB MS SH cs n M 0 (sm_ent M as) [] σ Q) : sm_C TB MS SH j as σ Q := ⟨M, hj, sm_wp_E cs n h⟩
end WP
end
section
/-! ===== a run in a small world is a run in a bigger one: cells under other numbers, slots that aren't touched ===== -/
def sm_cv (ad : Nat → Nat) (v : Value) : Value := match v with
  | .ref k => .ref (ad k)
  | v => v
theorem sm_arr_at {SH : List sm_Sh} {a : Nat} {q : Nat × Nat} (h : sm_arr SH a = some q) : SH[a]? = some (.inl q) := by
  unfold sm_arr at h
  split at h
  · next h2 => cases h; exact h2
  · cases h
theorem sm_cv_i (ad : Nat → Nat) (x : Int32) : sm_cv ad (.int x) = .int x := rfl
theorem sm_cv_r (ad : Nat → Nat) (k : Nat) : sm_cv ad (.ref k) = .ref (ad k) := rfl
def sm_slR (ρ : Nat → Nat) (o o' : sm_Sl) : Prop := match o with
  | .inl t => t ≤ 1 → o' = .inl t
  | .inr k => o' = .inr (ρ k)
/-- SH1's cells stand in SH2, under their numbers by ρ; tables keep theirs -/
def sm_shR (ρ : Nat → Nat) (SH1 SH2 : List sm_Sh) : Prop :=
  (∀ (k : Nat) (q : Nat × Nat), SH1[k]? = some (.inl q) → SH2[ρ k]? = some (.inl q)) ∧ (∀ (k ci : Nat) (fl : List sm_Sl), SH1[k]? = some (.inr (ci, fl)) → ∃ fl' : List sm_Sl, SH2[ρ k]? = some (.inr (ci, fl')) ∧ ∀ (j : Nat) (o : sm_Sl), fl[j]? = some o → ∃ o', fl'[j]? = some o' ∧ sm_slR ρ o o') ∧
  (∀ i j, i < SH1.length → j < SH1.length → ρ i = ρ j → i = j) ∧ (∀ a, 1000 ≤ a → ρ a = a) ∧ SH2.length ≤ 1000
/-- slot j of cell a is seen from the small world -/
def sm_vis (ρ : Nat → Nat) (SH1 : List sm_Sh) (a j : Nat) : Prop := ∃ k : Nat, ρ k = a ∧ ((∃ q : Nat × Nat, SH1[k]? = some (.inl q)) ∨ ∃ (ci : Nat) (fl : List sm_Sl) (t : Nat), SH1[k]? = some (.inr (ci, fl)) ∧ fl[j]? = some (.inl t) ∧ t ≤ 1)
def sm_stR (ρ : Nat → Nat) (SH1 : List sm_Sh) (σ1 σ2 : sm_S) : Prop :=
  (∀ (k : Nat) (q : Nat × Nat), SH1[k]? = some (.inl q) → σ2 (ρ k) = σ1 k) ∧ ∀ (k ci : Nat) (fl : List sm_Sl) (j t : Nat), SH1[k]? = some (.inr (ci, fl)) → fl[j]? = some (.inl t) → t ≤ 1 → σ2 (ρ k) j = σ1 k j
def sm_off (ρ : Nat → Nat) (SH1 : List sm_Sh) (σ2 σ2' : sm_S) : Prop := ∀ a j, ¬ sm_vis ρ SH1 a j → σ2' a j = σ2 a j
theorem sm_stR_arr {ρ : Nat → Nat} {SH1 : List sm_Sh} {σ1 σ2 : sm_S} (h : sm_stR ρ SH1 σ1 σ2) (hinj : ∀ i j, i < SH1.length → j < SH1.length → ρ i = ρ j → i = j) {k : Nat} {q : Nat × Nat} (hk : SH1[k]? = some (.inl q)) (f : Nat → Int32) : sm_stR ρ SH1 (sm_set σ1 k f) (sm_set σ2 (ρ k) f) ∧ sm_off ρ SH1 σ2 (sm_set σ2 (ρ k) f) := by
  have hl := (List.getElem?_eq_some_iff.mp hk).1
  refine ⟨⟨fun k2 q2 h2 => ?_, fun k2 ci fl j t h2 h3 h4 => ?_⟩, fun a j hv => ?_⟩
  · have hl2 := (List.getElem?_eq_some_iff.mp h2).1
    by_cases e : k2 = k
    · subst e; simp [sm_set]
    · have : ρ k2 ≠ ρ k := fun z => e (hinj _ _ hl2 hl z)
      simp only [sm_set, if_neg this, if_neg e]
      exact h.1 k2 q2 h2
  · have hl2 := (List.getElem?_eq_some_iff.mp h2).1
    have e : k2 ≠ k := fun z => by subst z; rw [hk] at h2; cases h2
    have : ρ k2 ≠ ρ k := fun z => e (hinj _ _ hl2 hl z)
    simp only [sm_set, if_neg this, if_neg e]
    exact h.2 k2 ci fl j t h2 h3 h4
  · have : a ≠ ρ k := fun z => hv ⟨k, z.symm, Or.inl ⟨q, hk⟩⟩
    simp only [sm_set, if_neg this]
theorem sm_stR_put {ρ : Nat → Nat} {SH1 : List sm_Sh} {σ1 σ2 : sm_S} (h : sm_stR ρ SH1 σ1 σ2) (hinj : ∀ i j, i < SH1.length → j < SH1.length → ρ i = ρ j → i = j) {k ci : Nat} {fl : List sm_Sl} (hk : SH1[k]? = some (.inr (ci, fl))) {j t : Nat} (hj : fl[j]? = some (.inl t)) (ht : t ≤ 1) (x : Int32) : sm_stR ρ SH1 (sm_set σ1 k (upd (σ1 k) j x)) (sm_set σ2 (ρ k) (upd (σ2 (ρ k)) j x)) ∧ sm_off ρ SH1 σ2 (sm_set σ2 (ρ k) (upd (σ2 (ρ k)) j x)) := by
  have hl := (List.getElem?_eq_some_iff.mp hk).1
  refine ⟨⟨fun k2 q2 h2 => ?_, fun k2 ci2 fl2 j2 t2 h2 h3 h4 => ?_⟩, fun a j2 hv => ?_⟩
  · have hl2 := (List.getElem?_eq_some_iff.mp h2).1
    have e : k2 ≠ k := fun z => by subst z; rw [hk] at h2; cases h2
    have : ρ k2 ≠ ρ k := fun z => e (hinj _ _ hl2 hl z)
    simp only [sm_set, if_neg this, if_neg e]
    exact h.1 k2 q2 h2
  · have hl2 := (List.getElem?_eq_some_iff.mp h2).1
    by_cases e : k2 = k
    · subst e
      simp only [sm_set, if_pos, upd]
      by_cases e2 : j2 = j
      · simp only [if_pos e2]
      · simp only [if_neg e2]
        exact h.2 k2 ci2 fl2 j2 t2 h2 h3 h4
    · have : ρ k2 ≠ ρ k := fun z => e (hinj _ _ hl2 hl z)
      simp only [sm_set, if_neg this, if_neg e]
      exact h.2 k2 ci2 fl2 j2 t2 h2 h3 h4
  · by_cases e : a = ρ k
    · subst e
      have : j2 ≠ j := fun z => by subst z; exact hv ⟨k, rfl, Or.inr ⟨ci, fl, t, hk, hj, ht⟩⟩
      simp only [sm_set, if_pos, upd, if_neg this]
    · simp only [sm_set, if_neg e]
theorem sm_off.trans {ρ : Nat → Nat} {SH1 : List sm_Sh} {a b c : sm_S} (h1 : sm_off ρ SH1 a b) (h2 : sm_off ρ SH1 b c) : sm_off ρ SH1 a c := fun x j hv => (h2 x j hv).trans (h1 x j hv)
theorem sm_pop_map (f : Value → Value) : ∀ (n : Nat) (acc st as r : List Value), sm_pop n acc st = some (as, r) → sm_pop n (acc.map f) (st.map f) = some (as.map f, r.map f)
  | 0, acc, st, as, r, h => by cases h; rfl
  | n + 1, acc, [], as, r, h => by cases h
  | n + 1, acc, v :: st, as, r, h => sm_pop_map f n (v :: acc) st as r h
theorem sm_irs_map (ρ : Nat → Nat) : ∀ (as : List Value), sm_irs as = true → sm_irs (as.map (sm_cv ρ)) = true
  | [], _ => rfl
  | .int _ :: t, h => sm_irs_map ρ t h
  | .ref _ :: t, h => sm_irs_map ρ t h
  | .null :: t, h => by cases h
  | .long _ :: t, h => by cases h
  | .float _ :: t, h => by cases h
  | .double _ :: t, h => by cases h
theorem sm_ent_map (ρ : Nat → Nat) (M : sm_M) (as : List Value) : (sm_ent M as).map (sm_cv ρ) = sm_ent M (as.map (sm_cv ρ)) := by
  unfold sm_ent
  rw [List.map_append, List.map_replicate, List.length_map]
  rfl
set_option maxHeartbeats 16000000 in
set_option maxRecDepth 100000 in
theorem sm_lift {TB : List (List Int32)} {MS : List sm_M} {ρ : Nat → Nat} {SH1 SH2 : List sm_Sh} (hR : sm_shR ρ SH1 SH2) (hMS : ∀ M ∈ MS, ∀ pc i aux tgt nn sw, sm_find M.2.2.2.2.2 pc = some (.getstatic i, aux, tgt, nn, sw) → 1000 ≤ tgt) : ∀ (n : Nat) (M : sm_M), M ∈ MS → ∀ (pc : Nat) (ls st : List Value) (σ1 : sm_S) (r : Option Value) (σ1' : sm_S), sm_run TB MS SH1 n M pc ls st σ1 = some (r, σ1') →
    ∀ σ2, sm_stR ρ SH1 σ1 σ2 → ∃ σ2', sm_run TB MS SH2 n M pc (ls.map (sm_cv ρ)) (st.map (sm_cv ρ)) σ2 = some (r.map (sm_cv ρ), σ2') ∧ sm_stR ρ SH1 σ1' σ2' ∧ sm_off ρ SH1 σ2 σ2'
  | 0, M, _, pc, ls, st, σ1, r, σ1', h => by cases h
  | n + 1, M, hM, pc, ls, st, σ1, r, σ1', h => by
    intro σ2 hσ
    have ih := sm_lift (TB := TB) (MS := MS) hR hMS n
    have go : ∀ (pc : Nat) (ls st : List Value) (σ1 : sm_S), sm_run TB MS SH1 n M pc ls st σ1 = some (r, σ1') → ∀ σ2, sm_stR ρ SH1 σ1 σ2 → ∃ σ2', sm_run TB MS SH2 n M pc (ls.map (sm_cv ρ)) (st.map (sm_cv ρ)) σ2 = some (r.map (sm_cv ρ), σ2') ∧ sm_stR ρ SH1 σ1' σ2' ∧ sm_off ρ SH1 σ2 σ2' := fun pc ls st σ1 h => ih M hM pc ls st σ1 r σ1' h
    have go2 : ∀ (pc : Nat) (ls st : List Value) (σa : sm_S) (σ2 σb : sm_S), sm_run TB MS SH1 n M pc ls st σa = some (r, σ1') → sm_stR ρ SH1 σa σb ∧ sm_off ρ SH1 σ2 σb → ∃ σ2', sm_run TB MS SH2 n M pc (ls.map (sm_cv ρ)) (st.map (sm_cv ρ)) σb = some (r.map (sm_cv ρ), σ2') ∧ sm_stR ρ SH1 σ1' σ2' ∧ sm_off ρ SH1 σ2 σ2' := by
      intro pc ls st σa σ2 σb h hh
      obtain ⟨σ2', h1, h2, h3⟩ := go pc ls st σa h σb hh.1
      exact ⟨σ2', h1, h2, hh.2.trans h3⟩
    obtain ⟨R1, R2, hinj, R4, R5⟩ := id hR
    have hcl : ∀ (tgt : Nat) (as : List Value) (σ1 σ2 : sm_S) (k : Option Value → sm_S → sm_X) (k' : Option Value → sm_S → sm_X), sm_stR ρ SH1 σ1 σ2 → sm_cll MS (sm_run TB MS SH1 n) tgt as σ1 k = some (r, σ1') → (∀ rr σa σb, k rr σa = some (r, σ1') → sm_stR ρ SH1 σa σb → ∃ σ2', k' (rr.map (sm_cv ρ)) σb = some (r.map (sm_cv ρ), σ2') ∧ sm_stR ρ SH1 σ1' σ2' ∧ sm_off ρ SH1 σb σ2') → ∃ σ2', sm_cll MS (sm_run TB MS SH2 n) tgt (as.map (sm_cv ρ)) σ2 k' = some (r.map (sm_cv ρ), σ2') ∧ sm_stR ρ SH1 σ1' σ2' ∧ sm_off ρ SH1 σ2 σ2' := by
      intro tgt as σ1 σ2 k k' hσ h hk
      unfold sm_cll at h ⊢
      cases hj : MS[tgt]? with
      | none => rw [hj] at h; cases h
      | some M' =>
        rw [hj] at h
        dsimp only at h ⊢
        split at h
        · cases h
        · next rr σa h1 =>
          obtain ⟨σb, h2, h3, h4⟩ := ih M' (List.mem_of_getElem? hj) 0 (sm_ent M' as) [] σ1 rr σa h1 σ2 hσ
          rw [sm_ent_map] at h2
          obtain ⟨σ2', h5, h6, h7⟩ := hk rr σa σb h h3
          refine ⟨σ2', ?_, h6, h4.trans h7⟩
          have h2' : sm_run TB MS SH2 n M' 0 (sm_ent M' (as.map (sm_cv ρ))) [] σ2 = some (rr.map (sm_cv ρ), σb) := h2
          rw [h2']
          exact h5
    have hinv : ∀ (ok1 ok2 : List Value → Bool) (pc tgt nn : Nat) (sw : List (Int32 × Nat)), (∀ as, ok1 as = true → ok2 (as.map (sm_cv ρ)) = true) → sm_inv none (sm_cll MS (sm_run TB MS SH1 n)) (fun pc ls st σ => sm_run TB MS SH1 n M pc ls st σ) ok1 pc tgt nn sw ls st σ1 = some (r, σ1') → ∃ σ2', sm_inv none (sm_cll MS (sm_run TB MS SH2 n)) (fun pc ls st σ => sm_run TB MS SH2 n M pc ls st σ) ok2 pc tgt nn sw (ls.map (sm_cv ρ)) (st.map (sm_cv ρ)) σ2 = some (r.map (sm_cv ρ), σ2') ∧ sm_stR ρ SH1 σ1' σ2' ∧ sm_off ρ SH1 σ2 σ2' := by
      intro ok1 ok2 pc tgt nn sw hok h
      unfold sm_inv at h ⊢
      split at h
      · next as r0 hpop =>
        have hp2 := sm_pop_map (sm_cv ρ) _ _ _ _ _ hpop
        rw [List.map_nil] at hp2
        rw [hp2]
        cases hq : (ok1 as && (sm_irs as && (sm_irs r0 && Nat.ble r0.length 8))) with
        | false => rw [hq] at h; cases h
        | true =>
          rw [hq] at h
          simp only [Bool.and_eq_true] at hq
          obtain ⟨q1, q2, q3, q4⟩ := hq
          have hq' : (ok2 (as.map (sm_cv ρ)) && (sm_irs (as.map (sm_cv ρ)) && (sm_irs (r0.map (sm_cv ρ)) && Nat.ble (r0.map (sm_cv ρ)).length 8))) = true := by
            rw [hok _ q1, sm_irs_map ρ _ q2, sm_irs_map ρ _ q3, List.length_map, q4]; rfl
          dsimp only
          rw [hq']
          dsimp only [cond] at h ⊢
          split at h
          · refine hcl _ _ _ _ _ _ hσ h (fun rr σa σb hk hs => ?_)
            unfold sm_rv at hk ⊢
            split at hk
            · exact go _ _ _ _ hk σb hs
            · cases hk
          · refine hcl _ _ _ _ _ _ hσ h (fun rr σa σb hk hs => ?_)
            unfold sm_ri at hk ⊢
            split at hk
            · exact go _ _ (.int _ :: _) _ hk σb hs
            · cases hk
      · cases h
    have harr : ∀ (a : Nat) (q : Nat × Nat), sm_arr SH1 a = some q → sm_arr SH2 (ρ a) = some q ∧ SH1[a]? = some (.inl q) := by
      intro a q ha
      have h1 := sm_arr_at ha
      refine ⟨?_, h1⟩
      unfold sm_arr
      rw [R1 a q h1]
    have hmm : ∀ (f : Int32 → Int32 → Int32) (pc : Nat), sm_mm none (fun pc ls st σ => sm_run TB MS SH1 n M pc ls st σ) f pc ls st σ1 = some (r, σ1') → ∃ σ2', sm_mm none (fun pc ls st σ => sm_run TB MS SH2 n M pc ls st σ) f pc (ls.map (sm_cv ρ)) (st.map (sm_cv ρ)) σ2 = some (r.map (sm_cv ρ), σ2') ∧ sm_stR ρ SH1 σ1' σ2' ∧ sm_off ρ SH1 σ2 σ2' := by
      intro f pc h
      unfold sm_mm at h ⊢
      split at h
      · next y x r0 h00 =>
        cases hq : (sm_irs r0 && Nat.ble r0.length 8) with
        | false => rw [hq] at h; cases h
        | true =>
          rw [hq] at h
          have hq' : (sm_irs (r0.map (sm_cv ρ)) && Nat.ble (r0.map (sm_cv ρ)).length 8) = true := by
            simp only [Bool.and_eq_true] at hq
            rw [sm_irs_map ρ _ hq.1, List.length_map, hq.2]; rfl
          simp only [List.map_cons, sm_cv_i, sm_cv_r]
          rw [hq']
          exact go _ _ (.int _ :: _) _ h σ2 hσ
      · cases h
    simp only [sm_run] at h ⊢
    unfold sm_g at h ⊢
    split at h
    · cases h
    next ins aux tgt nn sw hf =>
    cases ins with
    | iconst k => exact go _ _ (.int _ :: _) _ h σ2 hσ
    | bipush k => exact go _ _ (.int _ :: _) _ h σ2 hσ
    | sipush k => exact go _ _ (.int _ :: _) _ h σ2 hσ
    | ldc_w k => exact go _ _ (.int _ :: _) _ h σ2 hσ
    | goto k => exact go _ _ _ _ h σ2 hσ
    | iload i =>
      dsimp only at h ⊢
      unfold sm_ld at h ⊢
      split at h
      · next x hi => rw [List.getElem?_map, hi]; exact go _ _ (.int _ :: _) _ h σ2 hσ
      · cases h
    | iload_n i =>
      dsimp only at h ⊢
      unfold sm_ld at h ⊢
      split at h
      · next x hi => rw [List.getElem?_map, hi]; exact go _ _ (.int _ :: _) _ h σ2 hσ
      · cases h
    | aload i =>
      dsimp only at h ⊢
      unfold sm_la at h ⊢
      split at h
      · next x hi => rw [List.getElem?_map, hi]; exact go _ _ (.ref _ :: _) _ h σ2 hσ
      · cases h
    | aload_n i =>
      dsimp only at h ⊢
      unfold sm_la at h ⊢
      split at h
      · next x hi => rw [List.getElem?_map, hi]; exact go _ _ (.ref _ :: _) _ h σ2 hσ
      · cases h
    | istore i =>
      dsimp only at h ⊢
      unfold sm_sti at h ⊢
      split at h
      · next x r0 =>
        cases hq : Nat.blt i ls.length with
        | false => rw [hq] at h; cases h
        | true =>
          rw [hq] at h
          have hq2 : Nat.blt i (ls.map (sm_cv ρ)).length = true := by rw [List.length_map]; exact hq
          have := go _ (ls.set i (.int x)) _ _ h σ2 hσ
          rw [List.map_set] at this
          obtain ⟨σ2', g1, g2⟩ := this
          refine ⟨σ2', ?_, g2⟩
          simp only [List.map_cons, sm_cv_i, sm_cv_r]
          rw [hq2]
          exact g1
      · cases h
    | istore_n i =>
      dsimp only at h ⊢
      unfold sm_sti at h ⊢
      split at h
      · next x r0 =>
        cases hq : Nat.blt i.val ls.length with
        | false => rw [hq] at h; cases h
        | true =>
          rw [hq] at h
          have hq2 : Nat.blt i.val (ls.map (sm_cv ρ)).length = true := by rw [List.length_map]; exact hq
          have := go _ (ls.set i.val (.int x)) _ _ h σ2 hσ
          rw [List.map_set] at this
          obtain ⟨σ2', g1, g2⟩ := this
          refine ⟨σ2', ?_, g2⟩
          simp only [List.map_cons, sm_cv_i, sm_cv_r]
          rw [hq2]
          exact g1
      · cases h
    | astore i =>
      dsimp only at h ⊢
      unfold sm_sta at h ⊢
      split at h
      · next x r0 =>
        cases hq : Nat.blt i ls.length with
        | false => rw [hq] at h; cases h
        | true =>
          rw [hq] at h
          have hq2 : Nat.blt i (ls.map (sm_cv ρ)).length = true := by rw [List.length_map]; exact hq
          have := go _ (ls.set i (.ref x)) _ _ h σ2 hσ
          rw [List.map_set] at this
          obtain ⟨σ2', g1, g2⟩ := this
          refine ⟨σ2', ?_, g2⟩
          simp only [List.map_cons, sm_cv_i, sm_cv_r]
          rw [hq2]
          exact g1
      · cases h
    | astore_n i =>
      dsimp only at h ⊢
      unfold sm_sta at h ⊢
      split at h
      · next x r0 =>
        cases hq : Nat.blt i.val ls.length with
        | false => rw [hq] at h; cases h
        | true =>
          rw [hq] at h
          have hq2 : Nat.blt i.val (ls.map (sm_cv ρ)).length = true := by rw [List.length_map]; exact hq
          have := go _ (ls.set i.val (.ref x)) _ _ h σ2 hσ
          rw [List.map_set] at this
          obtain ⟨σ2', g1, g2⟩ := this
          refine ⟨σ2', ?_, g2⟩
          simp only [List.map_cons, sm_cv_i, sm_cv_r]
          rw [hq2]
          exact g1
      · cases h
    | iadd =>
      dsimp only at h ⊢
      unfold sm_bin at h ⊢
      split at h
      · exact go _ _ (.int _ :: _) _ h σ2 hσ
      · cases h
    | isub =>
      dsimp only at h ⊢
      unfold sm_bin at h ⊢
      split at h
      · exact go _ _ (.int _ :: _) _ h σ2 hσ
      · cases h
    | imul =>
      dsimp only at h ⊢
      unfold sm_bin at h ⊢
      split at h
      · exact go _ _ (.int _ :: _) _ h σ2 hσ
      · cases h
    | iand =>
      dsimp only at h ⊢
      unfold sm_bin at h ⊢
      split at h
      · exact go _ _ (.int _ :: _) _ h σ2 hσ
      · cases h
    | ior =>
      dsimp only at h ⊢
      unfold sm_bin at h ⊢
      split at h
      · exact go _ _ (.int _ :: _) _ h σ2 hσ
      · cases h
    | ixor =>
      dsimp only at h ⊢
      unfold sm_bin at h ⊢
      split at h
      · exact go _ _ (.int _ :: _) _ h σ2 hσ
      · cases h
    | ishl =>
      dsimp only at h ⊢
      unfold sm_bin at h ⊢
      split at h
      · exact go _ _ (.int _ :: _) _ h σ2 hσ
      · cases h
    | ishr =>
      dsimp only at h ⊢
      unfold sm_bin at h ⊢
      split at h
      · exact go _ _ (.int _ :: _) _ h σ2 hσ
      · cases h
    | iushr =>
      dsimp only at h ⊢
      unfold sm_bin at h ⊢
      split at h
      · exact go _ _ (.int _ :: _) _ h σ2 hσ
      · cases h
    | iinc i k =>
      dsimp only at h ⊢
      split at h
      · next x hi =>
        cases hq : Nat.blt i ls.length with
        | false => rw [hq] at h; cases h
        | true =>
          rw [hq] at h
          rw [List.getElem?_map, hi]
          show ∃ σ2', (bif Nat.blt i (ls.map (sm_cv ρ)).length then _ else _) = _ ∧ _
          rw [List.length_map, hq]
          have := go _ (ls.set i (.int (x + aux))) _ _ h σ2 hσ
          rw [List.map_set] at this
          exact this
      · cases h
    | idiv =>
      dsimp only at h ⊢
      split at h
      · next y x r0 =>
        by_cases hy : ¬ y = 0
        · replace h := (sm_if_t hy).symm.trans h
          obtain ⟨σ2', h1, h2⟩ := go _ _ (.int _ :: _) _ h σ2 hσ
          exact ⟨σ2', (sm_if_t hy).trans h1, h2⟩
        · replace h := (sm_if_f hy).symm.trans h
          cases h
      · cases h
    | irem =>
      dsimp only at h ⊢
      split at h
      · next y x r0 =>
        by_cases hy : ¬ y = 0
        · replace h := (sm_if_t hy).symm.trans h
          obtain ⟨σ2', h1, h2⟩ := go _ _ (.int _ :: _) _ h σ2 hσ
          exact ⟨σ2', (sm_if_t hy).trans h1, h2⟩
        · replace h := (sm_if_f hy).symm.trans h
          cases h
      · cases h
    | ineg =>
      dsimp only at h ⊢
      split at h
      · exact go _ _ (.int _ :: _) _ h σ2 hσ
      · cases h
    | dup =>
      dsimp only at h ⊢
      split at h
      · exact go _ _ (.int _ :: .int _ :: _) _ h σ2 hσ
      · exact go _ _ (.ref _ :: .ref _ :: _) _ h σ2 hσ
      · cases h
    | dup2 =>
      dsimp only at h ⊢
      split at h
      · exact go _ _ (.int _ :: .ref _ :: .int _ :: .ref _ :: _) _ h σ2 hσ
      · cases h
    | pop =>
      dsimp only at h ⊢
      split at h
      · exact go _ _ _ _ h σ2 hσ
      · cases h
    | ifCond cc off =>
      dsimp only at h ⊢
      split at h
      · next x r0 =>
        by_cases hc : sm_cnd cc x 0
        · replace h := (sm_if_t hc).symm.trans h
          obtain ⟨σ2', h1, h2⟩ := go _ _ _ _ h σ2 hσ
          exact ⟨σ2', (sm_if_t hc).trans h1, h2⟩
        · replace h := (sm_if_f hc).symm.trans h
          obtain ⟨σ2', h1, h2⟩ := go _ _ _ _ h σ2 hσ
          exact ⟨σ2', (sm_if_f hc).trans h1, h2⟩
      · cases h
    | if_icmp cc off =>
      dsimp only at h ⊢
      split at h
      · next y x r0 =>
        by_cases hc : sm_cnd cc x y
        · replace h := (sm_if_t hc).symm.trans h
          obtain ⟨σ2', h1, h2⟩ := go _ _ _ _ h σ2 hσ
          exact ⟨σ2', (sm_if_t hc).trans h1, h2⟩
        · replace h := (sm_if_f hc).symm.trans h
          obtain ⟨σ2', h1, h2⟩ := go _ _ _ _ h σ2 hσ
          exact ⟨σ2', (sm_if_f hc).trans h1, h2⟩
      · cases h
    | tableswitch df lo hi offs =>
      dsimp only at h ⊢
      split at h
      · next x r0 =>
        clear hf
        revert h
        induction sw with
        | nil => intro h; exact go _ _ _ _ h σ2 hσ
        | cons q sw ihs =>
          obtain ⟨v, t⟩ := q
          intro h
          by_cases hc : x = v
          · replace h := (sm_if_t hc).symm.trans h
            obtain ⟨σ2', h1, h2⟩ := go _ _ _ _ h σ2 hσ
            exact ⟨σ2', (sm_if_t hc).trans h1, h2⟩
          · replace h := (sm_if_f hc).symm.trans h
            obtain ⟨σ2', h1, h2⟩ := ihs h
            exact ⟨σ2', (sm_if_f hc).trans h1, h2⟩
      · cases h
    | getfield i =>
      dsimp only at h ⊢
      unfold sm_getf at h ⊢
      split at h
      · next a r0 =>
        split at h
        · next ci fl ha =>
          obtain ⟨fl', h1, h2⟩ := R2 a ci fl ha
          simp only [List.map_cons, sm_cv_i, sm_cv_r]
          rw [h1]
          dsimp only
          cases hq : Nat.beq ci (tgt / 100) with
          | false => rw [hq] at h; cases h
          | true =>
            rw [hq] at h
            dsimp only [cond] at h ⊢
            split at h
            · next t0 ht =>
              cases hq2 : Nat.ble t0 1 with
              | false => rw [hq2] at h; cases h
              | true =>
                rw [hq2] at h
                have ht1 := Nat.le_of_ble_eq_true hq2
                obtain ⟨o', h3, h4⟩ := h2 _ _ ht
                rw [h3, h4 ht1]
                dsimp only
                rw [hq2]
                have := go _ _ (.int (σ1 a (tgt % 100)) :: r0) _ h σ2 hσ
                rw [← hσ.2 a ci fl (tgt % 100) t0 ha ht ht1] at this
                exact this
            · next k ht =>
              obtain ⟨o', h3, h4⟩ := h2 _ _ ht
              rw [h3, h4]
              exact go _ _ (.ref k :: r0) _ h σ2 hσ
            · cases h
        · cases h
      · cases h
    | putfield i =>
      dsimp only at h ⊢
      unfold sm_putf at h ⊢
      split at h
      · next x a r0 =>
        split at h
        · next ci fl ha =>
          obtain ⟨fl', h1, h2⟩ := R2 a ci fl ha
          simp only [List.map_cons, sm_cv_i, sm_cv_r]
          rw [h1]
          dsimp only
          cases hq : Nat.beq ci (tgt / 100) with
          | false => rw [hq] at h; cases h
          | true =>
            rw [hq] at h
            dsimp only [cond] at h ⊢
            split at h
            · next ht =>
              obtain ⟨o', h3, h4⟩ := h2 _ _ ht
              rw [h3, h4 (Nat.zero_le 1)]
              exact go2 _ _ _ _ σ2 _ h (sm_stR_put hσ hinj ha ht (Nat.zero_le 1) x)
            · next ht =>
              obtain ⟨o', h3, h4⟩ := h2 _ _ ht
              rw [h3, h4 (Nat.le_refl 1)]
              by_cases hx01 : x = 0 ∨ x = 1
              · replace h := (sm_if_t hx01).symm.trans h
                obtain ⟨σ2', g1, g2⟩ := go2 _ _ _ _ σ2 _ h (sm_stR_put hσ hinj ha ht (Nat.le_refl 1) x)
                exact ⟨σ2', (sm_if_t hx01).trans g1, g2⟩
              · replace h := (sm_if_f hx01).symm.trans h
                cases h
            · cases h
        · cases h
      · cases h
    | getstatic i =>
      dsimp only at h ⊢
      have hg : ∃ σ2', sm_run TB MS SH2 n M (pc + 3) (ls.map (sm_cv ρ)) (.ref (ρ tgt) :: st.map (sm_cv ρ)) σ2 = some (r.map (sm_cv ρ), σ2') ∧ sm_stR ρ SH1 σ1' σ2' ∧ sm_off ρ SH1 σ2 σ2' := go _ _ (.ref _ :: _) _ h σ2 hσ
      rw [R4 tgt (hMS M hM _ _ _ _ _ _ hf)] at hg
      exact hg
    | iaload =>
      dsimp only at h ⊢
      unfold sm_ald at h ⊢
      split at h
      · next i a r0 =>
        simp only [List.map_cons, sm_cv_i, sm_cv_r]
        split at h
        · next t nn2 ha =>
          obtain ⟨h1, h2⟩ := harr a _ ha
          rw [h1]
          dsimp only
          cases hq : Nat.beq t 0 with
          | false => rw [hq] at h; cases h
          | true =>
            rw [hq] at h
            by_cases hin : vp_in i nn2
            · replace h := (sm_if_t hin).symm.trans h
              have := go _ _ (.int (σ1 a i.toNatClampNeg) :: r0) _ h σ2 hσ
              rw [← hσ.1 a _ h2] at this
              obtain ⟨σ2', g1, g2⟩ := this
              exact ⟨σ2', (sm_if_t hin).trans g1, g2⟩
            · replace h := (sm_if_f hin).symm.trans h
              cases h
        · next hn =>
          split at h
          · next q ht =>
            cases hq : (Nat.ble 1000 a && Nat.beq 0 0) with
            | false => rw [hq] at h; cases h
            | true =>
              rw [hq] at h
              have h1000 : 1000 ≤ a := Nat.le_of_ble_eq_true ((Bool.and_eq_true _ _).mp hq).1
              have hno : sm_arr SH2 (ρ a) = none := by
                rw [R4 a h1000]
                unfold sm_arr
                rw [List.getElem?_eq_none (Nat.le_trans R5 h1000)]
              rw [hno, R4 a h1000, ht]
              dsimp only
              rw [hq]
              by_cases hin : vp_in i q.length
              · replace h := (sm_if_t hin).symm.trans h
                obtain ⟨σ2', g1, g2⟩ := go _ _ (.int _ :: _) _ h σ2 hσ
                exact ⟨σ2', (sm_if_t hin).trans g1, g2⟩
              · replace h := (sm_if_f hin).symm.trans h
                cases h
          · cases h
      · cases h
    | baload =>
      dsimp only at h ⊢
      unfold sm_ald at h ⊢
      split at h
      · next i a r0 =>
        simp only [List.map_cons, sm_cv_i, sm_cv_r]
        split at h
        · next t nn2 ha =>
          obtain ⟨h1, h2⟩ := harr a _ ha
          rw [h1]
          dsimp only
          cases hq : Nat.beq t 1 with
          | false => rw [hq] at h; cases h
          | true =>
            rw [hq] at h
            by_cases hin : vp_in i nn2
            · replace h := (sm_if_t hin).symm.trans h
              have := go _ _ (.int (σ1 a i.toNatClampNeg) :: r0) _ h σ2 hσ
              rw [← hσ.1 a _ h2] at this
              obtain ⟨σ2', g1, g2⟩ := this
              exact ⟨σ2', (sm_if_t hin).trans g1, g2⟩
            · replace h := (sm_if_f hin).symm.trans h
              cases h
        · next hn =>
          split at h
          · next q ht =>
            cases hq : (Nat.ble 1000 a && Nat.beq 1 0) with
            | false => rw [hq] at h; cases h
            | true =>
              rw [hq] at h
              have h1000 : 1000 ≤ a := Nat.le_of_ble_eq_true ((Bool.and_eq_true _ _).mp hq).1
              have hno : sm_arr SH2 (ρ a) = none := by
                rw [R4 a h1000]
                unfold sm_arr
                rw [List.getElem?_eq_none (Nat.le_trans R5 h1000)]
              rw [hno, R4 a h1000, ht]
              dsimp only
              rw [hq]
              by_cases hin : vp_in i q.length
              · replace h := (sm_if_t hin).symm.trans h
                obtain ⟨σ2', g1, g2⟩ := go _ _ (.int _ :: _) _ h σ2 hσ
                exact ⟨σ2', (sm_if_t hin).trans g1, g2⟩
              · replace h := (sm_if_f hin).symm.trans h
                cases h
          · cases h
      · cases h
    | iastore =>
      dsimp only at h ⊢
      unfold sm_ast at h ⊢
      split at h
      · next x i a r0 =>
        simp only [List.map_cons, sm_cv_i, sm_cv_r]
        split at h
        · next t nn2 ha =>
          obtain ⟨h1, h2⟩ := harr a _ ha
          rw [h1]
          dsimp only
          cases hq : Nat.beq t 0 with
          | false => rw [hq] at h; cases h
          | true =>
            rw [hq] at h
            by_cases hin : vp_in i nn2
            · replace h := (sm_if_t hin).symm.trans h
              have hs := sm_stR_arr hσ hinj h2 (upd (σ1 a) i.toNatClampNeg x)
              rw [← hσ.1 a _ h2] at hs
              rw [hσ.1 a _ h2] at hs
              have hs2 := hs
              rw [← hσ.1 a _ h2] at hs2
              obtain ⟨σ2', g1, g2⟩ := go2 _ _ _ _ σ2 _ h hs
              rw [← hσ.1 a _ h2] at g1
              exact ⟨σ2', (sm_if_t hin).trans g1, g2⟩
            · replace h := (sm_if_f hin).symm.trans h
              cases h
        · cases h
      · cases h
    | bastore =>
      dsimp only at h ⊢
      unfold sm_ast at h ⊢
      split at h
      · next x i a r0 =>
        simp only [List.map_cons, sm_cv_i, sm_cv_r]
        split at h
        · next t nn2 ha =>
          obtain ⟨h1, h2⟩ := harr a _ ha
          rw [h1]
          dsimp only
          cases hq : Nat.beq t 1 with
          | false => rw [hq] at h; cases h
          | true =>
            rw [hq] at h
            by_cases hin : vp_in i nn2
            · replace h := (sm_if_t hin).symm.trans h
              have hs := sm_stR_arr hσ hinj h2 (upd (σ1 a) i.toNatClampNeg x)
              rw [← hσ.1 a _ h2] at hs
              rw [hσ.1 a _ h2] at hs
              by_cases hx01 : x = 0 ∨ x = 1
              · replace h := (sm_if_t hx01).symm.trans h
                obtain ⟨σ2', g1, g2⟩ := go2 _ _ _ _ σ2 _ h hs
                rw [← hσ.1 a _ h2] at g1
                exact ⟨σ2', (sm_if_t hin).trans ((sm_if_t hx01).trans g1), g2⟩
              · replace h := (sm_if_f hx01).symm.trans h
                cases h
            · replace h := (sm_if_f hin).symm.trans h
              cases h
        · cases h
      · cases h
    | arraylength =>
      dsimp only at h ⊢
      unfold sm_len at h ⊢
      split at h
      · next a r0 =>
        simp only [List.map_cons, sm_cv_i, sm_cv_r]
        split at h
        · next t nn2 ha =>
          obtain ⟨h1, h2⟩ := harr a _ ha
          rw [h1]
          exact go _ _ (.int _ :: _) _ h σ2 hσ
        · cases h
      · cases h
    | invokevirtual i =>
      refine hinv _ _ _ _ _ _ (fun as hr => ?_) h
      unfold sm_rc at hr ⊢
      split at hr
      · next a t0 =>
        simp only [List.map_cons, sm_cv_i, sm_cv_r]
        split at hr
        · next c2 fl ha =>
          obtain ⟨fl', h1, -⟩ := R2 a c2 fl ha
          rw [h1]
          exact hr
        · cases hr
      · cases hr
    | invokestatic i =>
      dsimp only at h ⊢
      cases hac : Nat.beq tgt 9999 with
      | false =>
        rw [hac] at h
        dsimp only [cond] at h ⊢
        cases h98 : Nat.beq tgt 9998 with
        | true =>
          rw [h98] at h
          dsimp only [cond] at h ⊢
          exact hmm _ _ h
        | false =>
          rw [h98] at h
          dsimp only [cond] at h ⊢
          cases h97 : Nat.beq tgt 9997 with
          | true =>
            rw [h97] at h
            dsimp only [cond] at h ⊢
            exact hmm _ _ h
          | false =>
            rw [h97] at h
            exact hinv _ _ _ _ _ _ (fun _ _ => rfl) h
      | true =>
        rw [hac] at h
        dsimp only [cond] at h ⊢
        unfold sm_cpy at h ⊢
        split at h
        · next nc dp b sp a =>
          simp only [List.map_cons, List.map_nil, sm_cv_i, sm_cv_r]
          split at h
          · next nb hbb =>
            obtain ⟨b1, b2⟩ := harr b _ hbb
            rw [b1]
            split at h
            · next na haa =>
              obtain ⟨a1, a2⟩ := harr a _ haa
              rw [a1]
              by_cases hin : ¬ sp < 0 ∧ ¬ dp < 0 ∧ ¬ nc < 0 ∧ sp.toNatClampNeg + nc.toNatClampNeg ≤ na ∧ dp.toNatClampNeg + nc.toNatClampNeg ≤ nb
              · replace h := (sm_if_t hin).symm.trans h
                have hs := sm_stR_arr hσ hinj b2 (va_cpy (σ1 a) (σ1 b) sp.toNatClampNeg dp.toNatClampNeg nc.toNatClampNeg)
                obtain ⟨σ2', g1, g2⟩ := go2 _ _ _ _ σ2 _ h hs
                rw [← hσ.1 a _ a2, ← hσ.1 b _ b2] at g1
                exact ⟨σ2', (sm_if_t hin).trans g1, g2⟩
              · replace h := (sm_if_f hin).symm.trans h
                cases h
            · cases h
          · cases h
        · cases h
    | ireturn =>
      dsimp only at h ⊢
      split at h
      · next x =>
        split at h
        · next hrt =>
          cases h
          simp only [List.map_cons, List.map_nil, sm_cv, hrt]
          exact ⟨σ2, rfl, hσ, fun _ _ _ => rfl⟩
        · next hrt =>
          by_cases hx01 : x = 0 ∨ x = 1
          · replace h := (sm_if_t hx01).symm.trans h
            cases h
            simp only [List.map_cons, List.map_nil, sm_cv, hrt]
            exact ⟨σ2, sm_if_t hx01, hσ, fun _ _ _ => rfl⟩
          · replace h := (sm_if_f hx01).symm.trans h
            cases h
        · cases h
      · cases h
    | return_ =>
      dsimp only at h ⊢
      split at h
      · split at h
        · next hrt =>
          cases h
          simp only [List.map_nil, hrt]
          exact ⟨σ2, rfl, hσ, fun _ _ _ => rfl⟩
        · cases h
      · cases h
    | _ => cases h
end
