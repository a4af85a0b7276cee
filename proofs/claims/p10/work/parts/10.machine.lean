/-! ===== THE STORE MACHINE: ints alone change; who points where stands in a table of shapes ===== -/
abbrev sm_S : Type := Nat → Nat → Int32
def sm_set (σ : sm_S) (k : Nat) (f : Nat → Int32) : sm_S := fun a => if a = k then f else σ a
/-- a slot: inl 0 an int, inl 1 a boolean (inl of more: not to be touched); inr k the cell k -/
abbrev sm_Sl : Type := Nat ⊕ Nat
/-- a cell: inl (0 ints | 1 booleans, length); inr (class, slots) -/
abbrev sm_Sh : Type := (Nat × Nat) ⊕ (Nat × List sm_Sl)
/-- an instruction: itself, its int, its number (target, slot, callee), its count, its switch -/
abbrev sm_R : Type := Instr × Int32 × Nat × Nat × List (Int32 × Nat)
/-- a method: name, code, locals, what it answers, (frames, locals, own class, how many it takes + 100 times its object's class), instructions by pc -/
abbrev sm_M : Type := MethodName × ByteArray × Nat × Option FieldType × (Nat × Nat × Nat × Nat) × List (Nat × sm_R)
def sm_find : List (Nat × sm_R) → Nat → Option sm_R
  | [], _ => none
  | (a, r) :: t, pc => bif Nat.beq a pc then some r else sm_find t pc
def sm_pop : Nat → List Value → List Value → Option (List Value × List Value)
  | 0, acc, st => some (acc, st)
  | _ + 1, _, [] => none
  | n + 1, acc, v :: st => sm_pop n (v :: acc) st
/-- an array: its kind and length (tables stand from 1000 on) -/
def sm_arr (SH : List sm_Sh) (a : Nat) : Option (Nat × Nat) := match SH[a]? with
  | some (.inl q) => some q
  | _ => none
def sm_sw {α : Type} (br : Prop → α → α → α) (K : Nat → α) (x : Int32) (d : Nat) : List (Int32 × Nat) → α
  | [] => K d
  | (v, t) :: r => br (x = v) (K t) (sm_sw br K x d r)
def sm_cnd (c : ClassFile.Cond) (x y : Int32) : Prop := match c with
  | .eq => x = y
  | .ne => x ≠ y
  | .lt => x < y
  | .ge => y ≤ x
  | .gt => y < x
  | .le => x ≤ y
/-- what goes on behind a call that answers an int; behind one that answers nothing -/
def sm_ri {α : Type} (bad : α) (R : Int32 → sm_S → α) (r : Option Value) (σ : sm_S) : α := match r with
  | some (.int x) => R x σ
  | _ => bad
def sm_rv {α : Type} (bad : α) (R : sm_S → α) (r : Option Value) (σ : sm_S) : α := match r with
  | none => R σ
  | _ => bad
/-- the first is an object of class ci -/
def sm_rc (SH : List sm_Sh) (ci : Nat) (as : List Value) : Bool := match as with
  | .ref a :: _ => (match SH[a]? with
    | some (.inr (c, _)) => Nat.beq c ci
    | _ => false)
  | _ => false
def sm_irs : List Value → Bool
  | [] => true
  | .int _ :: t => sm_irs t
  | .ref _ :: t => sm_irs t
  | _ :: _ => false
section G
variable {α : Type} (TB : List (List Int32)) (SH : List sm_Sh) (M : sm_M) (bad : α) (need : Prop → α → α) (nam : sm_S → (sm_S → α) → α) (br : Prop → α → α → α) (call : Nat → List Value → sm_S → (Option Value → sm_S → α) → α) (ret : Option Value → sm_S → α) (K : Nat → List Value → List Value → sm_S → α)
def sm_bin (f : Int32 → Int32 → Int32) (pc : Nat) (ls st : List Value) (σ : sm_S) : α := match st with
  | .int y :: .int x :: r => K (pc + 1) ls (.int (f x y) :: r) σ
  | _ => bad
def sm_ld (pc i : Nat) (ls st : List Value) (σ : sm_S) : α := match ls[i]? with
  | some (.int x) => K pc ls (.int x :: st) σ
  | _ => bad
def sm_la (pc i : Nat) (ls st : List Value) (σ : sm_S) : α := match ls[i]? with
  | some (.ref x) => K pc ls (.ref x :: st) σ
  | _ => bad
def sm_sti (pc i : Nat) (ls st : List Value) (σ : sm_S) : α := match st with
  | .int x :: r => bif Nat.blt i ls.length then K pc (ls.set i (.int x)) r σ else bad
  | _ => bad
def sm_sta (pc i : Nat) (ls st : List Value) (σ : sm_S) : α := match st with
  | .ref x :: r => bif Nat.blt i ls.length then K pc (ls.set i (.ref x)) r σ else bad
  | _ => bad
def sm_getf (pc tgt : Nat) (ls st : List Value) (σ : sm_S) : α := match st with
  | .ref a :: r => match SH[a]? with
    | some (.inr (ci, fl)) => bif Nat.beq ci (tgt / 100) then (match fl[tgt % 100]? with
      | some (.inl t) => bif Nat.ble t 1 then K (pc + 3) ls (.int (σ a (tgt % 100)) :: r) σ else bad
      | some (.inr k) => K (pc + 3) ls (.ref k :: r) σ
      | none => bad) else bad
    | _ => bad
  | _ => bad
def sm_putf (pc tgt : Nat) (ls st : List Value) (σ : sm_S) : α := match st with
  | .int x :: .ref a :: r => match SH[a]? with
    | some (.inr (ci, fl)) => bif Nat.beq ci (tgt / 100) then (match fl[tgt % 100]? with
      | some (.inl 0) => nam (sm_set σ a (upd (σ a) (tgt % 100) x)) (fun σ' => K (pc + 3) ls r σ')
      | some (.inl 1) => need (x = 0 ∨ x = 1) (nam (sm_set σ a (upd (σ a) (tgt % 100) x)) (fun σ' => K (pc + 3) ls r σ'))
      | _ => bad) else bad
    | _ => bad
  | _ => bad
def sm_ald (ty pc : Nat) (ls st : List Value) (σ : sm_S) : α := match st with
  | .int i :: .ref a :: r => match sm_arr SH a with
    | some (t, n) => bif Nat.beq t ty then need (vp_in i n) (K (pc + 1) ls (.int (σ a i.toNatClampNeg) :: r) σ) else bad
    | none => match TB[a - 1000]? with
      | some l => bif Nat.ble 1000 a && Nat.beq ty 0 then need (vp_in i l.length) (K (pc + 1) ls (.int (l.getD i.toNatClampNeg 0) :: r) σ) else bad
      | none => bad
  | _ => bad
def sm_ast (ty pc : Nat) (ls st : List Value) (σ : sm_S) : α := match st with
  | .int x :: .int i :: .ref a :: r => match sm_arr SH a with
    | some (t, n) => bif Nat.beq t ty then need (vp_in i n) (bif Nat.beq ty 0 then nam (sm_set σ a (upd (σ a) i.toNatClampNeg x)) (fun σ' => K (pc + 1) ls r σ') else need (x = 0 ∨ x = 1) (nam (sm_set σ a (upd (σ a) i.toNatClampNeg x)) (fun σ' => K (pc + 1) ls r σ'))) else bad
    | none => bad
  | _ => bad
def sm_len (pc : Nat) (ls st : List Value) (σ : sm_S) : α := match st with
  | .ref a :: r => match sm_arr SH a with
    | some (_, n) => K (pc + 1) ls (.int (Int32.ofNat n) :: r) σ
    | none => bad
  | _ => bad
def sm_cpy (pc : Nat) (ls st : List Value) (σ : sm_S) : α := match st with
  | [.int n, .int dp, .ref b, .int sp, .ref a] => match sm_arr SH b with
    | some (0, nb) => (match sm_arr SH a with
      | some (0, na) => need (¬ sp < 0 ∧ ¬ dp < 0 ∧ ¬ n < 0 ∧ sp.toNatClampNeg + n.toNatClampNeg ≤ na ∧ dp.toNatClampNeg + n.toNatClampNeg ≤ nb) (nam (sm_set σ b (va_cpy (σ a) (σ b) sp.toNatClampNeg dp.toNatClampNeg n.toNatClampNeg)) (fun σ' => K (pc + 3) ls [] σ'))
      | _ => bad)
    | _ => bad
  | _ => bad
/-- Math.min, Math.max -/
def sm_mm (f : Int32 → Int32 → Int32) (pc : Nat) (ls st : List Value) (σ : sm_S) : α := match st with
  | .int y :: .int x :: r => bif sm_irs r && Nat.ble r.length 8 then K (pc + 3) ls (.int (f x y) :: r) σ else bad
  | _ => bad
/-- a call: 'ok' of what it takes; sw empty: it answers nothing; else an int -/
def sm_inv (ok : List Value → Bool) (pc tgt n : Nat) (sw : List (Int32 × Nat)) (ls st : List Value) (σ : sm_S) : α := match sm_pop n [] st with
  | some (as, r) => bif ok as && (sm_irs as && (sm_irs r && Nat.ble r.length 8)) then (match sw with
    | [] => call tgt as σ (sm_rv bad (fun σ' => K (pc + 3) ls r σ'))
    | _ :: _ => call tgt as σ (sm_ri bad (fun x σ' => K (pc + 3) ls (.int x :: r) σ'))) else bad
  | none => bad
/-- one instruction, whatever is made of it -/
def sm_g (pc : Nat) (ls st : List Value) (σ : sm_S) : α := match sm_find M.2.2.2.2.2 pc with
  | none => bad
  | some (ins, aux, tgt, n, sw) => match ins with
    | .iconst _ => K (pc + 1) ls (.int aux :: st) σ
    | .bipush _ => K (pc + 2) ls (.int aux :: st) σ
    | .sipush _ => K (pc + 3) ls (.int aux :: st) σ
    | .ldc_w _ => K (pc + 3) ls (.int aux :: st) σ
    | .iload i => sm_ld bad K (pc + 2) i ls st σ
    | .iload_n i => sm_ld bad K (pc + 1) i.val ls st σ
    | .aload i => sm_la bad K (pc + 2) i ls st σ
    | .aload_n i => sm_la bad K (pc + 1) i.val ls st σ
    | .istore i => sm_sti bad K (pc + 2) i ls st σ
    | .istore_n i => sm_sti bad K (pc + 1) i.val ls st σ
    | .astore i => sm_sta bad K (pc + 2) i ls st σ
    | .astore_n i => sm_sta bad K (pc + 1) i.val ls st σ
    | .iinc i _ => (match ls[i]? with
      | some (.int x) => bif Nat.blt i ls.length then K (pc + 3) (ls.set i (.int (x + aux))) st σ else bad
      | _ => bad)
    | .iadd => sm_bin bad K (fun x y => x + y) pc ls st σ
    | .isub => sm_bin bad K (fun x y => x - y) pc ls st σ
    | .imul => sm_bin bad K (fun x y => x * y) pc ls st σ
    | .iand => sm_bin bad K (fun x y => x &&& y) pc ls st σ
    | .ior => sm_bin bad K (fun x y => x ||| y) pc ls st σ
    | .ixor => sm_bin bad K (fun x y => x ^^^ y) pc ls st σ
    | .ishl => sm_bin bad K (fun x y => x <<< (y &&& 31)) pc ls st σ
    | .ishr => sm_bin bad K (fun x y => x >>> (y &&& 31)) pc ls st σ
    | .iushr => sm_bin bad K (fun x y => (x.toUInt32 >>> (y.toUInt32 &&& Int32.toUInt32 31)).toInt32) pc ls st σ
    | .idiv => (match st with
      | .int y :: .int x :: r => need (¬ y = 0) (K (pc + 1) ls (.int (x / y) :: r) σ)
      | _ => bad)
    | .irem => (match st with
      | .int y :: .int x :: r => need (¬ y = 0) (K (pc + 1) ls (.int (x - x / y * y) :: r) σ)
      | _ => bad)
    | .ineg => (match st with
      | .int x :: r => K (pc + 1) ls (.int (-x) :: r) σ
      | _ => bad)
    | .dup => (match st with
      | .int x :: r => K (pc + 1) ls (.int x :: .int x :: r) σ
      | .ref x :: r => K (pc + 1) ls (.ref x :: .ref x :: r) σ
      | _ => bad)
    | .dup2 => (match st with
      | .int i :: .ref a :: r => K (pc + 1) ls (.int i :: .ref a :: .int i :: .ref a :: r) σ
      | _ => bad)
    | .pop => (match st with
      | .int _ :: r => K (pc + 1) ls r σ
      | _ => bad)
    | .ifCond c _ => (match st with
      | .int x :: r => br (sm_cnd c x 0) (K tgt ls r σ) (K (pc + 3) ls r σ)
      | _ => bad)
    | .if_icmp c _ => (match st with
      | .int y :: .int x :: r => br (sm_cnd c x y) (K tgt ls r σ) (K (pc + 3) ls r σ)
      | _ => bad)
    | .goto _ => K tgt ls st σ
    | .tableswitch _ _ _ _ => (match st with
      | .int x :: r => sm_sw br (fun t => K t ls r σ) x tgt sw
      | _ => bad)
    | .getfield _ => sm_getf SH bad K pc tgt ls st σ
    | .putfield _ => sm_putf SH bad need nam K pc tgt ls st σ
    | .getstatic _ => K (pc + 3) ls (.ref tgt :: st) σ
    | .iaload => sm_ald TB SH bad need K 0 pc ls st σ
    | .baload => sm_ald TB SH bad need K 1 pc ls st σ
    | .iastore => sm_ast SH bad need nam K 0 pc ls st σ
    | .bastore => sm_ast SH bad need nam K 1 pc ls st σ
    | .arraylength => sm_len SH bad K pc ls st σ
    | .invokevirtual _ => sm_inv bad call K (sm_rc SH (n / 100)) pc tgt (n % 100) sw ls st σ
    | .invokestatic _ => bif Nat.beq tgt 9999 then sm_cpy SH bad need nam K pc ls st σ else bif Nat.beq tgt 9998 then sm_mm bad K (fun x y => if y < x then y else x) pc ls st σ else bif Nat.beq tgt 9997 then sm_mm bad K (fun x y => if x < y then y else x) pc ls st σ else sm_inv bad call K (fun _ => true) pc tgt n sw ls st σ
    | .ireturn => (match st with
      | [.int x] => (match M.2.2.2.1 with
        | some .int => ret (some (.int x)) σ
        | some .boolean => need (x = 0 ∨ x = 1) (ret (some (.int x)) σ)
        | _ => bad)
      | _ => bad)
    | .return_ => (match st with
      | [] => (match M.2.2.2.1 with
        | none => ret none σ
        | _ => bad)
      | _ => bad)
    | _ => bad
end G
