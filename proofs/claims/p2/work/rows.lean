section
/-! ===== THE STORE MACHINE: ints alone change; who points where stands in a table of shapes ===== -/
abbrev sm_S : Type := Nat → Nat → Int32
def sm_set (σ : sm_S) (k : Nat) (f : Nat → Int32) : sm_S := fun a => if a = k then f else σ a
/-- a slot: inl 0 an int, inl 1 a boolean (inl of more: not to be touched); inr k the cell k -/
abbrev sm_Sl : Type := Nat ⊕ Nat
/-- a cell: inl (0 ints | 1 booleans, length); inr (class, slots) -/
abbrev sm_Sh : Type := (Nat × Nat) ⊕ (Nat × List sm_Sl)
/-- an instruction: itself, its int, its number (target, slot, callee), its count, its switch -/
abbrev sm_R : Type := Instr × Int32 × Nat × Nat × List (Int32 × Nat)
/-- a method: name, code, locals, what it answers, (frames, locals, own class, how many it takes + 100 times its object's class), instructions by pc -/
abbrev sm_M : Type := MethodName × ByteArray × Nat × Option FieldType × (Nat × Nat × Nat × Nat) × List (Nat × sm_R)
def sm_find : List (Nat × sm_R) → Nat → Option sm_R
  | [], _ => none
  | (a, r) :: t, pc => bif Nat.beq a pc then some r else sm_find t pc
def sm_pop : Nat → List Value → List Value → Option (List Value × List Value)
  | 0, acc, st => some (acc, st)
  | _ + 1, _, [] => none
  | n + 1, acc, v :: st => sm_pop n (v :: acc) st
/-- an array: its kind and length (tables stand from 1000 on) -/
def sm_arr (SH : List sm_Sh) (a : Nat) : Option (Nat × Nat) := match SH[a]? with
  | some (.inl q) => some q
  | _ => none
def sm_sw {α : Type} (br : Prop → α → α → α) (K : Nat → α) (x : Int32) (d : Nat) : List (Int32 × Nat) → α
  | [] => K d
  | (v, t) :: r => br (x = v) (K t) (sm_sw br K x d r)
def sm_cnd (c : ClassFile.Cond) (x y : Int32) : Prop := match c with
  | .eq => x = y
  | .ne => x ≠ y
  | .lt => x < y
  | .ge => y ≤ x
  | .gt => y < x
  | .le => x ≤ y
/-- what goes on behind a call that answers an int; behind one that answers nothing -/
def sm_ri {α : Type} (bad : α) (R : Int32 → sm_S → α) (r : Option Value) (σ : sm_S) : α := match r with
  | some (.int x) => R x σ
  | _ => bad
def sm_rv {α : Type} (bad : α) (R : sm_S → α) (r : Option Value) (σ : sm_S) : α := match r with
  | none => R σ
  | _ => bad
/-- the first is an object of class ci -/
def sm_rc (SH : List sm_Sh) (ci : Nat) (as : List Value) : Bool := match as with
  | .ref a :: _ => (match SH[a]? with
    | some (.inr (c, _)) => Nat.beq c ci
    | _ => false)
  | _ => false
def sm_irs : List Value → Bool
  | [] => true
  | .int _ :: t => sm_irs t
  | .ref _ :: t => sm_irs t
  | _ :: _ => false
section G
variable {α : Type} (TB : List (List Int32)) (SH : List sm_Sh) (M : sm_M) (bad : α) (need : Prop → α → α) (nam : sm_S → (sm_S → α) → α) (br : Prop → α → α → α) (call : Nat → List Value → sm_S → (Option Value → sm_S → α) → α) (ret : Option Value → sm_S → α) (K : Nat → List Value → List Value → sm_S → α)
def sm_bin (f : Int32 → Int32 → Int32) (pc : Nat) (ls st : List Value) (σ : sm_S) : α := match st with
  | .int y :: .int x :: r => K (pc + 1) ls (.int (f x y) :: r) σ
  | _ => bad
def sm_ld (pc i : Nat) (ls st : List Value) (σ : sm_S) : α := match ls[i]? with
  | some (.int x) => K pc ls (.int x :: st) σ
  | _ => bad
def sm_la (pc i : Nat) (ls st : List Value) (σ : sm_S) : α := match ls[i]? with
  | some (.ref x) => K pc ls (.ref x :: st) σ
  | _ => bad
def sm_sti (pc i : Nat) (ls st : List Value) (σ : sm_S) : α := match st with
  | .int x :: r => bif Nat.blt i ls.length then K pc (ls.set i (.int x)) r σ else bad
  | _ => bad
def sm_sta (pc i : Nat) (ls st : List Value) (σ : sm_S) : α := match st with
  | .ref x :: r => bif Nat.blt i ls.length then K pc (ls.set i (.ref x)) r σ else bad
  | _ => bad
def sm_getf (pc tgt : Nat) (ls st : List Value) (σ : sm_S) : α := match st with
  | .ref a :: r => match SH[a]? with
    | some (.inr (ci, fl)) => bif Nat.beq ci (tgt / 100) then (match fl[tgt % 100]? with
      | some (.inl t) => bif Nat.ble t 1 then K (pc + 3) ls (.int (σ a (tgt % 100)) :: r) σ else bad
      | some (.inr k) => K (pc + 3) ls (.ref k :: r) σ
      | none => bad) else bad
    | _ => bad
  | _ => bad
def sm_putf (pc tgt : Nat) (ls st : List Value) (σ : sm_S) : α := match st with
  | .int x :: .ref a :: r => match SH[a]? with
    | some (.inr (ci, fl)) => bif Nat.beq ci (tgt / 100) then (match fl[tgt % 100]? with
      | some (.inl 0) => nam (sm_set σ a (upd (σ a) (tgt % 100) x)) (fun σ' => K (pc + 3) ls r σ')
      | some (.inl 1) => need (x = 0 ∨ x = 1) (nam (sm_set σ a (upd (σ a) (tgt % 100) x)) (fun σ' => K (pc + 3) ls r σ'))
      | _ => bad) else bad
    | _ => bad
  | _ => bad
def sm_ald (ty pc : Nat) (ls st : List Value) (σ : sm_S) : α := match st with
  | .int i :: .ref a :: r => match sm_arr SH a with
    | some (t, n) => bif Nat.beq t ty then need (vp_in i n) (K (pc + 1) ls (.int (σ a i.toNatClampNeg) :: r) σ) else bad
    | none => match TB[a - 1000]? with
      | some l => bif Nat.ble 1000 a && Nat.beq ty 0 then need (vp_in i l.length) (K (pc + 1) ls (.int (l.getD i.toNatClampNeg 0) :: r) σ) else bad
      | none => bad
  | _ => bad
def sm_ast (ty pc : Nat) (ls st : List Value) (σ : sm_S) : α := match st with
  | .int x :: .int i :: .ref a :: r => match sm_arr SH a with
    | some (t, n) => bif Nat.beq t ty then need (vp_in i n) (bif Nat.beq ty 0 then nam (sm_set σ a (upd (σ a) i.toNatClampNeg x)) (fun σ' => K (pc + 1) ls r σ') else need (x = 0 ∨ x = 1) (nam (sm_set σ a (upd (σ a) i.toNatClampNeg x)) (fun σ' => K (pc + 1) ls r σ'))) else bad
    | none => bad
  | _ => bad
def sm_len (pc : Nat) (ls st : List Value) (σ : sm_S) : α := match st with
  | .ref a :: r => match sm_arr SH a with
    | some (_, n) => K (pc + 1) ls (.int (Int32.ofNat n) :: r) σ
    | none => bad
  | _ => bad
def sm_cpy (pc : Nat) (ls st : List Value) (σ : sm_S) : α := match st with
  | [.int n, .int dp, .ref b, .int sp, .ref a] => match sm_arr SH b with
    | some (0, nb) => (match sm_arr SH a with
      | some (0, na) => need (¬ sp < 0 ∧ ¬ dp < 0 ∧ ¬ n < 0 ∧ sp.toNatClampNeg + n.toNatClampNeg ≤ na ∧ dp.toNatClampNeg + n.toNatClampNeg ≤ nb) (nam (sm_set σ b (va_cpy (σ a) (σ b) sp.toNatClampNeg dp.toNatClampNeg n.toNatClampNeg)) (fun σ' => K (pc + 3) ls [] σ'))
      | _ => bad)
    | _ => bad
  | _ => bad
/-- Math.min, Math.max -/
def sm_mm (f : Int32 → Int32 → Int32) (pc : Nat) (ls st : List Value) (σ : sm_S) : α := match st with
  | .int y :: .int x :: r => bif sm_irs r && Nat.ble r.length 8 then K (pc + 3) ls (.int (f x y) :: r) σ else bad
  | _ => bad
/-- a call: 'ok' of what it takes; sw empty: it answers nothing; else an int -/
def sm_inv (ok : List Value → Bool) (pc tgt n : Nat) (sw : List (Int32 × Nat)) (ls st : List Value) (σ : sm_S) : α := match sm_pop n [] st with
  | some (as, r) => bif ok as && (sm_irs as && (sm_irs r && Nat.ble r.length 8)) then (match sw with
    | [] => call tgt as σ (sm_rv bad (fun σ' => K (pc + 3) ls r σ'))
    | _ :: _ => call tgt as σ (sm_ri bad (fun x σ' => K (pc + 3) ls (.int x :: r) σ'))) else bad
  | none => bad
/-- one instruction, whatever is made of it -/
def sm_g (pc : Nat) (ls st : List Value) (σ : sm_S) : α := match sm_find M.2.2.2.2.2 pc with
  | none => bad
  | some (ins, aux, tgt, n, sw) => match ins with
    | .iconst _ => K (pc + 1) ls (.int aux :: st) σ
    | .bipush _ => K (pc + 2) ls (.int aux :: st) σ
    | .sipush _ => K (pc + 3) ls (.int aux :: st) σ
    | .ldc_w _ => K (pc + 3) ls (.int aux :: st) σ
    | .iload i => sm_ld bad K (pc + 2) i ls st σ
    | .iload_n i => sm_ld bad K (pc + 1) i.val ls st σ
    | .aload i => sm_la bad K (pc + 2) i ls st σ
    | .aload_n i => sm_la bad K (pc + 1) i.val ls st σ
    | .istore i => sm_sti bad K (pc + 2) i ls st σ
    | .istore_n i => sm_sti bad K (pc + 1) i.val ls st σ
    | .astore i => sm_sta bad K (pc + 2) i ls st σ
    | .astore_n i => sm_sta bad K (pc + 1) i.val ls st σ
    | .iinc i _ => (match ls[i]? with
      | some (.int x) => bif Nat.blt i ls.length then K (pc + 3) (ls.set i (.int (x + aux))) st σ else bad
      | _ => bad)
    | .iadd => sm_bin bad K (fun x y => x + y) pc ls st σ
    | .isub => sm_bin bad K (fun x y => x - y) pc ls st σ
    | .imul => sm_bin bad K (fun x y => x * y) pc ls st σ
    | .iand => sm_bin bad K (fun x y => x &&& y) pc ls st σ
    | .ior => sm_bin bad K (fun x y => x ||| y) pc ls st σ
    | .ixor => sm_bin bad K (fun x y => x ^^^ y) pc ls st σ
    | .ishl => sm_bin bad K (fun x y => x <<< (y &&& 31)) pc ls st σ
    | .ishr => sm_bin bad K (fun x y => x >>> (y &&& 31)) pc ls st σ
    | .iushr => sm_bin bad K (fun x y => (x.toUInt32 >>> (y.toUInt32 &&& Int32.toUInt32 31)).toInt32) pc ls st σ
    | .idiv => (match st with
      | .int y :: .int x :: r => need (¬ y = 0) (K (pc + 1) ls (.int (x / y) :: r) σ)
      | _ => bad)
    | .irem => (match st with
      | .int y :: .int x :: r => need (¬ y = 0) (K (pc + 1) ls (.int (x - x / y * y) :: r) σ)
      | _ => bad)
    | .ineg => (match st with
      | .int x :: r => K (pc + 1) ls (.int (-x) :: r) σ
      | _ => bad)
    | .dup => (match st with
      | .int x :: r => K (pc + 1) ls (.int x :: .int x :: r) σ
      | .ref x :: r => K (pc + 1) ls (.ref x :: .ref x :: r) σ
      | _ => bad)
    | .dup2 => (match st with
      | .int i :: .ref a :: r => K (pc + 1) ls (.int i :: .ref a :: .int i :: .ref a :: r) σ
      | _ => bad)
    | .pop => (match st with
      | .int _ :: r => K (pc + 1) ls r σ
      | _ => bad)
    | .ifCond c _ => (match st with
      | .int x :: r => br (sm_cnd c x 0) (K tgt ls r σ) (K (pc + 3) ls r σ)
      | _ => bad)
    | .if_icmp c _ => (match st with
      | .int y :: .int x :: r => br (sm_cnd c x y) (K tgt ls r σ) (K (pc + 3) ls r σ)
      | _ => bad)
    | .goto _ => K tgt ls st σ
    | .tableswitch _ _ _ _ => (match st with
      | .int x :: r => sm_sw br (fun t => K t ls r σ) x tgt sw
      | _ => bad)
    | .getfield _ => sm_getf SH bad K pc tgt ls st σ
    | .putfield _ => sm_putf SH bad need nam K pc tgt ls st σ
    | .getstatic _ => K (pc + 3) ls (.ref tgt :: st) σ
    | .iaload => sm_ald TB SH bad need K 0 pc ls st σ
    | .baload => sm_ald TB SH bad need K 1 pc ls st σ
    | .iastore => sm_ast SH bad need nam K 0 pc ls st σ
    | .bastore => sm_ast SH bad need nam K 1 pc ls st σ
    | .arraylength => sm_len SH bad K pc ls st σ
    | .invokevirtual _ => sm_inv bad call K (sm_rc SH (n / 100)) pc tgt (n % 100) sw ls st σ
    | .invokestatic _ => bif Nat.beq tgt 9999 then sm_cpy SH bad need nam K pc ls st σ else bif Nat.beq tgt 9998 then sm_mm bad K (fun x y => if y < x then y else x) pc ls st σ else bif Nat.beq tgt 9997 then sm_mm bad K (fun x y => if x < y then y else x) pc ls st σ else sm_inv bad call K (fun _ => true) pc tgt n sw ls st σ
    | .ireturn => (match st with
      | [.int x] => (match M.2.2.2.1 with
        | some .int => ret (some (.int x)) σ
        | some .boolean => need (x = 0 ∨ x = 1) (ret (some (.int x)) σ)
        | _ => bad)
      | _ => bad)
    | .return_ => (match st with
      | [] => (match M.2.2.2.1 with
        | none => ret none σ
        | _ => bad)
      | _ => bad)
    | _ => bad
end G
end
section
/-! ===== two makings of one instruction, side by side ===== -/
section PAR
variable {α β : Type} {TB : List (List Int32)} {SH : List sm_Sh} {M : sm_M} {bad : α} {need : Prop → α → α} {nam : sm_S → (sm_S → α) → α} {br : Prop → α → α → α} {call : Nat → List Value → sm_S → (Option Value → sm_S → α) → α} {ret : Option Value → sm_S → α} {K : Nat → List Value → List Value → sm_S → α}
  {bad' : β} {need' : Prop → β → β} {nam' : sm_S → (sm_S → β) → β} {br' : Prop → β → β → β} {call' : Nat → List Value → sm_S → (Option Value → sm_S → β) → β} {ret' : Option Value → sm_S → β} {K' : Nat → List Value → List Value → sm_S → β}
theorem sm_sw_par (ρ : α → β → Prop) (hbr : ∀ c a a' b b', ρ a b → ρ a' b' → ρ (br c a a') (br' c b b')) {J : Nat → α} {J' : Nat → β} (hJ : ∀ t, ρ (J t) (J' t)) (x : Int32) (d : Nat) : ∀ sw : List (Int32 × Nat), ρ (sm_sw br J x d sw) (sm_sw br' J' x d sw)
  | [] => hJ d
  | (v, t) :: r => hbr _ _ _ _ _ (hJ t) (sm_sw_par ρ hbr hJ x d r)
set_option maxHeartbeats 4000000 in
theorem sm_g_par (ρ : α → β → Prop) (hbad : ρ bad bad') (hneed : ∀ c a b, ρ a b → ρ (need c a) (need' c b)) (hnam : ∀ σ k k', (∀ σ', ρ (k σ') (k' σ')) → ρ (nam σ k) (nam' σ k')) (hbr : ∀ c a a' b b', ρ a b → ρ a' b' → ρ (br c a a') (br' c b b'))
    (hcall : ∀ j as σ k k', (∀ r σ', ρ (k r σ') (k' r σ')) → ρ (call j as σ k) (call' j as σ k')) (hret : ∀ r σ, ρ (ret r σ) (ret' r σ)) (hK : ∀ pc ls st σ, ρ (K pc ls st σ) (K' pc ls st σ)) (pc : Nat) (ls st : List Value) (σ : sm_S) :
    ρ (sm_g TB SH M bad need nam br call ret K pc ls st σ) (sm_g TB SH M bad' need' nam' br' call' ret' K' pc ls st σ) := by
  have hc : ∀ (b : Bool) (x x' : α) (z z' : β), ρ x z → ρ x' z' → ρ (bif b then x else x') (bif b then z else z') := fun b x x' z z' h h' => by cases b <;> assumption
  have hri : ∀ (R : Int32 → sm_S → α) (R' : Int32 → sm_S → β), (∀ x σ', ρ (R x σ') (R' x σ')) → ∀ r σ', ρ (sm_ri bad R r σ') (sm_ri bad' R' r σ') := fun R R' h r σ' => by unfold sm_ri; split <;> first | exact h _ _ | exact hbad
  have hrv : ∀ (R : sm_S → α) (R' : sm_S → β), (∀ σ', ρ (R σ') (R' σ')) → ∀ r σ', ρ (sm_rv bad R r σ') (sm_rv bad' R' r σ') := fun R R' h r σ' => by unfold sm_rv; split <;> first | exact h _ | exact hbad
  have hN : ∀ pc ls st σ, ρ (nam σ (fun σ' => K pc ls st σ')) (nam' σ (fun σ' => K' pc ls st σ')) := fun pc ls st σ => hnam _ _ _ (fun _ => hK _ _ _ _)
  have hI : ∀ ok pc tgt n sw ls st σ, ρ (sm_inv bad call K ok pc tgt n sw ls st σ) (sm_inv bad' call' K' ok pc tgt n sw ls st σ) := fun ok pc tgt n sw ls st σ => by
    unfold sm_inv
    split
    · refine hc _ _ _ _ _ ?_ hbad
      split
      · exact hcall _ _ _ _ _ (hrv _ _ (fun _ => hK _ _ _ _))
      · exact hcall _ _ _ _ _ (hri _ _ (fun _ _ => hK _ _ _ _))
    · exact hbad
  unfold sm_g
  split
  · exact hbad
  · split
    all_goals first
      | exact hbad
      | exact hK _ _ _ _
      | exact hret _ _
      | (unfold sm_ld; split <;> first | exact hK _ _ _ _ | exact hbad)
      | (unfold sm_la; split <;> first | exact hK _ _ _ _ | exact hbad)
      | (unfold sm_bin; split <;> first | exact hK _ _ _ _ | exact hbad)
      | (unfold sm_sti; split <;> first | exact hbad | exact hc _ _ _ _ _ (hK _ _ _ _) hbad)
      | (unfold sm_sta; split <;> first | exact hbad | exact hc _ _ _ _ _ (hK _ _ _ _) hbad)
      | exact hI _ _ _ _ _ _ _ _
      | (split <;> first | exact hbad | exact hK _ _ _ _ | exact hc _ _ _ _ _ (hK _ _ _ _) hbad | exact hneed _ _ _ (hK _ _ _ _) | exact hbr _ _ _ _ _ (hK _ _ _ _) (hK _ _ _ _) | exact sm_sw_par ρ hbr (fun t => hK _ _ _ _) _ _ _ | (split <;> first | exact hret _ _ | exact hneed _ _ _ (hret _ _) | exact hbad))
      | (unfold sm_getf; split <;> first | exact hbad | (split <;> first | exact hbad | (refine hc _ _ _ _ _ ?_ hbad; split <;> first | exact hbad | exact hK _ _ _ _ | exact hc _ _ _ _ _ (hK _ _ _ _) hbad)))
      | (unfold sm_putf; split <;> first | exact hbad | (split <;> first | exact hbad | (refine hc _ _ _ _ _ ?_ hbad; split <;> first | exact hbad | exact hN _ _ _ _ | exact hneed _ _ _ (hN _ _ _ _))))
      | (unfold sm_ald; split <;> first | exact hbad | (split <;> first | exact hc _ _ _ _ _ (hneed _ _ _ (hK _ _ _ _)) hbad | (split <;> first | exact hbad | exact hc _ _ _ _ _ (hneed _ _ _ (hK _ _ _ _)) hbad)))
      | (unfold sm_ast; split <;> first | exact hbad | (split <;> first | exact hbad | exact hc _ _ _ _ _ (hneed _ _ _ (hc _ _ _ _ _ (hN _ _ _ _) (hneed _ _ _ (hN _ _ _ _)))) hbad))
      | (unfold sm_len; split <;> first | exact hbad | (split <;> first | exact hK _ _ _ _ | exact hbad))
      | (refine hc _ _ _ _ _ ?_ ?_
         · unfold sm_cpy; split <;> first | exact hbad | (split <;> first | exact hbad | (split <;> first | exact hbad | exact hneed _ _ _ (hN _ _ _ _)))
         · refine hc _ _ _ _ _ ?_ (hc _ _ _ _ _ ?_ (hI _ _ _ _ _ _ _ _))
           · unfold sm_mm; split <;> first | exact hbad | exact hc _ _ _ _ _ (hK _ _ _ _) hbad
           · unfold sm_mm; split <;> first | exact hbad | exact hc _ _ _ _ _ (hK _ _ _ _) hbad)
end PAR
end
section
/-! ===== what it comes to (sm_run), that it comes to something good (sm_E, sm_C), and how that is shown (sm_wp) ===== -/
def sm_ent (M : sm_M) (as : List Value) : List Value := as ++ List.replicate (M.2.2.1 - as.length) .null
noncomputable def sm_if {α : Type} (c : Prop) (a b : α) : α := @ite α c (Classical.propDecidable c) a b
theorem sm_if_t {α : Type} {c : Prop} {a b : α} (h : c) : sm_if c a b = a := if_pos h
theorem sm_if_f {α : Type} {c : Prop} {a b : α} (h : ¬ c) : sm_if c a b = b := if_neg h
abbrev sm_X : Type := Option (Option Value × sm_S)
noncomputable def sm_cll (MS : List sm_M) (run : sm_M → Nat → List Value → List Value → sm_S → sm_X) (j : Nat) (as : List Value) (σ : sm_S) (k : Option Value → sm_S → sm_X) : sm_X := match MS[j]? with
  | none => none
  | some M' => match run M' 0 (sm_ent M' as) [] σ with
    | none => none
    | some (r, σ') => k r σ'
noncomputable def sm_run (TB : List (List Int32)) (MS : List sm_M) (SH : List sm_Sh) : Nat → sm_M → Nat → List Value → List Value → sm_S → sm_X
  | 0, _, _, _, _, _ => none
  | n + 1, M, pc, ls, st, σ => sm_g TB SH M none (fun c a => sm_if c a none) (fun σ k => k σ) (fun c a b => sm_if c a b)
      (sm_cll MS (sm_run TB MS SH n)) (fun r σ => some (r, σ)) (fun pc ls st σ => sm_run TB MS SH n M pc ls st σ) pc ls st σ
section RUN
variable {TB : List (List Int32)} {MS : List sm_M} {SH : List sm_Sh}
/-- more steps change nothing -/
theorem sm_run_up : ∀ (n : Nat) (M : sm_M) (pc : Nat) (ls st : List Value) (σ : sm_S) (x : Option Value × sm_S), sm_run TB MS SH n M pc ls st σ = some x → sm_run TB MS SH (n + 1) M pc ls st σ = some x
  | 0, _, _, _, _, _, _, h => by cases h
  | n + 1, M, pc, ls, st, σ, x, h => by
    have ih := sm_run_up n
    have key := sm_g_par (TB := TB) (SH := SH) (M := M) (ρ := fun (a b : sm_X) => ∀ x, a = some x → b = some x)
      (bad := none) (need := fun c a => sm_if c a none) (nam := fun σ k => k σ) (br := fun c a b => sm_if c a b) (call := sm_cll MS (sm_run TB MS SH n)) (ret := fun r σ => some (r, σ)) (K := fun pc ls st σ => sm_run TB MS SH n M pc ls st σ)
      (bad' := none) (need' := fun c a => sm_if c a none) (nam' := fun σ k => k σ) (br' := fun c a b => sm_if c a b) (call' := sm_cll MS (sm_run TB MS SH (n + 1))) (ret' := fun r σ => some (r, σ)) (K' := fun pc ls st σ => sm_run TB MS SH (n + 1) M pc ls st σ)
      (fun _ h => h) (fun c a b hab x h => by
        by_cases hc : c
        · rw [sm_if_t hc] at h ⊢; exact hab x h
        · rw [sm_if_f hc] at h; cases h)
      (fun σ k k' hk x h => hk σ x h)
      (fun c a a' b b' h1 h2 x h => by
        by_cases hc : c
        · rw [sm_if_t hc] at h ⊢; exact h1 x h
        · rw [sm_if_f hc] at h ⊢; exact h2 x h)
      (fun j as σ k k' hk x h => by
        unfold sm_cll at h ⊢
        split at h
        · cases h
        · next M' hM =>
          split at h
          · cases h
          · next r σ' hr =>
            simp only [ih _ _ _ _ _ _ hr]
            exact hk r σ' x h)
      (fun _ _ _ h => h) (fun _ _ _ _ _ h => ih _ _ _ _ _ _ h) pc ls st σ
    exact key x h
theorem sm_run_le {n n' : Nat} (hn : n ≤ n') {M : sm_M} {pc : Nat} {ls st : List Value} {σ : sm_S} {x : Option Value × sm_S} (h : sm_run TB MS SH n M pc ls st σ = some x) : sm_run TB MS SH n' M pc ls st σ = some x := by
  induction hn with
  | refl => exact h
  | step _ ih => exact sm_run_up _ _ _ _ _ _ _ ih
end RUN
/-- from here the method comes to an end, with Q -/
def sm_E (TB : List (List Int32)) (MS : List sm_M) (SH : List sm_Sh) (M : sm_M) (pc : Nat) (ls st : List Value) (σ : sm_S) (Q : Option Value → sm_S → Prop) : Prop :=
  ∃ n r σ', sm_run TB MS SH n M pc ls st σ = some (r, σ') ∧ Q r σ'
/-- the call of method j comes to an end, with Q -/
def sm_C (TB : List (List Int32)) (MS : List sm_M) (SH : List sm_Sh) (j : Nat) (as : List Value) (σ : sm_S) (Q : Option Value → sm_S → Prop) : Prop :=
  ∃ M, MS[j]? = some M ∧ sm_E TB MS SH M 0 (sm_ent M as) [] σ Q
section EC
variable {TB : List (List Int32)} {MS : List sm_M} {SH : List sm_Sh} {M : sm_M} {pc j : Nat} {ls st as : List Value} {σ : sm_S} {Q Q' : Option Value → sm_S → Prop}
theorem sm_E.mono (h : sm_E TB MS SH M pc ls st σ Q) (hq : ∀ r σ', Q r σ' → Q' r σ') : sm_E TB MS SH M pc ls st σ Q' := by
  obtain ⟨n, r, σ', h1, h2⟩ := h
  exact ⟨n, r, σ', h1, hq _ _ h2⟩
theorem sm_E.and (h : sm_E TB MS SH M pc ls st σ Q) (h' : sm_E TB MS SH M pc ls st σ Q') : sm_E TB MS SH M pc ls st σ (fun r σ' => Q r σ' ∧ Q' r σ') := by
  obtain ⟨n, r, σ', h1, h2⟩ := h
  obtain ⟨m, r2, σ2, h3, h4⟩ := h'
  have e1 := sm_run_le (Nat.le_add_right n m) h1
  have e2 := sm_run_le (Nat.le_add_left m n) h3
  rw [e1] at e2
  cases e2
  exact ⟨n, r, σ', h1, h2, h4⟩
theorem sm_C.mono (h : sm_C TB MS SH j as σ Q) (hq : ∀ r σ', Q r σ' → Q' r σ') : sm_C TB MS SH j as σ Q' := by
  obtain ⟨M, h1, h2⟩ := h
  exact ⟨M, h1, h2.mono hq⟩
theorem sm_C.and (h : sm_C TB MS SH j as σ Q) (h' : sm_C TB MS SH j as σ Q') : sm_C TB MS SH j as σ (fun r σ' => Q r σ' ∧ Q' r σ') := by
  obtain ⟨M, h1, h2⟩ := h
  obtain ⟨M', h3, h4⟩ := h'
  rw [h1] at h3
  cases h3
  exact ⟨M, h1, h2.and h4⟩
end EC
/-- it answers an int, with P; it answers nothing, with P -/
def sm_I (P : Int32 → sm_S → Prop) (r : Option Value) (σ : sm_S) : Prop := ∃ x, r = some (.int x) ∧ P x σ
def sm_V (P : sm_S → Prop) (r : Option Value) (σ : sm_S) : Prop := r = none ∧ P σ
theorem sm_C.int {TB : List (List Int32)} {MS : List sm_M} {SH : List sm_Sh} {j : Nat} {as : List Value} {σ : sm_S} {P R : Int32 → sm_S → Prop} (h : sm_C TB MS SH j as σ (sm_I P)) (k : ∀ x σ', P x σ' → R x σ') : sm_C TB MS SH j as σ (sm_ri False R) :=
  h.mono (by rintro r σ' ⟨x, rfl, hx⟩; exact k x σ' hx)
theorem sm_C.void {TB : List (List Int32)} {MS : List sm_M} {SH : List sm_Sh} {j : Nat} {as : List Value} {σ : sm_S} {P R : sm_S → Prop} (h : sm_C TB MS SH j as σ (sm_V P)) (k : ∀ σ', P σ' → R σ') : sm_C TB MS SH j as σ (sm_rv False R) :=
  h.mono (by rintro r σ' ⟨rfl, hx⟩; exact k σ' hx)
def sm_mem : List Nat → Nat → Bool
  | [], _ => false
  | a :: t, x => bif Nat.beq a x then true else sm_mem t x
/-- enough for sm_E: n instructions further, or up to the first place in cs, or to the end -/
def sm_wp (TB : List (List Int32)) (MS : List sm_M) (SH : List sm_Sh) (cs : List Nat) : Nat → sm_M → Nat → List Value → List Value → sm_S → (Option Value → sm_S → Prop) → Prop
  | 0, M, pc, ls, st, σ, Q => sm_E TB MS SH M pc ls st σ Q
  | n + 1, M, pc, ls, st, σ, Q => sm_g TB SH M False (fun c a => c ∧ a) (fun σ k => ∀ σ', σ' = σ → k σ') (fun c a b => (c → a) ∧ (¬ c → b))
      (fun j as σ k => sm_C TB MS SH j as σ k) (fun r σ => Q r σ)
      (fun pc ls st σ => bif sm_mem cs pc then sm_E TB MS SH M pc ls st σ Q else sm_wp TB MS SH cs n M pc ls st σ Q) pc ls st σ
section WP
variable {TB : List (List Int32)} {MS : List sm_M} {SH : List sm_Sh}
/-- A is enough for the runs B to come to Q -/
def sm_Rel (Q : Option Value → sm_S → Prop) (A : Prop) (B : Nat → sm_X) : Prop := A → ∃ n r σ', (∀ n', n ≤ n' → B n' = some (r, σ')) ∧ Q r σ'
theorem sm_wp_E (cs : List Nat) : ∀ (n : Nat) {M : sm_M} {pc : Nat} {ls st : List Value} {σ : sm_S} {Q : Option Value → sm_S → Prop}, sm_wp TB MS SH cs n M pc ls st σ Q → sm_E TB MS SH M pc ls st σ Q
  | 0, _, _, _, _, _, _, h => h
  | n + 1, M, pc, ls, st, σ, Q, h => by
    have ih := fun {pc : Nat} {ls st : List Value} {σ : sm_S} => sm_wp_E cs n (M := M) (pc := pc) (ls := ls) (st := st) (σ := σ) (Q := Q)
    have key := sm_g_par (TB := TB) (SH := SH) (M := M) (ρ := sm_Rel Q)
      (bad := False) (need := fun c a => c ∧ a) (nam := fun σ k => ∀ σ', σ' = σ → k σ') (br := fun c a b => (c → a) ∧ (¬ c → b)) (call := fun j as σ k => sm_C TB MS SH j as σ k) (ret := fun r σ => Q r σ) (K := fun pc ls st σ => bif sm_mem cs pc then sm_E TB MS SH M pc ls st σ Q else sm_wp TB MS SH cs n M pc ls st σ Q)
      (bad' := fun _ => none) (need' := fun c a n => sm_if c (a n) none) (nam' := fun σ k => k σ) (br' := fun c a b n => sm_if c (a n) (b n)) (call' := fun j as σ k n => sm_cll MS (sm_run TB MS SH n) j as σ (fun r σ' => k r σ' n)) (ret' := fun r σ _ => some (r, σ)) (K' := fun pc ls st σ n => sm_run TB MS SH n M pc ls st σ)
      (fun h => h.elim) (fun c a b hab h => by
        obtain ⟨hc, ha⟩ := h
        obtain ⟨n, r, σ', h1, h2⟩ := hab ha
        exact ⟨n, r, σ', fun n' hn => (sm_if_t hc).trans (h1 n' hn), h2⟩)
      (fun σ k k' hk h => hk σ (h σ rfl))
      (fun c a a' b b' h1 h2 h => by
        by_cases hc : c
        · obtain ⟨n, r, σ', g1, g2⟩ := h1 (h.1 hc)
          exact ⟨n, r, σ', fun n' hn => (sm_if_t hc).trans (g1 n' hn), g2⟩
        · obtain ⟨n, r, σ', g1, g2⟩ := h2 (h.2 hc)
          exact ⟨n, r, σ', fun n' hn => (sm_if_f hc).trans (g1 n' hn), g2⟩)
      (fun j as σ k k' hk h => by
        obtain ⟨M', hM, n1, r1, σ1, g1, g2⟩ := h
        obtain ⟨n2, r, σ', g3, g4⟩ := hk r1 σ1 g2
        refine ⟨n1 + n2, r, σ', fun n' hn => ?_, g4⟩
        unfold sm_cll
        simp only [hM, sm_run_le (show n1 ≤ n' by omega) g1]
        exact g3 n' (by omega))
      (fun r σ h => ⟨0, r, σ, fun _ _ => rfl, h⟩)
      (fun pc ls st σ h => by
        have hE : sm_E TB MS SH M pc ls st σ Q := by
          revert h
          cases sm_mem cs pc
          · exact fun h => ih h
          · exact fun h => h
        obtain ⟨n, r, σ', g1, g2⟩ := hE
        exact ⟨n, r, σ', fun n' hn => sm_run_le hn g1, g2⟩) pc ls st σ
    obtain ⟨n1, r, σ', h1, h2⟩ := key h
    have eq := sm_g_par (TB := TB) (SH := SH) (M := M) (ρ := fun (a : Nat → sm_X) (b : sm_X) => a n1 = b)
      (bad := fun _ => none) (need := fun c a n => sm_if c (a n) none) (nam := fun σ k => k σ) (br := fun c a b n => sm_if c (a n) (b n)) (call := fun j as σ k n => sm_cll MS (sm_run TB MS SH n) j as σ (fun r σ' => k r σ' n)) (ret := fun r σ _ => some (r, σ)) (K := fun pc ls st σ n => sm_run TB MS SH n M pc ls st σ)
      (bad' := none) (need' := fun c a => sm_if c a none) (nam' := fun σ k => k σ) (br' := fun c a b => sm_if c a b) (call' := sm_cll MS (sm_run TB MS SH n1)) (ret' := fun r σ => some (r, σ)) (K' := fun pc ls st σ => sm_run TB MS SH n1 M pc ls st σ)
      rfl (fun c a b h => by simp only [h]) (fun σ k k' h => h σ) (fun c a a' b b' h1 h2 => by simp only [h1, h2])
      (fun j as σ k k' h => by
        show sm_cll MS (sm_run TB MS SH n1) j as σ (fun r σ' => k r σ' n1) = _
        congr 1
        funext r σ'
        exact h r σ') (fun _ _ => rfl) (fun _ _ _ _ => rfl) pc ls st σ
    exact ⟨n1 + 1, r, σ', eq.symm.trans (h1 n1 (Nat.le_refl n1)), h2⟩
/-- a call, by its method's instructions -/
theorem sm_wp_C {j : Nat} {M : sm_M} (hj : MS[j]? = some M) (cs : List Nat) (n : Nat) {as : List Value} {σ : sm_S} {Q : Option Value → sm_S → Prop} (h : sm_wp TB MS SH cs n M 0 (sm_ent M as) [] σ Q) : sm_C TB MS SH j as σ Q := ⟨M, hj, sm_wp_E cs n h⟩
end WP
end
section
def RX0 : String := "SpansAway$Blocks"
def TX0 : u_T := fun k => match k with
  | 0 => ("SpansAway$Blocks", "first", "[I", true)
  | 1 => ("SpansAway$Blocks", "order", "[I", true)
  | 2 => ("SpansAway$Blocks", "kind", "[I", true)
  | 3 => ("SpansAway$Blocks", "owner", "[I", true)
  | 4 => ("SpansAway$Blocks", "pins", "[I", true)
  | 5 => ("SpansAway$Blocks", "target", "[I", true)
  | 6 => ("SpansAway$Blocks", "copied", "[I", true)
  | 7 => ("SpansAway$Blocks", "used", "[I", true)
  | _ => ("SpansAway$Blocks", "uses", "I", false)
def tyX0 : Nat → FieldType := fun k => match k with
  | 0 => .array .int
  | 1 => .array .int
  | 2 => .array .int
  | 3 => .array .int
  | 4 => .array .int
  | 5 => .array .int
  | 6 => .array .int
  | 7 => .array .int
  | _ => .int
abbrev wsX00 : List Cond := u_ws RX0 TX0 9
theorem nmX0 : ∀ a, a < 9 → ∀ b, b < 9 → a ≠ b → (TX0 a).2.1 ≠ (TX0 b).2.1 := by decide +kernel
theorem tyX0_ok : ∀ k, k < 9 → parseFieldDescriptor (TX0 k).2.2.1 = some (tyX0 k) := by decide +kernel
def RX1 : String := "SpansAway$Frames"
def TX1 : u_T := fun k => match k with
  | 0 => ("SpansAway$Frames", "free", "[I", true)
  | 1 => ("SpansAway$Frames", "apart", "[I", true)
  | 2 => ("SpansAway$Frames", "taken", "[I", true)
  | 3 => ("SpansAway$Frames", "held", "[I", true)
  | 4 => ("SpansAway$Frames", "blockOf", "[I", true)
  | _ => ("SpansAway$Frames", "value", "[I", true)
def tyX1 : Nat → FieldType := fun k => match k with
  | 0 => .array .int
  | 1 => .array .int
  | 2 => .array .int
  | 3 => .array .int
  | 4 => .array .int
  | _ => .array .int
abbrev wsX10 : List Cond := u_ws RX1 TX1 6
theorem nmX1 : ∀ a, a < 6 → ∀ b, b < 6 → a ≠ b → (TX1 a).2.1 ≠ (TX1 b).2.1 := by decide +kernel
theorem tyX1_ok : ∀ k, k < 6 → parseFieldDescriptor (TX1 k).2.2.1 = some (tyX1 k) := by decide +kernel
def RX2 : String := "SpansAway$Going"
def TX2 : u_T := fun k => match k with
  | 0 => ("SpansAway$Going", "memory", "LSpansAway$Memory;", true)
  | 1 => ("SpansAway$Going", "frames", "LSpansAway$Frames;", true)
  | 2 => ("SpansAway$Going", "blocks", "LSpansAway$Blocks;", true)
  | _ => ("SpansAway$Going", "spans", "LSpansAway$Spans;", true)
def tyX2 : Nat → FieldType := fun k => match k with
  | 0 => .object "SpansAway$Memory"
  | 1 => .object "SpansAway$Frames"
  | 2 => .object "SpansAway$Blocks"
  | _ => .object "SpansAway$Spans"
abbrev wsX20 : List Cond := u_ws RX2 TX2 4
theorem nmX2 : ∀ a, a < 4 → ∀ b, b < 4 → a ≠ b → (TX2 a).2.1 ≠ (TX2 b).2.1 := by decide +kernel
theorem tyX2_ok : ∀ k, k < 4 → parseFieldDescriptor (TX2 k).2.2.1 = some (tyX2 k) := by decide +kernel
def RX3 : String := "SpansAway$Log"
def TX3 : u_T := fun k => match k with
  | 0 => ("SpansAway$Log", "tick", "[I", true)
  | 1 => ("SpansAway$Log", "what", "[I", true)
  | 2 => ("SpansAway$Log", "one", "[I", true)
  | 3 => ("SpansAway$Log", "other", "[I", true)
  | 4 => ("SpansAway$Log", "lines", "I", false)
  | _ => ("SpansAway$Log", "next", "I", false)
def tyX3 : Nat → FieldType := fun k => match k with
  | 0 => .array .int
  | 1 => .array .int
  | 2 => .array .int
  | 3 => .array .int
  | 4 => .int
  | _ => .int
abbrev wsX30 : List Cond := u_ws RX3 TX3 6
theorem nmX3 : ∀ a, a < 6 → ∀ b, b < 6 → a ≠ b → (TX3 a).2.1 ≠ (TX3 b).2.1 := by decide +kernel
theorem tyX3_ok : ∀ k, k < 6 → parseFieldDescriptor (TX3 k).2.2.1 = some (tyX3 k) := by decide +kernel
def RX4 : String := "SpansAway$Memory"
def TX4 : u_T := fun k => match k with
  | 0 => ("SpansAway$Memory", "frames", "LSpansAway$Frames;", true)
  | 1 => ("SpansAway$Memory", "blocks", "LSpansAway$Blocks;", true)
  | 2 => ("SpansAway$Memory", "spans", "LSpansAway$Spans;", true)
  | 3 => ("SpansAway$Memory", "tasks", "LSpansAway$Tasks;", true)
  | 4 => ("SpansAway$Memory", "log", "LSpansAway$Log;", true)
  | 5 => ("SpansAway$Memory", "told", "[I", true)
  | 6 => ("SpansAway$Memory", "counts", "[I", true)
  | _ => ("SpansAway$Memory", "tick", "I", false)
def tyX4 : Nat → FieldType := fun k => match k with
  | 0 => .object "SpansAway$Frames"
  | 1 => .object "SpansAway$Blocks"
  | 2 => .object "SpansAway$Spans"
  | 3 => .object "SpansAway$Tasks"
  | 4 => .object "SpansAway$Log"
  | 5 => .array .int
  | 6 => .array .int
  | _ => .int
abbrev wsX40 : List Cond := u_ws RX4 TX4 8
theorem nmX4 : ∀ a, a < 8 → ∀ b, b < 8 → a ≠ b → (TX4 a).2.1 ≠ (TX4 b).2.1 := by decide +kernel
theorem tyX4_ok : ∀ k, k < 8 → parseFieldDescriptor (TX4 k).2.2.1 = some (tyX4 k) := by decide +kernel
def RX5 : String := "SpansAway$Rows"
def TX5 : u_T := fun k => match k with
  | _ => ("", "", "", false)
def tyX5 : Nat → FieldType := fun k => match k with
  | _ => .int
abbrev wsX50 : List Cond := u_ws RX5 TX5 0
theorem nmX5 : ∀ a, a < 0 → ∀ b, b < 0 → a ≠ b → (TX5 a).2.1 ≠ (TX5 b).2.1 := by decide +kernel
theorem tyX5_ok : ∀ k, k < 0 → parseFieldDescriptor (TX5 k).2.2.1 = some (tyX5 k) := by decide +kernel
def RX6 : String := "SpansAway$Spans"
def TX6 : u_T := fun k => match k with
  | 0 => ("SpansAway$Spans", "state", "[I", true)
  | 1 => ("SpansAway$Spans", "zone", "[I", true)
  | 2 => ("SpansAway$Spans", "shut", "[I", true)
  | 3 => ("SpansAway$Spans", "pass", "[I", true)
  | 4 => ("SpansAway$Spans", "pause", "[I", true)
  | 5 => ("SpansAway$Spans", "reached", "[I", true)
  | 6 => ("SpansAway$Spans", "leaving", "[I", true)
  | _ => ("SpansAway$Spans", "why", "[I", true)
def tyX6 : Nat → FieldType := fun k => match k with
  | 0 => .array .int
  | 1 => .array .int
  | 2 => .array .int
  | 3 => .array .int
  | 4 => .array .int
  | 5 => .array .int
  | 6 => .array .int
  | _ => .array .int
abbrev wsX60 : List Cond := u_ws RX6 TX6 8
theorem nmX6 : ∀ a, a < 8 → ∀ b, b < 8 → a ≠ b → (TX6 a).2.1 ≠ (TX6 b).2.1 := by decide +kernel
theorem tyX6_ok : ∀ k, k < 8 → parseFieldDescriptor (TX6 k).2.2.1 = some (tyX6 k) := by decide +kernel
def RX7 : String := "SpansAway$Tasks"
def TX7 : u_T := fun k => match k with
  | 0 => ("SpansAway$Tasks", "home", "[I", true)
  | 1 => ("SpansAway$Tasks", "waitsFor", "[I", true)
  | 2 => ("SpansAway$Tasks", "lastRead", "[I", true)
  | 3 => ("SpansAway$Tasks", "wish", "[I", true)
  | 4 => ("SpansAway$Tasks", "wishAt", "[I", true)
  | 5 => ("SpansAway$Tasks", "wishValue", "[I", true)
  | 6 => ("SpansAway$Tasks", "line", "[I", true)
  | _ => ("SpansAway$Tasks", "inLine", "I", false)
def tyX7 : Nat → FieldType := fun k => match k with
  | 0 => .array .int
  | 1 => .array .int
  | 2 => .array .int
  | 3 => .array .int
  | 4 => .array .int
  | 5 => .array .int
  | 6 => .array .int
  | _ => .int
abbrev wsX70 : List Cond := u_ws RX7 TX7 8
theorem nmX7 : ∀ a, a < 8 → ∀ b, b < 8 → a ≠ b → (TX7 a).2.1 ≠ (TX7 b).2.1 := by decide +kernel
theorem tyX7_ok : ∀ k, k < 8 → parseFieldDescriptor (TX7 k).2.2.1 = some (tyX7 k) := by decide +kernel
def RX8 : String := "SpansAway$Thought"
def TX8 : u_T := fun k => match k with
  | 0 => ("SpansAway$Thought", "going", "LSpansAway$Going;", true)
  | 1 => ("SpansAway$Thought", "trial", "LSpansAway$Memory;", true)
  | 2 => ("SpansAway$Thought", "then", "LSpansAway$Memory;", true)
  | 3 => ("SpansAway$Thought", "ticks", "I", false)
  | _ => ("SpansAway$Thought", "fewest", "I", false)
def tyX8 : Nat → FieldType := fun k => match k with
  | 0 => .object "SpansAway$Going"
  | 1 => .object "SpansAway$Memory"
  | 2 => .object "SpansAway$Memory"
  | 3 => .int
  | _ => .int
abbrev wsX80 : List Cond := u_ws RX8 TX8 5
theorem nmX8 : ∀ a, a < 5 → ∀ b, b < 5 → a ≠ b → (TX8 a).2.1 ≠ (TX8 b).2.1 := by decide +kernel
theorem tyX8_ok : ∀ k, k < 5 → parseFieldDescriptor (TX8 k).2.2.1 = some (tyX8 k) := by decide +kernel
def RX9 : String := "SpansAway"
def TX9 : u_T := fun k => match k with
  | 0 => ("SpansAway", "going", "LSpansAway$Going;", true)
  | 1 => ("SpansAway", "now", "LSpansAway$Memory;", true)
  | 2 => ("SpansAway", "kept", "LSpansAway$Memory;", true)
  | 3 => ("SpansAway", "thought", "LSpansAway$Thought;", true)
  | _ => ("SpansAway", "isKept", "Z", false)
def tyX9 : Nat → FieldType := fun k => match k with
  | 0 => .object "SpansAway$Going"
  | 1 => .object "SpansAway$Memory"
  | 2 => .object "SpansAway$Memory"
  | 3 => .object "SpansAway$Thought"
  | _ => .boolean
abbrev wsX90 : List Cond := u_ws RX9 TX9 5
theorem nmX9 : ∀ a, a < 5 → ∀ b, b < 5 → a ≠ b → (TX9 a).2.1 ≠ (TX9 b).2.1 := by decide +kernel
theorem tyX9_ok : ∀ k, k < 5 → parseFieldDescriptor (TX9 k).2.2.1 = some (tyX9 k) := by decide +kernel
def RX10 : String := "SpansAwayModel"
def TX10 : u_T := fun k => match k with
  | 0 => ("SpansAwayModel", "told", "I", false)
  | 1 => ("SpansAwayModel", "now", "[I", true)
  | 2 => ("SpansAwayModel", "waiting", "[I", true)
  | 3 => ("SpansAwayModel", "deeper", "[I", true)
  | 4 => ("SpansAwayModel", "isDone", "[Z", true)
  | 5 => ("SpansAwayModel", "easiestTicks", "I", false)
  | 6 => ("SpansAwayModel", "hasImage", "Z", false)
  | _ => ("SpansAwayModel", "images", "[I", true)
def tyX10 : Nat → FieldType := fun k => match k with
  | 0 => .int
  | 1 => .array .int
  | 2 => .array .int
  | 3 => .array .int
  | 4 => .array .boolean
  | 5 => .int
  | 6 => .boolean
  | _ => .array .int
abbrev wsX100 : List Cond := u_ws RX10 TX10 8
theorem nmX10 : ∀ a, a < 8 → ∀ b, b < 8 → a ≠ b → (TX10 a).2.1 ≠ (TX10 b).2.1 := by decide +kernel
theorem tyX10_ok : ∀ k, k < 8 → parseFieldDescriptor (TX10 k).2.2.1 = some (tyX10 k) := by decide +kernel
abbrev vwCl : List vw_C := [(RX0, TX0, 9), (RX1, TX1, 6), (RX2, TX2, 4), (RX3, TX3, 6), (RX4, TX4, 8), (RX6, TX6, 8), (RX7, TX7, 8), (RX8, TX8, 5), (RX9, TX9, 5), (RX10, TX10, 8)]
end
section
/-! ===== the methods, by program out of the listing ===== -/
def m_I_fill : sm_M := (⟨"java/util/Arrays", "fill", "([II)V"⟩, prog_16_method_103_code, 4, none, (0, 0, 13, 2), [
  (0, .iconst 0, 0, 0, 0, []),
  (1, .istore_n 2, 0, 0, 0, []),
  (2, .aload_n 0, 0, 0, 0, []),
  (3, .arraylength, 0, 0, 0, []),
  (4, .istore_n 3, 0, 0, 0, []),
  (5, .iload_n 2, 0, 0, 0, []),
  (6, .iload_n 3, 0, 0, 0, []),
  (7, .if_icmp .ge 13, 0, 20, 0, []),
  (10, .aload_n 0, 0, 0, 0, []),
  (11, .iload_n 2, 0, 0, 0, []),
  (12, .iload_n 1, 0, 0, 0, []),
  (13, .iastore, 0, 0, 0, []),
  (14, .iinc 2 1, 1, 0, 0, []),
  (17, .goto (-12), 0, 5, 0, []),
  (20, .return_, 0, 0, 0, [])])
def m_R_copy : sm_M := (⟨"SpansAway$Rows", "copy", "([I[I)V"⟩, prog_7_method_8_code, 2, none, (1, 40, 5, 2), [
  (0, .aload_n 0, 0, 0, 0, []),
  (1, .iconst 0, 0, 0, 0, []),
  (2, .aload_n 1, 0, 0, 0, []),
  (3, .iconst 0, 0, 0, 0, []),
  (4, .aload_n 0, 0, 0, 0, []),
  (5, .arraylength, 0, 0, 0, []),
  (6, .aload_n 1, 0, 0, 0, []),
  (7, .arraylength, 0, 0, 0, []),
  (8, .invokestatic 25, 0, 9998, 2, []),
  (11, .invokestatic 30, 0, 9999, 5, []),
  (14, .return_, 0, 0, 0, [])])
def m_A_set : sm_M := (⟨"SpansAway", "set", "(II)Z"⟩, prog_1_method_2_code, 3, (some .boolean), (0, 0, 9, 803), [
  (0, .iload_n 1, 0, 0, 0, []),
  (1, .ifCond .lt 26, 0, 27, 0, []),
  (4, .iload_n 1, 0, 0, 0, []),
  (5, .iconst 4, 4, 0, 0, []),
  (6, .if_icmp .ge 21, 0, 27, 0, []),
  (9, .iload_n 2, 0, 0, 0, []),
  (10, .getstatic 43, 0, 1000, 0, []),
  (13, .iload_n 1, 0, 0, 0, []),
  (14, .iaload, 0, 0, 0, []),
  (15, .if_icmp .lt 12, 0, 27, 0, []),
  (18, .iload_n 2, 0, 0, 0, []),
  (19, .getstatic 47, 0, 1001, 0, []),
  (22, .iload_n 1, 0, 0, 0, []),
  (23, .iaload, 0, 0, 0, []),
  (24, .if_icmp .le 5, 0, 29, 0, []),
  (27, .iconst 0, 0, 0, 0, []),
  (28, .ireturn, 0, 0, 0, []),
  (29, .aload_n 0, 0, 0, 0, []),
  (30, .getfield 20, 0, 801, 0, []),
  (33, .getfield 50, 0, 405, 0, []),
  (36, .iload_n 1, 0, 0, 0, []),
  (37, .iload_n 2, 0, 0, 0, []),
  (38, .iastore, 0, 0, 0, []),
  (39, .iconst 1, 1, 0, 0, []),
  (40, .ireturn, 0, 0, 0, [])])
def m_A_home : sm_M := (⟨"SpansAway", "home", "(II)Z"⟩, prog_1_method_3_code, 3, (some .boolean), (1, 20, 9, 803), [
  (0, .iload_n 1, 0, 0, 0, []),
  (1, .invokestatic 53, 0, 4, 1, [(0, 0)]),
  (4, .ifCond .eq 10, 0, 14, 0, []),
  (7, .iload_n 2, 0, 0, 0, []),
  (8, .invokestatic 57, 0, 5, 1, [(0, 0)]),
  (11, .ifCond .ne 5, 0, 16, 0, []),
  (14, .iconst 0, 0, 0, 0, []),
  (15, .ireturn, 0, 0, 0, []),
  (16, .aload_n 0, 0, 0, 0, []),
  (17, .getfield 20, 0, 801, 0, []),
  (20, .getfield 60, 0, 403, 0, []),
  (23, .getfield 64, 0, 600, 0, []),
  (26, .iload_n 1, 0, 0, 0, []),
  (27, .iload_n 2, 0, 0, 0, []),
  (28, .iastore, 0, 0, 0, []),
  (29, .iconst 1, 1, 0, 0, []),
  (30, .ireturn, 0, 0, 0, [])])
def m_A_isTask : sm_M := (⟨"SpansAway", "isTask", "(I)Z"⟩, prog_1_method_41_code, 1, (some .boolean), (0, 0, 9, 1), [
  (0, .iload_n 0, 0, 0, 0, []),
  (1, .ifCond .lt 13, 0, 14, 0, []),
  (4, .iload_n 0, 0, 0, 0, []),
  (5, .bipush 6, 6, 0, 0, []),
  (7, .if_icmp .ge 7, 0, 14, 0, []),
  (10, .iconst 1, 1, 0, 0, []),
  (11, .goto 4, 0, 15, 0, []),
  (14, .iconst 0, 0, 0, 0, []),
  (15, .ireturn, 0, 0, 0, [])])
def m_A_isNode : sm_M := (⟨"SpansAway", "isNode", "(I)Z"⟩, prog_1_method_42_code, 1, (some .boolean), (0, 0, 9, 1), [
  (0, .iload_n 0, 0, 0, 0, []),
  (1, .ifCond .lt 12, 0, 13, 0, []),
  (4, .iload_n 0, 0, 0, 0, []),
  (5, .iconst 2, 2, 0, 0, []),
  (6, .if_icmp .ge 7, 0, 13, 0, []),
  (9, .iconst 1, 1, 0, 0, []),
  (10, .goto 4, 0, 14, 0, []),
  (13, .iconst 0, 0, 0, 0, []),
  (14, .ireturn, 0, 0, 0, [])])
def m_A_take : sm_M := (⟨"SpansAway", "take", "(IIII)I"⟩, prog_1_method_4_code, 5, (some .int), (3, 83, 9, 805), [
  (0, .iload_n 1, 0, 0, 0, []),
  (1, .invokestatic 53, 0, 4, 1, [(0, 0)]),
  (4, .ifCond .eq 17, 0, 21, 0, []),
  (7, .iload_n 2, 0, 0, 0, []),
  (8, .invokestatic 69, 0, 7, 1, [(0, 0)]),
  (11, .ifCond .eq 10, 0, 21, 0, []),
  (14, .iload_n 3, 0, 0, 0, []),
  (15, .invokestatic 72, 0, 8, 1, [(0, 0)]),
  (18, .ifCond .ne 6, 0, 24, 0, []),
  (21, .bipush (-2), (-2), 0, 0, []),
  (23, .ireturn, 0, 0, 0, []),
  (24, .aload_n 0, 0, 0, 0, []),
  (25, .getfield 20, 0, 801, 0, []),
  (28, .iload_n 1, 0, 0, 0, []),
  (29, .iload_n 2, 0, 0, 0, []),
  (30, .iload_n 3, 0, 0, 0, []),
  (31, .iload 4, 0, 0, 0, []),
  (33, .invokevirtual 75, 0, 9, 405, [(0, 0)]),
  (36, .ireturn, 0, 0, 0, [])])
def m_A_isKind : sm_M := (⟨"SpansAway", "isKind", "(I)Z"⟩, prog_1_method_44_code, 1, (some .boolean), (0, 0, 9, 1), [
  (0, .iload_n 0, 0, 0, 0, []),
  (1, .ifCond .lt 12, 0, 13, 0, []),
  (4, .iload_n 0, 0, 0, 0, []),
  (5, .iconst 3, 3, 0, 0, []),
  (6, .if_icmp .ge 7, 0, 13, 0, []),
  (9, .iconst 1, 1, 0, 0, []),
  (10, .goto 4, 0, 14, 0, []),
  (13, .iconst 0, 0, 0, 0, []),
  (14, .ireturn, 0, 0, 0, [])])
def m_A_isBlockOrder : sm_M := (⟨"SpansAway", "isBlockOrder", "(I)Z"⟩, prog_1_method_45_code, 1, (some .boolean), (0, 0, 9, 1), [
  (0, .iload_n 0, 0, 0, 0, []),
  (1, .ifCond .lt 12, 0, 13, 0, []),
  (4, .iload_n 0, 0, 0, 0, []),
  (5, .iconst 5, 5, 0, 0, []),
  (6, .if_icmp .ge 7, 0, 13, 0, []),
  (9, .iconst 1, 1, 0, 0, []),
  (10, .goto 4, 0, 14, 0, []),
  (13, .iconst 0, 0, 0, 0, []),
  (14, .ireturn, 0, 0, 0, [])])
def m_Y_bring : sm_M := (⟨"SpansAway$Memory", "bring", "(IIII)I"⟩, prog_6_method_9_code, 8, (some .int), (2, 56, 4, 405), [
  (0, .aload_n 0, 0, 0, 0, []),
  (1, .iload_n 1, 0, 0, 0, []),
  (2, .iload_n 2, 0, 0, 0, []),
  (3, .iload_n 3, 0, 0, 0, []),
  (4, .iconst 0, 0, 0, 0, []),
  (5, .invokevirtual 122, 0, 10, 405, [(0, 0)]),
  (8, .istore 5, 0, 0, 0, []),
  (10, .iconst 0, 0, 0, 0, []),
  (11, .istore 6, 0, 0, 0, []),
  (13, .iload 6, 0, 0, 0, []),
  (15, .bipush 96, 96, 0, 0, []),
  (17, .if_icmp .ge 55, 0, 72, 0, []),
  (20, .iload 5, 0, 0, 0, []),
  (22, .iconst (-1), (-1), 0, 0, []),
  (23, .if_icmp .ne 49, 0, 72, 0, []),
  (26, .aload_n 0, 0, 0, 0, []),
  (27, .getfield 21, 0, 401, 0, []),
  (30, .invokevirtual 126, 0, 16, 1, [(0, 0)]),
  (33, .istore 7, 0, 0, 0, []),
  (35, .iload 7, 0, 0, 0, []),
  (37, .iconst (-1), (-1), 0, 0, []),
  (38, .if_icmp .ne 6, 0, 44, 0, []),
  (41, .goto 31, 0, 72, 0, []),
  (44, .aload_n 0, 0, 0, 0, []),
  (45, .iload 7, 0, 0, 0, []),
  (47, .invokevirtual 130, 0, 18, 402, []),
  (50, .aload_n 0, 0, 0, 0, []),
  (51, .iload 7, 0, 0, 0, []),
  (53, .invokevirtual 134, 0, 20, 402, []),
  (56, .aload_n 0, 0, 0, 0, []),
  (57, .iload_n 1, 0, 0, 0, []),
  (58, .iload_n 2, 0, 0, 0, []),
  (59, .iload_n 3, 0, 0, 0, []),
  (60, .iconst 0, 0, 0, 0, []),
  (61, .invokevirtual 122, 0, 10, 405, [(0, 0)]),
  (64, .istore 5, 0, 0, 0, []),
  (66, .iinc 6 1, 1, 0, 0, []),
  (69, .goto (-56), 0, 13, 0, []),
  (72, .aload_n 0, 0, 0, 0, []),
  (73, .getfield 21, 0, 401, 0, []),
  (76, .invokevirtual 137, 0, 23, 1, [(0, 0)]),
  (79, .istore 6, 0, 0, 0, []),
  (81, .iload 5, 0, 0, 0, []),
  (83, .iconst (-1), (-1), 0, 0, []),
  (84, .if_icmp .eq 9, 0, 93, 0, []),
  (87, .iload 6, 0, 0, 0, []),
  (89, .iconst (-1), (-1), 0, 0, []),
  (90, .if_icmp .ne 15, 0, 105, 0, []),
  (93, .aload_n 0, 0, 0, 0, []),
  (94, .getfield 50, 0, 406, 0, []),
  (97, .iconst 1, 1, 0, 0, []),
  (98, .dup2, 0, 0, 0, []),
  (99, .iaload, 0, 0, 0, []),
  (100, .iconst 1, 1, 0, 0, []),
  (101, .iadd, 0, 0, 0, []),
  (102, .iastore, 0, 0, 0, []),
  (103, .iconst (-1), (-1), 0, 0, []),
  (104, .ireturn, 0, 0, 0, []),
  (105, .aload_n 0, 0, 0, 0, []),
  (106, .getfield 21, 0, 401, 0, []),
  (109, .iload 6, 0, 0, 0, []),
  (111, .iload 5, 0, 0, 0, []),
  (113, .iload_n 3, 0, 0, 0, []),
  (114, .iload_n 2, 0, 0, 0, []),
  (115, .iload_n 1, 0, 0, 0, []),
  (116, .invokevirtual 140, 0, 24, 6, []),
  (119, .aload_n 0, 0, 0, 0, []),
  (120, .getfield 21, 0, 401, 0, []),
  (123, .dup, 0, 0, 0, []),
  (124, .getfield 144, 0, 8, 0, []),
  (127, .iconst 1, 1, 0, 0, []),
  (128, .iadd, 0, 0, 0, []),
  (129, .putfield 144, 0, 8, 0, []),
  (132, .aload_n 0, 0, 0, 0, []),
  (133, .getfield 21, 0, 401, 0, []),
  (136, .getfield 147, 0, 7, 0, []),
  (139, .iload 6, 0, 0, 0, []),
  (141, .aload_n 0, 0, 0, 0, []),
  (142, .getfield 21, 0, 401, 0, []),
  (145, .getfield 144, 0, 8, 0, []),
  (148, .iastore, 0, 0, 0, []),
  (149, .aload_n 0, 0, 0, 0, []),
  (150, .getfield 12, 0, 400, 0, []),
  (153, .iload 6, 0, 0, 0, []),
  (155, .iload 5, 0, 0, 0, []),
  (157, .iconst 1, 1, 0, 0, []),
  (158, .iload_n 3, 0, 0, 0, []),
  (159, .ishl, 0, 0, 0, []),
  (160, .invokevirtual 150, 0, 25, 104, []),
  (163, .iconst 0, 0, 0, 0, []),
  (164, .istore 7, 0, 0, 0, []),
  (166, .iload 7, 0, 0, 0, []),
  (168, .iconst 1, 1, 0, 0, []),
  (169, .iload_n 3, 0, 0, 0, []),
  (170, .ishl, 0, 0, 0, []),
  (171, .if_icmp .ge 27, 0, 198, 0, []),
  (174, .aload_n 0, 0, 0, 0, []),
  (175, .getfield 12, 0, 400, 0, []),
  (178, .getfield 154, 0, 105, 0, []),
  (181, .iload 5, 0, 0, 0, []),
  (183, .iload 7, 0, 0, 0, []),
  (185, .iadd, 0, 0, 0, []),
  (186, .iload 4, 0, 0, 0, []),
  (188, .iload 7, 0, 0, 0, []),
  (190, .iadd, 0, 0, 0, []),
  (191, .iastore, 0, 0, 0, []),
  (192, .iinc 7 1, 1, 0, 0, []),
  (195, .goto (-29), 0, 166, 0, []),
  (198, .aload_n 0, 0, 0, 0, []),
  (199, .getfield 50, 0, 406, 0, []),
  (202, .iconst 0, 0, 0, 0, []),
  (203, .dup2, 0, 0, 0, []),
  (204, .iaload, 0, 0, 0, []),
  (205, .iconst 1, 1, 0, 0, []),
  (206, .iadd, 0, 0, 0, []),
  (207, .iastore, 0, 0, 0, []),
  (208, .iload 6, 0, 0, 0, []),
  (210, .ireturn, 0, 0, 0, [])])
def m_Y_bestPlace : sm_M := (⟨"SpansAway$Memory", "bestPlace", "(IIIZ)I"⟩, prog_6_method_8_code, 12, (some .int), (1, 25, 4, 405), [
  (0, .iconst (-1), (-1), 0, 0, []),
  (1, .istore 5, 0, 0, 0, []),
  (3, .iconst 0, 0, 0, 0, []),
  (4, .istore 6, 0, 0, 0, []),
  (6, .iconst 0, 0, 0, 0, []),
  (7, .istore 7, 0, 0, 0, []),
  (9, .iconst 0, 0, 0, 0, []),
  (10, .istore 8, 0, 0, 0, []),
  (12, .iload 8, 0, 0, 0, []),
  (14, .bipush 8, 8, 0, 0, []),
  (16, .if_icmp .ge 132, 0, 148, 0, []),
  (19, .aload_n 0, 0, 0, 0, []),
  (20, .getfield 12, 0, 400, 0, []),
  (23, .getfield 85, 0, 100, 0, []),
  (26, .iload 8, 0, 0, 0, []),
  (28, .iaload, 0, 0, 0, []),
  (29, .iload_n 3, 0, 0, 0, []),
  (30, .invokestatic 100, 0, 11, 2, [(0, 0)]),
  (33, .istore 9, 0, 0, 0, []),
  (35, .iload 9, 0, 0, 0, []),
  (37, .ifCond .eq 105, 0, 142, 0, []),
  (40, .iload 4, 0, 0, 0, []),
  (42, .ifCond .eq 20, 0, 62, 0, []),
  (45, .aload_n 0, 0, 0, 0, []),
  (46, .getfield 28, 0, 402, 0, []),
  (49, .getfield 79, 0, 500, 0, []),
  (52, .iload 8, 0, 0, 0, []),
  (54, .iaload, 0, 0, 0, []),
  (55, .iconst 1, 1, 0, 0, []),
  (56, .if_icmp .eq 6, 0, 62, 0, []),
  (59, .goto 83, 0, 142, 0, []),
  (62, .aload_n 0, 0, 0, 0, []),
  (63, .iload 8, 0, 0, 0, []),
  (65, .iload_n 2, 0, 0, 0, []),
  (66, .aload_n 0, 0, 0, 0, []),
  (67, .getfield 35, 0, 403, 0, []),
  (70, .getfield 104, 0, 600, 0, []),
  (73, .iload_n 1, 0, 0, 0, []),
  (74, .iaload, 0, 0, 0, []),
  (75, .invokevirtual 107, 0, 12, 404, [(0, 0)]),
  (78, .istore 10, 0, 0, 0, []),
  (80, .iload 10, 0, 0, 0, []),
  (82, .iconst (-1), (-1), 0, 0, []),
  (83, .if_icmp .eq 59, 0, 142, 0, []),
  (86, .iload 5, 0, 0, 0, []),
  (88, .iconst (-1), (-1), 0, 0, []),
  (89, .if_icmp .eq 13, 0, 102, 0, []),
  (92, .iload 10, 0, 0, 0, []),
  (94, .iload 6, 0, 0, 0, []),
  (96, .if_icmp .le 6, 0, 102, 0, []),
  (99, .goto 43, 0, 142, 0, []),
  (102, .iload 9, 0, 0, 0, []),
  (104, .iload_n 3, 0, 0, 0, []),
  (105, .invokestatic 111, 0, 13, 2, [(0, 0)]),
  (108, .istore 11, 0, 0, 0, []),
  (110, .iload 5, 0, 0, 0, []),
  (112, .iconst (-1), (-1), 0, 0, []),
  (113, .if_icmp .eq 17, 0, 130, 0, []),
  (116, .iload 10, 0, 0, 0, []),
  (118, .iload 6, 0, 0, 0, []),
  (120, .if_icmp .lt 10, 0, 130, 0, []),
  (123, .iload 11, 0, 0, 0, []),
  (125, .iload 7, 0, 0, 0, []),
  (127, .if_icmp .ge 15, 0, 142, 0, []),
  (130, .iload 8, 0, 0, 0, []),
  (132, .istore 5, 0, 0, 0, []),
  (134, .iload 10, 0, 0, 0, []),
  (136, .istore 6, 0, 0, 0, []),
  (138, .iload 11, 0, 0, 0, []),
  (140, .istore 7, 0, 0, 0, []),
  (142, .iinc 8 1, 1, 0, 0, []),
  (145, .goto (-133), 0, 12, 0, []),
  (148, .iload 5, 0, 0, 0, []),
  (150, .iconst (-1), (-1), 0, 0, []),
  (151, .if_icmp .ne 5, 0, 156, 0, []),
  (154, .iconst (-1), (-1), 0, 0, []),
  (155, .ireturn, 0, 0, 0, []),
  (156, .aload_n 0, 0, 0, 0, []),
  (157, .getfield 12, 0, 400, 0, []),
  (160, .getfield 85, 0, 100, 0, []),
  (163, .iload 5, 0, 0, 0, []),
  (165, .iaload, 0, 0, 0, []),
  (166, .iload 7, 0, 0, 0, []),
  (168, .invokestatic 100, 0, 11, 2, [(0, 0)]),
  (171, .iload 7, 0, 0, 0, []),
  (173, .invokestatic 114, 0, 14, 2, [(0, 0)]),
  (176, .istore 8, 0, 0, 0, []),
  (178, .iload 5, 0, 0, 0, []),
  (180, .bipush 32, 32, 0, 0, []),
  (182, .imul, 0, 0, 0, []),
  (183, .iload 8, 0, 0, 0, []),
  (185, .invokestatic 117, 0, 15, 1, [(0, 0)]),
  (188, .iadd, 0, 0, 0, []),
  (189, .ireturn, 0, 0, 0, [])])
def m_R_starts : sm_M := (⟨"SpansAway$Rows", "starts", "(II)I"⟩, prog_7_method_2_code, 4, (some .int), (0, 0, 5, 2), [
  (0, .iload_n 0, 0, 0, 0, []),
  (1, .istore_n 2, 0, 0, 0, []),
  (2, .iconst 0, 0, 0, 0, []),
  (3, .istore_n 3, 0, 0, 0, []),
  (4, .iload_n 3, 0, 0, 0, []),
  (5, .iload_n 1, 0, 0, 0, []),
  (6, .if_icmp .ge 30, 0, 36, 0, []),
  (9, .iload_n 3, 0, 0, 0, []),
  (10, .iconst 5, 5, 0, 0, []),
  (11, .if_icmp .ge 25, 0, 36, 0, []),
  (14, .iload_n 2, 0, 0, 0, []),
  (15, .iload_n 2, 0, 0, 0, []),
  (16, .iconst 1, 1, 0, 0, []),
  (17, .iload_n 3, 0, 0, 0, []),
  (18, .ishl, 0, 0, 0, []),
  (19, .iushr, 0, 0, 0, []),
  (20, .getstatic 9, 0, 1002, 0, []),
  (23, .iload_n 3, 0, 0, 0, []),
  (24, .iconst 1, 1, 0, 0, []),
  (25, .iadd, 0, 0, 0, []),
  (26, .iaload, 0, 0, 0, []),
  (27, .iand, 0, 0, 0, []),
  (28, .iand, 0, 0, 0, []),
  (29, .istore_n 2, 0, 0, 0, []),
  (30, .iinc 3 1, 1, 0, 0, []),
  (33, .goto (-29), 0, 4, 0, []),
  (36, .iload_n 2, 0, 0, 0, []),
  (37, .ireturn, 0, 0, 0, [])])
def m_Y_rank : sm_M := (⟨"SpansAway$Memory", "rank", "(III)I"⟩, prog_6_method_7_code, 5, (some .int), (0, 0, 4, 404), [
  (0, .iload_n 1, 0, 0, 0, []),
  (1, .iconst 2, 2, 0, 0, []),
  (2, .irem, 0, 0, 0, []),
  (3, .iload_n 3, 0, 0, 0, []),
  (4, .if_icmp .ne 7, 0, 11, 0, []),
  (7, .iconst 0, 0, 0, 0, []),
  (8, .goto 4, 0, 12, 0, []),
  (11, .iconst 1, 1, 0, 0, []),
  (12, .istore 4, 0, 0, 0, []),
  (14, .iload_n 2, 0, 0, 0, []),
  (15, .ifCond .ne 26, 0, 41, 0, []),
  (18, .aload_n 0, 0, 0, 0, []),
  (19, .getfield 28, 0, 402, 0, []),
  (22, .getfield 82, 0, 501, 0, []),
  (25, .iload_n 1, 0, 0, 0, []),
  (26, .iaload, 0, 0, 0, []),
  (27, .iconst 1, 1, 0, 0, []),
  (28, .if_icmp .ne 8, 0, 36, 0, []),
  (31, .iload 4, 0, 0, 0, []),
  (33, .goto 7, 0, 40, 0, []),
  (36, .iconst 2, 2, 0, 0, []),
  (37, .iload 4, 0, 0, 0, []),
  (39, .iadd, 0, 0, 0, []),
  (40, .ireturn, 0, 0, 0, []),
  (41, .aload_n 0, 0, 0, 0, []),
  (42, .getfield 28, 0, 402, 0, []),
  (45, .getfield 82, 0, 501, 0, []),
  (48, .iload_n 1, 0, 0, 0, []),
  (49, .iaload, 0, 0, 0, []),
  (50, .ifCond .ne 8, 0, 58, 0, []),
  (53, .iload 4, 0, 0, 0, []),
  (55, .goto 4, 0, 59, 0, []),
  (58, .iconst (-1), (-1), 0, 0, []),
  (59, .ireturn, 0, 0, 0, [])])
def m_R_leastHole : sm_M := (⟨"SpansAway$Rows", "leastHole", "(II)I"⟩, prog_7_method_4_code, 6, (some .int), (0, 0, 5, 2), [
  (0, .iload_n 0, 0, 0, 0, []),
  (1, .istore_n 2, 0, 0, 0, []),
  (2, .iload_n 1, 0, 0, 0, []),
  (3, .istore_n 3, 0, 0, 0, []),
  (4, .iload_n 3, 0, 0, 0, []),
  (5, .ifCond .lt 55, 0, 60, 0, []),
  (8, .iload_n 3, 0, 0, 0, []),
  (9, .iconst 5, 5, 0, 0, []),
  (10, .if_icmp .ge 50, 0, 60, 0, []),
  (13, .iconst 1, 1, 0, 0, []),
  (14, .iload_n 3, 0, 0, 0, []),
  (15, .ishl, 0, 0, 0, []),
  (16, .istore 4, 0, 0, 0, []),
  (18, .iload_n 2, 0, 0, 0, []),
  (19, .iload_n 2, 0, 0, 0, []),
  (20, .iload 4, 0, 0, 0, []),
  (22, .iushr, 0, 0, 0, []),
  (23, .iand, 0, 0, 0, []),
  (24, .getstatic 9, 0, 1002, 0, []),
  (27, .iload_n 3, 0, 0, 0, []),
  (28, .iconst 1, 1, 0, 0, []),
  (29, .iadd, 0, 0, 0, []),
  (30, .iaload, 0, 0, 0, []),
  (31, .iand, 0, 0, 0, []),
  (32, .istore 5, 0, 0, 0, []),
  (34, .iload_n 2, 0, 0, 0, []),
  (35, .iload 5, 0, 0, 0, []),
  (37, .iload 5, 0, 0, 0, []),
  (39, .iload 4, 0, 0, 0, []),
  (41, .ishl, 0, 0, 0, []),
  (42, .ior, 0, 0, 0, []),
  (43, .iconst (-1), (-1), 0, 0, []),
  (44, .ixor, 0, 0, 0, []),
  (45, .iand, 0, 0, 0, []),
  (46, .ifCond .eq 5, 0, 51, 0, []),
  (49, .iload_n 3, 0, 0, 0, []),
  (50, .ireturn, 0, 0, 0, []),
  (51, .iload 5, 0, 0, 0, []),
  (53, .istore_n 2, 0, 0, 0, []),
  (54, .iinc 3 1, 1, 0, 0, []),
  (57, .goto (-53), 0, 4, 0, []),
  (60, .iconst 5, 5, 0, 0, []),
  (61, .ireturn, 0, 0, 0, [])])
def m_R_alone : sm_M := (⟨"SpansAway$Rows", "alone", "(II)I"⟩, prog_7_method_3_code, 4, (some .int), (0, 0, 5, 2), [
  (0, .iload_n 1, 0, 0, 0, []),
  (1, .ifCond .lt 8, 0, 9, 0, []),
  (4, .iload_n 1, 0, 0, 0, []),
  (5, .iconst 5, 5, 0, 0, []),
  (6, .if_icmp .lt 5, 0, 11, 0, []),
  (9, .iload_n 0, 0, 0, 0, []),
  (10, .ireturn, 0, 0, 0, []),
  (11, .iconst 1, 1, 0, 0, []),
  (12, .iload_n 1, 0, 0, 0, []),
  (13, .ishl, 0, 0, 0, []),
  (14, .istore_n 2, 0, 0, 0, []),
  (15, .iload_n 0, 0, 0, 0, []),
  (16, .iload_n 0, 0, 0, 0, []),
  (17, .iload_n 2, 0, 0, 0, []),
  (18, .iushr, 0, 0, 0, []),
  (19, .iand, 0, 0, 0, []),
  (20, .getstatic 9, 0, 1002, 0, []),
  (23, .iload_n 1, 0, 0, 0, []),
  (24, .iconst 1, 1, 0, 0, []),
  (25, .iadd, 0, 0, 0, []),
  (26, .iaload, 0, 0, 0, []),
  (27, .iand, 0, 0, 0, []),
  (28, .istore_n 3, 0, 0, 0, []),
  (29, .iload_n 0, 0, 0, 0, []),
  (30, .iload_n 3, 0, 0, 0, []),
  (31, .iload_n 3, 0, 0, 0, []),
  (32, .iload_n 2, 0, 0, 0, []),
  (33, .ishl, 0, 0, 0, []),
  (34, .ior, 0, 0, 0, []),
  (35, .iconst (-1), (-1), 0, 0, []),
  (36, .ixor, 0, 0, 0, []),
  (37, .iand, 0, 0, 0, []),
  (38, .ireturn, 0, 0, 0, [])])
def m_I_numberOfTrailingZeros : sm_M := (⟨"java/lang/Integer", "numberOfTrailingZeros", "(I)I"⟩, prog_13_method_48_code, 2, (some .int), (0, 0, 11, 1), [
  (0, .iload_n 0, 0, 0, 0, []),
  (1, .iconst (-1), (-1), 0, 0, []),
  (2, .ixor, 0, 0, 0, []),
  (3, .iload_n 0, 0, 0, 0, []),
  (4, .iconst 1, 1, 0, 0, []),
  (5, .isub, 0, 0, 0, []),
  (6, .iand, 0, 0, 0, []),
  (7, .istore_n 0, 0, 0, 0, []),
  (8, .iload_n 0, 0, 0, 0, []),
  (9, .ifCond .gt 8, 0, 17, 0, []),
  (12, .iload_n 0, 0, 0, 0, []),
  (13, .bipush 32, 32, 0, 0, []),
  (15, .iand, 0, 0, 0, []),
  (16, .ireturn, 0, 0, 0, []),
  (17, .iconst 1, 1, 0, 0, []),
  (18, .istore_n 1, 0, 0, 0, []),
  (19, .iload_n 0, 0, 0, 0, []),
  (20, .ldc_w 264, 65536, 0, 0, []),
  (23, .if_icmp .le 11, 0, 34, 0, []),
  (26, .iinc 1 16, 16, 0, 0, []),
  (29, .iload_n 0, 0, 0, 0, []),
  (30, .bipush 16, 16, 0, 0, []),
  (32, .iushr, 0, 0, 0, []),
  (33, .istore_n 0, 0, 0, 0, []),
  (34, .iload_n 0, 0, 0, 0, []),
  (35, .sipush 256, 256, 0, 0, []),
  (38, .if_icmp .le 11, 0, 49, 0, []),
  (41, .iinc 1 8, 8, 0, 0, []),
  (44, .iload_n 0, 0, 0, 0, []),
  (45, .bipush 8, 8, 0, 0, []),
  (47, .iushr, 0, 0, 0, []),
  (48, .istore_n 0, 0, 0, 0, []),
  (49, .iload_n 0, 0, 0, 0, []),
  (50, .bipush 16, 16, 0, 0, []),
  (52, .if_icmp .le 10, 0, 62, 0, []),
  (55, .iinc 1 4, 4, 0, 0, []),
  (58, .iload_n 0, 0, 0, 0, []),
  (59, .iconst 4, 4, 0, 0, []),
  (60, .iushr, 0, 0, 0, []),
  (61, .istore_n 0, 0, 0, 0, []),
  (62, .iload_n 0, 0, 0, 0, []),
  (63, .iconst 4, 4, 0, 0, []),
  (64, .if_icmp .le 10, 0, 74, 0, []),
  (67, .iinc 1 2, 2, 0, 0, []),
  (70, .iload_n 0, 0, 0, 0, []),
  (71, .iconst 2, 2, 0, 0, []),
  (72, .iushr, 0, 0, 0, []),
  (73, .istore_n 0, 0, 0, 0, []),
  (74, .iload_n 1, 0, 0, 0, []),
  (75, .iload_n 0, 0, 0, 0, []),
  (76, .iconst 1, 1, 0, 0, []),
  (77, .iushr, 0, 0, 0, []),
  (78, .iadd, 0, 0, 0, []),
  (79, .ireturn, 0, 0, 0, [])])
def m_B_leastUsedCache : sm_M := (⟨"SpansAway$Blocks", "leastUsedCache", "()I"⟩, prog_2_method_8_code, 3, (some .int), (1, 21, 0, 1), [
  (0, .iconst (-1), (-1), 0, 0, []),
  (1, .istore_n 1, 0, 0, 0, []),
  (2, .iconst 0, 0, 0, 0, []),
  (3, .istore_n 2, 0, 0, 0, []),
  (4, .iload_n 2, 0, 0, 0, []),
  (5, .bipush 96, 96, 0, 0, []),
  (7, .if_icmp .ge 59, 0, 66, 0, []),
  (10, .aload_n 0, 0, 0, 0, []),
  (11, .getfield 9, 0, 0, 0, []),
  (14, .iload_n 2, 0, 0, 0, []),
  (15, .iaload, 0, 0, 0, []),
  (16, .iconst (-1), (-1), 0, 0, []),
  (17, .if_icmp .eq 43, 0, 60, 0, []),
  (20, .aload_n 0, 0, 0, 0, []),
  (21, .getfield 18, 0, 2, 0, []),
  (24, .iload_n 2, 0, 0, 0, []),
  (25, .iaload, 0, 0, 0, []),
  (26, .iconst 2, 2, 0, 0, []),
  (27, .if_icmp .ne 33, 0, 60, 0, []),
  (30, .aload_n 0, 0, 0, 0, []),
  (31, .iload_n 2, 0, 0, 0, []),
  (32, .invokevirtual 52, 0, 17, 2, [(0, 0)]),
  (35, .ifCond .eq 25, 0, 60, 0, []),
  (38, .iload_n 1, 0, 0, 0, []),
  (39, .iconst (-1), (-1), 0, 0, []),
  (40, .if_icmp .eq 18, 0, 58, 0, []),
  (43, .aload_n 0, 0, 0, 0, []),
  (44, .getfield 33, 0, 7, 0, []),
  (47, .iload_n 2, 0, 0, 0, []),
  (48, .iaload, 0, 0, 0, []),
  (49, .aload_n 0, 0, 0, 0, []),
  (50, .getfield 33, 0, 7, 0, []),
  (53, .iload_n 1, 0, 0, 0, []),
  (54, .iaload, 0, 0, 0, []),
  (55, .if_icmp .ge 5, 0, 60, 0, []),
  (58, .iload_n 2, 0, 0, 0, []),
  (59, .istore_n 1, 0, 0, 0, []),
  (60, .iinc 2 1, 1, 0, 0, []),
  (63, .goto (-59), 0, 4, 0, []),
  (66, .iload_n 1, 0, 0, 0, []),
  (67, .ireturn, 0, 0, 0, [])])
def m_B_isLoose : sm_M := (⟨"SpansAway$Blocks", "isLoose", "(I)Z"⟩, prog_2_method_5_code, 2, (some .boolean), (0, 0, 0, 2), [
  (0, .aload_n 0, 0, 0, 0, []),
  (1, .getfield 24, 0, 4, 0, []),
  (4, .iload_n 1, 0, 0, 0, []),
  (5, .iaload, 0, 0, 0, []),
  (6, .ifCond .ne 17, 0, 23, 0, []),
  (9, .aload_n 0, 0, 0, 0, []),
  (10, .getfield 27, 0, 5, 0, []),
  (13, .iload_n 1, 0, 0, 0, []),
  (14, .iaload, 0, 0, 0, []),
  (15, .iconst (-1), (-1), 0, 0, []),
  (16, .if_icmp .ne 7, 0, 23, 0, []),
  (19, .iconst 1, 1, 0, 0, []),
  (20, .goto 4, 0, 24, 0, []),
  (23, .iconst 0, 0, 0, 0, []),
  (24, .ireturn, 0, 0, 0, [])])
def m_Y_noteDrop : sm_M := (⟨"SpansAway$Memory", "noteDrop", "(I)V"⟩, prog_6_method_10_code, 2, none, (1, 24, 4, 402), [
  (0, .aload_n 0, 0, 0, 0, []),
  (1, .getfield 50, 0, 406, 0, []),
  (4, .iconst 5, 5, 0, 0, []),
  (5, .dup2, 0, 0, 0, []),
  (6, .iaload, 0, 0, 0, []),
  (7, .iconst 1, 1, 0, 0, []),
  (8, .iadd, 0, 0, 0, []),
  (9, .iastore, 0, 0, 0, []),
  (10, .aload_n 0, 0, 0, 0, []),
  (11, .getfield 42, 0, 404, 0, []),
  (14, .aload_n 0, 0, 0, 0, []),
  (15, .getfield 53, 0, 407, 0, []),
  (18, .bipush 6, 6, 0, 0, []),
  (20, .iload_n 1, 0, 0, 0, []),
  (21, .aload_n 0, 0, 0, 0, []),
  (22, .getfield 21, 0, 401, 0, []),
  (25, .getfield 157, 0, 0, 0, []),
  (28, .iload_n 1, 0, 0, 0, []),
  (29, .iaload, 0, 0, 0, []),
  (30, .invokevirtual 88, 0, 19, 305, []),
  (33, .return_, 0, 0, 0, [])])
def m_L_add : sm_M := (⟨"SpansAway$Log", "add", "(IIII)V"⟩, prog_5_method_3_code, 5, none, (0, 0, 3, 305), [
  (0, .aload_n 0, 0, 0, 0, []),
  (1, .getfield 9, 0, 300, 0, []),
  (4, .aload_n 0, 0, 0, 0, []),
  (5, .getfield 28, 0, 305, 0, []),
  (8, .iload_n 1, 0, 0, 0, []),
  (9, .iastore, 0, 0, 0, []),
  (10, .aload_n 0, 0, 0, 0, []),
  (11, .getfield 15, 0, 301, 0, []),
  (14, .aload_n 0, 0, 0, 0, []),
  (15, .getfield 28, 0, 305, 0, []),
  (18, .iload_n 2, 0, 0, 0, []),
  (19, .iastore, 0, 0, 0, []),
  (20, .aload_n 0, 0, 0, 0, []),
  (21, .getfield 18, 0, 302, 0, []),
  (24, .aload_n 0, 0, 0, 0, []),
  (25, .getfield 28, 0, 305, 0, []),
  (28, .iload_n 3, 0, 0, 0, []),
  (29, .iastore, 0, 0, 0, []),
  (30, .aload_n 0, 0, 0, 0, []),
  (31, .getfield 21, 0, 303, 0, []),
  (34, .aload_n 0, 0, 0, 0, []),
  (35, .getfield 28, 0, 305, 0, []),
  (38, .iload 4, 0, 0, 0, []),
  (40, .iastore, 0, 0, 0, []),
  (41, .aload_n 0, 0, 0, 0, []),
  (42, .aload_n 0, 0, 0, 0, []),
  (43, .getfield 28, 0, 305, 0, []),
  (46, .iconst 1, 1, 0, 0, []),
  (47, .iadd, 0, 0, 0, []),
  (48, .bipush 60, 60, 0, 0, []),
  (50, .if_icmp .ge 12, 0, 62, 0, []),
  (53, .aload_n 0, 0, 0, 0, []),
  (54, .getfield 28, 0, 305, 0, []),
  (57, .iconst 1, 1, 0, 0, []),
  (58, .iadd, 0, 0, 0, []),
  (59, .goto 4, 0, 63, 0, []),
  (62, .iconst 0, 0, 0, 0, []),
  (63, .putfield 28, 0, 305, 0, []),
  (66, .aload_n 0, 0, 0, 0, []),
  (67, .dup, 0, 0, 0, []),
  (68, .getfield 24, 0, 304, 0, []),
  (71, .iconst 1, 1, 0, 0, []),
  (72, .iadd, 0, 0, 0, []),
  (73, .putfield 24, 0, 304, 0, []),
  (76, .return_, 0, 0, 0, [])])
def m_Y_remove : sm_M := (⟨"SpansAway$Memory", "remove", "(I)V"⟩, prog_6_method_11_code, 3, none, (1, 26, 4, 402), [
  (0, .aload_n 0, 0, 0, 0, []),
  (1, .getfield 21, 0, 401, 0, []),
  (4, .getfield 157, 0, 0, 0, []),
  (7, .iload_n 1, 0, 0, 0, []),
  (8, .iaload, 0, 0, 0, []),
  (9, .istore_n 2, 0, 0, 0, []),
  (10, .aload_n 0, 0, 0, 0, []),
  (11, .getfield 12, 0, 400, 0, []),
  (14, .iload_n 2, 0, 0, 0, []),
  (15, .iconst 1, 1, 0, 0, []),
  (16, .aload_n 0, 0, 0, 0, []),
  (17, .getfield 21, 0, 401, 0, []),
  (20, .getfield 160, 0, 1, 0, []),
  (23, .iload_n 1, 0, 0, 0, []),
  (24, .iaload, 0, 0, 0, []),
  (25, .ishl, 0, 0, 0, []),
  (26, .aload_n 0, 0, 0, 0, []),
  (27, .getfield 28, 0, 402, 0, []),
  (30, .iload_n 2, 0, 0, 0, []),
  (31, .bipush 32, 32, 0, 0, []),
  (33, .idiv, 0, 0, 0, []),
  (34, .invokevirtual 163, 0, 21, 502, [(0, 0)]),
  (37, .invokevirtual 166, 0, 22, 104, []),
  (40, .aload_n 0, 0, 0, 0, []),
  (41, .getfield 21, 0, 401, 0, []),
  (44, .getfield 157, 0, 0, 0, []),
  (47, .iload_n 1, 0, 0, 0, []),
  (48, .iconst (-1), (-1), 0, 0, []),
  (49, .iastore, 0, 0, 0, []),
  (50, .return_, 0, 0, 0, [])])
def m_S_shutBits : sm_M := (⟨"SpansAway$Spans", "shutBits", "(I)I"⟩, prog_8_method_4_code, 2, (some .int), (0, 0, 6, 502), [
  (0, .aload_n 0, 0, 0, 0, []),
  (1, .getfield 18, 0, 502, 0, []),
  (4, .iload_n 1, 0, 0, 0, []),
  (5, .iaload, 0, 0, 0, []),
  (6, .iconst 4, 4, 0, 0, []),
  (7, .if_icmp .lt 7, 0, 14, 0, []),
  (10, .iconst (-1), (-1), 0, 0, []),
  (11, .goto 16, 0, 27, 0, []),
  (14, .iconst 1, 1, 0, 0, []),
  (15, .aload_n 0, 0, 0, 0, []),
  (16, .getfield 18, 0, 502, 0, []),
  (19, .iload_n 1, 0, 0, 0, []),
  (20, .iaload, 0, 0, 0, []),
  (21, .bipush 8, 8, 0, 0, []),
  (23, .imul, 0, 0, 0, []),
  (24, .ishl, 0, 0, 0, []),
  (25, .iconst 1, 1, 0, 0, []),
  (26, .isub, 0, 0, 0, []),
  (27, .ireturn, 0, 0, 0, [])])
def m_F_letGo : sm_M := (⟨"SpansAway$Frames", "letGo", "(III)V"⟩, prog_3_method_8_code, 7, none, (0, 0, 1, 104), [
  (0, .iload_n 1, 0, 0, 0, []),
  (1, .bipush 32, 32, 0, 0, []),
  (3, .idiv, 0, 0, 0, []),
  (4, .istore 4, 0, 0, 0, []),
  (6, .iconst 1, 1, 0, 0, []),
  (7, .iload_n 2, 0, 0, 0, []),
  (8, .ishl, 0, 0, 0, []),
  (9, .iconst 1, 1, 0, 0, []),
  (10, .isub, 0, 0, 0, []),
  (11, .iload_n 1, 0, 0, 0, []),
  (12, .bipush 32, 32, 0, 0, []),
  (14, .irem, 0, 0, 0, []),
  (15, .ishl, 0, 0, 0, []),
  (16, .istore 5, 0, 0, 0, []),
  (18, .aload_n 0, 0, 0, 0, []),
  (19, .getfield 18, 0, 102, 0, []),
  (22, .iload 4, 0, 0, 0, []),
  (24, .dup2, 0, 0, 0, []),
  (25, .iaload, 0, 0, 0, []),
  (26, .iload 5, 0, 0, 0, []),
  (28, .iconst (-1), (-1), 0, 0, []),
  (29, .ixor, 0, 0, 0, []),
  (30, .iand, 0, 0, 0, []),
  (31, .iastore, 0, 0, 0, []),
  (32, .aload_n 0, 0, 0, 0, []),
  (33, .getfield 21, 0, 103, 0, []),
  (36, .iload 4, 0, 0, 0, []),
  (38, .dup2, 0, 0, 0, []),
  (39, .iaload, 0, 0, 0, []),
  (40, .iload 5, 0, 0, 0, []),
  (42, .iconst (-1), (-1), 0, 0, []),
  (43, .ixor, 0, 0, 0, []),
  (44, .iand, 0, 0, 0, []),
  (45, .iastore, 0, 0, 0, []),
  (46, .aload_n 0, 0, 0, 0, []),
  (47, .getfield 9, 0, 100, 0, []),
  (50, .iload 4, 0, 0, 0, []),
  (52, .dup2, 0, 0, 0, []),
  (53, .iaload, 0, 0, 0, []),
  (54, .iload 5, 0, 0, 0, []),
  (56, .iload_n 3, 0, 0, 0, []),
  (57, .iconst (-1), (-1), 0, 0, []),
  (58, .ixor, 0, 0, 0, []),
  (59, .iand, 0, 0, 0, []),
  (60, .ior, 0, 0, 0, []),
  (61, .iastore, 0, 0, 0, []),
  (62, .aload_n 0, 0, 0, 0, []),
  (63, .getfield 15, 0, 101, 0, []),
  (66, .iload 4, 0, 0, 0, []),
  (68, .dup2, 0, 0, 0, []),
  (69, .iaload, 0, 0, 0, []),
  (70, .iload 5, 0, 0, 0, []),
  (72, .iload_n 3, 0, 0, 0, []),
  (73, .iand, 0, 0, 0, []),
  (74, .ior, 0, 0, 0, []),
  (75, .iastore, 0, 0, 0, []),
  (76, .iload_n 1, 0, 0, 0, []),
  (77, .istore 6, 0, 0, 0, []),
  (79, .iload 6, 0, 0, 0, []),
  (81, .iload_n 1, 0, 0, 0, []),
  (82, .iload_n 2, 0, 0, 0, []),
  (83, .iadd, 0, 0, 0, []),
  (84, .if_icmp .ge 25, 0, 109, 0, []),
  (87, .aload_n 0, 0, 0, 0, []),
  (88, .getfield 24, 0, 104, 0, []),
  (91, .iload 6, 0, 0, 0, []),
  (93, .iconst (-1), (-1), 0, 0, []),
  (94, .iastore, 0, 0, 0, []),
  (95, .aload_n 0, 0, 0, 0, []),
  (96, .getfield 27, 0, 105, 0, []),
  (99, .iload 6, 0, 0, 0, []),
  (101, .iconst 0, 0, 0, 0, []),
  (102, .iastore, 0, 0, 0, []),
  (103, .iinc 6 1, 1, 0, 0, []),
  (106, .goto (-27), 0, 79, 0, []),
  (109, .return_, 0, 0, 0, [])])
def m_B_leastNumber : sm_M := (⟨"SpansAway$Blocks", "leastNumber", "()I"⟩, prog_2_method_6_code, 2, (some .int), (0, 0, 0, 1), [
  (0, .iconst 0, 0, 0, 0, []),
  (1, .istore_n 1, 0, 0, 0, []),
  (2, .iload_n 1, 0, 0, 0, []),
  (3, .bipush 96, 96, 0, 0, []),
  (5, .if_icmp .ge 21, 0, 26, 0, []),
  (8, .aload_n 0, 0, 0, 0, []),
  (9, .getfield 9, 0, 0, 0, []),
  (12, .iload_n 1, 0, 0, 0, []),
  (13, .iaload, 0, 0, 0, []),
  (14, .iconst (-1), (-1), 0, 0, []),
  (15, .if_icmp .ne 5, 0, 20, 0, []),
  (18, .iload_n 1, 0, 0, 0, []),
  (19, .ireturn, 0, 0, 0, []),
  (20, .iinc 1 1, 1, 0, 0, []),
  (23, .goto (-21), 0, 2, 0, []),
  (26, .iconst (-1), (-1), 0, 0, []),
  (27, .ireturn, 0, 0, 0, [])])
def m_B_begin : sm_M := (⟨"SpansAway$Blocks", "begin", "(IIIII)V"⟩, prog_2_method_7_code, 6, none, (0, 0, 0, 6), [
  (0, .aload_n 0, 0, 0, 0, []),
  (1, .getfield 9, 0, 0, 0, []),
  (4, .iload_n 1, 0, 0, 0, []),
  (5, .iload_n 2, 0, 0, 0, []),
  (6, .iastore, 0, 0, 0, []),
  (7, .aload_n 0, 0, 0, 0, []),
  (8, .getfield 15, 0, 1, 0, []),
  (11, .iload_n 1, 0, 0, 0, []),
  (12, .iload_n 3, 0, 0, 0, []),
  (13, .iastore, 0, 0, 0, []),
  (14, .aload_n 0, 0, 0, 0, []),
  (15, .getfield 18, 0, 2, 0, []),
  (18, .iload_n 1, 0, 0, 0, []),
  (19, .iload 4, 0, 0, 0, []),
  (21, .iastore, 0, 0, 0, []),
  (22, .aload_n 0, 0, 0, 0, []),
  (23, .getfield 21, 0, 3, 0, []),
  (26, .iload_n 1, 0, 0, 0, []),
  (27, .iload 5, 0, 0, 0, []),
  (29, .iastore, 0, 0, 0, []),
  (30, .aload_n 0, 0, 0, 0, []),
  (31, .getfield 24, 0, 4, 0, []),
  (34, .iload_n 1, 0, 0, 0, []),
  (35, .iconst 0, 0, 0, 0, []),
  (36, .iastore, 0, 0, 0, []),
  (37, .aload_n 0, 0, 0, 0, []),
  (38, .getfield 27, 0, 5, 0, []),
  (41, .iload_n 1, 0, 0, 0, []),
  (42, .iconst (-1), (-1), 0, 0, []),
  (43, .iastore, 0, 0, 0, []),
  (44, .aload_n 0, 0, 0, 0, []),
  (45, .getfield 30, 0, 6, 0, []),
  (48, .iload_n 1, 0, 0, 0, []),
  (49, .iconst 0, 0, 0, 0, []),
  (50, .iastore, 0, 0, 0, []),
  (51, .return_, 0, 0, 0, [])])
def m_F_give : sm_M := (⟨"SpansAway$Frames", "give", "(III)V"⟩, prog_3_method_4_code, 4, none, (1, 25, 1, 104), [
  (0, .aload_n 0, 0, 0, 0, []),
  (1, .getfield 18, 0, 102, 0, []),
  (4, .iload_n 2, 0, 0, 0, []),
  (5, .bipush 32, 32, 0, 0, []),
  (7, .idiv, 0, 0, 0, []),
  (8, .dup2, 0, 0, 0, []),
  (9, .iaload, 0, 0, 0, []),
  (10, .aload_n 0, 0, 0, 0, []),
  (11, .iload_n 1, 0, 0, 0, []),
  (12, .iload_n 2, 0, 0, 0, []),
  (13, .iload_n 3, 0, 0, 0, []),
  (14, .invokevirtual 42, 0, 26, 104, [(0, 0)]),
  (17, .ior, 0, 0, 0, []),
  (18, .iastore, 0, 0, 0, []),
  (19, .return_, 0, 0, 0, [])])
def m_F_claim : sm_M := (⟨"SpansAway$Frames", "claim", "(III)I"⟩, prog_3_method_6_code, 6, (some .int), (0, 0, 1, 104), [
  (0, .iconst 1, 1, 0, 0, []),
  (1, .iload_n 3, 0, 0, 0, []),
  (2, .ishl, 0, 0, 0, []),
  (3, .iconst 1, 1, 0, 0, []),
  (4, .isub, 0, 0, 0, []),
  (5, .iload_n 2, 0, 0, 0, []),
  (6, .bipush 32, 32, 0, 0, []),
  (8, .irem, 0, 0, 0, []),
  (9, .ishl, 0, 0, 0, []),
  (10, .istore 4, 0, 0, 0, []),
  (12, .aload_n 0, 0, 0, 0, []),
  (13, .getfield 9, 0, 100, 0, []),
  (16, .iload_n 2, 0, 0, 0, []),
  (17, .bipush 32, 32, 0, 0, []),
  (19, .idiv, 0, 0, 0, []),
  (20, .dup2, 0, 0, 0, []),
  (21, .iaload, 0, 0, 0, []),
  (22, .iload 4, 0, 0, 0, []),
  (24, .iconst (-1), (-1), 0, 0, []),
  (25, .ixor, 0, 0, 0, []),
  (26, .iand, 0, 0, 0, []),
  (27, .iastore, 0, 0, 0, []),
  (28, .iload_n 2, 0, 0, 0, []),
  (29, .istore 5, 0, 0, 0, []),
  (31, .iload 5, 0, 0, 0, []),
  (33, .iload_n 2, 0, 0, 0, []),
  (34, .iload_n 3, 0, 0, 0, []),
  (35, .iadd, 0, 0, 0, []),
  (36, .if_icmp .ge 17, 0, 53, 0, []),
  (39, .aload_n 0, 0, 0, 0, []),
  (40, .getfield 24, 0, 104, 0, []),
  (43, .iload 5, 0, 0, 0, []),
  (45, .iload_n 1, 0, 0, 0, []),
  (46, .iastore, 0, 0, 0, []),
  (47, .iinc 5 1, 1, 0, 0, []),
  (50, .goto (-19), 0, 31, 0, []),
  (53, .iload 4, 0, 0, 0, []),
  (55, .ireturn, 0, 0, 0, [])])
def m_A_free : sm_M := (⟨"SpansAway", "free", "(I)Z"⟩, prog_1_method_5_code, 2, (some .boolean), (2, 48, 9, 802), [
  (0, .aload_n 0, 0, 0, 0, []),
  (1, .getfield 20, 0, 801, 0, []),
  (4, .getfield 79, 0, 401, 0, []),
  (7, .iload_n 1, 0, 0, 0, []),
  (8, .invokevirtual 83, 0, 28, 2, [(0, 0)]),
  (11, .ifCond .eq 17, 0, 28, 0, []),
  (14, .aload_n 0, 0, 0, 0, []),
  (15, .getfield 20, 0, 801, 0, []),
  (18, .getfield 79, 0, 401, 0, []),
  (21, .iload_n 1, 0, 0, 0, []),
  (22, .invokevirtual 88, 0, 17, 2, [(0, 0)]),
  (25, .ifCond .ne 5, 0, 30, 0, []),
  (28, .iconst 0, 0, 0, 0, []),
  (29, .ireturn, 0, 0, 0, []),
  (30, .aload_n 0, 0, 0, 0, []),
  (31, .getfield 20, 0, 801, 0, []),
  (34, .iload_n 1, 0, 0, 0, []),
  (35, .invokevirtual 91, 0, 20, 402, []),
  (38, .iconst 1, 1, 0, 0, []),
  (39, .ireturn, 0, 0, 0, [])])
def m_B_has : sm_M := (⟨"SpansAway$Blocks", "has", "(I)Z"⟩, prog_2_method_3_code, 2, (some .boolean), (0, 0, 0, 2), [
  (0, .iload_n 1, 0, 0, 0, []),
  (1, .ifCond .lt 23, 0, 24, 0, []),
  (4, .iload_n 1, 0, 0, 0, []),
  (5, .bipush 96, 96, 0, 0, []),
  (7, .if_icmp .ge 17, 0, 24, 0, []),
  (10, .aload_n 0, 0, 0, 0, []),
  (11, .getfield 9, 0, 0, 0, []),
  (14, .iload_n 1, 0, 0, 0, []),
  (15, .iaload, 0, 0, 0, []),
  (16, .iconst (-1), (-1), 0, 0, []),
  (17, .if_icmp .eq 7, 0, 24, 0, []),
  (20, .iconst 1, 1, 0, 0, []),
  (21, .goto 4, 0, 25, 0, []),
  (24, .iconst 0, 0, 0, 0, []),
  (25, .ireturn, 0, 0, 0, [])])
def m_A_read : sm_M := (⟨"SpansAway", "read", "(III)I"⟩, prog_1_method_6_code, 4, (some .int), (3, 71, 9, 804), [
  (0, .aload_n 0, 0, 0, 0, []),
  (1, .iload_n 1, 0, 0, 0, []),
  (2, .iload_n 2, 0, 0, 0, []),
  (3, .iconst 0, 0, 0, 0, []),
  (4, .iload_n 3, 0, 0, 0, []),
  (5, .iconst 0, 0, 0, 0, []),
  (6, .invokevirtual 95, 0, 30, 806, [(0, 0)]),
  (9, .ireturn, 0, 0, 0, [])])
def m_A_touch : sm_M := (⟨"SpansAway", "touch", "(IIIII)I"⟩, prog_1_method_38_code, 6, (some .int), (2, 46, 9, 806), [
  (0, .iload_n 1, 0, 0, 0, []),
  (1, .invokestatic 53, 0, 4, 1, [(0, 0)]),
  (4, .ifCond .eq 33, 0, 37, 0, []),
  (7, .aload_n 0, 0, 0, 0, []),
  (8, .getfield 20, 0, 801, 0, []),
  (11, .getfield 79, 0, 401, 0, []),
  (14, .iload_n 2, 0, 0, 0, []),
  (15, .invokevirtual 83, 0, 28, 2, [(0, 0)]),
  (18, .ifCond .eq 19, 0, 37, 0, []),
  (21, .aload_n 0, 0, 0, 0, []),
  (22, .getfield 20, 0, 801, 0, []),
  (25, .getfield 60, 0, 403, 0, []),
  (28, .getfield 229, 0, 601, 0, []),
  (31, .iload_n 1, 0, 0, 0, []),
  (32, .iaload, 0, 0, 0, []),
  (33, .iconst (-1), (-1), 0, 0, []),
  (34, .if_icmp .eq 5, 0, 39, 0, []),
  (37, .iconst (-1), (-1), 0, 0, []),
  (38, .ireturn, 0, 0, 0, []),
  (39, .iload 4, 0, 0, 0, []),
  (41, .ifCond .lt 19, 0, 60, 0, []),
  (44, .iload 4, 0, 0, 0, []),
  (46, .aload_n 0, 0, 0, 0, []),
  (47, .getfield 20, 0, 801, 0, []),
  (50, .getfield 79, 0, 401, 0, []),
  (53, .iload_n 2, 0, 0, 0, []),
  (54, .invokevirtual 349, 0, 31, 2, [(0, 0)]),
  (57, .if_icmp .lt 5, 0, 62, 0, []),
  (60, .iconst (-1), (-1), 0, 0, []),
  (61, .ireturn, 0, 0, 0, []),
  (62, .aload_n 0, 0, 0, 0, []),
  (63, .getfield 20, 0, 801, 0, []),
  (66, .getfield 60, 0, 403, 0, []),
  (69, .iload_n 1, 0, 0, 0, []),
  (70, .iload_n 3, 0, 0, 0, []),
  (71, .iload 4, 0, 0, 0, []),
  (73, .iload 5, 0, 0, 0, []),
  (75, .invokevirtual 352, 0, 32, 605, []),
  (78, .aload_n 0, 0, 0, 0, []),
  (79, .getfield 20, 0, 801, 0, []),
  (82, .iload_n 1, 0, 0, 0, []),
  (83, .iload_n 2, 0, 0, 0, []),
  (84, .invokevirtual 356, 0, 33, 403, [(0, 0)]),
  (87, .ireturn, 0, 0, 0, [])])
def m_B_size : sm_M := (⟨"SpansAway$Blocks", "size", "(I)I"⟩, prog_2_method_4_code, 2, (some .int), (0, 0, 0, 2), [
  (0, .iconst 1, 1, 0, 0, []),
  (1, .aload_n 0, 0, 0, 0, []),
  (2, .getfield 15, 0, 1, 0, []),
  (5, .iload_n 1, 0, 0, 0, []),
  (6, .iaload, 0, 0, 0, []),
  (7, .ishl, 0, 0, 0, []),
  (8, .ireturn, 0, 0, 0, [])])
def m_K_wants : sm_M := (⟨"SpansAway$Tasks", "wants", "(IIII)V"⟩, prog_9_method_3_code, 5, none, (0, 0, 7, 605), [
  (0, .aload_n 0, 0, 0, 0, []),
  (1, .getfield 21, 0, 603, 0, []),
  (4, .iload_n 1, 0, 0, 0, []),
  (5, .iload_n 2, 0, 0, 0, []),
  (6, .iastore, 0, 0, 0, []),
  (7, .aload_n 0, 0, 0, 0, []),
  (8, .getfield 24, 0, 604, 0, []),
  (11, .iload_n 1, 0, 0, 0, []),
  (12, .iload_n 3, 0, 0, 0, []),
  (13, .iastore, 0, 0, 0, []),
  (14, .aload_n 0, 0, 0, 0, []),
  (15, .getfield 27, 0, 605, 0, []),
  (18, .iload_n 1, 0, 0, 0, []),
  (19, .iload 4, 0, 0, 0, []),
  (21, .iastore, 0, 0, 0, []),
  (22, .return_, 0, 0, 0, [])])
def m_Y_doOrWait : sm_M := (⟨"SpansAway$Memory", "doOrWait", "(II)I"⟩, prog_6_method_12_code, 3, (some .int), (1, 24, 4, 403), [
  (0, .aload_n 0, 0, 0, 0, []),
  (1, .getfield 21, 0, 401, 0, []),
  (4, .getfield 169, 0, 5, 0, []),
  (7, .iload_n 2, 0, 0, 0, []),
  (8, .iaload, 0, 0, 0, []),
  (9, .iconst (-1), (-1), 0, 0, []),
  (10, .if_icmp .ne 11, 0, 21, 0, []),
  (13, .aload_n 0, 0, 0, 0, []),
  (14, .iload_n 1, 0, 0, 0, []),
  (15, .iload_n 2, 0, 0, 0, []),
  (16, .invokevirtual 172, 0, 34, 403, []),
  (19, .iconst 0, 0, 0, 0, []),
  (20, .ireturn, 0, 0, 0, []),
  (21, .aload_n 0, 0, 0, 0, []),
  (22, .getfield 35, 0, 403, 0, []),
  (25, .iload_n 1, 0, 0, 0, []),
  (26, .iload_n 2, 0, 0, 0, []),
  (27, .invokevirtual 176, 0, 35, 603, []),
  (30, .aload_n 0, 0, 0, 0, []),
  (31, .getfield 50, 0, 406, 0, []),
  (34, .bipush 8, 8, 0, 0, []),
  (36, .dup2, 0, 0, 0, []),
  (37, .iaload, 0, 0, 0, []),
  (38, .iconst 1, 1, 0, 0, []),
  (39, .iadd, 0, 0, 0, []),
  (40, .iastore, 0, 0, 0, []),
  (41, .aload_n 0, 0, 0, 0, []),
  (42, .getfield 42, 0, 404, 0, []),
  (45, .aload_n 0, 0, 0, 0, []),
  (46, .getfield 53, 0, 407, 0, []),
  (49, .bipush 7, 7, 0, 0, []),
  (51, .iload_n 1, 0, 0, 0, []),
  (52, .iload_n 2, 0, 0, 0, []),
  (53, .invokevirtual 88, 0, 19, 305, []),
  (56, .iconst 1, 1, 0, 0, []),
  (57, .ireturn, 0, 0, 0, [])])
def m_Y_fulfil : sm_M := (⟨"SpansAway$Memory", "fulfil", "(II)V"⟩, prog_6_method_13_code, 4, none, (0, 0, 4, 403), [
  (0, .aload_n 0, 0, 0, 0, []),
  (1, .getfield 35, 0, 403, 0, []),
  (4, .getfield 179, 0, 603, 0, []),
  (7, .iload_n 1, 0, 0, 0, []),
  (8, .iaload, 0, 0, 0, []),
  (9, .iconst 2, 2, 0, 0, []),
  (10, .if_icmp .ne 19, 0, 29, 0, []),
  (13, .aload_n 0, 0, 0, 0, []),
  (14, .getfield 21, 0, 401, 0, []),
  (17, .getfield 182, 0, 4, 0, []),
  (20, .iload_n 2, 0, 0, 0, []),
  (21, .dup2, 0, 0, 0, []),
  (22, .iaload, 0, 0, 0, []),
  (23, .iconst 1, 1, 0, 0, []),
  (24, .iload_n 1, 0, 0, 0, []),
  (25, .ishl, 0, 0, 0, []),
  (26, .ior, 0, 0, 0, []),
  (27, .iastore, 0, 0, 0, []),
  (28, .return_, 0, 0, 0, []),
  (29, .aload_n 0, 0, 0, 0, []),
  (30, .getfield 21, 0, 401, 0, []),
  (33, .getfield 157, 0, 0, 0, []),
  (36, .iload_n 2, 0, 0, 0, []),
  (37, .iaload, 0, 0, 0, []),
  (38, .aload_n 0, 0, 0, 0, []),
  (39, .getfield 35, 0, 403, 0, []),
  (42, .getfield 185, 0, 604, 0, []),
  (45, .iload_n 1, 0, 0, 0, []),
  (46, .iaload, 0, 0, 0, []),
  (47, .iadd, 0, 0, 0, []),
  (48, .istore_n 3, 0, 0, 0, []),
  (49, .aload_n 0, 0, 0, 0, []),
  (50, .getfield 35, 0, 403, 0, []),
  (53, .getfield 179, 0, 603, 0, []),
  (56, .iload_n 1, 0, 0, 0, []),
  (57, .iaload, 0, 0, 0, []),
  (58, .ifCond .ne 24, 0, 82, 0, []),
  (61, .aload_n 0, 0, 0, 0, []),
  (62, .getfield 35, 0, 403, 0, []),
  (65, .getfield 188, 0, 602, 0, []),
  (68, .iload_n 1, 0, 0, 0, []),
  (69, .aload_n 0, 0, 0, 0, []),
  (70, .getfield 12, 0, 400, 0, []),
  (73, .getfield 154, 0, 105, 0, []),
  (76, .iload_n 3, 0, 0, 0, []),
  (77, .iaload, 0, 0, 0, []),
  (78, .iastore, 0, 0, 0, []),
  (79, .goto 21, 0, 100, 0, []),
  (82, .aload_n 0, 0, 0, 0, []),
  (83, .getfield 12, 0, 400, 0, []),
  (86, .getfield 154, 0, 105, 0, []),
  (89, .iload_n 3, 0, 0, 0, []),
  (90, .aload_n 0, 0, 0, 0, []),
  (91, .getfield 35, 0, 403, 0, []),
  (94, .getfield 191, 0, 605, 0, []),
  (97, .iload_n 1, 0, 0, 0, []),
  (98, .iaload, 0, 0, 0, []),
  (99, .iastore, 0, 0, 0, []),
  (100, .aload_n 0, 0, 0, 0, []),
  (101, .getfield 21, 0, 401, 0, []),
  (104, .dup, 0, 0, 0, []),
  (105, .getfield 144, 0, 8, 0, []),
  (108, .iconst 1, 1, 0, 0, []),
  (109, .iadd, 0, 0, 0, []),
  (110, .putfield 144, 0, 8, 0, []),
  (113, .aload_n 0, 0, 0, 0, []),
  (114, .getfield 21, 0, 401, 0, []),
  (117, .getfield 147, 0, 7, 0, []),
  (120, .iload_n 2, 0, 0, 0, []),
  (121, .aload_n 0, 0, 0, 0, []),
  (122, .getfield 21, 0, 401, 0, []),
  (125, .getfield 144, 0, 8, 0, []),
  (128, .iastore, 0, 0, 0, []),
  (129, .return_, 0, 0, 0, [])])
def m_K_queue : sm_M := (⟨"SpansAway$Tasks", "queue", "(II)V"⟩, prog_9_method_4_code, 3, none, (0, 0, 7, 603), [
  (0, .aload_n 0, 0, 0, 0, []),
  (1, .getfield 33, 0, 607, 0, []),
  (4, .bipush 6, 6, 0, 0, []),
  (6, .if_icmp .ge 30, 0, 36, 0, []),
  (9, .aload_n 0, 0, 0, 0, []),
  (10, .getfield 30, 0, 606, 0, []),
  (13, .aload_n 0, 0, 0, 0, []),
  (14, .getfield 33, 0, 607, 0, []),
  (17, .iload_n 1, 0, 0, 0, []),
  (18, .iastore, 0, 0, 0, []),
  (19, .aload_n 0, 0, 0, 0, []),
  (20, .dup, 0, 0, 0, []),
  (21, .getfield 33, 0, 607, 0, []),
  (24, .iconst 1, 1, 0, 0, []),
  (25, .iadd, 0, 0, 0, []),
  (26, .putfield 33, 0, 607, 0, []),
  (29, .aload_n 0, 0, 0, 0, []),
  (30, .getfield 15, 0, 601, 0, []),
  (33, .iload_n 1, 0, 0, 0, []),
  (34, .iload_n 2, 0, 0, 0, []),
  (35, .iastore, 0, 0, 0, []),
  (36, .return_, 0, 0, 0, [])])
def m_A_write : sm_M := (⟨"SpansAway", "write", "(IIII)I"⟩, prog_1_method_7_code, 5, (some .int), (3, 71, 9, 805), [
  (0, .aload_n 0, 0, 0, 0, []),
  (1, .iload_n 1, 0, 0, 0, []),
  (2, .iload_n 2, 0, 0, 0, []),
  (3, .iconst 1, 1, 0, 0, []),
  (4, .iload_n 3, 0, 0, 0, []),
  (5, .iload 4, 0, 0, 0, []),
  (7, .invokevirtual 95, 0, 30, 806, [(0, 0)]),
  (10, .ireturn, 0, 0, 0, [])])
def m_A_pin : sm_M := (⟨"SpansAway", "pin", "(II)I"⟩, prog_1_method_8_code, 3, (some .int), (3, 71, 9, 803), [
  (0, .aload_n 0, 0, 0, 0, []),
  (1, .iload_n 1, 0, 0, 0, []),
  (2, .iload_n 2, 0, 0, 0, []),
  (3, .invokevirtual 99, 0, 38, 803, [(0, 0)]),
  (6, .ifCond .eq 5, 0, 11, 0, []),
  (9, .iconst (-1), (-1), 0, 0, []),
  (10, .ireturn, 0, 0, 0, []),
  (11, .aload_n 0, 0, 0, 0, []),
  (12, .iload_n 1, 0, 0, 0, []),
  (13, .iload_n 2, 0, 0, 0, []),
  (14, .iconst 2, 2, 0, 0, []),
  (15, .iconst 0, 0, 0, 0, []),
  (16, .iconst 0, 0, 0, 0, []),
  (17, .invokevirtual 95, 0, 30, 806, [(0, 0)]),
  (20, .ireturn, 0, 0, 0, [])])
def m_A_hasPin : sm_M := (⟨"SpansAway", "hasPin", "(II)Z"⟩, prog_1_method_39_code, 3, (some .boolean), (1, 21, 9, 803), [
  (0, .iload_n 1, 0, 0, 0, []),
  (1, .invokestatic 53, 0, 4, 1, [(0, 0)]),
  (4, .ifCond .eq 40, 0, 44, 0, []),
  (7, .aload_n 0, 0, 0, 0, []),
  (8, .getfield 20, 0, 801, 0, []),
  (11, .getfield 79, 0, 401, 0, []),
  (14, .iload_n 2, 0, 0, 0, []),
  (15, .invokevirtual 83, 0, 28, 2, [(0, 0)]),
  (18, .ifCond .eq 26, 0, 44, 0, []),
  (21, .aload_n 0, 0, 0, 0, []),
  (22, .getfield 20, 0, 801, 0, []),
  (25, .getfield 79, 0, 401, 0, []),
  (28, .getfield 103, 0, 4, 0, []),
  (31, .iload_n 2, 0, 0, 0, []),
  (32, .iaload, 0, 0, 0, []),
  (33, .iload_n 1, 0, 0, 0, []),
  (34, .ishr, 0, 0, 0, []),
  (35, .iconst 1, 1, 0, 0, []),
  (36, .iand, 0, 0, 0, []),
  (37, .ifCond .eq 7, 0, 44, 0, []),
  (40, .iconst 1, 1, 0, 0, []),
  (41, .goto 4, 0, 45, 0, []),
  (44, .iconst 0, 0, 0, 0, []),
  (45, .ireturn, 0, 0, 0, [])])
def m_A_unpin : sm_M := (⟨"SpansAway", "unpin", "(II)Z"⟩, prog_1_method_9_code, 3, (some .boolean), (2, 43, 9, 803), [
  (0, .aload_n 0, 0, 0, 0, []),
  (1, .iload_n 1, 0, 0, 0, []),
  (2, .iload_n 2, 0, 0, 0, []),
  (3, .invokevirtual 99, 0, 38, 803, [(0, 0)]),
  (6, .ifCond .ne 5, 0, 11, 0, []),
  (9, .iconst 0, 0, 0, 0, []),
  (10, .ireturn, 0, 0, 0, []),
  (11, .aload_n 0, 0, 0, 0, []),
  (12, .getfield 20, 0, 801, 0, []),
  (15, .getfield 79, 0, 401, 0, []),
  (18, .getfield 103, 0, 4, 0, []),
  (21, .iload_n 2, 0, 0, 0, []),
  (22, .dup2, 0, 0, 0, []),
  (23, .iaload, 0, 0, 0, []),
  (24, .iconst 1, 1, 0, 0, []),
  (25, .iload_n 1, 0, 0, 0, []),
  (26, .ishl, 0, 0, 0, []),
  (27, .iconst (-1), (-1), 0, 0, []),
  (28, .ixor, 0, 0, 0, []),
  (29, .iand, 0, 0, 0, []),
  (30, .iastore, 0, 0, 0, []),
  (31, .iconst 1, 1, 0, 0, []),
  (32, .ireturn, 0, 0, 0, [])])
def m_A_come : sm_M := (⟨"SpansAway", "come", "(II)I"⟩, prog_1_method_10_code, 4, (some .int), (2, 46, 9, 803), [
  (0, .iload_n 1, 0, 0, 0, []),
  (1, .invokestatic 106, 0, 41, 1, [(0, 0)]),
  (4, .ifCond .eq 27, 0, 31, 0, []),
  (7, .iload_n 2, 0, 0, 0, []),
  (8, .ifCond .lt 23, 0, 31, 0, []),
  (11, .iload_n 2, 0, 0, 0, []),
  (12, .iconst 2, 2, 0, 0, []),
  (13, .if_icmp .gt 18, 0, 31, 0, []),
  (16, .aload_n 0, 0, 0, 0, []),
  (17, .getfield 20, 0, 801, 0, []),
  (20, .getfield 109, 0, 402, 0, []),
  (23, .getfield 113, 0, 500, 0, []),
  (26, .iload_n 1, 0, 0, 0, []),
  (27, .iaload, 0, 0, 0, []),
  (28, .ifCond .eq 5, 0, 33, 0, []),
  (31, .iconst (-1), (-1), 0, 0, []),
  (32, .ireturn, 0, 0, 0, []),
  (33, .iload_n 2, 0, 0, 0, []),
  (34, .iconst 2, 2, 0, 0, []),
  (35, .if_icmp .ne 13, 0, 48, 0, []),
  (38, .aload_n 0, 0, 0, 0, []),
  (39, .getfield 20, 0, 801, 0, []),
  (42, .invokevirtual 118, 0, 42, 401, [(0, 0)]),
  (45, .goto 4, 0, 49, 0, []),
  (48, .iload_n 2, 0, 0, 0, []),
  (49, .istore_n 3, 0, 0, 0, []),
  (50, .aload_n 0, 0, 0, 0, []),
  (51, .getfield 20, 0, 801, 0, []),
  (54, .iload_n 1, 0, 0, 0, []),
  (55, .iload_n 3, 0, 0, 0, []),
  (56, .invokevirtual 122, 0, 45, 403, []),
  (59, .iload_n 3, 0, 0, 0, []),
  (60, .ireturn, 0, 0, 0, [])])
def m_A_isSpan : sm_M := (⟨"SpansAway", "isSpan", "(I)Z"⟩, prog_1_method_40_code, 1, (some .boolean), (0, 0, 9, 1), [
  (0, .iload_n 0, 0, 0, 0, []),
  (1, .ifCond .lt 13, 0, 14, 0, []),
  (4, .iload_n 0, 0, 0, 0, []),
  (5, .bipush 8, 8, 0, 0, []),
  (7, .if_icmp .ge 7, 0, 14, 0, []),
  (10, .iconst 1, 1, 0, 0, []),
  (11, .goto 4, 0, 15, 0, []),
  (14, .iconst 0, 0, 0, 0, []),
  (15, .ireturn, 0, 0, 0, [])])
def m_Y_zoneByRatio : sm_M := (⟨"SpansAway$Memory", "zoneByRatio", "()I"⟩, prog_6_method_5_code, 2, (some .int), (1, 23, 4, 401), [
  (0, .aload_n 0, 0, 0, 0, []),
  (1, .getfield 28, 0, 402, 0, []),
  (4, .iconst 1, 1, 0, 0, []),
  (5, .invokevirtual 92, 0, 43, 502, [(0, 0)]),
  (8, .iconst 1, 1, 0, 0, []),
  (9, .iadd, 0, 0, 0, []),
  (10, .istore_n 1, 0, 0, 0, []),
  (11, .aload_n 0, 0, 0, 0, []),
  (12, .iload_n 1, 0, 0, 0, []),
  (13, .aload_n 0, 0, 0, 0, []),
  (14, .getfield 28, 0, 402, 0, []),
  (17, .iconst 0, 0, 0, 0, []),
  (18, .invokevirtual 92, 0, 43, 502, [(0, 0)]),
  (21, .invokevirtual 96, 0, 44, 403, [(0, 0)]),
  (24, .ifCond .eq 7, 0, 31, 0, []),
  (27, .iconst 1, 1, 0, 0, []),
  (28, .goto 4, 0, 32, 0, []),
  (31, .iconst 0, 0, 0, 0, []),
  (32, .ireturn, 0, 0, 0, [])])
def m_S_inZone : sm_M := (⟨"SpansAway$Spans", "inZone", "(I)I"⟩, prog_8_method_7_code, 4, (some .int), (0, 0, 6, 502), [
  (0, .iconst 0, 0, 0, 0, []),
  (1, .istore_n 2, 0, 0, 0, []),
  (2, .iconst 0, 0, 0, 0, []),
  (3, .istore_n 3, 0, 0, 0, []),
  (4, .iload_n 3, 0, 0, 0, []),
  (5, .bipush 8, 8, 0, 0, []),
  (7, .if_icmp .ge 27, 0, 34, 0, []),
  (10, .iload_n 2, 0, 0, 0, []),
  (11, .aload_n 0, 0, 0, 0, []),
  (12, .getfield 15, 0, 501, 0, []),
  (15, .iload_n 3, 0, 0, 0, []),
  (16, .iaload, 0, 0, 0, []),
  (17, .iload_n 1, 0, 0, 0, []),
  (18, .if_icmp .ne 7, 0, 25, 0, []),
  (21, .iconst 1, 1, 0, 0, []),
  (22, .goto 4, 0, 26, 0, []),
  (25, .iconst 0, 0, 0, 0, []),
  (26, .iadd, 0, 0, 0, []),
  (27, .istore_n 2, 0, 0, 0, []),
  (28, .iinc 3 1, 1, 0, 0, []),
  (31, .goto (-27), 0, 4, 0, []),
  (34, .iload_n 2, 0, 0, 0, []),
  (35, .ireturn, 0, 0, 0, [])])
def m_Y_staysInRatio : sm_M := (⟨"SpansAway$Memory", "staysInRatio", "(II)Z"⟩, prog_6_method_6_code, 3, (some .boolean), (0, 0, 4, 403), [
  (0, .bipush 100, 100, 0, 0, []),
  (2, .iload_n 1, 0, 0, 0, []),
  (3, .imul, 0, 0, 0, []),
  (4, .aload_n 0, 0, 0, 0, []),
  (5, .getfield 46, 0, 405, 0, []),
  (8, .iconst 2, 2, 0, 0, []),
  (9, .iaload, 0, 0, 0, []),
  (10, .iload_n 2, 0, 0, 0, []),
  (11, .imul, 0, 0, 0, []),
  (12, .if_icmp .gt 7, 0, 19, 0, []),
  (15, .iconst 1, 1, 0, 0, []),
  (16, .goto 4, 0, 20, 0, []),
  (19, .iconst 0, 0, 0, 0, []),
  (20, .ireturn, 0, 0, 0, [])])
def m_Y_open : sm_M := (⟨"SpansAway$Memory", "open", "(II)V"⟩, prog_6_method_4_code, 3, none, (1, 24, 4, 403), [
  (0, .aload_n 0, 0, 0, 0, []),
  (1, .getfield 28, 0, 402, 0, []),
  (4, .getfield 79, 0, 500, 0, []),
  (7, .iload_n 1, 0, 0, 0, []),
  (8, .iconst 1, 1, 0, 0, []),
  (9, .iastore, 0, 0, 0, []),
  (10, .aload_n 0, 0, 0, 0, []),
  (11, .getfield 28, 0, 402, 0, []),
  (14, .getfield 82, 0, 501, 0, []),
  (17, .iload_n 1, 0, 0, 0, []),
  (18, .iload_n 2, 0, 0, 0, []),
  (19, .iastore, 0, 0, 0, []),
  (20, .aload_n 0, 0, 0, 0, []),
  (21, .getfield 12, 0, 400, 0, []),
  (24, .getfield 85, 0, 100, 0, []),
  (27, .iload_n 1, 0, 0, 0, []),
  (28, .iconst (-1), (-1), 0, 0, []),
  (29, .iastore, 0, 0, 0, []),
  (30, .aload_n 0, 0, 0, 0, []),
  (31, .getfield 42, 0, 404, 0, []),
  (34, .aload_n 0, 0, 0, 0, []),
  (35, .getfield 53, 0, 407, 0, []),
  (38, .iconst 3, 3, 0, 0, []),
  (39, .iload_n 1, 0, 0, 0, []),
  (40, .iload_n 2, 0, 0, 0, []),
  (41, .invokevirtual 88, 0, 19, 305, []),
  (44, .return_, 0, 0, 0, [])])
def m_A_byTurns : sm_M := (⟨"SpansAway", "byTurns", "(I)I"⟩, prog_1_method_11_code, 5, (some .int), (2, 46, 9, 802), [
  (0, .iload_n 1, 0, 0, 0, []),
  (1, .iconst 1, 1, 0, 0, []),
  (2, .if_icmp .lt 9, 0, 11, 0, []),
  (5, .iload_n 1, 0, 0, 0, []),
  (6, .bipush 8, 8, 0, 0, []),
  (8, .if_icmp .le 5, 0, 13, 0, []),
  (11, .iconst (-1), (-1), 0, 0, []),
  (12, .ireturn, 0, 0, 0, []),
  (13, .iconst 0, 0, 0, 0, []),
  (14, .istore_n 2, 0, 0, 0, []),
  (15, .iconst 0, 0, 0, 0, []),
  (16, .istore_n 3, 0, 0, 0, []),
  (17, .iload_n 3, 0, 0, 0, []),
  (18, .iload_n 1, 0, 0, 0, []),
  (19, .if_icmp .ge 49, 0, 68, 0, []),
  (22, .aload_n 0, 0, 0, 0, []),
  (23, .getfield 20, 0, 801, 0, []),
  (26, .getfield 109, 0, 402, 0, []),
  (29, .invokevirtual 126, 0, 47, 501, [(0, 0)]),
  (32, .istore 4, 0, 0, 0, []),
  (34, .iload 4, 0, 0, 0, []),
  (36, .iconst (-1), (-1), 0, 0, []),
  (37, .if_icmp .ne 6, 0, 43, 0, []),
  (40, .goto 28, 0, 68, 0, []),
  (43, .aload_n 0, 0, 0, 0, []),
  (44, .getfield 20, 0, 801, 0, []),
  (47, .iload 4, 0, 0, 0, []),
  (49, .aload_n 0, 0, 0, 0, []),
  (50, .getfield 20, 0, 801, 0, []),
  (53, .invokevirtual 118, 0, 42, 401, [(0, 0)]),
  (56, .invokevirtual 122, 0, 45, 403, []),
  (59, .iinc 2 1, 1, 0, 0, []),
  (62, .iinc 3 1, 1, 0, 0, []),
  (65, .goto (-48), 0, 17, 0, []),
  (68, .iload_n 2, 0, 0, 0, []),
  (69, .ireturn, 0, 0, 0, [])])
def m_S_nextByTurns : sm_M := (⟨"SpansAway$Spans", "nextByTurns", "()I"⟩, prog_8_method_8_code, 7, (some .int), (0, 0, 6, 501), [
  (0, .iconst (-1), (-1), 0, 0, []),
  (1, .istore_n 1, 0, 0, 0, []),
  (2, .bipush 8, 8, 0, 0, []),
  (4, .istore_n 2, 0, 0, 0, []),
  (5, .iconst 0, 0, 0, 0, []),
  (6, .istore_n 3, 0, 0, 0, []),
  (7, .iload_n 3, 0, 0, 0, []),
  (8, .iconst 2, 2, 0, 0, []),
  (9, .if_icmp .ge 75, 0, 84, 0, []),
  (12, .iconst 0, 0, 0, 0, []),
  (13, .istore 4, 0, 0, 0, []),
  (15, .iconst (-1), (-1), 0, 0, []),
  (16, .istore 5, 0, 0, 0, []),
  (18, .iload_n 3, 0, 0, 0, []),
  (19, .istore 6, 0, 0, 0, []),
  (21, .iload 6, 0, 0, 0, []),
  (23, .bipush 8, 8, 0, 0, []),
  (25, .if_icmp .ge 35, 0, 60, 0, []),
  (28, .aload_n 0, 0, 0, 0, []),
  (29, .getfield 9, 0, 500, 0, []),
  (32, .iload 6, 0, 0, 0, []),
  (34, .iaload, 0, 0, 0, []),
  (35, .ifCond .eq 9, 0, 44, 0, []),
  (38, .iinc 4 1, 1, 0, 0, []),
  (41, .goto 13, 0, 54, 0, []),
  (44, .iload 5, 0, 0, 0, []),
  (46, .iconst (-1), (-1), 0, 0, []),
  (47, .if_icmp .ne 7, 0, 54, 0, []),
  (50, .iload 6, 0, 0, 0, []),
  (52, .istore 5, 0, 0, 0, []),
  (54, .iinc 6 2, 2, 0, 0, []),
  (57, .goto (-36), 0, 21, 0, []),
  (60, .iload 5, 0, 0, 0, []),
  (62, .iconst (-1), (-1), 0, 0, []),
  (63, .if_icmp .eq 15, 0, 78, 0, []),
  (66, .iload 4, 0, 0, 0, []),
  (68, .iload_n 2, 0, 0, 0, []),
  (69, .if_icmp .ge 9, 0, 78, 0, []),
  (72, .iload 5, 0, 0, 0, []),
  (74, .istore_n 1, 0, 0, 0, []),
  (75, .iload 4, 0, 0, 0, []),
  (77, .istore_n 2, 0, 0, 0, []),
  (78, .iinc 3 1, 1, 0, 0, []),
  (81, .goto (-74), 0, 7, 0, []),
  (84, .iload_n 1, 0, 0, 0, []),
  (85, .ireturn, 0, 0, 0, [])])
def m_A_press : sm_M := (⟨"SpansAway", "press", "(I)I"⟩, prog_1_method_12_code, 2, (some .int), (4, 98, 9, 802), [
  (0, .iload_n 1, 0, 0, 0, []),
  (1, .invokestatic 106, 0, 41, 1, [(0, 0)]),
  (4, .ifCond .eq 19, 0, 23, 0, []),
  (7, .aload_n 0, 0, 0, 0, []),
  (8, .getfield 20, 0, 801, 0, []),
  (11, .getfield 109, 0, 402, 0, []),
  (14, .getfield 113, 0, 500, 0, []),
  (17, .iload_n 1, 0, 0, 0, []),
  (18, .iaload, 0, 0, 0, []),
  (19, .iconst 1, 1, 0, 0, []),
  (20, .if_icmp .eq 5, 0, 25, 0, []),
  (23, .iconst (-1), (-1), 0, 0, []),
  (24, .ireturn, 0, 0, 0, []),
  (25, .aload_n 0, 0, 0, 0, []),
  (26, .getfield 20, 0, 801, 0, []),
  (29, .iload_n 1, 0, 0, 0, []),
  (30, .invokevirtual 129, 0, 49, 402, [(0, 0)]),
  (33, .ireturn, 0, 0, 0, [])])
def m_Y_pack : sm_M := (⟨"SpansAway$Memory", "pack", "(I)I"⟩, prog_6_method_16_code, 7, (some .int), (3, 72, 4, 402), [
  (0, .iconst 0, 0, 0, 0, []),
  (1, .istore_n 2, 0, 0, 0, []),
  (2, .bipush 31, 31, 0, 0, []),
  (4, .istore_n 3, 0, 0, 0, []),
  (5, .iload_n 3, 0, 0, 0, []),
  (6, .ifCond .lt 108, 0, 114, 0, []),
  (9, .aload_n 0, 0, 0, 0, []),
  (10, .iload_n 1, 0, 0, 0, []),
  (11, .bipush 32, 32, 0, 0, []),
  (13, .imul, 0, 0, 0, []),
  (14, .iload_n 3, 0, 0, 0, []),
  (15, .iadd, 0, 0, 0, []),
  (16, .invokevirtual 209, 0, 50, 402, [(0, 0)]),
  (19, .istore 4, 0, 0, 0, []),
  (21, .iload 4, 0, 0, 0, []),
  (23, .iconst (-1), (-1), 0, 0, []),
  (24, .if_icmp .eq 84, 0, 108, 0, []),
  (27, .aload_n 0, 0, 0, 0, []),
  (28, .getfield 21, 0, 401, 0, []),
  (31, .getfield 212, 0, 2, 0, []),
  (34, .iload 4, 0, 0, 0, []),
  (36, .iaload, 0, 0, 0, []),
  (37, .ifCond .ne 71, 0, 108, 0, []),
  (40, .aload_n 0, 0, 0, 0, []),
  (41, .getfield 21, 0, 401, 0, []),
  (44, .iload 4, 0, 0, 0, []),
  (46, .invokevirtual 215, 0, 17, 2, [(0, 0)]),
  (49, .ifCond .ne 6, 0, 55, 0, []),
  (52, .goto 56, 0, 108, 0, []),
  (55, .aload_n 0, 0, 0, 0, []),
  (56, .getfield 12, 0, 400, 0, []),
  (59, .getfield 85, 0, 100, 0, []),
  (62, .iload_n 1, 0, 0, 0, []),
  (63, .iaload, 0, 0, 0, []),
  (64, .aload_n 0, 0, 0, 0, []),
  (65, .getfield 21, 0, 401, 0, []),
  (68, .getfield 160, 0, 1, 0, []),
  (71, .iload 4, 0, 0, 0, []),
  (73, .iaload, 0, 0, 0, []),
  (74, .invokestatic 100, 0, 11, 2, [(0, 0)]),
  (77, .istore 5, 0, 0, 0, []),
  (79, .iload 5, 0, 0, 0, []),
  (81, .invokestatic 117, 0, 15, 1, [(0, 0)]),
  (84, .istore 6, 0, 0, 0, []),
  (86, .iload 6, 0, 0, 0, []),
  (88, .iload_n 3, 0, 0, 0, []),
  (89, .if_icmp .ge 19, 0, 108, 0, []),
  (92, .aload_n 0, 0, 0, 0, []),
  (93, .iload 4, 0, 0, 0, []),
  (95, .iload_n 1, 0, 0, 0, []),
  (96, .bipush 32, 32, 0, 0, []),
  (98, .imul, 0, 0, 0, []),
  (99, .iload 6, 0, 0, 0, []),
  (101, .iadd, 0, 0, 0, []),
  (102, .invokevirtual 219, 0, 51, 403, []),
  (105, .iinc 2 1, 1, 0, 0, []),
  (108, .iinc 3 (-1), (-1), 0, 0, []),
  (111, .goto (-106), 0, 5, 0, []),
  (114, .iload_n 2, 0, 0, 0, []),
  (115, .ireturn, 0, 0, 0, [])])
def m_Y_blockAt : sm_M := (⟨"SpansAway$Memory", "blockAt", "(I)I"⟩, prog_6_method_17_code, 3, (some .int), (0, 0, 4, 402), [
  (0, .aload_n 0, 0, 0, 0, []),
  (1, .getfield 12, 0, 400, 0, []),
  (4, .getfield 222, 0, 104, 0, []),
  (7, .iload_n 1, 0, 0, 0, []),
  (8, .iaload, 0, 0, 0, []),
  (9, .istore_n 2, 0, 0, 0, []),
  (10, .iload_n 2, 0, 0, 0, []),
  (11, .iconst (-1), (-1), 0, 0, []),
  (12, .if_icmp .eq 20, 0, 32, 0, []),
  (15, .aload_n 0, 0, 0, 0, []),
  (16, .getfield 21, 0, 401, 0, []),
  (19, .getfield 157, 0, 0, 0, []),
  (22, .iload_n 2, 0, 0, 0, []),
  (23, .iaload, 0, 0, 0, []),
  (24, .iload_n 1, 0, 0, 0, []),
  (25, .if_icmp .ne 7, 0, 32, 0, []),
  (28, .iload_n 2, 0, 0, 0, []),
  (29, .goto 4, 0, 33, 0, []),
  (32, .iconst (-1), (-1), 0, 0, []),
  (33, .ireturn, 0, 0, 0, [])])
def m_Y_moveAtOnce : sm_M := (⟨"SpansAway$Memory", "moveAtOnce", "(II)V"⟩, prog_6_method_15_code, 5, none, (2, 48, 4, 403), [
  (0, .aload_n 0, 0, 0, 0, []),
  (1, .getfield 21, 0, 401, 0, []),
  (4, .getfield 157, 0, 0, 0, []),
  (7, .iload_n 1, 0, 0, 0, []),
  (8, .iaload, 0, 0, 0, []),
  (9, .istore_n 3, 0, 0, 0, []),
  (10, .aload_n 0, 0, 0, 0, []),
  (11, .getfield 21, 0, 401, 0, []),
  (14, .iload_n 1, 0, 0, 0, []),
  (15, .invokevirtual 203, 0, 31, 2, [(0, 0)]),
  (18, .istore 4, 0, 0, 0, []),
  (20, .aload_n 0, 0, 0, 0, []),
  (21, .getfield 12, 0, 400, 0, []),
  (24, .iload_n 1, 0, 0, 0, []),
  (25, .iload_n 2, 0, 0, 0, []),
  (26, .iload 4, 0, 0, 0, []),
  (28, .invokevirtual 150, 0, 25, 104, []),
  (31, .aload_n 0, 0, 0, 0, []),
  (32, .getfield 12, 0, 400, 0, []),
  (35, .iload_n 3, 0, 0, 0, []),
  (36, .iload_n 2, 0, 0, 0, []),
  (37, .iload 4, 0, 0, 0, []),
  (39, .invokevirtual 206, 0, 52, 104, []),
  (42, .aload_n 0, 0, 0, 0, []),
  (43, .getfield 12, 0, 400, 0, []),
  (46, .iload_n 3, 0, 0, 0, []),
  (47, .iload 4, 0, 0, 0, []),
  (49, .iconst 0, 0, 0, 0, []),
  (50, .invokevirtual 166, 0, 22, 104, []),
  (53, .aload_n 0, 0, 0, 0, []),
  (54, .getfield 21, 0, 401, 0, []),
  (57, .getfield 157, 0, 0, 0, []),
  (60, .iload_n 1, 0, 0, 0, []),
  (61, .iload_n 2, 0, 0, 0, []),
  (62, .iastore, 0, 0, 0, []),
  (63, .aload_n 0, 0, 0, 0, []),
  (64, .getfield 50, 0, 406, 0, []),
  (67, .bipush 10, 10, 0, 0, []),
  (69, .dup2, 0, 0, 0, []),
  (70, .iaload, 0, 0, 0, []),
  (71, .iconst 1, 1, 0, 0, []),
  (72, .iadd, 0, 0, 0, []),
  (73, .iastore, 0, 0, 0, []),
  (74, .return_, 0, 0, 0, [])])
def m_F_copyValues : sm_M := (⟨"SpansAway$Frames", "copyValues", "(III)V"⟩, prog_3_method_9_code, 5, none, (0, 0, 1, 104), [
  (0, .iconst 0, 0, 0, 0, []),
  (1, .istore 4, 0, 0, 0, []),
  (3, .iload 4, 0, 0, 0, []),
  (5, .iload_n 3, 0, 0, 0, []),
  (6, .if_icmp .ge 27, 0, 33, 0, []),
  (9, .aload_n 0, 0, 0, 0, []),
  (10, .getfield 27, 0, 105, 0, []),
  (13, .iload_n 2, 0, 0, 0, []),
  (14, .iload 4, 0, 0, 0, []),
  (16, .iadd, 0, 0, 0, []),
  (17, .aload_n 0, 0, 0, 0, []),
  (18, .getfield 27, 0, 105, 0, []),
  (21, .iload_n 1, 0, 0, 0, []),
  (22, .iload 4, 0, 0, 0, []),
  (24, .iadd, 0, 0, 0, []),
  (25, .iaload, 0, 0, 0, []),
  (26, .iastore, 0, 0, 0, []),
  (27, .iinc 4 1, 1, 0, 0, []),
  (30, .goto (-27), 0, 3, 0, []),
  (33, .return_, 0, 0, 0, [])])
def m_A_gather : sm_M := (⟨"SpansAway", "gather", "(I)I"⟩, prog_1_method_13_code, 2, (some .int), (4, 106, 9, 802), [
  (0, .iload_n 1, 0, 0, 0, []),
  (1, .invokestatic 53, 0, 4, 1, [(0, 0)]),
  (4, .ifCond .ne 5, 0, 9, 0, []),
  (7, .iconst (-1), (-1), 0, 0, []),
  (8, .ireturn, 0, 0, 0, []),
  (9, .aload_n 0, 0, 0, 0, []),
  (10, .getfield 20, 0, 801, 0, []),
  (13, .iload_n 1, 0, 0, 0, []),
  (14, .invokevirtual 133, 0, 54, 402, [(0, 0)]),
  (17, .ireturn, 0, 0, 0, [])])
def m_Y_bringNearer : sm_M := (⟨"SpansAway$Memory", "bringNearer", "(I)I"⟩, prog_6_method_18_code, 5, (some .int), (3, 82, 4, 402), [
  (0, .iconst 0, 0, 0, 0, []),
  (1, .istore_n 2, 0, 0, 0, []),
  (2, .iconst 0, 0, 0, 0, []),
  (3, .istore_n 3, 0, 0, 0, []),
  (4, .iload_n 3, 0, 0, 0, []),
  (5, .bipush 96, 96, 0, 0, []),
  (7, .if_icmp .ge 60, 0, 67, 0, []),
  (10, .aload_n 0, 0, 0, 0, []),
  (11, .getfield 21, 0, 401, 0, []),
  (14, .iload_n 3, 0, 0, 0, []),
  (15, .invokevirtual 225, 0, 28, 2, [(0, 0)]),
  (18, .ifCond .eq 24, 0, 42, 0, []),
  (21, .aload_n 0, 0, 0, 0, []),
  (22, .getfield 21, 0, 401, 0, []),
  (25, .getfield 228, 0, 3, 0, []),
  (28, .iload_n 3, 0, 0, 0, []),
  (29, .iaload, 0, 0, 0, []),
  (30, .iload_n 1, 0, 0, 0, []),
  (31, .if_icmp .ne 11, 0, 42, 0, []),
  (34, .aload_n 0, 0, 0, 0, []),
  (35, .iload_n 3, 0, 0, 0, []),
  (36, .invokevirtual 231, 0, 55, 402, [(0, 0)]),
  (39, .goto 4, 0, 43, 0, []),
  (42, .iconst (-1), (-1), 0, 0, []),
  (43, .istore 4, 0, 0, 0, []),
  (45, .iload 4, 0, 0, 0, []),
  (47, .iconst (-1), (-1), 0, 0, []),
  (48, .if_icmp .eq 13, 0, 61, 0, []),
  (51, .aload_n 0, 0, 0, 0, []),
  (52, .iload_n 3, 0, 0, 0, []),
  (53, .iload 4, 0, 0, 0, []),
  (55, .invokevirtual 219, 0, 51, 403, []),
  (58, .iinc 2 1, 1, 0, 0, []),
  (61, .iinc 3 1, 1, 0, 0, []),
  (64, .goto (-60), 0, 4, 0, []),
  (67, .iload_n 2, 0, 0, 0, []),
  (68, .ireturn, 0, 0, 0, [])])
def m_Y_nearerPlace : sm_M := (⟨"SpansAway$Memory", "nearerPlace", "(I)I"⟩, prog_6_method_19_code, 7, (some .int), (2, 56, 4, 402), [
  (0, .aload_n 0, 0, 0, 0, []),
  (1, .getfield 21, 0, 401, 0, []),
  (4, .getfield 157, 0, 0, 0, []),
  (7, .iload_n 1, 0, 0, 0, []),
  (8, .iaload, 0, 0, 0, []),
  (9, .bipush 32, 32, 0, 0, []),
  (11, .idiv, 0, 0, 0, []),
  (12, .istore_n 2, 0, 0, 0, []),
  (13, .aload_n 0, 0, 0, 0, []),
  (14, .getfield 21, 0, 401, 0, []),
  (17, .getfield 212, 0, 2, 0, []),
  (20, .iload_n 1, 0, 0, 0, []),
  (21, .iaload, 0, 0, 0, []),
  (22, .ifCond .ne 27, 0, 49, 0, []),
  (25, .aload_n 0, 0, 0, 0, []),
  (26, .getfield 21, 0, 401, 0, []),
  (29, .iload_n 1, 0, 0, 0, []),
  (30, .invokevirtual 215, 0, 17, 2, [(0, 0)]),
  (33, .ifCond .eq 16, 0, 49, 0, []),
  (36, .aload_n 0, 0, 0, 0, []),
  (37, .getfield 28, 0, 402, 0, []),
  (40, .getfield 79, 0, 500, 0, []),
  (43, .iload_n 2, 0, 0, 0, []),
  (44, .iaload, 0, 0, 0, []),
  (45, .iconst 1, 1, 0, 0, []),
  (46, .if_icmp .eq 5, 0, 51, 0, []),
  (49, .iconst (-1), (-1), 0, 0, []),
  (50, .ireturn, 0, 0, 0, []),
  (51, .aload_n 0, 0, 0, 0, []),
  (52, .getfield 21, 0, 401, 0, []),
  (55, .getfield 228, 0, 3, 0, []),
  (58, .iload_n 1, 0, 0, 0, []),
  (59, .iaload, 0, 0, 0, []),
  (60, .istore_n 3, 0, 0, 0, []),
  (61, .aload_n 0, 0, 0, 0, []),
  (62, .iload_n 3, 0, 0, 0, []),
  (63, .iconst 0, 0, 0, 0, []),
  (64, .aload_n 0, 0, 0, 0, []),
  (65, .getfield 21, 0, 401, 0, []),
  (68, .getfield 160, 0, 1, 0, []),
  (71, .iload_n 1, 0, 0, 0, []),
  (72, .iaload, 0, 0, 0, []),
  (73, .iconst 1, 1, 0, 0, []),
  (74, .invokevirtual 122, 0, 10, 405, [(0, 0)]),
  (77, .istore 4, 0, 0, 0, []),
  (79, .iload 4, 0, 0, 0, []),
  (81, .iconst (-1), (-1), 0, 0, []),
  (82, .if_icmp .ne 5, 0, 87, 0, []),
  (85, .iconst (-1), (-1), 0, 0, []),
  (86, .ireturn, 0, 0, 0, []),
  (87, .aload_n 0, 0, 0, 0, []),
  (88, .getfield 35, 0, 403, 0, []),
  (91, .getfield 104, 0, 600, 0, []),
  (94, .iload_n 3, 0, 0, 0, []),
  (95, .iaload, 0, 0, 0, []),
  (96, .istore 5, 0, 0, 0, []),
  (98, .aload_n 0, 0, 0, 0, []),
  (99, .iload 4, 0, 0, 0, []),
  (101, .bipush 32, 32, 0, 0, []),
  (103, .idiv, 0, 0, 0, []),
  (104, .iconst 0, 0, 0, 0, []),
  (105, .iload 5, 0, 0, 0, []),
  (107, .invokevirtual 107, 0, 12, 404, [(0, 0)]),
  (110, .aload_n 0, 0, 0, 0, []),
  (111, .iload_n 2, 0, 0, 0, []),
  (112, .iconst 0, 0, 0, 0, []),
  (113, .iload 5, 0, 0, 0, []),
  (115, .invokevirtual 107, 0, 12, 404, [(0, 0)]),
  (118, .if_icmp .ge 7, 0, 125, 0, []),
  (121, .iconst 1, 1, 0, 0, []),
  (122, .goto 4, 0, 126, 0, []),
  (125, .iconst 0, 0, 0, 0, []),
  (126, .istore 6, 0, 0, 0, []),
  (128, .iload 6, 0, 0, 0, []),
  (130, .ifCond .eq 8, 0, 138, 0, []),
  (133, .iload 4, 0, 0, 0, []),
  (135, .goto 4, 0, 139, 0, []),
  (138, .iconst (-1), (-1), 0, 0, []),
  (139, .ireturn, 0, 0, 0, [])])
def m_A_go : sm_M := (⟨"SpansAway", "go", "(I)Z"⟩, prog_1_method_14_code, 2, (some .boolean), (2, 45, 9, 802), [
  (0, .iload_n 1, 0, 0, 0, []),
  (1, .invokestatic 106, 0, 41, 1, [(0, 0)]),
  (4, .ifCond .eq 17, 0, 21, 0, []),
  (7, .aload_n 0, 0, 0, 0, []),
  (8, .getfield 20, 0, 801, 0, []),
  (11, .getfield 109, 0, 402, 0, []),
  (14, .iload_n 1, 0, 0, 0, []),
  (15, .invokevirtual 136, 0, 57, 502, [(0, 0)]),
  (18, .ifCond .ne 5, 0, 23, 0, []),
  (21, .iconst 0, 0, 0, 0, []),
  (22, .ireturn, 0, 0, 0, []),
  (23, .aload_n 0, 0, 0, 0, []),
  (24, .getfield 12, 0, 800, 0, []),
  (27, .iload_n 1, 0, 0, 0, []),
  (28, .invokevirtual 139, 0, 58, 202, []),
  (31, .iconst 1, 1, 0, 0, []),
  (32, .ireturn, 0, 0, 0, [])])
def m_S_canGo : sm_M := (⟨"SpansAway$Spans", "canGo", "(I)Z"⟩, prog_8_method_6_code, 3, (some .boolean), (0, 0, 6, 502), [
  (0, .aload_n 0, 0, 0, 0, []),
  (1, .getfield 9, 0, 500, 0, []),
  (4, .iload_n 1, 0, 0, 0, []),
  (5, .iaload, 0, 0, 0, []),
  (6, .iconst 1, 1, 0, 0, []),
  (7, .if_icmp .eq 5, 0, 12, 0, []),
  (10, .iconst 0, 0, 0, 0, []),
  (11, .ireturn, 0, 0, 0, []),
  (12, .iconst 0, 0, 0, 0, []),
  (13, .istore_n 2, 0, 0, 0, []),
  (14, .iload_n 2, 0, 0, 0, []),
  (15, .bipush 8, 8, 0, 0, []),
  (17, .if_icmp .ge 35, 0, 52, 0, []),
  (20, .iload_n 2, 0, 0, 0, []),
  (21, .iload_n 1, 0, 0, 0, []),
  (22, .if_icmp .eq 24, 0, 46, 0, []),
  (25, .aload_n 0, 0, 0, 0, []),
  (26, .getfield 9, 0, 500, 0, []),
  (29, .iload_n 2, 0, 0, 0, []),
  (30, .iaload, 0, 0, 0, []),
  (31, .iconst 1, 1, 0, 0, []),
  (32, .if_icmp .ne 14, 0, 46, 0, []),
  (35, .aload_n 0, 0, 0, 0, []),
  (36, .getfield 15, 0, 501, 0, []),
  (39, .iload_n 2, 0, 0, 0, []),
  (40, .iaload, 0, 0, 0, []),
  (41, .ifCond .ne 5, 0, 46, 0, []),
  (44, .iconst 1, 1, 0, 0, []),
  (45, .ireturn, 0, 0, 0, []),
  (46, .iinc 2 1, 1, 0, 0, []),
  (49, .goto (-35), 0, 14, 0, []),
  (52, .iconst 0, 0, 0, 0, []),
  (53, .ireturn, 0, 0, 0, [])])
def m_G_begin : sm_M := (⟨"SpansAway$Going", "begin", "(I)V"⟩, prog_4_method_2_code, 2, none, (1, 24, 2, 202), [
  (0, .aload_n 0, 0, 0, 0, []),
  (1, .getfield 32, 0, 203, 0, []),
  (4, .getfield 33, 0, 500, 0, []),
  (7, .iload_n 1, 0, 0, 0, []),
  (8, .iconst 2, 2, 0, 0, []),
  (9, .iastore, 0, 0, 0, []),
  (10, .aload_n 0, 0, 0, 0, []),
  (11, .getfield 12, 0, 200, 0, []),
  (14, .getfield 39, 0, 404, 0, []),
  (17, .aload_n 0, 0, 0, 0, []),
  (18, .getfield 12, 0, 200, 0, []),
  (21, .getfield 43, 0, 407, 0, []),
  (24, .iconst 0, 0, 0, 0, []),
  (25, .iload_n 1, 0, 0, 0, []),
  (26, .iload_n 1, 0, 0, 0, []),
  (27, .iconst 2, 2, 0, 0, []),
  (28, .irem, 0, 0, 0, []),
  (29, .invokevirtual 47, 0, 19, 305, []),
  (32, .return_, 0, 0, 0, [])])
def m_A_giveUp : sm_M := (⟨"SpansAway", "giveUp", "(I)Z"⟩, prog_1_method_15_code, 2, (some .boolean), (3, 71, 9, 802), [
  (0, .iload_n 1, 0, 0, 0, []),
  (1, .invokestatic 106, 0, 41, 1, [(0, 0)]),
  (4, .ifCond .eq 17, 0, 21, 0, []),
  (7, .aload_n 0, 0, 0, 0, []),
  (8, .getfield 20, 0, 801, 0, []),
  (11, .getfield 109, 0, 402, 0, []),
  (14, .iload_n 1, 0, 0, 0, []),
  (15, .invokevirtual 142, 0, 60, 502, [(0, 0)]),
  (18, .ifCond .ne 5, 0, 23, 0, []),
  (21, .iconst 0, 0, 0, 0, []),
  (22, .ireturn, 0, 0, 0, []),
  (23, .aload_n 0, 0, 0, 0, []),
  (24, .getfield 12, 0, 800, 0, []),
  (27, .iload_n 1, 0, 0, 0, []),
  (28, .invokevirtual 145, 0, 61, 202, []),
  (31, .iconst 1, 1, 0, 0, []),
  (32, .ireturn, 0, 0, 0, [])])
def m_S_isGoing : sm_M := (⟨"SpansAway$Spans", "isGoing", "(I)Z"⟩, prog_8_method_3_code, 2, (some .boolean), (0, 0, 6, 502), [
  (0, .aload_n 0, 0, 0, 0, []),
  (1, .getfield 9, 0, 500, 0, []),
  (4, .iload_n 1, 0, 0, 0, []),
  (5, .iaload, 0, 0, 0, []),
  (6, .iconst 2, 2, 0, 0, []),
  (7, .if_icmp .eq 13, 0, 20, 0, []),
  (10, .aload_n 0, 0, 0, 0, []),
  (11, .getfield 9, 0, 500, 0, []),
  (14, .iload_n 1, 0, 0, 0, []),
  (15, .iaload, 0, 0, 0, []),
  (16, .iconst 3, 3, 0, 0, []),
  (17, .if_icmp .ne 7, 0, 24, 0, []),
  (20, .iconst 1, 1, 0, 0, []),
  (21, .goto 4, 0, 25, 0, []),
  (24, .iconst 0, 0, 0, 0, []),
  (25, .ireturn, 0, 0, 0, [])])
def m_G_callOff : sm_M := (⟨"SpansAway$Going", "callOff", "(I)V"⟩, prog_4_method_17_code, 4, none, (2, 48, 2, 202), [
  (0, .aload_n 0, 0, 0, 0, []),
  (1, .getfield 32, 0, 203, 0, []),
  (4, .getfield 99, 0, 506, 0, []),
  (7, .iload_n 1, 0, 0, 0, []),
  (8, .iaload, 0, 0, 0, []),
  (9, .istore_n 2, 0, 0, 0, []),
  (10, .iload_n 2, 0, 0, 0, []),
  (11, .iconst (-1), (-1), 0, 0, []),
  (12, .if_icmp .eq 54, 0, 66, 0, []),
  (15, .aload_n 0, 0, 0, 0, []),
  (16, .getfield 27, 0, 202, 0, []),
  (19, .getfield 147, 0, 5, 0, []),
  (22, .iload_n 2, 0, 0, 0, []),
  (23, .iaload, 0, 0, 0, []),
  (24, .istore_n 3, 0, 0, 0, []),
  (25, .aload_n 0, 0, 0, 0, []),
  (26, .getfield 22, 0, 201, 0, []),
  (29, .iload_n 3, 0, 0, 0, []),
  (30, .aload_n 0, 0, 0, 0, []),
  (31, .getfield 27, 0, 202, 0, []),
  (34, .iload_n 2, 0, 0, 0, []),
  (35, .invokevirtual 118, 0, 31, 2, [(0, 0)]),
  (38, .aload_n 0, 0, 0, 0, []),
  (39, .getfield 32, 0, 203, 0, []),
  (42, .iload_n 3, 0, 0, 0, []),
  (43, .bipush 32, 32, 0, 0, []),
  (45, .idiv, 0, 0, 0, []),
  (46, .invokevirtual 179, 0, 21, 502, [(0, 0)]),
  (49, .invokevirtual 182, 0, 22, 104, []),
  (52, .aload_n 0, 0, 0, 0, []),
  (53, .iload_n 1, 0, 0, 0, []),
  (54, .iload_n 2, 0, 0, 0, []),
  (55, .invokevirtual 188, 0, 62, 203, []),
  (58, .aload_n 0, 0, 0, 0, []),
  (59, .getfield 12, 0, 200, 0, []),
  (62, .iload_n 2, 0, 0, 0, []),
  (63, .invokevirtual 191, 0, 63, 402, []),
  (66, .aload_n 0, 0, 0, 0, []),
  (67, .iload_n 1, 0, 0, 0, []),
  (68, .iconst 3, 3, 0, 0, []),
  (69, .invokevirtual 67, 0, 64, 203, []),
  (72, .return_, 0, 0, 0, [])])
def m_G_endWay : sm_M := (⟨"SpansAway$Going", "endWay", "(II)V"⟩, prog_4_method_12_code, 3, none, (0, 0, 2, 203), [
  (0, .aload_n 0, 0, 0, 0, []),
  (1, .getfield 27, 0, 202, 0, []),
  (4, .getfield 147, 0, 5, 0, []),
  (7, .iload_n 2, 0, 0, 0, []),
  (8, .iconst (-1), (-1), 0, 0, []),
  (9, .iastore, 0, 0, 0, []),
  (10, .aload_n 0, 0, 0, 0, []),
  (11, .getfield 27, 0, 202, 0, []),
  (14, .getfield 115, 0, 6, 0, []),
  (17, .iload_n 2, 0, 0, 0, []),
  (18, .iconst 0, 0, 0, 0, []),
  (19, .iastore, 0, 0, 0, []),
  (20, .aload_n 0, 0, 0, 0, []),
  (21, .getfield 32, 0, 203, 0, []),
  (24, .getfield 99, 0, 506, 0, []),
  (27, .iload_n 1, 0, 0, 0, []),
  (28, .iconst (-1), (-1), 0, 0, []),
  (29, .iastore, 0, 0, 0, []),
  (30, .return_, 0, 0, 0, [])])
def m_Y_serveLine : sm_M := (⟨"SpansAway$Memory", "serveLine", "(I)V"⟩, prog_6_method_14_code, 5, none, (1, 24, 4, 402), [
  (0, .iconst 0, 0, 0, 0, []),
  (1, .istore_n 2, 0, 0, 0, []),
  (2, .iconst 0, 0, 0, 0, []),
  (3, .istore_n 3, 0, 0, 0, []),
  (4, .iload_n 3, 0, 0, 0, []),
  (5, .aload_n 0, 0, 0, 0, []),
  (6, .getfield 35, 0, 403, 0, []),
  (9, .getfield 194, 0, 607, 0, []),
  (12, .if_icmp .ge 85, 0, 97, 0, []),
  (15, .aload_n 0, 0, 0, 0, []),
  (16, .getfield 35, 0, 403, 0, []),
  (19, .getfield 197, 0, 606, 0, []),
  (22, .iload_n 3, 0, 0, 0, []),
  (23, .iaload, 0, 0, 0, []),
  (24, .istore 4, 0, 0, 0, []),
  (26, .aload_n 0, 0, 0, 0, []),
  (27, .getfield 35, 0, 403, 0, []),
  (30, .getfield 200, 0, 601, 0, []),
  (33, .iload 4, 0, 0, 0, []),
  (35, .iaload, 0, 0, 0, []),
  (36, .iload_n 1, 0, 0, 0, []),
  (37, .if_icmp .ne 40, 0, 77, 0, []),
  (40, .aload_n 0, 0, 0, 0, []),
  (41, .iload 4, 0, 0, 0, []),
  (43, .iload_n 1, 0, 0, 0, []),
  (44, .invokevirtual 172, 0, 34, 403, []),
  (47, .aload_n 0, 0, 0, 0, []),
  (48, .getfield 35, 0, 403, 0, []),
  (51, .getfield 200, 0, 601, 0, []),
  (54, .iload 4, 0, 0, 0, []),
  (56, .iconst (-1), (-1), 0, 0, []),
  (57, .iastore, 0, 0, 0, []),
  (58, .aload_n 0, 0, 0, 0, []),
  (59, .getfield 42, 0, 404, 0, []),
  (62, .aload_n 0, 0, 0, 0, []),
  (63, .getfield 53, 0, 407, 0, []),
  (66, .bipush 8, 8, 0, 0, []),
  (68, .iload 4, 0, 0, 0, []),
  (70, .iload_n 1, 0, 0, 0, []),
  (71, .invokevirtual 88, 0, 19, 305, []),
  (74, .goto 17, 0, 91, 0, []),
  (77, .aload_n 0, 0, 0, 0, []),
  (78, .getfield 35, 0, 403, 0, []),
  (81, .getfield 197, 0, 606, 0, []),
  (84, .iload_n 2, 0, 0, 0, []),
  (85, .iload 4, 0, 0, 0, []),
  (87, .iastore, 0, 0, 0, []),
  (88, .iinc 2 1, 1, 0, 0, []),
  (91, .iinc 3 1, 1, 0, 0, []),
  (94, .goto (-90), 0, 4, 0, []),
  (97, .aload_n 0, 0, 0, 0, []),
  (98, .getfield 35, 0, 403, 0, []),
  (101, .iload_n 2, 0, 0, 0, []),
  (102, .putfield 194, 0, 607, 0, []),
  (105, .return_, 0, 0, 0, [])])
def m_G_fail : sm_M := (⟨"SpansAway$Going", "fail", "(II)V"⟩, prog_4_method_16_code, 3, none, (1, 24, 2, 203), [
  (0, .aload_n 0, 0, 0, 0, []),
  (1, .getfield 22, 0, 201, 0, []),
  (4, .getfield 71, 0, 100, 0, []),
  (7, .iload_n 1, 0, 0, 0, []),
  (8, .dup2, 0, 0, 0, []),
  (9, .iaload, 0, 0, 0, []),
  (10, .aload_n 0, 0, 0, 0, []),
  (11, .getfield 22, 0, 201, 0, []),
  (14, .getfield 76, 0, 101, 0, []),
  (17, .iload_n 1, 0, 0, 0, []),
  (18, .iaload, 0, 0, 0, []),
  (19, .ior, 0, 0, 0, []),
  (20, .iastore, 0, 0, 0, []),
  (21, .aload_n 0, 0, 0, 0, []),
  (22, .getfield 22, 0, 201, 0, []),
  (25, .getfield 76, 0, 101, 0, []),
  (28, .iload_n 1, 0, 0, 0, []),
  (29, .iconst 0, 0, 0, 0, []),
  (30, .iastore, 0, 0, 0, []),
  (31, .aload_n 0, 0, 0, 0, []),
  (32, .getfield 32, 0, 203, 0, []),
  (35, .iload_n 1, 0, 0, 0, []),
  (36, .iconst 1, 1, 0, 0, []),
  (37, .invokevirtual 209, 0, 65, 503, []),
  (40, .aload_n 0, 0, 0, 0, []),
  (41, .getfield 32, 0, 203, 0, []),
  (44, .getfield 212, 0, 507, 0, []),
  (47, .iload_n 1, 0, 0, 0, []),
  (48, .iload_n 2, 0, 0, 0, []),
  (49, .iastore, 0, 0, 0, []),
  (50, .aload_n 0, 0, 0, 0, []),
  (51, .getfield 12, 0, 200, 0, []),
  (54, .getfield 168, 0, 406, 0, []),
  (57, .bipush 7, 7, 0, 0, []),
  (59, .dup2, 0, 0, 0, []),
  (60, .iaload, 0, 0, 0, []),
  (61, .iconst 1, 1, 0, 0, []),
  (62, .iadd, 0, 0, 0, []),
  (63, .iastore, 0, 0, 0, []),
  (64, .aload_n 0, 0, 0, 0, []),
  (65, .getfield 12, 0, 200, 0, []),
  (68, .getfield 39, 0, 404, 0, []),
  (71, .aload_n 0, 0, 0, 0, []),
  (72, .getfield 12, 0, 200, 0, []),
  (75, .getfield 43, 0, 407, 0, []),
  (78, .iconst 2, 2, 0, 0, []),
  (79, .iload_n 1, 0, 0, 0, []),
  (80, .iload_n 2, 0, 0, 0, []),
  (81, .invokevirtual 47, 0, 19, 305, []),
  (84, .return_, 0, 0, 0, [])])
def m_S_endGoing : sm_M := (⟨"SpansAway$Spans", "endGoing", "(II)V"⟩, prog_8_method_5_code, 3, none, (0, 0, 6, 503), [
  (0, .aload_n 0, 0, 0, 0, []),
  (1, .getfield 9, 0, 500, 0, []),
  (4, .iload_n 1, 0, 0, 0, []),
  (5, .iload_n 2, 0, 0, 0, []),
  (6, .iastore, 0, 0, 0, []),
  (7, .aload_n 0, 0, 0, 0, []),
  (8, .getfield 18, 0, 502, 0, []),
  (11, .iload_n 1, 0, 0, 0, []),
  (12, .iconst 0, 0, 0, 0, []),
  (13, .iastore, 0, 0, 0, []),
  (14, .aload_n 0, 0, 0, 0, []),
  (15, .getfield 21, 0, 503, 0, []),
  (18, .iload_n 1, 0, 0, 0, []),
  (19, .iconst 0, 0, 0, 0, []),
  (20, .iastore, 0, 0, 0, []),
  (21, .aload_n 0, 0, 0, 0, []),
  (22, .getfield 24, 0, 504, 0, []),
  (25, .iload_n 1, 0, 0, 0, []),
  (26, .iconst 0, 0, 0, 0, []),
  (27, .iastore, 0, 0, 0, []),
  (28, .aload_n 0, 0, 0, 0, []),
  (29, .getfield 27, 0, 505, 0, []),
  (32, .iload_n 1, 0, 0, 0, []),
  (33, .iconst 0, 0, 0, 0, []),
  (34, .iastore, 0, 0, 0, []),
  (35, .aload_n 0, 0, 0, 0, []),
  (36, .getfield 30, 0, 506, 0, []),
  (39, .iload_n 1, 0, 0, 0, []),
  (40, .iconst (-1), (-1), 0, 0, []),
  (41, .iastore, 0, 0, 0, []),
  (42, .return_, 0, 0, 0, [])])
def m_A_tick : sm_M := (⟨"SpansAway", "tick", "(I)I"⟩, prog_1_method_16_code, 3, (some .int), (5, 128, 9, 802), [
  (0, .iload_n 1, 0, 0, 0, []),
  (1, .iconst 1, 1, 0, 0, []),
  (2, .if_icmp .lt 24, 0, 26, 0, []),
  (5, .iload_n 1, 0, 0, 0, []),
  (6, .bipush 60, 60, 0, 0, []),
  (8, .if_icmp .gt 18, 0, 26, 0, []),
  (11, .aload_n 0, 0, 0, 0, []),
  (12, .getfield 20, 0, 801, 0, []),
  (15, .getfield 148, 0, 407, 0, []),
  (18, .iload_n 1, 0, 0, 0, []),
  (19, .iadd, 0, 0, 0, []),
  (20, .sipush 9999, 9999, 0, 0, []),
  (23, .if_icmp .le 5, 0, 28, 0, []),
  (26, .iconst (-1), (-1), 0, 0, []),
  (27, .ireturn, 0, 0, 0, []),
  (28, .iconst 0, 0, 0, 0, []),
  (29, .istore_n 2, 0, 0, 0, []),
  (30, .iload_n 2, 0, 0, 0, []),
  (31, .iload_n 1, 0, 0, 0, []),
  (32, .if_icmp .ge 16, 0, 48, 0, []),
  (35, .aload_n 0, 0, 0, 0, []),
  (36, .getfield 12, 0, 800, 0, []),
  (39, .invokevirtual 152, 0, 67, 201, []),
  (42, .iinc 2 1, 1, 0, 0, []),
  (45, .goto (-15), 0, 30, 0, []),
  (48, .aload_n 0, 0, 0, 0, []),
  (49, .getfield 20, 0, 801, 0, []),
  (52, .getfield 148, 0, 407, 0, []),
  (55, .ireturn, 0, 0, 0, [])])
def m_G_oneTick : sm_M := (⟨"SpansAway$Going", "oneTick", "()V"⟩, prog_4_method_3_code, 2, none, (4, 107, 2, 201), [
  (0, .aload_n 0, 0, 0, 0, []),
  (1, .getfield 12, 0, 200, 0, []),
  (4, .dup, 0, 0, 0, []),
  (5, .getfield 43, 0, 407, 0, []),
  (8, .iconst 1, 1, 0, 0, []),
  (9, .iadd, 0, 0, 0, []),
  (10, .putfield 43, 0, 407, 0, []),
  (13, .iconst 0, 0, 0, 0, []),
  (14, .istore_n 1, 0, 0, 0, []),
  (15, .iload_n 1, 0, 0, 0, []),
  (16, .bipush 8, 8, 0, 0, []),
  (18, .if_icmp .ge 48, 0, 66, 0, []),
  (21, .aload_n 0, 0, 0, 0, []),
  (22, .getfield 32, 0, 203, 0, []),
  (25, .getfield 33, 0, 500, 0, []),
  (28, .iload_n 1, 0, 0, 0, []),
  (29, .iaload, 0, 0, 0, []),
  (30, .iconst 2, 2, 0, 0, []),
  (31, .if_icmp .ne 11, 0, 42, 0, []),
  (34, .aload_n 0, 0, 0, 0, []),
  (35, .iload_n 1, 0, 0, 0, []),
  (36, .invokevirtual 53, 0, 68, 202, []),
  (39, .goto 21, 0, 60, 0, []),
  (42, .aload_n 0, 0, 0, 0, []),
  (43, .getfield 32, 0, 203, 0, []),
  (46, .getfield 33, 0, 500, 0, []),
  (49, .iload_n 1, 0, 0, 0, []),
  (50, .iaload, 0, 0, 0, []),
  (51, .iconst 3, 3, 0, 0, []),
  (52, .if_icmp .ne 8, 0, 60, 0, []),
  (55, .aload_n 0, 0, 0, 0, []),
  (56, .iload_n 1, 0, 0, 0, []),
  (57, .invokevirtual 57, 0, 70, 202, []),
  (60, .iinc 1 1, 1, 0, 0, []),
  (63, .goto (-48), 0, 15, 0, []),
  (66, .return_, 0, 0, 0, [])])
def m_G_shutNextPart : sm_M := (⟨"SpansAway$Going", "shutNextPart", "(I)V"⟩, prog_4_method_4_code, 4, none, (2, 46, 2, 202), [
  (0, .aload_n 0, 0, 0, 0, []),
  (1, .getfield 32, 0, 203, 0, []),
  (4, .getfield 60, 0, 502, 0, []),
  (7, .iload_n 1, 0, 0, 0, []),
  (8, .iaload, 0, 0, 0, []),
  (9, .bipush 8, 8, 0, 0, []),
  (11, .imul, 0, 0, 0, []),
  (12, .istore_n 2, 0, 0, 0, []),
  (13, .aload_n 0, 0, 0, 0, []),
  (14, .iload_n 1, 0, 0, 0, []),
  (15, .bipush 32, 32, 0, 0, []),
  (17, .imul, 0, 0, 0, []),
  (18, .iload_n 2, 0, 0, 0, []),
  (19, .iadd, 0, 0, 0, []),
  (20, .invokevirtual 63, 0, 69, 202, [(0, 0)]),
  (23, .ifCond .eq 10, 0, 33, 0, []),
  (26, .aload_n 0, 0, 0, 0, []),
  (27, .iload_n 1, 0, 0, 0, []),
  (28, .iconst 0, 0, 0, 0, []),
  (29, .invokevirtual 67, 0, 64, 203, []),
  (32, .return_, 0, 0, 0, []),
  (33, .aload_n 0, 0, 0, 0, []),
  (34, .getfield 22, 0, 201, 0, []),
  (37, .getfield 71, 0, 100, 0, []),
  (40, .iload_n 1, 0, 0, 0, []),
  (41, .iaload, 0, 0, 0, []),
  (42, .sipush 255, 255, 0, 0, []),
  (45, .iload_n 2, 0, 0, 0, []),
  (46, .ishl, 0, 0, 0, []),
  (47, .iand, 0, 0, 0, []),
  (48, .istore_n 3, 0, 0, 0, []),
  (49, .aload_n 0, 0, 0, 0, []),
  (50, .getfield 22, 0, 201, 0, []),
  (53, .getfield 71, 0, 100, 0, []),
  (56, .iload_n 1, 0, 0, 0, []),
  (57, .dup2, 0, 0, 0, []),
  (58, .iaload, 0, 0, 0, []),
  (59, .iload_n 3, 0, 0, 0, []),
  (60, .iconst (-1), (-1), 0, 0, []),
  (61, .ixor, 0, 0, 0, []),
  (62, .iand, 0, 0, 0, []),
  (63, .iastore, 0, 0, 0, []),
  (64, .aload_n 0, 0, 0, 0, []),
  (65, .getfield 22, 0, 201, 0, []),
  (68, .getfield 76, 0, 101, 0, []),
  (71, .iload_n 1, 0, 0, 0, []),
  (72, .dup2, 0, 0, 0, []),
  (73, .iaload, 0, 0, 0, []),
  (74, .iload_n 3, 0, 0, 0, []),
  (75, .ior, 0, 0, 0, []),
  (76, .iastore, 0, 0, 0, []),
  (77, .aload_n 0, 0, 0, 0, []),
  (78, .getfield 32, 0, 203, 0, []),
  (81, .getfield 60, 0, 502, 0, []),
  (84, .iload_n 1, 0, 0, 0, []),
  (85, .dup2, 0, 0, 0, []),
  (86, .iaload, 0, 0, 0, []),
  (87, .iconst 1, 1, 0, 0, []),
  (88, .iadd, 0, 0, 0, []),
  (89, .iastore, 0, 0, 0, []),
  (90, .aload_n 0, 0, 0, 0, []),
  (91, .getfield 32, 0, 203, 0, []),
  (94, .getfield 60, 0, 502, 0, []),
  (97, .iload_n 1, 0, 0, 0, []),
  (98, .iaload, 0, 0, 0, []),
  (99, .iconst 4, 4, 0, 0, []),
  (100, .if_icmp .lt 33, 0, 133, 0, []),
  (103, .aload_n 0, 0, 0, 0, []),
  (104, .getfield 32, 0, 203, 0, []),
  (107, .getfield 33, 0, 500, 0, []),
  (110, .iload_n 1, 0, 0, 0, []),
  (111, .iconst 3, 3, 0, 0, []),
  (112, .iastore, 0, 0, 0, []),
  (113, .aload_n 0, 0, 0, 0, []),
  (114, .getfield 32, 0, 203, 0, []),
  (117, .getfield 79, 0, 503, 0, []),
  (120, .iload_n 1, 0, 0, 0, []),
  (121, .iconst 1, 1, 0, 0, []),
  (122, .iastore, 0, 0, 0, []),
  (123, .aload_n 0, 0, 0, 0, []),
  (124, .getfield 32, 0, 203, 0, []),
  (127, .getfield 82, 0, 505, 0, []),
  (130, .iload_n 1, 0, 0, 0, []),
  (131, .iconst 0, 0, 0, 0, []),
  (132, .iastore, 0, 0, 0, []),
  (133, .return_, 0, 0, 0, [])])
def m_G_hasUnmovable : sm_M := (⟨"SpansAway$Going", "hasUnmovable", "(I)Z"⟩, prog_4_method_5_code, 4, (some .boolean), (0, 0, 2, 202), [
  (0, .iload_n 1, 0, 0, 0, []),
  (1, .istore_n 2, 0, 0, 0, []),
  (2, .iload_n 2, 0, 0, 0, []),
  (3, .iload_n 1, 0, 0, 0, []),
  (4, .bipush 8, 8, 0, 0, []),
  (6, .iadd, 0, 0, 0, []),
  (7, .if_icmp .ge 46, 0, 53, 0, []),
  (10, .iload_n 2, 0, 0, 0, []),
  (11, .sipush 256, 256, 0, 0, []),
  (14, .if_icmp .ge 39, 0, 53, 0, []),
  (17, .aload_n 0, 0, 0, 0, []),
  (18, .getfield 22, 0, 201, 0, []),
  (21, .getfield 85, 0, 104, 0, []),
  (24, .iload_n 2, 0, 0, 0, []),
  (25, .iaload, 0, 0, 0, []),
  (26, .istore_n 3, 0, 0, 0, []),
  (27, .iload_n 3, 0, 0, 0, []),
  (28, .iconst (-1), (-1), 0, 0, []),
  (29, .if_icmp .eq 18, 0, 47, 0, []),
  (32, .aload_n 0, 0, 0, 0, []),
  (33, .getfield 27, 0, 202, 0, []),
  (36, .getfield 88, 0, 2, 0, []),
  (39, .iload_n 3, 0, 0, 0, []),
  (40, .iaload, 0, 0, 0, []),
  (41, .iconst 1, 1, 0, 0, []),
  (42, .if_icmp .ne 5, 0, 47, 0, []),
  (45, .iconst 1, 1, 0, 0, []),
  (46, .ireturn, 0, 0, 0, []),
  (47, .iinc 2 1, 1, 0, 0, []),
  (50, .goto (-48), 0, 2, 0, []),
  (53, .iconst 0, 0, 0, 0, []),
  (54, .ireturn, 0, 0, 0, [])])
def m_G_moveOn : sm_M := (⟨"SpansAway$Going", "moveOn", "(I)V"⟩, prog_4_method_6_code, 6, none, (3, 82, 2, 202), [
  (0, .aload_n 0, 0, 0, 0, []),
  (1, .getfield 32, 0, 203, 0, []),
  (4, .getfield 93, 0, 504, 0, []),
  (7, .iload_n 1, 0, 0, 0, []),
  (8, .iaload, 0, 0, 0, []),
  (9, .ifCond .le 17, 0, 26, 0, []),
  (12, .aload_n 0, 0, 0, 0, []),
  (13, .getfield 32, 0, 203, 0, []),
  (16, .getfield 93, 0, 504, 0, []),
  (19, .iload_n 1, 0, 0, 0, []),
  (20, .dup2, 0, 0, 0, []),
  (21, .iaload, 0, 0, 0, []),
  (22, .iconst 1, 1, 0, 0, []),
  (23, .isub, 0, 0, 0, []),
  (24, .iastore, 0, 0, 0, []),
  (25, .return_, 0, 0, 0, []),
  (26, .aload_n 0, 0, 0, 0, []),
  (27, .getfield 12, 0, 200, 0, []),
  (30, .getfield 96, 0, 405, 0, []),
  (33, .iconst 0, 0, 0, 0, []),
  (34, .iaload, 0, 0, 0, []),
  (35, .istore_n 2, 0, 0, 0, []),
  (36, .iconst 0, 0, 0, 0, []),
  (37, .istore_n 3, 0, 0, 0, []),
  (38, .iload_n 3, 0, 0, 0, []),
  (39, .sipush 1000, 1000, 0, 0, []),
  (42, .if_icmp .ge 104, 0, 146, 0, []),
  (45, .aload_n 0, 0, 0, 0, []),
  (46, .getfield 32, 0, 203, 0, []),
  (49, .getfield 99, 0, 506, 0, []),
  (52, .iload_n 1, 0, 0, 0, []),
  (53, .iaload, 0, 0, 0, []),
  (54, .istore 4, 0, 0, 0, []),
  (56, .iload 4, 0, 0, 0, []),
  (58, .iconst (-1), (-1), 0, 0, []),
  (59, .if_icmp .ne 41, 0, 100, 0, []),
  (62, .aload_n 0, 0, 0, 0, []),
  (63, .iload_n 1, 0, 0, 0, []),
  (64, .aload_n 0, 0, 0, 0, []),
  (65, .getfield 32, 0, 203, 0, []),
  (68, .getfield 82, 0, 505, 0, []),
  (71, .iload_n 1, 0, 0, 0, []),
  (72, .iaload, 0, 0, 0, []),
  (73, .invokevirtual 102, 0, 71, 203, [(0, 0)]),
  (76, .istore 5, 0, 0, 0, []),
  (78, .iload 5, 0, 0, 0, []),
  (80, .iconst (-1), (-1), 0, 0, []),
  (81, .if_icmp .ne 9, 0, 90, 0, []),
  (84, .aload_n 0, 0, 0, 0, []),
  (85, .iload_n 1, 0, 0, 0, []),
  (86, .invokevirtual 106, 0, 72, 202, []),
  (89, .return_, 0, 0, 0, []),
  (90, .aload_n 0, 0, 0, 0, []),
  (91, .iload_n 1, 0, 0, 0, []),
  (92, .iload 5, 0, 0, 0, []),
  (94, .invokevirtual 109, 0, 75, 203, []),
  (97, .goto 43, 0, 140, 0, []),
  (100, .iload_n 2, 0, 0, 0, []),
  (101, .aload_n 0, 0, 0, 0, []),
  (102, .iload 4, 0, 0, 0, []),
  (104, .iload_n 2, 0, 0, 0, []),
  (105, .invokevirtual 112, 0, 78, 203, [(0, 0)]),
  (108, .isub, 0, 0, 0, []),
  (109, .istore_n 2, 0, 0, 0, []),
  (110, .aload_n 0, 0, 0, 0, []),
  (111, .getfield 27, 0, 202, 0, []),
  (114, .getfield 115, 0, 6, 0, []),
  (117, .iload 4, 0, 0, 0, []),
  (119, .iaload, 0, 0, 0, []),
  (120, .aload_n 0, 0, 0, 0, []),
  (121, .getfield 27, 0, 202, 0, []),
  (124, .iload 4, 0, 0, 0, []),
  (126, .invokevirtual 118, 0, 31, 2, [(0, 0)]),
  (129, .if_icmp .ge 4, 0, 133, 0, []),
  (132, .return_, 0, 0, 0, []),
  (133, .aload_n 0, 0, 0, 0, []),
  (134, .iload_n 1, 0, 0, 0, []),
  (135, .iload 4, 0, 0, 0, []),
  (137, .invokevirtual 122, 0, 79, 203, []),
  (140, .iinc 3 1, 1, 0, 0, []),
  (143, .goto (-105), 0, 38, 0, []),
  (146, .return_, 0, 0, 0, [])])
def m_G_blockFrom : sm_M := (⟨"SpansAway$Going", "blockFrom", "(II)I"⟩, prog_4_method_7_code, 5, (some .int), (0, 0, 2, 203), [
  (0, .iload_n 1, 0, 0, 0, []),
  (1, .bipush 32, 32, 0, 0, []),
  (3, .imul, 0, 0, 0, []),
  (4, .iload_n 2, 0, 0, 0, []),
  (5, .iadd, 0, 0, 0, []),
  (6, .istore_n 3, 0, 0, 0, []),
  (7, .iload_n 3, 0, 0, 0, []),
  (8, .iload_n 1, 0, 0, 0, []),
  (9, .iconst 1, 1, 0, 0, []),
  (10, .iadd, 0, 0, 0, []),
  (11, .bipush 32, 32, 0, 0, []),
  (13, .imul, 0, 0, 0, []),
  (14, .if_icmp .ge 43, 0, 57, 0, []),
  (17, .aload_n 0, 0, 0, 0, []),
  (18, .getfield 22, 0, 201, 0, []),
  (21, .getfield 85, 0, 104, 0, []),
  (24, .iload_n 3, 0, 0, 0, []),
  (25, .iaload, 0, 0, 0, []),
  (26, .istore 4, 0, 0, 0, []),
  (28, .iload 4, 0, 0, 0, []),
  (30, .iconst (-1), (-1), 0, 0, []),
  (31, .if_icmp .eq 20, 0, 51, 0, []),
  (34, .aload_n 0, 0, 0, 0, []),
  (35, .getfield 27, 0, 202, 0, []),
  (38, .getfield 125, 0, 0, 0, []),
  (41, .iload 4, 0, 0, 0, []),
  (43, .iaload, 0, 0, 0, []),
  (44, .iload_n 3, 0, 0, 0, []),
  (45, .if_icmp .ne 6, 0, 51, 0, []),
  (48, .iload 4, 0, 0, 0, []),
  (50, .ireturn, 0, 0, 0, []),
  (51, .iinc 3 1, 1, 0, 0, []),
  (54, .goto (-47), 0, 7, 0, []),
  (57, .iconst (-1), (-1), 0, 0, []),
  (58, .ireturn, 0, 0, 0, [])])
def m_G_endPass : sm_M := (⟨"SpansAway$Going", "endPass", "(I)V"⟩, prog_4_method_13_code, 2, none, (2, 46, 2, 202), [
  (0, .aload_n 0, 0, 0, 0, []),
  (1, .getfield 12, 0, 200, 0, []),
  (4, .getfield 168, 0, 406, 0, []),
  (7, .bipush 9, 9, 0, 0, []),
  (9, .dup2, 0, 0, 0, []),
  (10, .iaload, 0, 0, 0, []),
  (11, .iconst 1, 1, 0, 0, []),
  (12, .iadd, 0, 0, 0, []),
  (13, .iastore, 0, 0, 0, []),
  (14, .aload_n 0, 0, 0, 0, []),
  (15, .getfield 22, 0, 201, 0, []),
  (18, .getfield 194, 0, 102, 0, []),
  (21, .iload_n 1, 0, 0, 0, []),
  (22, .iaload, 0, 0, 0, []),
  (23, .ifCond .ne 23, 0, 46, 0, []),
  (26, .aload_n 0, 0, 0, 0, []),
  (27, .getfield 22, 0, 201, 0, []),
  (30, .getfield 197, 0, 103, 0, []),
  (33, .iload_n 1, 0, 0, 0, []),
  (34, .iaload, 0, 0, 0, []),
  (35, .ifCond .ne 11, 0, 46, 0, []),
  (38, .aload_n 0, 0, 0, 0, []),
  (39, .iload_n 1, 0, 0, 0, []),
  (40, .invokevirtual 200, 0, 73, 202, []),
  (43, .goto 78, 0, 121, 0, []),
  (46, .aload_n 0, 0, 0, 0, []),
  (47, .getfield 32, 0, 203, 0, []),
  (50, .getfield 79, 0, 503, 0, []),
  (53, .iload_n 1, 0, 0, 0, []),
  (54, .iaload, 0, 0, 0, []),
  (55, .aload_n 0, 0, 0, 0, []),
  (56, .getfield 12, 0, 200, 0, []),
  (59, .getfield 96, 0, 405, 0, []),
  (62, .iconst 1, 1, 0, 0, []),
  (63, .iaload, 0, 0, 0, []),
  (64, .if_icmp .lt 16, 0, 80, 0, []),
  (67, .aload_n 0, 0, 0, 0, []),
  (68, .iload_n 1, 0, 0, 0, []),
  (69, .aload_n 0, 0, 0, 0, []),
  (70, .iload_n 1, 0, 0, 0, []),
  (71, .invokevirtual 203, 0, 74, 202, [(0, 0)]),
  (74, .invokevirtual 67, 0, 64, 203, []),
  (77, .goto 44, 0, 121, 0, []),
  (80, .aload_n 0, 0, 0, 0, []),
  (81, .getfield 32, 0, 203, 0, []),
  (84, .getfield 79, 0, 503, 0, []),
  (87, .iload_n 1, 0, 0, 0, []),
  (88, .dup2, 0, 0, 0, []),
  (89, .iaload, 0, 0, 0, []),
  (90, .iconst 1, 1, 0, 0, []),
  (91, .iadd, 0, 0, 0, []),
  (92, .iastore, 0, 0, 0, []),
  (93, .aload_n 0, 0, 0, 0, []),
  (94, .getfield 32, 0, 203, 0, []),
  (97, .getfield 93, 0, 504, 0, []),
  (100, .iload_n 1, 0, 0, 0, []),
  (101, .aload_n 0, 0, 0, 0, []),
  (102, .getfield 12, 0, 200, 0, []),
  (105, .getfield 96, 0, 405, 0, []),
  (108, .iconst 3, 3, 0, 0, []),
  (109, .iaload, 0, 0, 0, []),
  (110, .iastore, 0, 0, 0, []),
  (111, .aload_n 0, 0, 0, 0, []),
  (112, .getfield 32, 0, 203, 0, []),
  (115, .getfield 82, 0, 505, 0, []),
  (118, .iload_n 1, 0, 0, 0, []),
  (119, .iconst 0, 0, 0, 0, []),
  (120, .iastore, 0, 0, 0, []),
  (121, .return_, 0, 0, 0, [])])
def m_G_turnOff : sm_M := (⟨"SpansAway$Going", "turnOff", "(I)V"⟩, prog_4_method_14_code, 2, none, (1, 24, 2, 202), [
  (0, .aload_n 0, 0, 0, 0, []),
  (1, .getfield 12, 0, 200, 0, []),
  (4, .getfield 168, 0, 406, 0, []),
  (7, .bipush 6, 6, 0, 0, []),
  (9, .dup2, 0, 0, 0, []),
  (10, .iaload, 0, 0, 0, []),
  (11, .iconst 1, 1, 0, 0, []),
  (12, .iadd, 0, 0, 0, []),
  (13, .iastore, 0, 0, 0, []),
  (14, .aload_n 0, 0, 0, 0, []),
  (15, .getfield 12, 0, 200, 0, []),
  (18, .getfield 39, 0, 404, 0, []),
  (21, .aload_n 0, 0, 0, 0, []),
  (22, .getfield 12, 0, 200, 0, []),
  (25, .getfield 43, 0, 407, 0, []),
  (28, .iconst 1, 1, 0, 0, []),
  (29, .iload_n 1, 0, 0, 0, []),
  (30, .aload_n 0, 0, 0, 0, []),
  (31, .getfield 32, 0, 203, 0, []),
  (34, .getfield 79, 0, 503, 0, []),
  (37, .iload_n 1, 0, 0, 0, []),
  (38, .iaload, 0, 0, 0, []),
  (39, .invokevirtual 47, 0, 19, 305, []),
  (42, .aload_n 0, 0, 0, 0, []),
  (43, .getfield 22, 0, 201, 0, []),
  (46, .getfield 71, 0, 100, 0, []),
  (49, .iload_n 1, 0, 0, 0, []),
  (50, .iconst 0, 0, 0, 0, []),
  (51, .iastore, 0, 0, 0, []),
  (52, .aload_n 0, 0, 0, 0, []),
  (53, .getfield 22, 0, 201, 0, []),
  (56, .getfield 76, 0, 101, 0, []),
  (59, .iload_n 1, 0, 0, 0, []),
  (60, .iconst 0, 0, 0, 0, []),
  (61, .iastore, 0, 0, 0, []),
  (62, .aload_n 0, 0, 0, 0, []),
  (63, .getfield 32, 0, 203, 0, []),
  (66, .getfield 206, 0, 501, 0, []),
  (69, .iload_n 1, 0, 0, 0, []),
  (70, .iconst (-1), (-1), 0, 0, []),
  (71, .iastore, 0, 0, 0, []),
  (72, .aload_n 0, 0, 0, 0, []),
  (73, .getfield 32, 0, 203, 0, []),
  (76, .iload_n 1, 0, 0, 0, []),
  (77, .iconst 0, 0, 0, 0, []),
  (78, .invokevirtual 209, 0, 65, 503, []),
  (81, .return_, 0, 0, 0, [])])
def m_G_whyFails : sm_M := (⟨"SpansAway$Going", "whyFails", "(I)I"⟩, prog_4_method_15_code, 3, (some .int), (1, 24, 2, 202), [
  (0, .aload_n 0, 0, 0, 0, []),
  (1, .iload_n 1, 0, 0, 0, []),
  (2, .iconst 0, 0, 0, 0, []),
  (3, .invokevirtual 102, 0, 71, 203, [(0, 0)]),
  (6, .istore_n 2, 0, 0, 0, []),
  (7, .iload_n 2, 0, 0, 0, []),
  (8, .iconst (-1), (-1), 0, 0, []),
  (9, .if_icmp .ne 5, 0, 14, 0, []),
  (12, .iconst 2, 2, 0, 0, []),
  (13, .ireturn, 0, 0, 0, []),
  (14, .aload_n 0, 0, 0, 0, []),
  (15, .getfield 27, 0, 202, 0, []),
  (18, .getfield 88, 0, 2, 0, []),
  (21, .iload_n 2, 0, 0, 0, []),
  (22, .iaload, 0, 0, 0, []),
  (23, .iconst 1, 1, 0, 0, []),
  (24, .if_icmp .ne 5, 0, 29, 0, []),
  (27, .iconst 0, 0, 0, 0, []),
  (28, .ireturn, 0, 0, 0, []),
  (29, .aload_n 0, 0, 0, 0, []),
  (30, .getfield 27, 0, 202, 0, []),
  (33, .getfield 131, 0, 4, 0, []),
  (36, .iload_n 2, 0, 0, 0, []),
  (37, .iaload, 0, 0, 0, []),
  (38, .ifCond .eq 7, 0, 45, 0, []),
  (41, .iconst 1, 1, 0, 0, []),
  (42, .goto 4, 0, 46, 0, []),
  (45, .iconst 2, 2, 0, 0, []),
  (46, .ireturn, 0, 0, 0, [])])
def m_G_lookAt : sm_M := (⟨"SpansAway$Going", "lookAt", "(II)V"⟩, prog_4_method_8_code, 7, none, (2, 56, 2, 203), [
  (0, .aload_n 0, 0, 0, 0, []),
  (1, .getfield 27, 0, 202, 0, []),
  (4, .getfield 128, 0, 1, 0, []),
  (7, .iload_n 2, 0, 0, 0, []),
  (8, .iaload, 0, 0, 0, []),
  (9, .istore_n 3, 0, 0, 0, []),
  (10, .aload_n 0, 0, 0, 0, []),
  (11, .getfield 27, 0, 202, 0, []),
  (14, .getfield 125, 0, 0, 0, []),
  (17, .iload_n 2, 0, 0, 0, []),
  (18, .iaload, 0, 0, 0, []),
  (19, .bipush 32, 32, 0, 0, []),
  (21, .irem, 0, 0, 0, []),
  (22, .aload_n 0, 0, 0, 0, []),
  (23, .getfield 27, 0, 202, 0, []),
  (26, .iload_n 2, 0, 0, 0, []),
  (27, .invokevirtual 118, 0, 31, 2, [(0, 0)]),
  (30, .iadd, 0, 0, 0, []),
  (31, .istore 4, 0, 0, 0, []),
  (33, .aload_n 0, 0, 0, 0, []),
  (34, .getfield 27, 0, 202, 0, []),
  (37, .getfield 88, 0, 2, 0, []),
  (40, .iload_n 2, 0, 0, 0, []),
  (41, .iaload, 0, 0, 0, []),
  (42, .iconst 1, 1, 0, 0, []),
  (43, .if_icmp .eq 15, 0, 58, 0, []),
  (46, .aload_n 0, 0, 0, 0, []),
  (47, .getfield 27, 0, 202, 0, []),
  (50, .getfield 131, 0, 4, 0, []),
  (53, .iload_n 2, 0, 0, 0, []),
  (54, .iaload, 0, 0, 0, []),
  (55, .ifCond .eq 15, 0, 70, 0, []),
  (58, .aload_n 0, 0, 0, 0, []),
  (59, .getfield 32, 0, 203, 0, []),
  (62, .getfield 82, 0, 505, 0, []),
  (65, .iload_n 1, 0, 0, 0, []),
  (66, .iload 4, 0, 0, 0, []),
  (68, .iastore, 0, 0, 0, []),
  (69, .return_, 0, 0, 0, []),
  (70, .aload_n 0, 0, 0, 0, []),
  (71, .getfield 27, 0, 202, 0, []),
  (74, .getfield 88, 0, 2, 0, []),
  (77, .iload_n 2, 0, 0, 0, []),
  (78, .iaload, 0, 0, 0, []),
  (79, .iconst 2, 2, 0, 0, []),
  (80, .if_icmp .ne 20, 0, 100, 0, []),
  (83, .aload_n 0, 0, 0, 0, []),
  (84, .getfield 12, 0, 200, 0, []),
  (87, .iload_n 2, 0, 0, 0, []),
  (88, .invokevirtual 134, 0, 18, 402, []),
  (91, .aload_n 0, 0, 0, 0, []),
  (92, .getfield 12, 0, 200, 0, []),
  (95, .iload_n 2, 0, 0, 0, []),
  (96, .invokevirtual 137, 0, 20, 402, []),
  (99, .return_, 0, 0, 0, []),
  (100, .aload_n 0, 0, 0, 0, []),
  (101, .getfield 12, 0, 200, 0, []),
  (104, .aload_n 0, 0, 0, 0, []),
  (105, .getfield 27, 0, 202, 0, []),
  (108, .getfield 140, 0, 3, 0, []),
  (111, .iload_n 2, 0, 0, 0, []),
  (112, .iaload, 0, 0, 0, []),
  (113, .aload_n 0, 0, 0, 0, []),
  (114, .getfield 27, 0, 202, 0, []),
  (117, .getfield 88, 0, 2, 0, []),
  (120, .iload_n 2, 0, 0, 0, []),
  (121, .iaload, 0, 0, 0, []),
  (122, .iload_n 3, 0, 0, 0, []),
  (123, .iconst 1, 1, 0, 0, []),
  (124, .invokevirtual 143, 0, 10, 405, [(0, 0)]),
  (127, .istore 5, 0, 0, 0, []),
  (129, .iload 5, 0, 0, 0, []),
  (131, .iconst (-1), (-1), 0, 0, []),
  (132, .if_icmp .eq 49, 0, 181, 0, []),
  (135, .aload_n 0, 0, 0, 0, []),
  (136, .getfield 32, 0, 203, 0, []),
  (139, .getfield 82, 0, 505, 0, []),
  (142, .iload_n 1, 0, 0, 0, []),
  (143, .iload 4, 0, 0, 0, []),
  (145, .iastore, 0, 0, 0, []),
  (146, .aload_n 0, 0, 0, 0, []),
  (147, .getfield 32, 0, 203, 0, []),
  (150, .getfield 99, 0, 506, 0, []),
  (153, .iload_n 1, 0, 0, 0, []),
  (154, .iload_n 2, 0, 0, 0, []),
  (155, .iastore, 0, 0, 0, []),
  (156, .aload_n 0, 0, 0, 0, []),
  (157, .getfield 27, 0, 202, 0, []),
  (160, .getfield 147, 0, 5, 0, []),
  (163, .iload_n 2, 0, 0, 0, []),
  (164, .iload 5, 0, 0, 0, []),
  (166, .iastore, 0, 0, 0, []),
  (167, .aload_n 0, 0, 0, 0, []),
  (168, .getfield 22, 0, 201, 0, []),
  (171, .iload_n 2, 0, 0, 0, []),
  (172, .iload 5, 0, 0, 0, []),
  (174, .iconst 1, 1, 0, 0, []),
  (175, .iload_n 3, 0, 0, 0, []),
  (176, .ishl, 0, 0, 0, []),
  (177, .invokevirtual 150, 0, 76, 104, []),
  (180, .return_, 0, 0, 0, []),
  (181, .iload_n 3, 0, 0, 0, []),
  (182, .ifCond .le 13, 0, 195, 0, []),
  (185, .aload_n 0, 0, 0, 0, []),
  (186, .getfield 27, 0, 202, 0, []),
  (189, .invokevirtual 154, 0, 23, 1, [(0, 0)]),
  (192, .goto 4, 0, 196, 0, []),
  (195, .iconst (-1), (-1), 0, 0, []),
  (196, .istore 6, 0, 0, 0, []),
  (198, .iload 6, 0, 0, 0, []),
  (200, .iconst (-1), (-1), 0, 0, []),
  (201, .if_icmp .ne 15, 0, 216, 0, []),
  (204, .aload_n 0, 0, 0, 0, []),
  (205, .getfield 32, 0, 203, 0, []),
  (208, .getfield 82, 0, 505, 0, []),
  (211, .iload_n 1, 0, 0, 0, []),
  (212, .iload 4, 0, 0, 0, []),
  (214, .iastore, 0, 0, 0, []),
  (215, .return_, 0, 0, 0, []),
  (216, .aload_n 0, 0, 0, 0, []),
  (217, .iload_n 2, 0, 0, 0, []),
  (218, .iload 6, 0, 0, 0, []),
  (220, .invokevirtual 158, 0, 77, 203, []),
  (223, .return_, 0, 0, 0, [])])
def m_F_hold : sm_M := (⟨"SpansAway$Frames", "hold", "(III)V"⟩, prog_3_method_5_code, 4, none, (1, 25, 1, 104), [
  (0, .aload_n 0, 0, 0, 0, []),
  (1, .getfield 21, 0, 103, 0, []),
  (4, .iload_n 2, 0, 0, 0, []),
  (5, .bipush 32, 32, 0, 0, []),
  (7, .idiv, 0, 0, 0, []),
  (8, .dup2, 0, 0, 0, []),
  (9, .iaload, 0, 0, 0, []),
  (10, .aload_n 0, 0, 0, 0, []),
  (11, .iload_n 1, 0, 0, 0, []),
  (12, .iload_n 2, 0, 0, 0, []),
  (13, .iload_n 3, 0, 0, 0, []),
  (14, .invokevirtual 42, 0, 26, 104, [(0, 0)]),
  (17, .ior, 0, 0, 0, []),
  (18, .iastore, 0, 0, 0, []),
  (19, .return_, 0, 0, 0, [])])
def m_G_split : sm_M := (⟨"SpansAway$Going", "split", "(II)V"⟩, prog_4_method_9_code, 6, none, (1, 25, 2, 203), [
  (0, .aload_n 0, 0, 0, 0, []),
  (1, .getfield 27, 0, 202, 0, []),
  (4, .getfield 128, 0, 1, 0, []),
  (7, .iload_n 1, 0, 0, 0, []),
  (8, .iaload, 0, 0, 0, []),
  (9, .iconst 1, 1, 0, 0, []),
  (10, .isub, 0, 0, 0, []),
  (11, .istore_n 3, 0, 0, 0, []),
  (12, .aload_n 0, 0, 0, 0, []),
  (13, .getfield 27, 0, 202, 0, []),
  (16, .getfield 125, 0, 0, 0, []),
  (19, .iload_n 1, 0, 0, 0, []),
  (20, .iaload, 0, 0, 0, []),
  (21, .iconst 1, 1, 0, 0, []),
  (22, .iload_n 3, 0, 0, 0, []),
  (23, .ishl, 0, 0, 0, []),
  (24, .iadd, 0, 0, 0, []),
  (25, .istore 4, 0, 0, 0, []),
  (27, .aload_n 0, 0, 0, 0, []),
  (28, .getfield 27, 0, 202, 0, []),
  (31, .getfield 128, 0, 1, 0, []),
  (34, .iload_n 1, 0, 0, 0, []),
  (35, .iload_n 3, 0, 0, 0, []),
  (36, .iastore, 0, 0, 0, []),
  (37, .aload_n 0, 0, 0, 0, []),
  (38, .getfield 27, 0, 202, 0, []),
  (41, .iload_n 2, 0, 0, 0, []),
  (42, .iload 4, 0, 0, 0, []),
  (44, .iload_n 3, 0, 0, 0, []),
  (45, .aload_n 0, 0, 0, 0, []),
  (46, .getfield 27, 0, 202, 0, []),
  (49, .getfield 88, 0, 2, 0, []),
  (52, .iload_n 1, 0, 0, 0, []),
  (53, .iaload, 0, 0, 0, []),
  (54, .aload_n 0, 0, 0, 0, []),
  (55, .getfield 27, 0, 202, 0, []),
  (58, .getfield 140, 0, 3, 0, []),
  (61, .iload_n 1, 0, 0, 0, []),
  (62, .iaload, 0, 0, 0, []),
  (63, .invokevirtual 161, 0, 24, 6, []),
  (66, .aload_n 0, 0, 0, 0, []),
  (67, .getfield 27, 0, 202, 0, []),
  (70, .getfield 165, 0, 7, 0, []),
  (73, .iload_n 2, 0, 0, 0, []),
  (74, .aload_n 0, 0, 0, 0, []),
  (75, .getfield 27, 0, 202, 0, []),
  (78, .getfield 165, 0, 7, 0, []),
  (81, .iload_n 1, 0, 0, 0, []),
  (82, .iaload, 0, 0, 0, []),
  (83, .iastore, 0, 0, 0, []),
  (84, .iconst 0, 0, 0, 0, []),
  (85, .istore 5, 0, 0, 0, []),
  (87, .iload 5, 0, 0, 0, []),
  (89, .iconst 1, 1, 0, 0, []),
  (90, .iload_n 3, 0, 0, 0, []),
  (91, .ishl, 0, 0, 0, []),
  (92, .if_icmp .ge 23, 0, 115, 0, []),
  (95, .aload_n 0, 0, 0, 0, []),
  (96, .getfield 22, 0, 201, 0, []),
  (99, .getfield 85, 0, 104, 0, []),
  (102, .iload 4, 0, 0, 0, []),
  (104, .iload 5, 0, 0, 0, []),
  (106, .iadd, 0, 0, 0, []),
  (107, .iload_n 2, 0, 0, 0, []),
  (108, .iastore, 0, 0, 0, []),
  (109, .iinc 5 1, 1, 0, 0, []),
  (112, .goto (-25), 0, 87, 0, []),
  (115, .aload_n 0, 0, 0, 0, []),
  (116, .getfield 12, 0, 200, 0, []),
  (119, .getfield 168, 0, 406, 0, []),
  (122, .iconst 4, 4, 0, 0, []),
  (123, .dup2, 0, 0, 0, []),
  (124, .iaload, 0, 0, 0, []),
  (125, .iconst 1, 1, 0, 0, []),
  (126, .iadd, 0, 0, 0, []),
  (127, .iastore, 0, 0, 0, []),
  (128, .aload_n 0, 0, 0, 0, []),
  (129, .getfield 12, 0, 200, 0, []),
  (132, .getfield 39, 0, 404, 0, []),
  (135, .aload_n 0, 0, 0, 0, []),
  (136, .getfield 12, 0, 200, 0, []),
  (139, .getfield 43, 0, 407, 0, []),
  (142, .iconst 5, 5, 0, 0, []),
  (143, .iload_n 1, 0, 0, 0, []),
  (144, .iload_n 2, 0, 0, 0, []),
  (145, .invokevirtual 47, 0, 19, 305, []),
  (148, .return_, 0, 0, 0, [])])
def m_G_copySome : sm_M := (⟨"SpansAway$Going", "copySome", "(II)I"⟩, prog_4_method_10_code, 6, (some .int), (1, 40, 2, 203), [
  (0, .aload_n 0, 0, 0, 0, []),
  (1, .getfield 27, 0, 202, 0, []),
  (4, .getfield 125, 0, 0, 0, []),
  (7, .iload_n 1, 0, 0, 0, []),
  (8, .iaload, 0, 0, 0, []),
  (9, .aload_n 0, 0, 0, 0, []),
  (10, .getfield 27, 0, 202, 0, []),
  (13, .getfield 115, 0, 6, 0, []),
  (16, .iload_n 1, 0, 0, 0, []),
  (17, .iaload, 0, 0, 0, []),
  (18, .iadd, 0, 0, 0, []),
  (19, .istore_n 3, 0, 0, 0, []),
  (20, .aload_n 0, 0, 0, 0, []),
  (21, .getfield 27, 0, 202, 0, []),
  (24, .getfield 147, 0, 5, 0, []),
  (27, .iload_n 1, 0, 0, 0, []),
  (28, .iaload, 0, 0, 0, []),
  (29, .aload_n 0, 0, 0, 0, []),
  (30, .getfield 27, 0, 202, 0, []),
  (33, .getfield 115, 0, 6, 0, []),
  (36, .iload_n 1, 0, 0, 0, []),
  (37, .iaload, 0, 0, 0, []),
  (38, .iadd, 0, 0, 0, []),
  (39, .istore 4, 0, 0, 0, []),
  (41, .iload_n 2, 0, 0, 0, []),
  (42, .aload_n 0, 0, 0, 0, []),
  (43, .getfield 27, 0, 202, 0, []),
  (46, .iload_n 1, 0, 0, 0, []),
  (47, .invokevirtual 118, 0, 31, 2, [(0, 0)]),
  (50, .aload_n 0, 0, 0, 0, []),
  (51, .getfield 27, 0, 202, 0, []),
  (54, .getfield 115, 0, 6, 0, []),
  (57, .iload_n 1, 0, 0, 0, []),
  (58, .iaload, 0, 0, 0, []),
  (59, .isub, 0, 0, 0, []),
  (60, .invokestatic 171, 0, 9998, 2, []),
  (63, .istore 5, 0, 0, 0, []),
  (65, .aload_n 0, 0, 0, 0, []),
  (66, .getfield 22, 0, 201, 0, []),
  (69, .iload_n 3, 0, 0, 0, []),
  (70, .iload 4, 0, 0, 0, []),
  (72, .iload 5, 0, 0, 0, []),
  (74, .invokevirtual 176, 0, 52, 104, []),
  (77, .aload_n 0, 0, 0, 0, []),
  (78, .getfield 27, 0, 202, 0, []),
  (81, .getfield 115, 0, 6, 0, []),
  (84, .iload_n 1, 0, 0, 0, []),
  (85, .dup2, 0, 0, 0, []),
  (86, .iaload, 0, 0, 0, []),
  (87, .iload 5, 0, 0, 0, []),
  (89, .iadd, 0, 0, 0, []),
  (90, .iastore, 0, 0, 0, []),
  (91, .aload_n 0, 0, 0, 0, []),
  (92, .getfield 12, 0, 200, 0, []),
  (95, .getfield 168, 0, 406, 0, []),
  (98, .iconst 3, 3, 0, 0, []),
  (99, .dup2, 0, 0, 0, []),
  (100, .iaload, 0, 0, 0, []),
  (101, .iload 5, 0, 0, 0, []),
  (103, .iadd, 0, 0, 0, []),
  (104, .iastore, 0, 0, 0, []),
  (105, .iload 5, 0, 0, 0, []),
  (107, .ireturn, 0, 0, 0, [])])
def m_G_arrive : sm_M := (⟨"SpansAway$Going", "arrive", "(II)V"⟩, prog_4_method_11_code, 6, none, (2, 48, 2, 203), [
  (0, .aload_n 0, 0, 0, 0, []),
  (1, .getfield 27, 0, 202, 0, []),
  (4, .getfield 125, 0, 0, 0, []),
  (7, .iload_n 2, 0, 0, 0, []),
  (8, .iaload, 0, 0, 0, []),
  (9, .istore_n 3, 0, 0, 0, []),
  (10, .aload_n 0, 0, 0, 0, []),
  (11, .getfield 27, 0, 202, 0, []),
  (14, .getfield 147, 0, 5, 0, []),
  (17, .iload_n 2, 0, 0, 0, []),
  (18, .iaload, 0, 0, 0, []),
  (19, .istore 4, 0, 0, 0, []),
  (21, .aload_n 0, 0, 0, 0, []),
  (22, .getfield 27, 0, 202, 0, []),
  (25, .iload_n 2, 0, 0, 0, []),
  (26, .invokevirtual 118, 0, 31, 2, [(0, 0)]),
  (29, .istore 5, 0, 0, 0, []),
  (31, .aload_n 0, 0, 0, 0, []),
  (32, .getfield 22, 0, 201, 0, []),
  (35, .iload_n 3, 0, 0, 0, []),
  (36, .iload 5, 0, 0, 0, []),
  (38, .aload_n 0, 0, 0, 0, []),
  (39, .getfield 32, 0, 203, 0, []),
  (42, .iload_n 1, 0, 0, 0, []),
  (43, .invokevirtual 179, 0, 21, 502, [(0, 0)]),
  (46, .invokevirtual 182, 0, 22, 104, []),
  (49, .aload_n 0, 0, 0, 0, []),
  (50, .getfield 22, 0, 201, 0, []),
  (53, .iload 4, 0, 0, 0, []),
  (55, .iload 5, 0, 0, 0, []),
  (57, .invokevirtual 185, 0, 80, 103, []),
  (60, .aload_n 0, 0, 0, 0, []),
  (61, .getfield 27, 0, 202, 0, []),
  (64, .getfield 125, 0, 0, 0, []),
  (67, .iload_n 2, 0, 0, 0, []),
  (68, .iload 4, 0, 0, 0, []),
  (70, .iastore, 0, 0, 0, []),
  (71, .aload_n 0, 0, 0, 0, []),
  (72, .iload_n 1, 0, 0, 0, []),
  (73, .iload_n 2, 0, 0, 0, []),
  (74, .invokevirtual 188, 0, 62, 203, []),
  (77, .aload_n 0, 0, 0, 0, []),
  (78, .getfield 12, 0, 200, 0, []),
  (81, .getfield 168, 0, 406, 0, []),
  (84, .iconst 2, 2, 0, 0, []),
  (85, .dup2, 0, 0, 0, []),
  (86, .iaload, 0, 0, 0, []),
  (87, .iconst 1, 1, 0, 0, []),
  (88, .iadd, 0, 0, 0, []),
  (89, .iastore, 0, 0, 0, []),
  (90, .aload_n 0, 0, 0, 0, []),
  (91, .getfield 12, 0, 200, 0, []),
  (94, .getfield 39, 0, 404, 0, []),
  (97, .aload_n 0, 0, 0, 0, []),
  (98, .getfield 12, 0, 200, 0, []),
  (101, .getfield 43, 0, 407, 0, []),
  (104, .iconst 4, 4, 0, 0, []),
  (105, .iload_n 2, 0, 0, 0, []),
  (106, .iload 4, 0, 0, 0, []),
  (108, .invokevirtual 47, 0, 19, 305, []),
  (111, .aload_n 0, 0, 0, 0, []),
  (112, .getfield 12, 0, 200, 0, []),
  (115, .iload_n 2, 0, 0, 0, []),
  (116, .invokevirtual 191, 0, 63, 402, []),
  (119, .return_, 0, 0, 0, [])])
def m_F_settle : sm_M := (⟨"SpansAway$Frames", "settle", "(II)V"⟩, prog_3_method_7_code, 4, none, (0, 0, 1, 103), [
  (0, .iconst 1, 1, 0, 0, []),
  (1, .iload_n 2, 0, 0, 0, []),
  (2, .ishl, 0, 0, 0, []),
  (3, .iconst 1, 1, 0, 0, []),
  (4, .isub, 0, 0, 0, []),
  (5, .iload_n 1, 0, 0, 0, []),
  (6, .bipush 32, 32, 0, 0, []),
  (8, .irem, 0, 0, 0, []),
  (9, .ishl, 0, 0, 0, []),
  (10, .istore_n 3, 0, 0, 0, []),
  (11, .aload_n 0, 0, 0, 0, []),
  (12, .getfield 21, 0, 103, 0, []),
  (15, .iload_n 1, 0, 0, 0, []),
  (16, .bipush 32, 32, 0, 0, []),
  (18, .idiv, 0, 0, 0, []),
  (19, .dup2, 0, 0, 0, []),
  (20, .iaload, 0, 0, 0, []),
  (21, .iload_n 3, 0, 0, 0, []),
  (22, .iconst (-1), (-1), 0, 0, []),
  (23, .ixor, 0, 0, 0, []),
  (24, .iand, 0, 0, 0, []),
  (25, .iastore, 0, 0, 0, []),
  (26, .aload_n 0, 0, 0, 0, []),
  (27, .getfield 18, 0, 102, 0, []),
  (30, .iload_n 1, 0, 0, 0, []),
  (31, .bipush 32, 32, 0, 0, []),
  (33, .idiv, 0, 0, 0, []),
  (34, .dup2, 0, 0, 0, []),
  (35, .iaload, 0, 0, 0, []),
  (36, .iload_n 3, 0, 0, 0, []),
  (37, .ior, 0, 0, 0, []),
  (38, .iastore, 0, 0, 0, []),
  (39, .return_, 0, 0, 0, [])])
def m_A_frame : sm_M := (⟨"SpansAway", "frame", "(II)I"⟩, prog_1_method_17_code, 3, (some .int), (1, 23, 9, 803), [
  (0, .iload_n 1, 0, 0, 0, []),
  (1, .ifCond .lt 10, 0, 11, 0, []),
  (4, .iload_n 1, 0, 0, 0, []),
  (5, .sipush 256, 256, 0, 0, []),
  (8, .if_icmp .lt 5, 0, 13, 0, []),
  (11, .iconst (-1), (-1), 0, 0, []),
  (12, .ireturn, 0, 0, 0, []),
  (13, .iload_n 2, 0, 0, 0, []),
  (14, .tableswitch 64 0 2 #[26, 38, 51], 0, 78, 26, [(0, 40), (1, 52), (2, 65)]),
  (40, .aload_n 0, 0, 0, 0, []),
  (41, .getfield 20, 0, 801, 0, []),
  (44, .getfield 155, 0, 400, 0, []),
  (47, .iload_n 1, 0, 0, 0, []),
  (48, .invokevirtual 159, 0, 82, 102, [(0, 0)]),
  (51, .ireturn, 0, 0, 0, []),
  (52, .aload_n 0, 0, 0, 0, []),
  (53, .getfield 20, 0, 801, 0, []),
  (56, .getfield 155, 0, 400, 0, []),
  (59, .getfield 164, 0, 104, 0, []),
  (62, .iload_n 1, 0, 0, 0, []),
  (63, .iaload, 0, 0, 0, []),
  (64, .ireturn, 0, 0, 0, []),
  (65, .aload_n 0, 0, 0, 0, []),
  (66, .getfield 20, 0, 801, 0, []),
  (69, .getfield 155, 0, 400, 0, []),
  (72, .getfield 167, 0, 105, 0, []),
  (75, .iload_n 1, 0, 0, 0, []),
  (76, .iaload, 0, 0, 0, []),
  (77, .ireturn, 0, 0, 0, []),
  (78, .iconst (-1), (-1), 0, 0, []),
  (79, .ireturn, 0, 0, 0, [])])
def m_F_stateOf : sm_M := (⟨"SpansAway$Frames", "stateOf", "(I)I"⟩, prog_3_method_3_code, 4, (some .int), (0, 0, 1, 102), [
  (0, .iload_n 1, 0, 0, 0, []),
  (1, .bipush 32, 32, 0, 0, []),
  (3, .idiv, 0, 0, 0, []),
  (4, .istore_n 2, 0, 0, 0, []),
  (5, .iconst 1, 1, 0, 0, []),
  (6, .iload_n 1, 0, 0, 0, []),
  (7, .bipush 32, 32, 0, 0, []),
  (9, .irem, 0, 0, 0, []),
  (10, .ishl, 0, 0, 0, []),
  (11, .istore_n 3, 0, 0, 0, []),
  (12, .aload_n 0, 0, 0, 0, []),
  (13, .getfield 9, 0, 100, 0, []),
  (16, .iload_n 2, 0, 0, 0, []),
  (17, .iaload, 0, 0, 0, []),
  (18, .iload_n 3, 0, 0, 0, []),
  (19, .iand, 0, 0, 0, []),
  (20, .ifCond .eq 5, 0, 25, 0, []),
  (23, .iconst 1, 1, 0, 0, []),
  (24, .ireturn, 0, 0, 0, []),
  (25, .aload_n 0, 0, 0, 0, []),
  (26, .getfield 15, 0, 101, 0, []),
  (29, .iload_n 2, 0, 0, 0, []),
  (30, .iaload, 0, 0, 0, []),
  (31, .iload_n 3, 0, 0, 0, []),
  (32, .iand, 0, 0, 0, []),
  (33, .ifCond .eq 5, 0, 38, 0, []),
  (36, .iconst 2, 2, 0, 0, []),
  (37, .ireturn, 0, 0, 0, []),
  (38, .aload_n 0, 0, 0, 0, []),
  (39, .getfield 18, 0, 102, 0, []),
  (42, .iload_n 2, 0, 0, 0, []),
  (43, .iaload, 0, 0, 0, []),
  (44, .iload_n 3, 0, 0, 0, []),
  (45, .iand, 0, 0, 0, []),
  (46, .ifCond .eq 5, 0, 51, 0, []),
  (49, .iconst 3, 3, 0, 0, []),
  (50, .ireturn, 0, 0, 0, []),
  (51, .aload_n 0, 0, 0, 0, []),
  (52, .getfield 21, 0, 103, 0, []),
  (55, .iload_n 2, 0, 0, 0, []),
  (56, .iaload, 0, 0, 0, []),
  (57, .iload_n 3, 0, 0, 0, []),
  (58, .iand, 0, 0, 0, []),
  (59, .ifCond .eq 7, 0, 66, 0, []),
  (62, .iconst 4, 4, 0, 0, []),
  (63, .goto 4, 0, 67, 0, []),
  (66, .iconst 0, 0, 0, 0, []),
  (67, .ireturn, 0, 0, 0, [])])
def m_A_block : sm_M := (⟨"SpansAway", "block", "(II)I"⟩, prog_1_method_18_code, 4, (some .int), (1, 23, 9, 803), [
  (0, .aload_n 0, 0, 0, 0, []),
  (1, .getfield 20, 0, 801, 0, []),
  (4, .getfield 79, 0, 401, 0, []),
  (7, .astore_n 3, 0, 0, 0, []),
  (8, .aload_n 3, 0, 0, 0, []),
  (9, .iload_n 1, 0, 0, 0, []),
  (10, .invokevirtual 83, 0, 28, 2, [(0, 0)]),
  (13, .ifCond .ne 5, 0, 18, 0, []),
  (16, .iconst (-1), (-1), 0, 0, []),
  (17, .ireturn, 0, 0, 0, []),
  (18, .iload_n 2, 0, 0, 0, []),
  (19, .tableswitch 117 0 8 #[49, 56, 63, 70, 77, 84, 91, 98, 105], 0, 136, 49, [(0, 68), (1, 75), (2, 82), (3, 89), (4, 96), (5, 103), (6, 110), (7, 117), (8, 124)]),
  (68, .aload_n 3, 0, 0, 0, []),
  (69, .getfield 170, 0, 0, 0, []),
  (72, .iload_n 1, 0, 0, 0, []),
  (73, .iaload, 0, 0, 0, []),
  (74, .ireturn, 0, 0, 0, []),
  (75, .aload_n 3, 0, 0, 0, []),
  (76, .getfield 173, 0, 1, 0, []),
  (79, .iload_n 1, 0, 0, 0, []),
  (80, .iaload, 0, 0, 0, []),
  (81, .ireturn, 0, 0, 0, []),
  (82, .aload_n 3, 0, 0, 0, []),
  (83, .getfield 176, 0, 2, 0, []),
  (86, .iload_n 1, 0, 0, 0, []),
  (87, .iaload, 0, 0, 0, []),
  (88, .ireturn, 0, 0, 0, []),
  (89, .aload_n 3, 0, 0, 0, []),
  (90, .getfield 179, 0, 3, 0, []),
  (93, .iload_n 1, 0, 0, 0, []),
  (94, .iaload, 0, 0, 0, []),
  (95, .ireturn, 0, 0, 0, []),
  (96, .aload_n 3, 0, 0, 0, []),
  (97, .getfield 103, 0, 4, 0, []),
  (100, .iload_n 1, 0, 0, 0, []),
  (101, .iaload, 0, 0, 0, []),
  (102, .ireturn, 0, 0, 0, []),
  (103, .aload_n 3, 0, 0, 0, []),
  (104, .getfield 182, 0, 5, 0, []),
  (107, .iload_n 1, 0, 0, 0, []),
  (108, .iaload, 0, 0, 0, []),
  (109, .ireturn, 0, 0, 0, []),
  (110, .aload_n 3, 0, 0, 0, []),
  (111, .getfield 185, 0, 6, 0, []),
  (114, .iload_n 1, 0, 0, 0, []),
  (115, .iaload, 0, 0, 0, []),
  (116, .ireturn, 0, 0, 0, []),
  (117, .aload_n 3, 0, 0, 0, []),
  (118, .getfield 188, 0, 7, 0, []),
  (121, .iload_n 1, 0, 0, 0, []),
  (122, .iaload, 0, 0, 0, []),
  (123, .ireturn, 0, 0, 0, []),
  (124, .aload_n 0, 0, 0, 0, []),
  (125, .getfield 20, 0, 801, 0, []),
  (128, .getfield 60, 0, 403, 0, []),
  (131, .iload_n 1, 0, 0, 0, []),
  (132, .invokevirtual 191, 0, 84, 602, [(0, 0)]),
  (135, .ireturn, 0, 0, 0, []),
  (136, .iconst (-1), (-1), 0, 0, []),
  (137, .ireturn, 0, 0, 0, [])])
def m_K_lineOf : sm_M := (⟨"SpansAway$Tasks", "lineOf", "(I)I"⟩, prog_9_method_5_code, 4, (some .int), (0, 0, 7, 602), [
  (0, .iconst 0, 0, 0, 0, []),
  (1, .istore_n 2, 0, 0, 0, []),
  (2, .iconst 0, 0, 0, 0, []),
  (3, .istore_n 3, 0, 0, 0, []),
  (4, .iload_n 3, 0, 0, 0, []),
  (5, .bipush 6, 6, 0, 0, []),
  (7, .if_icmp .ge 27, 0, 34, 0, []),
  (10, .iload_n 2, 0, 0, 0, []),
  (11, .aload_n 0, 0, 0, 0, []),
  (12, .getfield 15, 0, 601, 0, []),
  (15, .iload_n 3, 0, 0, 0, []),
  (16, .iaload, 0, 0, 0, []),
  (17, .iload_n 1, 0, 0, 0, []),
  (18, .if_icmp .ne 7, 0, 25, 0, []),
  (21, .iconst 1, 1, 0, 0, []),
  (22, .goto 4, 0, 26, 0, []),
  (25, .iconst 0, 0, 0, 0, []),
  (26, .iadd, 0, 0, 0, []),
  (27, .istore_n 2, 0, 0, 0, []),
  (28, .iinc 3 1, 1, 0, 0, []),
  (31, .goto (-27), 0, 4, 0, []),
  (34, .iload_n 2, 0, 0, 0, []),
  (35, .ireturn, 0, 0, 0, [])])
def m_A_span : sm_M := (⟨"SpansAway", "span", "(II)I"⟩, prog_1_method_19_code, 3, (some .int), (1, 20, 9, 803), [
  (0, .iload_n 1, 0, 0, 0, []),
  (1, .invokestatic 106, 0, 41, 1, [(0, 0)]),
  (4, .ifCond .ne 5, 0, 9, 0, []),
  (7, .iconst (-1), (-1), 0, 0, []),
  (8, .ireturn, 0, 0, 0, []),
  (9, .iload_n 2, 0, 0, 0, []),
  (10, .tableswitch 213 0 10 #[58, 71, 84, 100, 116, 132, 148, 161, 174, 187, 200], 0, 223, 58, [(0, 68), (1, 81), (2, 94), (3, 110), (4, 126), (5, 142), (6, 158), (7, 171), (8, 184), (9, 197), (10, 210)]),
  (68, .aload_n 0, 0, 0, 0, []),
  (69, .getfield 20, 0, 801, 0, []),
  (72, .getfield 109, 0, 402, 0, []),
  (75, .getfield 113, 0, 500, 0, []),
  (78, .iload_n 1, 0, 0, 0, []),
  (79, .iaload, 0, 0, 0, []),
  (80, .ireturn, 0, 0, 0, []),
  (81, .aload_n 0, 0, 0, 0, []),
  (82, .getfield 20, 0, 801, 0, []),
  (85, .getfield 109, 0, 402, 0, []),
  (88, .getfield 194, 0, 501, 0, []),
  (91, .iload_n 1, 0, 0, 0, []),
  (92, .iaload, 0, 0, 0, []),
  (93, .ireturn, 0, 0, 0, []),
  (94, .aload_n 0, 0, 0, 0, []),
  (95, .getfield 20, 0, 801, 0, []),
  (98, .getfield 155, 0, 400, 0, []),
  (101, .getfield 197, 0, 100, 0, []),
  (104, .iload_n 1, 0, 0, 0, []),
  (105, .iaload, 0, 0, 0, []),
  (106, .invokestatic 200, 0, 86, 1, [(0, 0)]),
  (109, .ireturn, 0, 0, 0, []),
  (110, .aload_n 0, 0, 0, 0, []),
  (111, .getfield 20, 0, 801, 0, []),
  (114, .getfield 155, 0, 400, 0, []),
  (117, .getfield 205, 0, 101, 0, []),
  (120, .iload_n 1, 0, 0, 0, []),
  (121, .iaload, 0, 0, 0, []),
  (122, .invokestatic 200, 0, 86, 1, [(0, 0)]),
  (125, .ireturn, 0, 0, 0, []),
  (126, .aload_n 0, 0, 0, 0, []),
  (127, .getfield 20, 0, 801, 0, []),
  (130, .getfield 155, 0, 400, 0, []),
  (133, .getfield 208, 0, 102, 0, []),
  (136, .iload_n 1, 0, 0, 0, []),
  (137, .iaload, 0, 0, 0, []),
  (138, .invokestatic 200, 0, 86, 1, [(0, 0)]),
  (141, .ireturn, 0, 0, 0, []),
  (142, .aload_n 0, 0, 0, 0, []),
  (143, .getfield 20, 0, 801, 0, []),
  (146, .getfield 155, 0, 400, 0, []),
  (149, .getfield 211, 0, 103, 0, []),
  (152, .iload_n 1, 0, 0, 0, []),
  (153, .iaload, 0, 0, 0, []),
  (154, .invokestatic 200, 0, 86, 1, [(0, 0)]),
  (157, .ireturn, 0, 0, 0, []),
  (158, .aload_n 0, 0, 0, 0, []),
  (159, .getfield 20, 0, 801, 0, []),
  (162, .getfield 109, 0, 402, 0, []),
  (165, .getfield 214, 0, 502, 0, []),
  (168, .iload_n 1, 0, 0, 0, []),
  (169, .iaload, 0, 0, 0, []),
  (170, .ireturn, 0, 0, 0, []),
  (171, .aload_n 0, 0, 0, 0, []),
  (172, .getfield 20, 0, 801, 0, []),
  (175, .getfield 109, 0, 402, 0, []),
  (178, .getfield 217, 0, 503, 0, []),
  (181, .iload_n 1, 0, 0, 0, []),
  (182, .iaload, 0, 0, 0, []),
  (183, .ireturn, 0, 0, 0, []),
  (184, .aload_n 0, 0, 0, 0, []),
  (185, .getfield 20, 0, 801, 0, []),
  (188, .getfield 109, 0, 402, 0, []),
  (191, .getfield 220, 0, 504, 0, []),
  (194, .iload_n 1, 0, 0, 0, []),
  (195, .iaload, 0, 0, 0, []),
  (196, .ireturn, 0, 0, 0, []),
  (197, .aload_n 0, 0, 0, 0, []),
  (198, .getfield 20, 0, 801, 0, []),
  (201, .getfield 109, 0, 402, 0, []),
  (204, .getfield 223, 0, 506, 0, []),
  (207, .iload_n 1, 0, 0, 0, []),
  (208, .iaload, 0, 0, 0, []),
  (209, .ireturn, 0, 0, 0, []),
  (210, .aload_n 0, 0, 0, 0, []),
  (211, .getfield 20, 0, 801, 0, []),
  (214, .getfield 109, 0, 402, 0, []),
  (217, .getfield 226, 0, 507, 0, []),
  (220, .iload_n 1, 0, 0, 0, []),
  (221, .iaload, 0, 0, 0, []),
  (222, .ireturn, 0, 0, 0, []),
  (223, .iconst (-1), (-1), 0, 0, []),
  (224, .ireturn, 0, 0, 0, [])])
def m_I_bitCount : sm_M := (⟨"java/lang/Integer", "bitCount", "(I)I"⟩, prog_13_method_49_code, 1, (some .int), (0, 0, 11, 1), [
  (0, .iload_n 0, 0, 0, 0, []),
  (1, .iload_n 0, 0, 0, 0, []),
  (2, .iconst 1, 1, 0, 0, []),
  (3, .iushr, 0, 0, 0, []),
  (4, .ldc_w 265, 1431655765, 0, 0, []),
  (7, .iand, 0, 0, 0, []),
  (8, .isub, 0, 0, 0, []),
  (9, .istore_n 0, 0, 0, 0, []),
  (10, .iload_n 0, 0, 0, 0, []),
  (11, .ldc_w 266, 858993459, 0, 0, []),
  (14, .iand, 0, 0, 0, []),
  (15, .iload_n 0, 0, 0, 0, []),
  (16, .iconst 2, 2, 0, 0, []),
  (17, .iushr, 0, 0, 0, []),
  (18, .ldc_w 266, 858993459, 0, 0, []),
  (21, .iand, 0, 0, 0, []),
  (22, .iadd, 0, 0, 0, []),
  (23, .istore_n 0, 0, 0, 0, []),
  (24, .iload_n 0, 0, 0, 0, []),
  (25, .iload_n 0, 0, 0, 0, []),
  (26, .iconst 4, 4, 0, 0, []),
  (27, .iushr, 0, 0, 0, []),
  (28, .iadd, 0, 0, 0, []),
  (29, .ldc_w 267, 252645135, 0, 0, []),
  (32, .iand, 0, 0, 0, []),
  (33, .istore_n 0, 0, 0, 0, []),
  (34, .iload_n 0, 0, 0, 0, []),
  (35, .iload_n 0, 0, 0, 0, []),
  (36, .bipush 8, 8, 0, 0, []),
  (38, .iushr, 0, 0, 0, []),
  (39, .iadd, 0, 0, 0, []),
  (40, .istore_n 0, 0, 0, 0, []),
  (41, .iload_n 0, 0, 0, 0, []),
  (42, .iload_n 0, 0, 0, 0, []),
  (43, .bipush 16, 16, 0, 0, []),
  (45, .iushr, 0, 0, 0, []),
  (46, .iadd, 0, 0, 0, []),
  (47, .istore_n 0, 0, 0, 0, []),
  (48, .iload_n 0, 0, 0, 0, []),
  (49, .bipush 63, 63, 0, 0, []),
  (51, .iand, 0, 0, 0, []),
  (52, .ireturn, 0, 0, 0, [])])
def m_A_task : sm_M := (⟨"SpansAway", "task", "(II)I"⟩, prog_1_method_20_code, 3, (some .int), (1, 23, 9, 803), [
  (0, .iload_n 1, 0, 0, 0, []),
  (1, .invokestatic 53, 0, 4, 1, [(0, 0)]),
  (4, .ifCond .ne 5, 0, 9, 0, []),
  (7, .iconst (-1), (-1), 0, 0, []),
  (8, .ireturn, 0, 0, 0, []),
  (9, .iload_n 2, 0, 0, 0, []),
  (10, .tableswitch 123 0 5 #[38, 51, 73, 86, 99, 111], 0, 133, 38, [(0, 48), (1, 61), (2, 83), (3, 96), (4, 109), (5, 121)]),
  (48, .aload_n 0, 0, 0, 0, []),
  (49, .getfield 20, 0, 801, 0, []),
  (52, .getfield 60, 0, 403, 0, []),
  (55, .getfield 64, 0, 600, 0, []),
  (58, .iload_n 1, 0, 0, 0, []),
  (59, .iaload, 0, 0, 0, []),
  (60, .ireturn, 0, 0, 0, []),
  (61, .aload_n 0, 0, 0, 0, []),
  (62, .getfield 20, 0, 801, 0, []),
  (65, .getfield 60, 0, 403, 0, []),
  (68, .getfield 229, 0, 601, 0, []),
  (71, .iload_n 1, 0, 0, 0, []),
  (72, .iaload, 0, 0, 0, []),
  (73, .iconst (-1), (-1), 0, 0, []),
  (74, .if_icmp .ne 7, 0, 81, 0, []),
  (77, .iconst 0, 0, 0, 0, []),
  (78, .goto 4, 0, 82, 0, []),
  (81, .iconst 1, 1, 0, 0, []),
  (82, .ireturn, 0, 0, 0, []),
  (83, .aload_n 0, 0, 0, 0, []),
  (84, .getfield 20, 0, 801, 0, []),
  (87, .getfield 60, 0, 403, 0, []),
  (90, .getfield 229, 0, 601, 0, []),
  (93, .iload_n 1, 0, 0, 0, []),
  (94, .iaload, 0, 0, 0, []),
  (95, .ireturn, 0, 0, 0, []),
  (96, .aload_n 0, 0, 0, 0, []),
  (97, .getfield 20, 0, 801, 0, []),
  (100, .getfield 60, 0, 403, 0, []),
  (103, .getfield 232, 0, 602, 0, []),
  (106, .iload_n 1, 0, 0, 0, []),
  (107, .iaload, 0, 0, 0, []),
  (108, .ireturn, 0, 0, 0, []),
  (109, .aload_n 0, 0, 0, 0, []),
  (110, .getfield 20, 0, 801, 0, []),
  (113, .getfield 79, 0, 401, 0, []),
  (116, .iload_n 1, 0, 0, 0, []),
  (117, .invokevirtual 235, 0, 88, 2, [(0, 0)]),
  (120, .ireturn, 0, 0, 0, []),
  (121, .aload_n 0, 0, 0, 0, []),
  (122, .getfield 20, 0, 801, 0, []),
  (125, .getfield 79, 0, 401, 0, []),
  (128, .iload_n 1, 0, 0, 0, []),
  (129, .invokevirtual 238, 0, 89, 2, [(0, 0)]),
  (132, .ireturn, 0, 0, 0, []),
  (133, .iconst (-1), (-1), 0, 0, []),
  (134, .ireturn, 0, 0, 0, [])])
def m_B_ownedBy : sm_M := (⟨"SpansAway$Blocks", "ownedBy", "(I)I"⟩, prog_2_method_10_code, 4, (some .int), (0, 0, 0, 2), [
  (0, .iconst 0, 0, 0, 0, []),
  (1, .istore_n 2, 0, 0, 0, []),
  (2, .iconst 0, 0, 0, 0, []),
  (3, .istore_n 3, 0, 0, 0, []),
  (4, .iload_n 3, 0, 0, 0, []),
  (5, .bipush 96, 96, 0, 0, []),
  (7, .if_icmp .ge 37, 0, 44, 0, []),
  (10, .iload_n 2, 0, 0, 0, []),
  (11, .aload_n 0, 0, 0, 0, []),
  (12, .getfield 9, 0, 0, 0, []),
  (15, .iload_n 3, 0, 0, 0, []),
  (16, .iaload, 0, 0, 0, []),
  (17, .iconst (-1), (-1), 0, 0, []),
  (18, .if_icmp .eq 17, 0, 35, 0, []),
  (21, .aload_n 0, 0, 0, 0, []),
  (22, .getfield 21, 0, 3, 0, []),
  (25, .iload_n 3, 0, 0, 0, []),
  (26, .iaload, 0, 0, 0, []),
  (27, .iload_n 1, 0, 0, 0, []),
  (28, .if_icmp .ne 7, 0, 35, 0, []),
  (31, .iconst 1, 1, 0, 0, []),
  (32, .goto 4, 0, 36, 0, []),
  (35, .iconst 0, 0, 0, 0, []),
  (36, .iadd, 0, 0, 0, []),
  (37, .istore_n 2, 0, 0, 0, []),
  (38, .iinc 3 1, 1, 0, 0, []),
  (41, .goto (-37), 0, 4, 0, []),
  (44, .iload_n 2, 0, 0, 0, []),
  (45, .ireturn, 0, 0, 0, [])])
def m_B_pinnedBy : sm_M := (⟨"SpansAway$Blocks", "pinnedBy", "(I)I"⟩, prog_2_method_11_code, 4, (some .int), (0, 0, 0, 2), [
  (0, .iconst 0, 0, 0, 0, []),
  (1, .istore_n 2, 0, 0, 0, []),
  (2, .iconst 0, 0, 0, 0, []),
  (3, .istore_n 3, 0, 0, 0, []),
  (4, .iload_n 3, 0, 0, 0, []),
  (5, .bipush 96, 96, 0, 0, []),
  (7, .if_icmp .ge 36, 0, 43, 0, []),
  (10, .iload_n 2, 0, 0, 0, []),
  (11, .aload_n 0, 0, 0, 0, []),
  (12, .getfield 9, 0, 0, 0, []),
  (15, .iload_n 3, 0, 0, 0, []),
  (16, .iaload, 0, 0, 0, []),
  (17, .iconst (-1), (-1), 0, 0, []),
  (18, .if_icmp .eq 16, 0, 34, 0, []),
  (21, .aload_n 0, 0, 0, 0, []),
  (22, .getfield 24, 0, 4, 0, []),
  (25, .iload_n 3, 0, 0, 0, []),
  (26, .iaload, 0, 0, 0, []),
  (27, .iload_n 1, 0, 0, 0, []),
  (28, .ishr, 0, 0, 0, []),
  (29, .iconst 1, 1, 0, 0, []),
  (30, .iand, 0, 0, 0, []),
  (31, .goto 4, 0, 35, 0, []),
  (34, .iconst 0, 0, 0, 0, []),
  (35, .iadd, 0, 0, 0, []),
  (36, .istore_n 2, 0, 0, 0, []),
  (37, .iinc 3 1, 1, 0, 0, []),
  (40, .goto (-36), 0, 4, 0, []),
  (43, .iload_n 2, 0, 0, 0, []),
  (44, .ireturn, 0, 0, 0, [])])
def m_A_zone : sm_M := (⟨"SpansAway", "zone", "(II)I"⟩, prog_1_method_21_code, 3, (some .int), (3, 67, 9, 803), [
  (0, .iload_n 1, 0, 0, 0, []),
  (1, .invokestatic 241, 0, 91, 1, [(0, 0)]),
  (4, .ifCond .ne 5, 0, 9, 0, []),
  (7, .iconst (-1), (-1), 0, 0, []),
  (8, .ireturn, 0, 0, 0, []),
  (9, .iload_n 2, 0, 0, 0, []),
  (10, .tableswitch 56 0 2 #[26, 38, 47], 0, 66, 26, [(0, 36), (1, 48), (2, 57)]),
  (36, .aload_n 0, 0, 0, 0, []),
  (37, .getfield 20, 0, 801, 0, []),
  (40, .getfield 109, 0, 402, 0, []),
  (43, .iload_n 1, 0, 0, 0, []),
  (44, .invokevirtual 244, 0, 43, 502, [(0, 0)]),
  (47, .ireturn, 0, 0, 0, []),
  (48, .aload_n 0, 0, 0, 0, []),
  (49, .getfield 20, 0, 801, 0, []),
  (52, .iload_n 1, 0, 0, 0, []),
  (53, .invokevirtual 247, 0, 92, 402, [(0, 0)]),
  (56, .ireturn, 0, 0, 0, []),
  (57, .aload_n 0, 0, 0, 0, []),
  (58, .getfield 20, 0, 801, 0, []),
  (61, .iload_n 1, 0, 0, 0, []),
  (62, .invokevirtual 250, 0, 93, 402, [(0, 0)]),
  (65, .ireturn, 0, 0, 0, []),
  (66, .iconst (-1), (-1), 0, 0, []),
  (67, .ireturn, 0, 0, 0, [])])
def m_A_isZone : sm_M := (⟨"SpansAway", "isZone", "(I)Z"⟩, prog_1_method_43_code, 1, (some .boolean), (0, 0, 9, 1), [
  (0, .iload_n 0, 0, 0, 0, []),
  (1, .ifCond .lt 12, 0, 13, 0, []),
  (4, .iload_n 0, 0, 0, 0, []),
  (5, .iconst 2, 2, 0, 0, []),
  (6, .if_icmp .ge 7, 0, 13, 0, []),
  (9, .iconst 1, 1, 0, 0, []),
  (10, .goto 4, 0, 14, 0, []),
  (13, .iconst 0, 0, 0, 0, []),
  (14, .ireturn, 0, 0, 0, [])])
def m_Y_freeInZone : sm_M := (⟨"SpansAway$Memory", "freeInZone", "(I)I"⟩, prog_6_method_20_code, 4, (some .int), (1, 20, 4, 402), [
  (0, .iconst 0, 0, 0, 0, []),
  (1, .istore_n 2, 0, 0, 0, []),
  (2, .iconst 0, 0, 0, 0, []),
  (3, .istore_n 3, 0, 0, 0, []),
  (4, .iload_n 3, 0, 0, 0, []),
  (5, .bipush 8, 8, 0, 0, []),
  (7, .if_icmp .ge 41, 0, 48, 0, []),
  (10, .iload_n 2, 0, 0, 0, []),
  (11, .aload_n 0, 0, 0, 0, []),
  (12, .getfield 28, 0, 402, 0, []),
  (15, .getfield 82, 0, 501, 0, []),
  (18, .iload_n 3, 0, 0, 0, []),
  (19, .iaload, 0, 0, 0, []),
  (20, .iload_n 1, 0, 0, 0, []),
  (21, .if_icmp .ne 18, 0, 39, 0, []),
  (24, .aload_n 0, 0, 0, 0, []),
  (25, .getfield 12, 0, 400, 0, []),
  (28, .getfield 85, 0, 100, 0, []),
  (31, .iload_n 3, 0, 0, 0, []),
  (32, .iaload, 0, 0, 0, []),
  (33, .invokestatic 234, 0, 86, 1, [(0, 0)]),
  (36, .goto 4, 0, 40, 0, []),
  (39, .iconst 0, 0, 0, 0, []),
  (40, .iadd, 0, 0, 0, []),
  (41, .istore_n 2, 0, 0, 0, []),
  (42, .iinc 3 1, 1, 0, 0, []),
  (45, .goto (-41), 0, 4, 0, []),
  (48, .iload_n 2, 0, 0, 0, []),
  (49, .ireturn, 0, 0, 0, [])])
def m_Y_widestInZone : sm_M := (⟨"SpansAway$Memory", "widestInZone", "(I)I"⟩, prog_6_method_21_code, 4, (some .int), (2, 44, 4, 402), [
  (0, .iconst (-1), (-1), 0, 0, []),
  (1, .istore_n 2, 0, 0, 0, []),
  (2, .iconst 0, 0, 0, 0, []),
  (3, .istore_n 3, 0, 0, 0, []),
  (4, .iload_n 3, 0, 0, 0, []),
  (5, .bipush 8, 8, 0, 0, []),
  (7, .if_icmp .ge 39, 0, 46, 0, []),
  (10, .aload_n 0, 0, 0, 0, []),
  (11, .getfield 28, 0, 402, 0, []),
  (14, .getfield 82, 0, 501, 0, []),
  (17, .iload_n 3, 0, 0, 0, []),
  (18, .iaload, 0, 0, 0, []),
  (19, .iload_n 1, 0, 0, 0, []),
  (20, .if_icmp .ne 20, 0, 40, 0, []),
  (23, .iload_n 2, 0, 0, 0, []),
  (24, .aload_n 0, 0, 0, 0, []),
  (25, .getfield 12, 0, 400, 0, []),
  (28, .getfield 85, 0, 100, 0, []),
  (31, .iload_n 3, 0, 0, 0, []),
  (32, .iaload, 0, 0, 0, []),
  (33, .invokestatic 237, 0, 94, 1, [(0, 0)]),
  (36, .invokestatic 240, 0, 9997, 2, []),
  (39, .istore_n 2, 0, 0, 0, []),
  (40, .iinc 3 1, 1, 0, 0, []),
  (43, .goto (-39), 0, 4, 0, []),
  (46, .iload_n 2, 0, 0, 0, []),
  (47, .ireturn, 0, 0, 0, [])])
def m_R_widest : sm_M := (⟨"SpansAway$Rows", "widest", "(I)I"⟩, prog_7_method_6_code, 2, (some .int), (1, 23, 5, 1), [
  (0, .iconst 5, 5, 0, 0, []),
  (1, .istore_n 1, 0, 0, 0, []),
  (2, .iload_n 1, 0, 0, 0, []),
  (3, .ifCond .lt 19, 0, 22, 0, []),
  (6, .iload_n 0, 0, 0, 0, []),
  (7, .iload_n 1, 0, 0, 0, []),
  (8, .invokestatic 15, 0, 11, 2, [(0, 0)]),
  (11, .ifCond .eq 5, 0, 16, 0, []),
  (14, .iload_n 1, 0, 0, 0, []),
  (15, .ireturn, 0, 0, 0, []),
  (16, .iinc 1 (-1), (-1), 0, 0, []),
  (19, .goto (-17), 0, 2, 0, []),
  (22, .iconst (-1), (-1), 0, 0, []),
  (23, .ireturn, 0, 0, 0, [])])
def m_A_loose : sm_M := (⟨"SpansAway", "loose", "(II)I"⟩, prog_1_method_22_code, 7, (some .int), (1, 23, 9, 803), [
  (0, .iload_n 1, 0, 0, 0, []),
  (1, .invokestatic 241, 0, 91, 1, [(0, 0)]),
  (4, .ifCond .eq 12, 0, 16, 0, []),
  (7, .iload_n 2, 0, 0, 0, []),
  (8, .ifCond .lt 8, 0, 16, 0, []),
  (11, .iload_n 2, 0, 0, 0, []),
  (12, .iconst 5, 5, 0, 0, []),
  (13, .if_icmp .le 5, 0, 18, 0, []),
  (16, .iconst (-1), (-1), 0, 0, []),
  (17, .ireturn, 0, 0, 0, []),
  (18, .iconst 0, 0, 0, 0, []),
  (19, .istore_n 3, 0, 0, 0, []),
  (20, .iconst 0, 0, 0, 0, []),
  (21, .istore 4, 0, 0, 0, []),
  (23, .iload 4, 0, 0, 0, []),
  (25, .bipush 8, 8, 0, 0, []),
  (27, .if_icmp .ge 65, 0, 92, 0, []),
  (30, .aload_n 0, 0, 0, 0, []),
  (31, .getfield 20, 0, 801, 0, []),
  (34, .getfield 109, 0, 402, 0, []),
  (37, .getfield 194, 0, 501, 0, []),
  (40, .iload 4, 0, 0, 0, []),
  (42, .iaload, 0, 0, 0, []),
  (43, .iload_n 1, 0, 0, 0, []),
  (44, .if_icmp .ne 42, 0, 86, 0, []),
  (47, .aload_n 0, 0, 0, 0, []),
  (48, .getfield 20, 0, 801, 0, []),
  (51, .getfield 155, 0, 400, 0, []),
  (54, .getfield 197, 0, 100, 0, []),
  (57, .iload 4, 0, 0, 0, []),
  (59, .iaload, 0, 0, 0, []),
  (60, .istore 5, 0, 0, 0, []),
  (62, .iload 5, 0, 0, 0, []),
  (64, .iload_n 2, 0, 0, 0, []),
  (65, .invokestatic 253, 0, 11, 2, [(0, 0)]),
  (68, .invokestatic 200, 0, 86, 1, [(0, 0)]),
  (71, .iload_n 2, 0, 0, 0, []),
  (72, .ishl, 0, 0, 0, []),
  (73, .istore 6, 0, 0, 0, []),
  (75, .iload_n 3, 0, 0, 0, []),
  (76, .iload 5, 0, 0, 0, []),
  (78, .invokestatic 200, 0, 86, 1, [(0, 0)]),
  (81, .iload 6, 0, 0, 0, []),
  (83, .isub, 0, 0, 0, []),
  (84, .iadd, 0, 0, 0, []),
  (85, .istore_n 3, 0, 0, 0, []),
  (86, .iinc 4 1, 1, 0, 0, []),
  (89, .goto (-66), 0, 23, 0, []),
  (92, .iload_n 3, 0, 0, 0, []),
  (93, .ireturn, 0, 0, 0, [])])
def m_A_place : sm_M := (⟨"SpansAway", "place", "(III)I"⟩, prog_1_method_23_code, 4, (some .int), (2, 56, 9, 804), [
  (0, .iload_n 1, 0, 0, 0, []),
  (1, .invokestatic 53, 0, 4, 1, [(0, 0)]),
  (4, .ifCond .eq 17, 0, 21, 0, []),
  (7, .iload_n 2, 0, 0, 0, []),
  (8, .invokestatic 69, 0, 7, 1, [(0, 0)]),
  (11, .ifCond .eq 10, 0, 21, 0, []),
  (14, .iload_n 3, 0, 0, 0, []),
  (15, .invokestatic 72, 0, 8, 1, [(0, 0)]),
  (18, .ifCond .ne 5, 0, 23, 0, []),
  (21, .iconst (-1), (-1), 0, 0, []),
  (22, .ireturn, 0, 0, 0, []),
  (23, .aload_n 0, 0, 0, 0, []),
  (24, .getfield 20, 0, 801, 0, []),
  (27, .iload_n 1, 0, 0, 0, []),
  (28, .iload_n 2, 0, 0, 0, []),
  (29, .iload_n 3, 0, 0, 0, []),
  (30, .iconst 0, 0, 0, 0, []),
  (31, .invokevirtual 259, 0, 10, 405, [(0, 0)]),
  (34, .ireturn, 0, 0, 0, [])])
def m_A_hole : sm_M := (⟨"SpansAway", "hole", "(I)I"⟩, prog_1_method_24_code, 2, (some .int), (2, 47, 9, 802), [
  (0, .iload_n 1, 0, 0, 0, []),
  (1, .ifCond .lt 10, 0, 11, 0, []),
  (4, .iload_n 1, 0, 0, 0, []),
  (5, .sipush 256, 256, 0, 0, []),
  (8, .if_icmp .lt 5, 0, 13, 0, []),
  (11, .iconst (-1), (-1), 0, 0, []),
  (12, .ireturn, 0, 0, 0, []),
  (13, .aload_n 0, 0, 0, 0, []),
  (14, .getfield 20, 0, 801, 0, []),
  (17, .getfield 155, 0, 400, 0, []),
  (20, .getfield 197, 0, 100, 0, []),
  (23, .iload_n 1, 0, 0, 0, []),
  (24, .bipush 32, 32, 0, 0, []),
  (26, .idiv, 0, 0, 0, []),
  (27, .iaload, 0, 0, 0, []),
  (28, .iload_n 1, 0, 0, 0, []),
  (29, .bipush 32, 32, 0, 0, []),
  (31, .irem, 0, 0, 0, []),
  (32, .invokestatic 263, 0, 98, 2, [(0, 0)]),
  (35, .ireturn, 0, 0, 0, [])])
def m_R_holeRound : sm_M := (⟨"SpansAway$Rows", "holeRound", "(II)I"⟩, prog_7_method_5_code, 5, (some .int), (1, 23, 5, 2), [
  (0, .iconst (-1), (-1), 0, 0, []),
  (1, .istore_n 2, 0, 0, 0, []),
  (2, .iconst 0, 0, 0, 0, []),
  (3, .istore_n 3, 0, 0, 0, []),
  (4, .iload_n 3, 0, 0, 0, []),
  (5, .iconst 5, 5, 0, 0, []),
  (6, .if_icmp .gt 33, 0, 39, 0, []),
  (9, .iload_n 1, 0, 0, 0, []),
  (10, .iload_n 3, 0, 0, 0, []),
  (11, .ishr, 0, 0, 0, []),
  (12, .iload_n 3, 0, 0, 0, []),
  (13, .ishl, 0, 0, 0, []),
  (14, .istore 4, 0, 0, 0, []),
  (16, .iload_n 0, 0, 0, 0, []),
  (17, .iload_n 3, 0, 0, 0, []),
  (18, .invokestatic 15, 0, 11, 2, [(0, 0)]),
  (21, .iload 4, 0, 0, 0, []),
  (23, .iushr, 0, 0, 0, []),
  (24, .iconst 1, 1, 0, 0, []),
  (25, .iand, 0, 0, 0, []),
  (26, .ifCond .ne 5, 0, 31, 0, []),
  (29, .iload_n 2, 0, 0, 0, []),
  (30, .ireturn, 0, 0, 0, []),
  (31, .iload_n 3, 0, 0, 0, []),
  (32, .istore_n 2, 0, 0, 0, []),
  (33, .iinc 3 1, 1, 0, 0, []),
  (36, .goto (-32), 0, 4, 0, []),
  (39, .iload_n 2, 0, 0, 0, []),
  (40, .ireturn, 0, 0, 0, [])])
def m_A_keeps : sm_M := (⟨"SpansAway", "keeps", "(III)I"⟩, prog_1_method_25_code, 5, (some .int), (4, 95, 9, 804), [
  (0, .iload_n 1, 0, 0, 0, []),
  (1, .invokestatic 106, 0, 41, 1, [(0, 0)]),
  (4, .ifCond .eq 12, 0, 16, 0, []),
  (7, .iload_n 3, 0, 0, 0, []),
  (8, .ifCond .lt 8, 0, 16, 0, []),
  (11, .iload_n 3, 0, 0, 0, []),
  (12, .iconst 3, 3, 0, 0, []),
  (13, .if_icmp .le 5, 0, 18, 0, []),
  (16, .iconst (-1), (-1), 0, 0, []),
  (17, .ireturn, 0, 0, 0, []),
  (18, .iload_n 2, 0, 0, 0, []),
  (19, .iconst (-1), (-1), 0, 0, []),
  (20, .if_icmp .ne 12, 0, 32, 0, []),
  (23, .aload_n 0, 0, 0, 0, []),
  (24, .getfield 20, 0, 801, 0, []),
  (27, .iload_n 1, 0, 0, 0, []),
  (28, .invokevirtual 266, 0, 100, 402, [(0, 0)]),
  (31, .ireturn, 0, 0, 0, []),
  (32, .aload_n 0, 0, 0, 0, []),
  (33, .getfield 20, 0, 801, 0, []),
  (36, .iload_n 1, 0, 0, 0, []),
  (37, .iload_n 2, 0, 0, 0, []),
  (38, .invokevirtual 269, 0, 103, 403, [(0, 0)]),
  (41, .istore 4, 0, 0, 0, []),
  (43, .iload 4, 0, 0, 0, []),
  (45, .iconst (-1), (-1), 0, 0, []),
  (46, .if_icmp .ne 5, 0, 51, 0, []),
  (49, .iconst (-1), (-1), 0, 0, []),
  (50, .ireturn, 0, 0, 0, []),
  (51, .iload_n 3, 0, 0, 0, []),
  (52, .tableswitch 56 0 2 #[28, 31, 42], 0, 108, 28, [(0, 80), (1, 83), (2, 94)]),
  (80, .iload 4, 0, 0, 0, []),
  (82, .ireturn, 0, 0, 0, []),
  (83, .aload_n 0, 0, 0, 0, []),
  (84, .getfield 20, 0, 801, 0, []),
  (87, .iload_n 1, 0, 0, 0, []),
  (88, .iload 4, 0, 0, 0, []),
  (90, .invokevirtual 272, 0, 101, 403, [(0, 0)]),
  (93, .ireturn, 0, 0, 0, []),
  (94, .aload_n 0, 0, 0, 0, []),
  (95, .getfield 20, 0, 801, 0, []),
  (98, .getfield 79, 0, 401, 0, []),
  (101, .getfield 179, 0, 3, 0, []),
  (104, .iload 4, 0, 0, 0, []),
  (106, .iaload, 0, 0, 0, []),
  (107, .ireturn, 0, 0, 0, []),
  (108, .aload_n 0, 0, 0, 0, []),
  (109, .getfield 20, 0, 801, 0, []),
  (112, .getfield 79, 0, 401, 0, []),
  (115, .getfield 103, 0, 4, 0, []),
  (118, .iload 4, 0, 0, 0, []),
  (120, .iaload, 0, 0, 0, []),
  (121, .ireturn, 0, 0, 0, [])])
def m_Y_keepers : sm_M := (⟨"SpansAway$Memory", "keepers", "(I)I"⟩, prog_6_method_24_code, 5, (some .int), (3, 70, 4, 402), [
  (0, .iconst 0, 0, 0, 0, []),
  (1, .istore_n 2, 0, 0, 0, []),
  (2, .iload_n 1, 0, 0, 0, []),
  (3, .bipush 32, 32, 0, 0, []),
  (5, .imul, 0, 0, 0, []),
  (6, .istore_n 3, 0, 0, 0, []),
  (7, .iload_n 3, 0, 0, 0, []),
  (8, .iload_n 1, 0, 0, 0, []),
  (9, .iconst 1, 1, 0, 0, []),
  (10, .iadd, 0, 0, 0, []),
  (11, .bipush 32, 32, 0, 0, []),
  (13, .imul, 0, 0, 0, []),
  (14, .if_icmp .ge 41, 0, 55, 0, []),
  (17, .aload_n 0, 0, 0, 0, []),
  (18, .iload_n 3, 0, 0, 0, []),
  (19, .invokevirtual 209, 0, 50, 402, [(0, 0)]),
  (22, .istore 4, 0, 0, 0, []),
  (24, .iload_n 2, 0, 0, 0, []),
  (25, .iload 4, 0, 0, 0, []),
  (27, .iconst (-1), (-1), 0, 0, []),
  (28, .if_icmp .eq 18, 0, 46, 0, []),
  (31, .aload_n 0, 0, 0, 0, []),
  (32, .iload_n 1, 0, 0, 0, []),
  (33, .iload 4, 0, 0, 0, []),
  (35, .invokevirtual 248, 0, 101, 403, [(0, 0)]),
  (38, .iconst (-1), (-1), 0, 0, []),
  (39, .if_icmp .eq 7, 0, 46, 0, []),
  (42, .iconst 1, 1, 0, 0, []),
  (43, .goto 4, 0, 47, 0, []),
  (46, .iconst 0, 0, 0, 0, []),
  (47, .iadd, 0, 0, 0, []),
  (48, .istore_n 2, 0, 0, 0, []),
  (49, .iinc 3 1, 1, 0, 0, []),
  (52, .goto (-45), 0, 7, 0, []),
  (55, .iload_n 2, 0, 0, 0, []),
  (56, .ireturn, 0, 0, 0, [])])
def m_Y_whyKeeps : sm_M := (⟨"SpansAway$Memory", "whyKeeps", "(II)I"⟩, prog_6_method_22_code, 3, (some .int), (2, 48, 4, 403), [
  (0, .aload_n 0, 0, 0, 0, []),
  (1, .getfield 21, 0, 401, 0, []),
  (4, .getfield 212, 0, 2, 0, []),
  (7, .iload_n 2, 0, 0, 0, []),
  (8, .iaload, 0, 0, 0, []),
  (9, .iconst 1, 1, 0, 0, []),
  (10, .if_icmp .ne 5, 0, 15, 0, []),
  (13, .iconst 0, 0, 0, 0, []),
  (14, .ireturn, 0, 0, 0, []),
  (15, .aload_n 0, 0, 0, 0, []),
  (16, .getfield 21, 0, 401, 0, []),
  (19, .getfield 182, 0, 4, 0, []),
  (22, .iload_n 2, 0, 0, 0, []),
  (23, .iaload, 0, 0, 0, []),
  (24, .ifCond .eq 5, 0, 29, 0, []),
  (27, .iconst 1, 1, 0, 0, []),
  (28, .ireturn, 0, 0, 0, []),
  (29, .aload_n 0, 0, 0, 0, []),
  (30, .getfield 21, 0, 401, 0, []),
  (33, .getfield 212, 0, 2, 0, []),
  (36, .iload_n 2, 0, 0, 0, []),
  (37, .iaload, 0, 0, 0, []),
  (38, .iconst 2, 2, 0, 0, []),
  (39, .if_icmp .eq 12, 0, 51, 0, []),
  (42, .aload_n 0, 0, 0, 0, []),
  (43, .iload_n 1, 0, 0, 0, []),
  (44, .iload_n 2, 0, 0, 0, []),
  (45, .invokevirtual 245, 0, 102, 403, [(0, 0)]),
  (48, .ifCond .eq 7, 0, 55, 0, []),
  (51, .iconst (-1), (-1), 0, 0, []),
  (52, .goto 4, 0, 56, 0, []),
  (55, .iconst 2, 2, 0, 0, []),
  (56, .ireturn, 0, 0, 0, [])])
def m_Y_hasPlaceBeside : sm_M := (⟨"SpansAway$Memory", "hasPlaceBeside", "(II)Z"⟩, prog_6_method_23_code, 5, (some .boolean), (1, 24, 4, 403), [
  (0, .aload_n 0, 0, 0, 0, []),
  (1, .getfield 35, 0, 403, 0, []),
  (4, .getfield 104, 0, 600, 0, []),
  (7, .aload_n 0, 0, 0, 0, []),
  (8, .getfield 21, 0, 401, 0, []),
  (11, .getfield 228, 0, 3, 0, []),
  (14, .iload_n 2, 0, 0, 0, []),
  (15, .iaload, 0, 0, 0, []),
  (16, .iaload, 0, 0, 0, []),
  (17, .istore_n 3, 0, 0, 0, []),
  (18, .iconst 0, 0, 0, 0, []),
  (19, .istore 4, 0, 0, 0, []),
  (21, .iload 4, 0, 0, 0, []),
  (23, .bipush 8, 8, 0, 0, []),
  (25, .if_icmp .ge 76, 0, 101, 0, []),
  (28, .iload 4, 0, 0, 0, []),
  (30, .iload_n 1, 0, 0, 0, []),
  (31, .if_icmp .eq 64, 0, 95, 0, []),
  (34, .aload_n 0, 0, 0, 0, []),
  (35, .getfield 28, 0, 402, 0, []),
  (38, .getfield 79, 0, 500, 0, []),
  (41, .iload 4, 0, 0, 0, []),
  (43, .iaload, 0, 0, 0, []),
  (44, .iconst 1, 1, 0, 0, []),
  (45, .if_icmp .ne 50, 0, 95, 0, []),
  (48, .aload_n 0, 0, 0, 0, []),
  (49, .iload 4, 0, 0, 0, []),
  (51, .aload_n 0, 0, 0, 0, []),
  (52, .getfield 21, 0, 401, 0, []),
  (55, .getfield 212, 0, 2, 0, []),
  (58, .iload_n 2, 0, 0, 0, []),
  (59, .iaload, 0, 0, 0, []),
  (60, .iload_n 3, 0, 0, 0, []),
  (61, .invokevirtual 107, 0, 12, 404, [(0, 0)]),
  (64, .iconst (-1), (-1), 0, 0, []),
  (65, .if_icmp .eq 30, 0, 95, 0, []),
  (68, .aload_n 0, 0, 0, 0, []),
  (69, .getfield 12, 0, 400, 0, []),
  (72, .getfield 85, 0, 100, 0, []),
  (75, .iload 4, 0, 0, 0, []),
  (77, .iaload, 0, 0, 0, []),
  (78, .aload_n 0, 0, 0, 0, []),
  (79, .getfield 21, 0, 401, 0, []),
  (82, .getfield 160, 0, 1, 0, []),
  (85, .iload_n 2, 0, 0, 0, []),
  (86, .iaload, 0, 0, 0, []),
  (87, .invokestatic 100, 0, 11, 2, [(0, 0)]),
  (90, .ifCond .eq 5, 0, 95, 0, []),
  (93, .iconst 1, 1, 0, 0, []),
  (94, .ireturn, 0, 0, 0, []),
  (95, .iinc 4 1, 1, 0, 0, []),
  (98, .goto (-77), 0, 21, 0, []),
  (101, .iconst 0, 0, 0, 0, []),
  (102, .ireturn, 0, 0, 0, [])])
def m_Y_keeper : sm_M := (⟨"SpansAway$Memory", "keeper", "(II)I"⟩, prog_6_method_25_code, 6, (some .int), (3, 70, 4, 403), [
  (0, .iconst 0, 0, 0, 0, []),
  (1, .istore_n 3, 0, 0, 0, []),
  (2, .iload_n 1, 0, 0, 0, []),
  (3, .bipush 32, 32, 0, 0, []),
  (5, .imul, 0, 0, 0, []),
  (6, .istore 4, 0, 0, 0, []),
  (8, .iload 4, 0, 0, 0, []),
  (10, .iload_n 1, 0, 0, 0, []),
  (11, .iconst 1, 1, 0, 0, []),
  (12, .iadd, 0, 0, 0, []),
  (13, .bipush 32, 32, 0, 0, []),
  (15, .imul, 0, 0, 0, []),
  (16, .if_icmp .ge 45, 0, 61, 0, []),
  (19, .aload_n 0, 0, 0, 0, []),
  (20, .iload 4, 0, 0, 0, []),
  (22, .invokevirtual 209, 0, 50, 402, [(0, 0)]),
  (25, .istore 5, 0, 0, 0, []),
  (27, .iload 5, 0, 0, 0, []),
  (29, .iconst (-1), (-1), 0, 0, []),
  (30, .if_icmp .eq 25, 0, 55, 0, []),
  (33, .aload_n 0, 0, 0, 0, []),
  (34, .iload_n 1, 0, 0, 0, []),
  (35, .iload 5, 0, 0, 0, []),
  (37, .invokevirtual 248, 0, 101, 403, [(0, 0)]),
  (40, .iconst (-1), (-1), 0, 0, []),
  (41, .if_icmp .eq 14, 0, 55, 0, []),
  (44, .iload_n 3, 0, 0, 0, []),
  (45, .iload_n 2, 0, 0, 0, []),
  (46, .if_icmp .ne 6, 0, 52, 0, []),
  (49, .iload 5, 0, 0, 0, []),
  (51, .ireturn, 0, 0, 0, []),
  (52, .iinc 3 1, 1, 0, 0, []),
  (55, .iinc 4 1, 1, 0, 0, []),
  (58, .goto (-50), 0, 8, 0, []),
  (61, .iconst (-1), (-1), 0, 0, []),
  (62, .ireturn, 0, 0, 0, [])])
def m_A_holders : sm_M := (⟨"SpansAway", "holders", "(I)I"⟩, prog_1_method_26_code, 2, (some .int), (2, 46, 9, 802), [
  (0, .iload_n 1, 0, 0, 0, []),
  (1, .invokestatic 106, 0, 41, 1, [(0, 0)]),
  (4, .ifCond .ne 5, 0, 9, 0, []),
  (7, .iconst (-1), (-1), 0, 0, []),
  (8, .ireturn, 0, 0, 0, []),
  (9, .aload_n 0, 0, 0, 0, []),
  (10, .getfield 20, 0, 801, 0, []),
  (13, .iload_n 1, 0, 0, 0, []),
  (14, .invokevirtual 275, 0, 105, 402, [(0, 0)]),
  (17, .ireturn, 0, 0, 0, [])])
def m_Y_holdersOf : sm_M := (⟨"SpansAway$Memory", "holdersOf", "(I)I"⟩, prog_6_method_26_code, 5, (some .int), (1, 22, 4, 402), [
  (0, .iconst 0, 0, 0, 0, []),
  (1, .istore_n 2, 0, 0, 0, []),
  (2, .iload_n 1, 0, 0, 0, []),
  (3, .bipush 32, 32, 0, 0, []),
  (5, .imul, 0, 0, 0, []),
  (6, .istore_n 3, 0, 0, 0, []),
  (7, .iload_n 3, 0, 0, 0, []),
  (8, .iload_n 1, 0, 0, 0, []),
  (9, .iconst 1, 1, 0, 0, []),
  (10, .iadd, 0, 0, 0, []),
  (11, .bipush 32, 32, 0, 0, []),
  (13, .imul, 0, 0, 0, []),
  (14, .if_icmp .ge 68, 0, 82, 0, []),
  (17, .aload_n 0, 0, 0, 0, []),
  (18, .iload_n 3, 0, 0, 0, []),
  (19, .invokevirtual 209, 0, 50, 402, [(0, 0)]),
  (22, .istore 4, 0, 0, 0, []),
  (24, .iload 4, 0, 0, 0, []),
  (26, .iconst (-1), (-1), 0, 0, []),
  (27, .if_icmp .eq 49, 0, 76, 0, []),
  (30, .iload_n 2, 0, 0, 0, []),
  (31, .aload_n 0, 0, 0, 0, []),
  (32, .getfield 21, 0, 401, 0, []),
  (35, .getfield 182, 0, 4, 0, []),
  (38, .iload 4, 0, 0, 0, []),
  (40, .iaload, 0, 0, 0, []),
  (41, .ior, 0, 0, 0, []),
  (42, .istore_n 2, 0, 0, 0, []),
  (43, .iload_n 2, 0, 0, 0, []),
  (44, .aload_n 0, 0, 0, 0, []),
  (45, .getfield 21, 0, 401, 0, []),
  (48, .getfield 212, 0, 2, 0, []),
  (51, .iload 4, 0, 0, 0, []),
  (53, .iaload, 0, 0, 0, []),
  (54, .iconst 1, 1, 0, 0, []),
  (55, .if_icmp .ne 18, 0, 73, 0, []),
  (58, .iconst 1, 1, 0, 0, []),
  (59, .aload_n 0, 0, 0, 0, []),
  (60, .getfield 21, 0, 401, 0, []),
  (63, .getfield 228, 0, 3, 0, []),
  (66, .iload 4, 0, 0, 0, []),
  (68, .iaload, 0, 0, 0, []),
  (69, .ishl, 0, 0, 0, []),
  (70, .goto 4, 0, 74, 0, []),
  (73, .iconst 0, 0, 0, 0, []),
  (74, .ior, 0, 0, 0, []),
  (75, .istore_n 2, 0, 0, 0, []),
  (76, .iinc 3 1, 1, 0, 0, []),
  (79, .goto (-72), 0, 7, 0, []),
  (82, .iload_n 2, 0, 0, 0, []),
  (83, .ireturn, 0, 0, 0, [])])
def m_A_pressed : sm_M := (⟨"SpansAway", "pressed", "(I)I"⟩, prog_1_method_27_code, 2, (some .int), (5, 125, 9, 802), [
  (0, .iload_n 1, 0, 0, 0, []),
  (1, .invokestatic 106, 0, 41, 1, [(0, 0)]),
  (4, .ifCond .eq 19, 0, 23, 0, []),
  (7, .aload_n 0, 0, 0, 0, []),
  (8, .getfield 20, 0, 801, 0, []),
  (11, .getfield 109, 0, 402, 0, []),
  (14, .getfield 113, 0, 500, 0, []),
  (17, .iload_n 1, 0, 0, 0, []),
  (18, .iaload, 0, 0, 0, []),
  (19, .iconst 1, 1, 0, 0, []),
  (20, .if_icmp .eq 5, 0, 25, 0, []),
  (23, .iconst (-1), (-1), 0, 0, []),
  (24, .ireturn, 0, 0, 0, []),
  (25, .aload_n 0, 0, 0, 0, []),
  (26, .getfield 32, 0, 803, 0, []),
  (29, .aload_n 0, 0, 0, 0, []),
  (30, .getfield 20, 0, 801, 0, []),
  (33, .iload_n 1, 0, 0, 0, []),
  (34, .invokevirtual 278, 0, 107, 703, [(0, 0)]),
  (37, .ireturn, 0, 0, 0, [])])
def m_H_widestPacked : sm_M := (⟨"SpansAway$Thought", "widestPacked", "(LSpansAway$Memory;I)I"⟩, prog_10_method_5_code, 3, (some .int), (4, 103, 8, 703), [
  (0, .aload_n 0, 0, 0, 0, []),
  (1, .getfield 22, 0, 701, 0, []),
  (4, .aload_n 1, 0, 0, 0, []),
  (5, .invokevirtual 38, 0, 108, 402, []),
  (8, .aload_n 0, 0, 0, 0, []),
  (9, .getfield 22, 0, 701, 0, []),
  (12, .iload_n 2, 0, 0, 0, []),
  (13, .invokevirtual 73, 0, 49, 402, [(0, 0)]),
  (16, .pop, 0, 0, 0, []),
  (17, .aload_n 0, 0, 0, 0, []),
  (18, .getfield 22, 0, 701, 0, []),
  (21, .getfield 77, 0, 400, 0, []),
  (24, .getfield 81, 0, 100, 0, []),
  (27, .iload_n 2, 0, 0, 0, []),
  (28, .iaload, 0, 0, 0, []),
  (29, .invokestatic 86, 0, 94, 1, [(0, 0)]),
  (32, .ireturn, 0, 0, 0, [])])
def m_Y_copyFrom : sm_M := (⟨"SpansAway$Memory", "copyFrom", "(LSpansAway$Memory;)V"⟩, prog_6_method_2_code, 2, none, (3, 82, 4, 402), [
  (0, .aload_n 0, 0, 0, 0, []),
  (1, .getfield 12, 0, 400, 0, []),
  (4, .aload_n 1, 0, 0, 0, []),
  (5, .getfield 12, 0, 400, 0, []),
  (8, .invokevirtual 57, 0, 109, 102, []),
  (11, .aload_n 0, 0, 0, 0, []),
  (12, .getfield 21, 0, 401, 0, []),
  (15, .aload_n 1, 0, 0, 0, []),
  (16, .getfield 21, 0, 401, 0, []),
  (19, .invokevirtual 61, 0, 110, 2, []),
  (22, .aload_n 0, 0, 0, 0, []),
  (23, .getfield 28, 0, 402, 0, []),
  (26, .aload_n 1, 0, 0, 0, []),
  (27, .getfield 28, 0, 402, 0, []),
  (30, .invokevirtual 64, 0, 111, 502, []),
  (33, .aload_n 0, 0, 0, 0, []),
  (34, .getfield 35, 0, 403, 0, []),
  (37, .aload_n 1, 0, 0, 0, []),
  (38, .getfield 35, 0, 403, 0, []),
  (41, .invokevirtual 67, 0, 112, 602, []),
  (44, .aload_n 1, 0, 0, 0, []),
  (45, .getfield 46, 0, 405, 0, []),
  (48, .aload_n 0, 0, 0, 0, []),
  (49, .getfield 46, 0, 405, 0, []),
  (52, .invokestatic 70, 0, 1, 2, []),
  (55, .aload_n 1, 0, 0, 0, []),
  (56, .getfield 50, 0, 406, 0, []),
  (59, .aload_n 0, 0, 0, 0, []),
  (60, .getfield 50, 0, 406, 0, []),
  (63, .invokestatic 70, 0, 1, 2, []),
  (66, .aload_n 0, 0, 0, 0, []),
  (67, .aload_n 1, 0, 0, 0, []),
  (68, .getfield 53, 0, 407, 0, []),
  (71, .putfield 53, 0, 407, 0, []),
  (74, .return_, 0, 0, 0, [])])
def m_F_copyFrom : sm_M := (⟨"SpansAway$Frames", "copyFrom", "(LSpansAway$Frames;)V"⟩, prog_3_method_2_code, 2, none, (2, 61, 1, 102), [
  (0, .aload_n 1, 0, 0, 0, []),
  (1, .getfield 9, 0, 100, 0, []),
  (4, .aload_n 0, 0, 0, 0, []),
  (5, .getfield 9, 0, 100, 0, []),
  (8, .invokestatic 36, 0, 1, 2, []),
  (11, .aload_n 1, 0, 0, 0, []),
  (12, .getfield 15, 0, 101, 0, []),
  (15, .aload_n 0, 0, 0, 0, []),
  (16, .getfield 15, 0, 101, 0, []),
  (19, .invokestatic 36, 0, 1, 2, []),
  (22, .aload_n 1, 0, 0, 0, []),
  (23, .getfield 18, 0, 102, 0, []),
  (26, .aload_n 0, 0, 0, 0, []),
  (27, .getfield 18, 0, 102, 0, []),
  (30, .invokestatic 36, 0, 1, 2, []),
  (33, .aload_n 1, 0, 0, 0, []),
  (34, .getfield 21, 0, 103, 0, []),
  (37, .aload_n 0, 0, 0, 0, []),
  (38, .getfield 21, 0, 103, 0, []),
  (41, .invokestatic 36, 0, 1, 2, []),
  (44, .aload_n 1, 0, 0, 0, []),
  (45, .getfield 24, 0, 104, 0, []),
  (48, .aload_n 0, 0, 0, 0, []),
  (49, .getfield 24, 0, 104, 0, []),
  (52, .invokestatic 36, 0, 1, 2, []),
  (55, .aload_n 1, 0, 0, 0, []),
  (56, .getfield 27, 0, 105, 0, []),
  (59, .aload_n 0, 0, 0, 0, []),
  (60, .getfield 27, 0, 105, 0, []),
  (63, .invokestatic 36, 0, 1, 2, []),
  (66, .return_, 0, 0, 0, [])])
def m_B_copyFrom : sm_M := (⟨"SpansAway$Blocks", "copyFrom", "(LSpansAway$Blocks;)V"⟩, prog_2_method_2_code, 2, none, (2, 61, 0, 2), [
  (0, .aload_n 1, 0, 0, 0, []),
  (1, .getfield 9, 0, 0, 0, []),
  (4, .aload_n 0, 0, 0, 0, []),
  (5, .getfield 9, 0, 0, 0, []),
  (8, .invokestatic 46, 0, 1, 2, []),
  (11, .aload_n 1, 0, 0, 0, []),
  (12, .getfield 15, 0, 1, 0, []),
  (15, .aload_n 0, 0, 0, 0, []),
  (16, .getfield 15, 0, 1, 0, []),
  (19, .invokestatic 46, 0, 1, 2, []),
  (22, .aload_n 1, 0, 0, 0, []),
  (23, .getfield 18, 0, 2, 0, []),
  (26, .aload_n 0, 0, 0, 0, []),
  (27, .getfield 18, 0, 2, 0, []),
  (30, .invokestatic 46, 0, 1, 2, []),
  (33, .aload_n 1, 0, 0, 0, []),
  (34, .getfield 21, 0, 3, 0, []),
  (37, .aload_n 0, 0, 0, 0, []),
  (38, .getfield 21, 0, 3, 0, []),
  (41, .invokestatic 46, 0, 1, 2, []),
  (44, .aload_n 1, 0, 0, 0, []),
  (45, .getfield 24, 0, 4, 0, []),
  (48, .aload_n 0, 0, 0, 0, []),
  (49, .getfield 24, 0, 4, 0, []),
  (52, .invokestatic 46, 0, 1, 2, []),
  (55, .aload_n 1, 0, 0, 0, []),
  (56, .getfield 27, 0, 5, 0, []),
  (59, .aload_n 0, 0, 0, 0, []),
  (60, .getfield 27, 0, 5, 0, []),
  (63, .invokestatic 46, 0, 1, 2, []),
  (66, .aload_n 1, 0, 0, 0, []),
  (67, .getfield 30, 0, 6, 0, []),
  (70, .aload_n 0, 0, 0, 0, []),
  (71, .getfield 30, 0, 6, 0, []),
  (74, .invokestatic 46, 0, 1, 2, []),
  (77, .aload_n 1, 0, 0, 0, []),
  (78, .getfield 33, 0, 7, 0, []),
  (81, .aload_n 0, 0, 0, 0, []),
  (82, .getfield 33, 0, 7, 0, []),
  (85, .invokestatic 46, 0, 1, 2, []),
  (88, .aload_n 0, 0, 0, 0, []),
  (89, .aload_n 1, 0, 0, 0, []),
  (90, .getfield 36, 0, 8, 0, []),
  (93, .putfield 36, 0, 8, 0, []),
  (96, .return_, 0, 0, 0, [])])
def m_S_copyFrom : sm_M := (⟨"SpansAway$Spans", "copyFrom", "(LSpansAway$Spans;)V"⟩, prog_8_method_2_code, 2, none, (2, 61, 6, 502), [
  (0, .aload_n 1, 0, 0, 0, []),
  (1, .getfield 9, 0, 500, 0, []),
  (4, .aload_n 0, 0, 0, 0, []),
  (5, .getfield 9, 0, 500, 0, []),
  (8, .invokestatic 42, 0, 1, 2, []),
  (11, .aload_n 1, 0, 0, 0, []),
  (12, .getfield 15, 0, 501, 0, []),
  (15, .aload_n 0, 0, 0, 0, []),
  (16, .getfield 15, 0, 501, 0, []),
  (19, .invokestatic 42, 0, 1, 2, []),
  (22, .aload_n 1, 0, 0, 0, []),
  (23, .getfield 18, 0, 502, 0, []),
  (26, .aload_n 0, 0, 0, 0, []),
  (27, .getfield 18, 0, 502, 0, []),
  (30, .invokestatic 42, 0, 1, 2, []),
  (33, .aload_n 1, 0, 0, 0, []),
  (34, .getfield 21, 0, 503, 0, []),
  (37, .aload_n 0, 0, 0, 0, []),
  (38, .getfield 21, 0, 503, 0, []),
  (41, .invokestatic 42, 0, 1, 2, []),
  (44, .aload_n 1, 0, 0, 0, []),
  (45, .getfield 24, 0, 504, 0, []),
  (48, .aload_n 0, 0, 0, 0, []),
  (49, .getfield 24, 0, 504, 0, []),
  (52, .invokestatic 42, 0, 1, 2, []),
  (55, .aload_n 1, 0, 0, 0, []),
  (56, .getfield 27, 0, 505, 0, []),
  (59, .aload_n 0, 0, 0, 0, []),
  (60, .getfield 27, 0, 505, 0, []),
  (63, .invokestatic 42, 0, 1, 2, []),
  (66, .aload_n 1, 0, 0, 0, []),
  (67, .getfield 30, 0, 506, 0, []),
  (70, .aload_n 0, 0, 0, 0, []),
  (71, .getfield 30, 0, 506, 0, []),
  (74, .invokestatic 42, 0, 1, 2, []),
  (77, .aload_n 1, 0, 0, 0, []),
  (78, .getfield 33, 0, 507, 0, []),
  (81, .aload_n 0, 0, 0, 0, []),
  (82, .getfield 33, 0, 507, 0, []),
  (85, .invokestatic 42, 0, 1, 2, []),
  (88, .return_, 0, 0, 0, [])])
def m_K_copyFrom : sm_M := (⟨"SpansAway$Tasks", "copyFrom", "(LSpansAway$Tasks;)V"⟩, prog_9_method_2_code, 2, none, (2, 61, 7, 602), [
  (0, .aload_n 1, 0, 0, 0, []),
  (1, .getfield 9, 0, 600, 0, []),
  (4, .aload_n 0, 0, 0, 0, []),
  (5, .getfield 9, 0, 600, 0, []),
  (8, .invokestatic 43, 0, 1, 2, []),
  (11, .aload_n 1, 0, 0, 0, []),
  (12, .getfield 15, 0, 601, 0, []),
  (15, .aload_n 0, 0, 0, 0, []),
  (16, .getfield 15, 0, 601, 0, []),
  (19, .invokestatic 43, 0, 1, 2, []),
  (22, .aload_n 1, 0, 0, 0, []),
  (23, .getfield 18, 0, 602, 0, []),
  (26, .aload_n 0, 0, 0, 0, []),
  (27, .getfield 18, 0, 602, 0, []),
  (30, .invokestatic 43, 0, 1, 2, []),
  (33, .aload_n 1, 0, 0, 0, []),
  (34, .getfield 21, 0, 603, 0, []),
  (37, .aload_n 0, 0, 0, 0, []),
  (38, .getfield 21, 0, 603, 0, []),
  (41, .invokestatic 43, 0, 1, 2, []),
  (44, .aload_n 1, 0, 0, 0, []),
  (45, .getfield 24, 0, 604, 0, []),
  (48, .aload_n 0, 0, 0, 0, []),
  (49, .getfield 24, 0, 604, 0, []),
  (52, .invokestatic 43, 0, 1, 2, []),
  (55, .aload_n 1, 0, 0, 0, []),
  (56, .getfield 27, 0, 605, 0, []),
  (59, .aload_n 0, 0, 0, 0, []),
  (60, .getfield 27, 0, 605, 0, []),
  (63, .invokestatic 43, 0, 1, 2, []),
  (66, .aload_n 1, 0, 0, 0, []),
  (67, .getfield 30, 0, 606, 0, []),
  (70, .aload_n 0, 0, 0, 0, []),
  (71, .getfield 30, 0, 606, 0, []),
  (74, .invokestatic 43, 0, 1, 2, []),
  (77, .aload_n 0, 0, 0, 0, []),
  (78, .aload_n 1, 0, 0, 0, []),
  (79, .getfield 33, 0, 607, 0, []),
  (82, .putfield 33, 0, 607, 0, []),
  (85, .return_, 0, 0, 0, [])])
def m_A_at : sm_M := (⟨"SpansAway", "at", "(II)I"⟩, prog_1_method_28_code, 3, (some .int), (2, 45, 9, 803), [
  (0, .iload_n 1, 0, 0, 0, []),
  (1, .invokestatic 53, 0, 4, 1, [(0, 0)]),
  (4, .ifCond .eq 10, 0, 14, 0, []),
  (7, .iload_n 2, 0, 0, 0, []),
  (8, .invokestatic 57, 0, 5, 1, [(0, 0)]),
  (11, .ifCond .ne 5, 0, 16, 0, []),
  (14, .iconst (-1), (-1), 0, 0, []),
  (15, .ireturn, 0, 0, 0, []),
  (16, .aload_n 0, 0, 0, 0, []),
  (17, .getfield 20, 0, 801, 0, []),
  (20, .getfield 79, 0, 401, 0, []),
  (23, .iload_n 1, 0, 0, 0, []),
  (24, .iload_n 2, 0, 0, 0, []),
  (25, .invokevirtual 282, 0, 114, 3, [(0, 0)]),
  (28, .ireturn, 0, 0, 0, [])])
def m_B_framesAt : sm_M := (⟨"SpansAway$Blocks", "framesAt", "(II)I"⟩, prog_2_method_12_code, 5, (some .int), (1, 21, 0, 3), [
  (0, .iconst 0, 0, 0, 0, []),
  (1, .istore_n 3, 0, 0, 0, []),
  (2, .iconst 0, 0, 0, 0, []),
  (3, .istore 4, 0, 0, 0, []),
  (5, .iload 4, 0, 0, 0, []),
  (7, .bipush 96, 96, 0, 0, []),
  (9, .if_icmp .ge 56, 0, 65, 0, []),
  (12, .aload_n 0, 0, 0, 0, []),
  (13, .getfield 9, 0, 0, 0, []),
  (16, .iload 4, 0, 0, 0, []),
  (18, .iaload, 0, 0, 0, []),
  (19, .iconst (-1), (-1), 0, 0, []),
  (20, .if_icmp .eq 39, 0, 59, 0, []),
  (23, .aload_n 0, 0, 0, 0, []),
  (24, .getfield 21, 0, 3, 0, []),
  (27, .iload 4, 0, 0, 0, []),
  (29, .iaload, 0, 0, 0, []),
  (30, .iload_n 1, 0, 0, 0, []),
  (31, .if_icmp .ne 28, 0, 59, 0, []),
  (34, .aload_n 0, 0, 0, 0, []),
  (35, .getfield 9, 0, 0, 0, []),
  (38, .iload 4, 0, 0, 0, []),
  (40, .iaload, 0, 0, 0, []),
  (41, .bipush 32, 32, 0, 0, []),
  (43, .idiv, 0, 0, 0, []),
  (44, .iconst 2, 2, 0, 0, []),
  (45, .irem, 0, 0, 0, []),
  (46, .iload_n 2, 0, 0, 0, []),
  (47, .if_icmp .ne 12, 0, 59, 0, []),
  (50, .iload_n 3, 0, 0, 0, []),
  (51, .aload_n 0, 0, 0, 0, []),
  (52, .iload 4, 0, 0, 0, []),
  (54, .invokevirtual 56, 0, 31, 2, [(0, 0)]),
  (57, .iadd, 0, 0, 0, []),
  (58, .istore_n 3, 0, 0, 0, []),
  (59, .iinc 4 1, 1, 0, 0, []),
  (62, .goto (-57), 0, 5, 0, []),
  (65, .iload_n 3, 0, 0, 0, []),
  (66, .ireturn, 0, 0, 0, [])])
def m_A_movable : sm_M := (⟨"SpansAway", "movable", "()I"⟩, prog_1_method_29_code, 5, (some .int), (1, 23, 9, 801), [
  (0, .aload_n 0, 0, 0, 0, []),
  (1, .getfield 20, 0, 801, 0, []),
  (4, .getfield 109, 0, 402, 0, []),
  (7, .iconst 0, 0, 0, 0, []),
  (8, .invokevirtual 244, 0, 43, 502, [(0, 0)]),
  (11, .istore_n 1, 0, 0, 0, []),
  (12, .aload_n 0, 0, 0, 0, []),
  (13, .getfield 20, 0, 801, 0, []),
  (16, .getfield 109, 0, 402, 0, []),
  (19, .iconst 1, 1, 0, 0, []),
  (20, .invokevirtual 244, 0, 43, 502, [(0, 0)]),
  (23, .istore_n 2, 0, 0, 0, []),
  (24, .bipush 8, 8, 0, 0, []),
  (26, .iload_n 1, 0, 0, 0, []),
  (27, .isub, 0, 0, 0, []),
  (28, .iload_n 2, 0, 0, 0, []),
  (29, .isub, 0, 0, 0, []),
  (30, .istore_n 3, 0, 0, 0, []),
  (31, .iconst 0, 0, 0, 0, []),
  (32, .istore 4, 0, 0, 0, []),
  (34, .iload 4, 0, 0, 0, []),
  (36, .iload_n 3, 0, 0, 0, []),
  (37, .if_icmp .ge 26, 0, 63, 0, []),
  (40, .aload_n 0, 0, 0, 0, []),
  (41, .getfield 20, 0, 801, 0, []),
  (44, .iload_n 2, 0, 0, 0, []),
  (45, .iload 4, 0, 0, 0, []),
  (47, .iadd, 0, 0, 0, []),
  (48, .iconst 1, 1, 0, 0, []),
  (49, .iadd, 0, 0, 0, []),
  (50, .iload_n 1, 0, 0, 0, []),
  (51, .invokevirtual 285, 0, 44, 403, [(0, 0)]),
  (54, .ifCond .eq 9, 0, 63, 0, []),
  (57, .iinc 4 1, 1, 0, 0, []),
  (60, .goto (-26), 0, 34, 0, []),
  (63, .iload 4, 0, 0, 0, []),
  (65, .ireturn, 0, 0, 0, [])])
def m_A_would : sm_M := (⟨"SpansAway", "would", "(II)I"⟩, prog_1_method_30_code, 4, (some .int), (6, 151, 9, 803), [
  (0, .iload_n 2, 0, 0, 0, []),
  (1, .ifCond .lt 29, 0, 30, 0, []),
  (4, .iload_n 2, 0, 0, 0, []),
  (5, .iconst 4, 4, 0, 0, []),
  (6, .if_icmp .gt 24, 0, 30, 0, []),
  (9, .iload_n 1, 0, 0, 0, []),
  (10, .invokestatic 106, 0, 41, 1, [(0, 0)]),
  (13, .ifCond .eq 17, 0, 30, 0, []),
  (16, .aload_n 0, 0, 0, 0, []),
  (17, .getfield 20, 0, 801, 0, []),
  (20, .getfield 109, 0, 402, 0, []),
  (23, .iload_n 1, 0, 0, 0, []),
  (24, .invokevirtual 136, 0, 57, 502, [(0, 0)]),
  (27, .ifCond .ne 5, 0, 32, 0, []),
  (30, .iconst (-1), (-1), 0, 0, []),
  (31, .ireturn, 0, 0, 0, []),
  (32, .aload_n 0, 0, 0, 0, []),
  (33, .getfield 32, 0, 803, 0, []),
  (36, .aload_n 0, 0, 0, 0, []),
  (37, .getfield 20, 0, 801, 0, []),
  (40, .iload_n 1, 0, 0, 0, []),
  (41, .invokevirtual 288, 0, 117, 703, [(0, 0)]),
  (44, .istore_n 3, 0, 0, 0, []),
  (45, .iload_n 2, 0, 0, 0, []),
  (46, .tableswitch 74 0 3 #[30, 40, 48, 61], 0, 120, 30, [(0, 76), (1, 86), (2, 94), (3, 107)]),
  (76, .iload_n 3, 0, 0, 0, []),
  (77, .ifCond .eq 7, 0, 84, 0, []),
  (80, .iconst 1, 1, 0, 0, []),
  (81, .goto 4, 0, 85, 0, []),
  (84, .iconst 0, 0, 0, 0, []),
  (85, .ireturn, 0, 0, 0, []),
  (86, .aload_n 0, 0, 0, 0, []),
  (87, .getfield 32, 0, 803, 0, []),
  (90, .getfield 292, 0, 703, 0, []),
  (93, .ireturn, 0, 0, 0, []),
  (94, .aload_n 0, 0, 0, 0, []),
  (95, .getfield 32, 0, 803, 0, []),
  (98, .aload_n 0, 0, 0, 0, []),
  (99, .getfield 20, 0, 801, 0, []),
  (102, .iconst 3, 3, 0, 0, []),
  (103, .invokevirtual 295, 0, 118, 703, [(0, 0)]),
  (106, .ireturn, 0, 0, 0, []),
  (107, .aload_n 0, 0, 0, 0, []),
  (108, .getfield 32, 0, 803, 0, []),
  (111, .aload_n 0, 0, 0, 0, []),
  (112, .getfield 20, 0, 801, 0, []),
  (115, .iconst 4, 4, 0, 0, []),
  (116, .invokevirtual 295, 0, 118, 703, [(0, 0)]),
  (119, .ireturn, 0, 0, 0, []),
  (120, .aload_n 0, 0, 0, 0, []),
  (121, .getfield 32, 0, 803, 0, []),
  (124, .aload_n 0, 0, 0, 0, []),
  (125, .getfield 20, 0, 801, 0, []),
  (128, .iconst 5, 5, 0, 0, []),
  (129, .invokevirtual 295, 0, 118, 703, [(0, 0)]),
  (132, .ireturn, 0, 0, 0, [])])
def m_H_tryOut : sm_M := (⟨"SpansAway$Thought", "tryOut", "(LSpansAway$Memory;I)Z"⟩, prog_10_method_2_code, 4, (some .boolean), (5, 128, 8, 703), [
  (0, .aload_n 0, 0, 0, 0, []),
  (1, .getfield 22, 0, 701, 0, []),
  (4, .aload_n 1, 0, 0, 0, []),
  (5, .invokevirtual 38, 0, 108, 402, []),
  (8, .aload_n 0, 0, 0, 0, []),
  (9, .getfield 12, 0, 700, 0, []),
  (12, .iload_n 2, 0, 0, 0, []),
  (13, .invokevirtual 42, 0, 58, 202, []),
  (16, .iconst 0, 0, 0, 0, []),
  (17, .istore_n 3, 0, 0, 0, []),
  (18, .iload_n 3, 0, 0, 0, []),
  (19, .sipush 500, 500, 0, 0, []),
  (22, .if_icmp .ge 30, 0, 52, 0, []),
  (25, .aload_n 0, 0, 0, 0, []),
  (26, .getfield 22, 0, 701, 0, []),
  (29, .getfield 46, 0, 402, 0, []),
  (32, .iload_n 2, 0, 0, 0, []),
  (33, .invokevirtual 50, 0, 60, 502, [(0, 0)]),
  (36, .ifCond .eq 16, 0, 52, 0, []),
  (39, .aload_n 0, 0, 0, 0, []),
  (40, .getfield 12, 0, 700, 0, []),
  (43, .invokevirtual 56, 0, 67, 201, []),
  (46, .iinc 3 1, 1, 0, 0, []),
  (49, .goto (-31), 0, 18, 0, []),
  (52, .aload_n 0, 0, 0, 0, []),
  (53, .iload_n 3, 0, 0, 0, []),
  (54, .putfield 31, 0, 703, 0, []),
  (57, .aload_n 0, 0, 0, 0, []),
  (58, .getfield 22, 0, 701, 0, []),
  (61, .getfield 46, 0, 402, 0, []),
  (64, .getfield 59, 0, 500, 0, []),
  (67, .iload_n 2, 0, 0, 0, []),
  (68, .iaload, 0, 0, 0, []),
  (69, .ifCond .ne 7, 0, 76, 0, []),
  (72, .iconst 1, 1, 0, 0, []),
  (73, .goto 4, 0, 77, 0, []),
  (76, .iconst 0, 0, 0, 0, []),
  (77, .ireturn, 0, 0, 0, [])])
def m_H_grownSince : sm_M := (⟨"SpansAway$Thought", "grownSince", "(LSpansAway$Memory;I)I"⟩, prog_10_method_3_code, 3, (some .int), (0, 0, 8, 703), [
  (0, .aload_n 0, 0, 0, 0, []),
  (1, .getfield 22, 0, 701, 0, []),
  (4, .getfield 63, 0, 406, 0, []),
  (7, .iload_n 2, 0, 0, 0, []),
  (8, .iaload, 0, 0, 0, []),
  (9, .aload_n 1, 0, 0, 0, []),
  (10, .getfield 63, 0, 406, 0, []),
  (13, .iload_n 2, 0, 0, 0, []),
  (14, .iaload, 0, 0, 0, []),
  (15, .isub, 0, 0, 0, []),
  (16, .ireturn, 0, 0, 0, [])])
def m_A_easiest : sm_M := (⟨"SpansAway", "easiest", "(I)I"⟩, prog_1_method_31_code, 3, (some .int), (7, 174, 9, 802), [
  (0, .iload_n 1, 0, 0, 0, []),
  (1, .ifCond .lt 8, 0, 9, 0, []),
  (4, .iload_n 1, 0, 0, 0, []),
  (5, .iconst 1, 1, 0, 0, []),
  (6, .if_icmp .le 5, 0, 11, 0, []),
  (9, .iconst (-1), (-1), 0, 0, []),
  (10, .ireturn, 0, 0, 0, []),
  (11, .aload_n 0, 0, 0, 0, []),
  (12, .getfield 32, 0, 803, 0, []),
  (15, .aload_n 0, 0, 0, 0, []),
  (16, .getfield 20, 0, 801, 0, []),
  (19, .invokevirtual 298, 0, 120, 702, [(0, 0)]),
  (22, .istore_n 2, 0, 0, 0, []),
  (23, .iload_n 1, 0, 0, 0, []),
  (24, .ifCond .eq 8, 0, 32, 0, []),
  (27, .iload_n 2, 0, 0, 0, []),
  (28, .iconst (-1), (-1), 0, 0, []),
  (29, .if_icmp .ne 7, 0, 36, 0, []),
  (32, .iload_n 2, 0, 0, 0, []),
  (33, .goto 10, 0, 43, 0, []),
  (36, .aload_n 0, 0, 0, 0, []),
  (37, .getfield 32, 0, 803, 0, []),
  (40, .getfield 302, 0, 704, 0, []),
  (43, .ireturn, 0, 0, 0, [])])
def m_H_findEasiest : sm_M := (⟨"SpansAway$Thought", "findEasiest", "(LSpansAway$Memory;)I"⟩, prog_10_method_4_code, 4, (some .int), (6, 151, 8, 702), [
  (0, .iconst (-1), (-1), 0, 0, []),
  (1, .istore_n 2, 0, 0, 0, []),
  (2, .iconst 0, 0, 0, 0, []),
  (3, .istore_n 3, 0, 0, 0, []),
  (4, .iload_n 3, 0, 0, 0, []),
  (5, .bipush 8, 8, 0, 0, []),
  (7, .if_icmp .ge 55, 0, 62, 0, []),
  (10, .aload_n 1, 0, 0, 0, []),
  (11, .getfield 46, 0, 402, 0, []),
  (14, .iload_n 3, 0, 0, 0, []),
  (15, .invokevirtual 66, 0, 57, 502, [(0, 0)]),
  (18, .ifCond .eq 38, 0, 56, 0, []),
  (21, .aload_n 0, 0, 0, 0, []),
  (22, .aload_n 1, 0, 0, 0, []),
  (23, .iload_n 3, 0, 0, 0, []),
  (24, .invokevirtual 69, 0, 117, 703, [(0, 0)]),
  (27, .ifCond .eq 29, 0, 56, 0, []),
  (30, .iload_n 2, 0, 0, 0, []),
  (31, .iconst (-1), (-1), 0, 0, []),
  (32, .if_icmp .eq 14, 0, 46, 0, []),
  (35, .aload_n 0, 0, 0, 0, []),
  (36, .getfield 31, 0, 703, 0, []),
  (39, .aload_n 0, 0, 0, 0, []),
  (40, .getfield 35, 0, 704, 0, []),
  (43, .if_icmp .ge 13, 0, 56, 0, []),
  (46, .iload_n 3, 0, 0, 0, []),
  (47, .istore_n 2, 0, 0, 0, []),
  (48, .aload_n 0, 0, 0, 0, []),
  (49, .aload_n 0, 0, 0, 0, []),
  (50, .getfield 31, 0, 703, 0, []),
  (53, .putfield 35, 0, 704, 0, []),
  (56, .iinc 3 1, 1, 0, 0, []),
  (59, .goto (-55), 0, 4, 0, []),
  (62, .iload_n 2, 0, 0, 0, []),
  (63, .ireturn, 0, 0, 0, [])])
def m_A_givenBack : sm_M := (⟨"SpansAway", "givenBack", "()I"⟩, prog_1_method_32_code, 4, (some .int), (7, 174, 9, 801), [
  (0, .aload_n 0, 0, 0, 0, []),
  (1, .getfield 32, 0, 803, 0, []),
  (4, .getfield 305, 0, 702, 0, []),
  (7, .astore_n 1, 0, 0, 0, []),
  (8, .aload_n 1, 0, 0, 0, []),
  (9, .aload_n 0, 0, 0, 0, []),
  (10, .getfield 20, 0, 801, 0, []),
  (13, .invokevirtual 308, 0, 108, 402, []),
  (16, .iconst 0, 0, 0, 0, []),
  (17, .istore_n 2, 0, 0, 0, []),
  (18, .iload_n 2, 0, 0, 0, []),
  (19, .bipush 8, 8, 0, 0, []),
  (21, .if_icmp .ge 46, 0, 67, 0, []),
  (24, .aload_n 0, 0, 0, 0, []),
  (25, .getfield 32, 0, 803, 0, []),
  (28, .aload_n 1, 0, 0, 0, []),
  (29, .invokevirtual 298, 0, 120, 702, [(0, 0)]),
  (32, .istore_n 3, 0, 0, 0, []),
  (33, .iload_n 3, 0, 0, 0, []),
  (34, .iconst (-1), (-1), 0, 0, []),
  (35, .if_icmp .ne 5, 0, 40, 0, []),
  (38, .iload_n 2, 0, 0, 0, []),
  (39, .ireturn, 0, 0, 0, []),
  (40, .aload_n 0, 0, 0, 0, []),
  (41, .getfield 32, 0, 803, 0, []),
  (44, .aload_n 1, 0, 0, 0, []),
  (45, .iload_n 3, 0, 0, 0, []),
  (46, .invokevirtual 288, 0, 117, 703, [(0, 0)]),
  (49, .pop, 0, 0, 0, []),
  (50, .aload_n 1, 0, 0, 0, []),
  (51, .aload_n 0, 0, 0, 0, []),
  (52, .getfield 32, 0, 803, 0, []),
  (55, .getfield 312, 0, 701, 0, []),
  (58, .invokevirtual 308, 0, 108, 402, []),
  (61, .iinc 2 1, 1, 0, 0, []),
  (64, .goto (-46), 0, 18, 0, []),
  (67, .bipush 8, 8, 0, 0, []),
  (69, .ireturn, 0, 0, 0, [])])
def m_A_log : sm_M := (⟨"SpansAway", "log", "(II)I"⟩, prog_1_method_33_code, 3, (some .int), (1, 23, 9, 803), [
  (0, .aload_n 0, 0, 0, 0, []),
  (1, .getfield 20, 0, 801, 0, []),
  (4, .getfield 315, 0, 404, 0, []),
  (7, .iload_n 1, 0, 0, 0, []),
  (8, .iload_n 2, 0, 0, 0, []),
  (9, .invokevirtual 319, 0, 123, 303, [(0, 0)]),
  (12, .ireturn, 0, 0, 0, [])])
def m_L_cell : sm_M := (⟨"SpansAway$Log", "cell", "(II)I"⟩, prog_5_method_4_code, 4, (some .int), (0, 0, 3, 303), [
  (0, .iload_n 1, 0, 0, 0, []),
  (1, .ifCond .lt 17, 0, 18, 0, []),
  (4, .iload_n 1, 0, 0, 0, []),
  (5, .bipush 60, 60, 0, 0, []),
  (7, .if_icmp .ge 11, 0, 18, 0, []),
  (10, .iload_n 1, 0, 0, 0, []),
  (11, .aload_n 0, 0, 0, 0, []),
  (12, .getfield 24, 0, 304, 0, []),
  (15, .if_icmp .lt 5, 0, 20, 0, []),
  (18, .iconst (-1), (-1), 0, 0, []),
  (19, .ireturn, 0, 0, 0, []),
  (20, .aload_n 0, 0, 0, 0, []),
  (21, .getfield 28, 0, 305, 0, []),
  (24, .iload_n 1, 0, 0, 0, []),
  (25, .if_icmp .le 14, 0, 39, 0, []),
  (28, .aload_n 0, 0, 0, 0, []),
  (29, .getfield 28, 0, 305, 0, []),
  (32, .iconst 1, 1, 0, 0, []),
  (33, .isub, 0, 0, 0, []),
  (34, .iload_n 1, 0, 0, 0, []),
  (35, .isub, 0, 0, 0, []),
  (36, .goto 14, 0, 50, 0, []),
  (39, .aload_n 0, 0, 0, 0, []),
  (40, .getfield 28, 0, 305, 0, []),
  (43, .iconst 1, 1, 0, 0, []),
  (44, .isub, 0, 0, 0, []),
  (45, .iload_n 1, 0, 0, 0, []),
  (46, .isub, 0, 0, 0, []),
  (47, .bipush 60, 60, 0, 0, []),
  (49, .iadd, 0, 0, 0, []),
  (50, .istore_n 3, 0, 0, 0, []),
  (51, .iload_n 2, 0, 0, 0, []),
  (52, .tableswitch 60 0 3 #[32, 39, 46, 53], 0, 112, 32, [(0, 84), (1, 91), (2, 98), (3, 105)]),
  (84, .aload_n 0, 0, 0, 0, []),
  (85, .getfield 9, 0, 300, 0, []),
  (88, .iload_n 3, 0, 0, 0, []),
  (89, .iaload, 0, 0, 0, []),
  (90, .ireturn, 0, 0, 0, []),
  (91, .aload_n 0, 0, 0, 0, []),
  (92, .getfield 15, 0, 301, 0, []),
  (95, .iload_n 3, 0, 0, 0, []),
  (96, .iaload, 0, 0, 0, []),
  (97, .ireturn, 0, 0, 0, []),
  (98, .aload_n 0, 0, 0, 0, []),
  (99, .getfield 18, 0, 302, 0, []),
  (102, .iload_n 3, 0, 0, 0, []),
  (103, .iaload, 0, 0, 0, []),
  (104, .ireturn, 0, 0, 0, []),
  (105, .aload_n 0, 0, 0, 0, []),
  (106, .getfield 21, 0, 303, 0, []),
  (109, .iload_n 3, 0, 0, 0, []),
  (110, .iaload, 0, 0, 0, []),
  (111, .ireturn, 0, 0, 0, []),
  (112, .iconst (-1), (-1), 0, 0, []),
  (113, .ireturn, 0, 0, 0, [])])
def m_A_count : sm_M := (⟨"SpansAway", "count", "(I)I"⟩, prog_1_method_34_code, 2, (some .int), (0, 0, 9, 802), [
  (0, .iload_n 1, 0, 0, 0, []),
  (1, .ifCond .lt 9, 0, 10, 0, []),
  (4, .iload_n 1, 0, 0, 0, []),
  (5, .bipush 11, 11, 0, 0, []),
  (7, .if_icmp .lt 7, 0, 14, 0, []),
  (10, .iconst (-1), (-1), 0, 0, []),
  (11, .goto 12, 0, 23, 0, []),
  (14, .aload_n 0, 0, 0, 0, []),
  (15, .getfield 20, 0, 801, 0, []),
  (18, .getfield 324, 0, 406, 0, []),
  (21, .iload_n 1, 0, 0, 0, []),
  (22, .iaload, 0, 0, 0, []),
  (23, .ireturn, 0, 0, 0, [])])
def m_A_image : sm_M := (⟨"SpansAway", "image", "(Z)Z"⟩, prog_1_method_35_code, 2, (some .boolean), (4, 103, 9, 802), [
  (0, .iload_n 1, 0, 0, 0, []),
  (1, .ifCond .eq 39, 0, 40, 0, []),
  (4, .aload_n 0, 0, 0, 0, []),
  (5, .getfield 26, 0, 802, 0, []),
  (8, .aload_n 0, 0, 0, 0, []),
  (9, .getfield 20, 0, 801, 0, []),
  (12, .invokevirtual 308, 0, 108, 402, []),
  (15, .aload_n 0, 0, 0, 0, []),
  (16, .getfield 26, 0, 802, 0, []),
  (19, .getfield 315, 0, 404, 0, []),
  (22, .aload_n 0, 0, 0, 0, []),
  (23, .getfield 20, 0, 801, 0, []),
  (26, .getfield 315, 0, 404, 0, []),
  (29, .invokevirtual 327, 0, 126, 302, []),
  (32, .aload_n 0, 0, 0, 0, []),
  (33, .iconst 1, 1, 0, 0, []),
  (34, .putfield 36, 0, 804, 0, []),
  (37, .goto 38, 0, 75, 0, []),
  (40, .aload_n 0, 0, 0, 0, []),
  (41, .getfield 36, 0, 804, 0, []),
  (44, .ifCond .eq 31, 0, 75, 0, []),
  (47, .aload_n 0, 0, 0, 0, []),
  (48, .getfield 20, 0, 801, 0, []),
  (51, .aload_n 0, 0, 0, 0, []),
  (52, .getfield 26, 0, 802, 0, []),
  (55, .invokevirtual 308, 0, 108, 402, []),
  (58, .aload_n 0, 0, 0, 0, []),
  (59, .getfield 20, 0, 801, 0, []),
  (62, .getfield 315, 0, 404, 0, []),
  (65, .aload_n 0, 0, 0, 0, []),
  (66, .getfield 26, 0, 802, 0, []),
  (69, .getfield 315, 0, 404, 0, []),
  (72, .invokevirtual 327, 0, 126, 302, []),
  (75, .aload_n 0, 0, 0, 0, []),
  (76, .getfield 36, 0, 804, 0, []),
  (79, .ireturn, 0, 0, 0, [])])
def m_L_copyFrom : sm_M := (⟨"SpansAway$Log", "copyFrom", "(LSpansAway$Log;)V"⟩, prog_5_method_2_code, 2, none, (2, 61, 3, 302), [
  (0, .aload_n 1, 0, 0, 0, []),
  (1, .getfield 9, 0, 300, 0, []),
  (4, .aload_n 0, 0, 0, 0, []),
  (5, .getfield 9, 0, 300, 0, []),
  (8, .invokestatic 31, 0, 1, 2, []),
  (11, .aload_n 1, 0, 0, 0, []),
  (12, .getfield 15, 0, 301, 0, []),
  (15, .aload_n 0, 0, 0, 0, []),
  (16, .getfield 15, 0, 301, 0, []),
  (19, .invokestatic 31, 0, 1, 2, []),
  (22, .aload_n 1, 0, 0, 0, []),
  (23, .getfield 18, 0, 302, 0, []),
  (26, .aload_n 0, 0, 0, 0, []),
  (27, .getfield 18, 0, 302, 0, []),
  (30, .invokestatic 31, 0, 1, 2, []),
  (33, .aload_n 1, 0, 0, 0, []),
  (34, .getfield 21, 0, 303, 0, []),
  (37, .aload_n 0, 0, 0, 0, []),
  (38, .getfield 21, 0, 303, 0, []),
  (41, .invokestatic 31, 0, 1, 2, []),
  (44, .aload_n 0, 0, 0, 0, []),
  (45, .aload_n 1, 0, 0, 0, []),
  (46, .getfield 24, 0, 304, 0, []),
  (49, .putfield 24, 0, 304, 0, []),
  (52, .aload_n 0, 0, 0, 0, []),
  (53, .aload_n 1, 0, 0, 0, []),
  (54, .getfield 28, 0, 305, 0, []),
  (57, .putfield 28, 0, 305, 0, []),
  (60, .return_, 0, 0, 0, [])])
def m_A_look : sm_M := (⟨"SpansAway", "look", "(I)I"⟩, prog_1_method_36_code, 2, (some .int), (2, 45, 9, 802), [
  (0, .iload_n 1, 0, 0, 0, []),
  (1, .ifCond .lt 18, 0, 19, 0, []),
  (4, .iload_n 1, 0, 0, 0, []),
  (5, .iconst 4, 4, 0, 0, []),
  (6, .if_icmp .ge 13, 0, 19, 0, []),
  (9, .aload_n 0, 0, 0, 0, []),
  (10, .getfield 20, 0, 801, 0, []),
  (13, .getfield 50, 0, 405, 0, []),
  (16, .iload_n 1, 0, 0, 0, []),
  (17, .iaload, 0, 0, 0, []),
  (18, .ireturn, 0, 0, 0, []),
  (19, .iload_n 1, 0, 0, 0, []),
  (20, .tableswitch 197 4 14 #[60, 68, 79, 103, 117, 131, 145, 159, 170, 181, 192], 0, 217, 60, [(4, 80), (5, 88), (6, 99), (7, 123), (8, 137), (9, 151), (10, 165), (11, 179), (12, 190), (13, 201), (14, 212)]),
  (80, .aload_n 0, 0, 0, 0, []),
  (81, .getfield 20, 0, 801, 0, []),
  (84, .getfield 148, 0, 407, 0, []),
  (87, .ireturn, 0, 0, 0, []),
  (88, .aload_n 0, 0, 0, 0, []),
  (89, .getfield 20, 0, 801, 0, []),
  (92, .getfield 79, 0, 401, 0, []),
  (95, .invokevirtual 330, 0, 128, 1, [(0, 0)]),
  (98, .ireturn, 0, 0, 0, []),
  (99, .aload_n 0, 0, 0, 0, []),
  (100, .getfield 20, 0, 801, 0, []),
  (103, .getfield 109, 0, 402, 0, []),
  (106, .iconst 0, 0, 0, 0, []),
  (107, .invokevirtual 244, 0, 43, 502, [(0, 0)]),
  (110, .aload_n 0, 0, 0, 0, []),
  (111, .getfield 20, 0, 801, 0, []),
  (114, .getfield 109, 0, 402, 0, []),
  (117, .iconst 1, 1, 0, 0, []),
  (118, .invokevirtual 244, 0, 43, 502, [(0, 0)]),
  (121, .iadd, 0, 0, 0, []),
  (122, .ireturn, 0, 0, 0, []),
  (123, .aload_n 0, 0, 0, 0, []),
  (124, .getfield 20, 0, 801, 0, []),
  (127, .getfield 155, 0, 400, 0, []),
  (130, .getfield 197, 0, 100, 0, []),
  (133, .invokestatic 333, 0, 129, 1, [(0, 0)]),
  (136, .ireturn, 0, 0, 0, []),
  (137, .aload_n 0, 0, 0, 0, []),
  (138, .getfield 20, 0, 801, 0, []),
  (141, .getfield 155, 0, 400, 0, []),
  (144, .getfield 205, 0, 101, 0, []),
  (147, .invokestatic 333, 0, 129, 1, [(0, 0)]),
  (150, .ireturn, 0, 0, 0, []),
  (151, .aload_n 0, 0, 0, 0, []),
  (152, .getfield 20, 0, 801, 0, []),
  (155, .getfield 155, 0, 400, 0, []),
  (158, .getfield 208, 0, 102, 0, []),
  (161, .invokestatic 333, 0, 129, 1, [(0, 0)]),
  (164, .ireturn, 0, 0, 0, []),
  (165, .aload_n 0, 0, 0, 0, []),
  (166, .getfield 20, 0, 801, 0, []),
  (169, .getfield 155, 0, 400, 0, []),
  (172, .getfield 211, 0, 103, 0, []),
  (175, .invokestatic 333, 0, 129, 1, [(0, 0)]),
  (178, .ireturn, 0, 0, 0, []),
  (179, .aload_n 0, 0, 0, 0, []),
  (180, .getfield 20, 0, 801, 0, []),
  (183, .getfield 60, 0, 403, 0, []),
  (186, .invokevirtual 337, 0, 130, 601, [(0, 0)]),
  (189, .ireturn, 0, 0, 0, []),
  (190, .aload_n 0, 0, 0, 0, []),
  (191, .getfield 20, 0, 801, 0, []),
  (194, .getfield 109, 0, 402, 0, []),
  (197, .invokevirtual 340, 0, 131, 501, [(0, 0)]),
  (200, .ireturn, 0, 0, 0, []),
  (201, .aload_n 0, 0, 0, 0, []),
  (202, .getfield 20, 0, 801, 0, []),
  (205, .getfield 315, 0, 404, 0, []),
  (208, .getfield 343, 0, 304, 0, []),
  (211, .ireturn, 0, 0, 0, []),
  (212, .aload_n 0, 0, 0, 0, []),
  (213, .invokevirtual 346, 0, 132, 801, [(0, 0)]),
  (216, .ireturn, 0, 0, 0, []),
  (217, .iconst (-1), (-1), 0, 0, []),
  (218, .ireturn, 0, 0, 0, [])])
def m_B_howMany : sm_M := (⟨"SpansAway$Blocks", "howMany", "()I"⟩, prog_2_method_9_code, 3, (some .int), (0, 0, 0, 1), [
  (0, .iconst 0, 0, 0, 0, []),
  (1, .istore_n 1, 0, 0, 0, []),
  (2, .iconst 0, 0, 0, 0, []),
  (3, .istore_n 2, 0, 0, 0, []),
  (4, .iload_n 2, 0, 0, 0, []),
  (5, .bipush 96, 96, 0, 0, []),
  (7, .if_icmp .ge 27, 0, 34, 0, []),
  (10, .iload_n 1, 0, 0, 0, []),
  (11, .aload_n 0, 0, 0, 0, []),
  (12, .getfield 9, 0, 0, 0, []),
  (15, .iload_n 2, 0, 0, 0, []),
  (16, .iaload, 0, 0, 0, []),
  (17, .iconst (-1), (-1), 0, 0, []),
  (18, .if_icmp .eq 7, 0, 25, 0, []),
  (21, .iconst 1, 1, 0, 0, []),
  (22, .goto 4, 0, 26, 0, []),
  (25, .iconst 0, 0, 0, 0, []),
  (26, .iadd, 0, 0, 0, []),
  (27, .istore_n 1, 0, 0, 0, []),
  (28, .iinc 2 1, 1, 0, 0, []),
  (31, .goto (-27), 0, 4, 0, []),
  (34, .iload_n 1, 0, 0, 0, []),
  (35, .ireturn, 0, 0, 0, [])])
def m_R_bitsIn : sm_M := (⟨"SpansAway$Rows", "bitsIn", "([I)I"⟩, prog_7_method_7_code, 6, (some .int), (1, 20, 5, 1), [
  (0, .iconst 0, 0, 0, 0, []),
  (1, .istore_n 1, 0, 0, 0, []),
  (2, .aload_n 0, 0, 0, 0, []),
  (3, .astore_n 2, 0, 0, 0, []),
  (4, .aload_n 2, 0, 0, 0, []),
  (5, .arraylength, 0, 0, 0, []),
  (6, .istore_n 3, 0, 0, 0, []),
  (7, .iconst 0, 0, 0, 0, []),
  (8, .istore 4, 0, 0, 0, []),
  (10, .iload 4, 0, 0, 0, []),
  (12, .iload_n 3, 0, 0, 0, []),
  (13, .if_icmp .ge 23, 0, 36, 0, []),
  (16, .aload_n 2, 0, 0, 0, []),
  (17, .iload 4, 0, 0, 0, []),
  (19, .iaload, 0, 0, 0, []),
  (20, .istore 5, 0, 0, 0, []),
  (22, .iload_n 1, 0, 0, 0, []),
  (23, .iload 5, 0, 0, 0, []),
  (25, .invokestatic 19, 0, 86, 1, [(0, 0)]),
  (28, .iadd, 0, 0, 0, []),
  (29, .istore_n 1, 0, 0, 0, []),
  (30, .iinc 4 1, 1, 0, 0, []),
  (33, .goto (-23), 0, 10, 0, []),
  (36, .iload_n 1, 0, 0, 0, []),
  (37, .ireturn, 0, 0, 0, [])])
def m_K_waitingSet : sm_M := (⟨"SpansAway$Tasks", "waitingSet", "()I"⟩, prog_9_method_6_code, 3, (some .int), (0, 0, 7, 601), [
  (0, .iconst 0, 0, 0, 0, []),
  (1, .istore_n 1, 0, 0, 0, []),
  (2, .iconst 0, 0, 0, 0, []),
  (3, .istore_n 2, 0, 0, 0, []),
  (4, .iload_n 2, 0, 0, 0, []),
  (5, .bipush 6, 6, 0, 0, []),
  (7, .if_icmp .ge 29, 0, 36, 0, []),
  (10, .iload_n 1, 0, 0, 0, []),
  (11, .aload_n 0, 0, 0, 0, []),
  (12, .getfield 15, 0, 601, 0, []),
  (15, .iload_n 2, 0, 0, 0, []),
  (16, .iaload, 0, 0, 0, []),
  (17, .iconst (-1), (-1), 0, 0, []),
  (18, .if_icmp .eq 9, 0, 27, 0, []),
  (21, .iconst 1, 1, 0, 0, []),
  (22, .iload_n 2, 0, 0, 0, []),
  (23, .ishl, 0, 0, 0, []),
  (24, .goto 4, 0, 28, 0, []),
  (27, .iconst 0, 0, 0, 0, []),
  (28, .ior, 0, 0, 0, []),
  (29, .istore_n 1, 0, 0, 0, []),
  (30, .iinc 2 1, 1, 0, 0, []),
  (33, .goto (-29), 0, 4, 0, []),
  (36, .iload_n 1, 0, 0, 0, []),
  (37, .ireturn, 0, 0, 0, [])])
def m_S_goingSet : sm_M := (⟨"SpansAway$Spans", "goingSet", "()I"⟩, prog_8_method_9_code, 3, (some .int), (1, 21, 6, 501), [
  (0, .iconst 0, 0, 0, 0, []),
  (1, .istore_n 1, 0, 0, 0, []),
  (2, .iconst 0, 0, 0, 0, []),
  (3, .istore_n 2, 0, 0, 0, []),
  (4, .iload_n 2, 0, 0, 0, []),
  (5, .bipush 8, 8, 0, 0, []),
  (7, .if_icmp .ge 27, 0, 34, 0, []),
  (10, .iload_n 1, 0, 0, 0, []),
  (11, .aload_n 0, 0, 0, 0, []),
  (12, .iload_n 2, 0, 0, 0, []),
  (13, .invokevirtual 48, 0, 60, 502, [(0, 0)]),
  (16, .ifCond .eq 9, 0, 25, 0, []),
  (19, .iconst 1, 1, 0, 0, []),
  (20, .iload_n 2, 0, 0, 0, []),
  (21, .ishl, 0, 0, 0, []),
  (22, .goto 4, 0, 26, 0, []),
  (25, .iconst 0, 0, 0, 0, []),
  (26, .ior, 0, 0, 0, []),
  (27, .istore_n 1, 0, 0, 0, []),
  (28, .iinc 2 1, 1, 0, 0, []),
  (31, .goto (-27), 0, 4, 0, []),
  (34, .iload_n 1, 0, 0, 0, []),
  (35, .ireturn, 0, 0, 0, [])])
def m_A_movableByNormal : sm_M := (⟨"SpansAway", "movableByNormal", "()I"⟩, prog_1_method_37_code, 2, (some .int), (1, 23, 9, 801), [
  (0, .aload_n 0, 0, 0, 0, []),
  (1, .getfield 20, 0, 801, 0, []),
  (4, .getfield 109, 0, 402, 0, []),
  (7, .iconst 0, 0, 0, 0, []),
  (8, .invokevirtual 244, 0, 43, 502, [(0, 0)]),
  (11, .istore_n 1, 0, 0, 0, []),
  (12, .iload_n 1, 0, 0, 0, []),
  (13, .ifCond .ne 7, 0, 20, 0, []),
  (16, .iconst (-1), (-1), 0, 0, []),
  (17, .goto 19, 0, 36, 0, []),
  (20, .bipush 100, 100, 0, 0, []),
  (22, .aload_n 0, 0, 0, 0, []),
  (23, .getfield 20, 0, 801, 0, []),
  (26, .getfield 109, 0, 402, 0, []),
  (29, .iconst 1, 1, 0, 0, []),
  (30, .invokevirtual 244, 0, 43, 502, [(0, 0)]),
  (33, .imul, 0, 0, 0, []),
  (34, .iload_n 1, 0, 0, 0, []),
  (35, .idiv, 0, 0, 0, []),
  (36, .ireturn, 0, 0, 0, [])])
def m_M_begins : sm_M := (⟨"SpansAwayModel", "begins", "()V"⟩, prog_12_method_4_code, 3, none, (1, 21, 10, 901), [
  (0, .iconst 0, 0, 0, 0, []),
  (1, .istore_n 1, 0, 0, 0, []),
  (2, .iload_n 1, 0, 0, 0, []),
  (3, .iconst 2, 2, 0, 0, []),
  (4, .if_icmp .ge 57, 0, 61, 0, []),
  (7, .aload_n 0, 0, 0, 0, []),
  (8, .getfield 13, 0, 901, 0, []),
  (11, .aload_n 0, 0, 0, 0, []),
  (12, .iload_n 1, 0, 0, 0, []),
  (13, .invokevirtual 33, 0, 134, 902, [(0, 0)]),
  (16, .iconst 0, 0, 0, 0, []),
  (17, .iadd, 0, 0, 0, []),
  (18, .iconst 1, 1, 0, 0, []),
  (19, .iastore, 0, 0, 0, []),
  (20, .bipush 32, 32, 0, 0, []),
  (22, .iload_n 1, 0, 0, 0, []),
  (23, .imul, 0, 0, 0, []),
  (24, .istore_n 2, 0, 0, 0, []),
  (25, .iload_n 2, 0, 0, 0, []),
  (26, .bipush 32, 32, 0, 0, []),
  (28, .iload_n 1, 0, 0, 0, []),
  (29, .imul, 0, 0, 0, []),
  (30, .bipush 32, 32, 0, 0, []),
  (32, .iadd, 0, 0, 0, []),
  (33, .if_icmp .ge 22, 0, 55, 0, []),
  (36, .aload_n 0, 0, 0, 0, []),
  (37, .getfield 13, 0, 901, 0, []),
  (40, .aload_n 0, 0, 0, 0, []),
  (41, .iload_n 2, 0, 0, 0, []),
  (42, .invokevirtual 37, 0, 135, 902, [(0, 0)]),
  (45, .iconst 0, 0, 0, 0, []),
  (46, .iadd, 0, 0, 0, []),
  (47, .iconst 1, 1, 0, 0, []),
  (48, .iastore, 0, 0, 0, []),
  (49, .iinc 2 1, 1, 0, 0, []),
  (52, .goto (-27), 0, 25, 0, []),
  (55, .iinc 1 1, 1, 0, 0, []),
  (58, .goto (-56), 0, 2, 0, []),
  (61, .return_, 0, 0, 0, [])])
def m_M_spanAt : sm_M := (⟨"SpansAwayModel", "spanAt", "(I)I"⟩, prog_12_method_8_code, 2, (some .int), (0, 0, 10, 902), [
  (0, .sipush 2358, 2358, 0, 0, []),
  (3, .bipush 8, 8, 0, 0, []),
  (5, .iload_n 1, 0, 0, 0, []),
  (6, .imul, 0, 0, 0, []),
  (7, .iadd, 0, 0, 0, []),
  (8, .ireturn, 0, 0, 0, [])])
def m_M_frameAt : sm_M := (⟨"SpansAwayModel", "frameAt", "(I)I"⟩, prog_12_method_5_code, 2, (some .int), (0, 0, 10, 902), [
  (0, .bipush 18, 18, 0, 0, []),
  (2, .iconst 3, 3, 0, 0, []),
  (3, .iload_n 1, 0, 0, 0, []),
  (4, .imul, 0, 0, 0, []),
  (5, .iadd, 0, 0, 0, []),
  (6, .ireturn, 0, 0, 0, [])])
def m_M_set : sm_M := (⟨"SpansAwayModel", "set", "(II)Z"⟩, prog_12_method_13_code, 3, (some .boolean), (1, 23, 10, 903), [
  (0, .aload_n 0, 0, 0, 0, []),
  (1, .iconst 0, 0, 0, 0, []),
  (2, .putfield 1, 0, 900, 0, []),
  (5, .aload_n 0, 0, 0, 0, []),
  (6, .iload_n 1, 0, 0, 0, []),
  (7, .iconst 0, 0, 0, 0, []),
  (8, .iconst 3, 3, 0, 0, []),
  (9, .invokevirtual 47, 0, 137, 904, [(0, 0)]),
  (12, .ifCond .eq 53, 0, 65, 0, []),
  (15, .aload_n 0, 0, 0, 0, []),
  (16, .iload_n 2, 0, 0, 0, []),
  (17, .iload_n 1, 0, 0, 0, []),
  (18, .iconst 2, 2, 0, 0, []),
  (19, .if_icmp .ne 7, 0, 26, 0, []),
  (22, .iconst 0, 0, 0, 0, []),
  (23, .goto 4, 0, 27, 0, []),
  (26, .iconst 1, 1, 0, 0, []),
  (27, .iload_n 1, 0, 0, 0, []),
  (28, .ifCond .ne 8, 0, 36, 0, []),
  (31, .bipush 16, 16, 0, 0, []),
  (33, .goto 26, 0, 59, 0, []),
  (36, .iload_n 1, 0, 0, 0, []),
  (37, .iconst 1, 1, 0, 0, []),
  (38, .if_icmp .ne 8, 0, 46, 0, []),
  (41, .bipush 9, 9, 0, 0, []),
  (43, .goto 16, 0, 59, 0, []),
  (46, .iload_n 1, 0, 0, 0, []),
  (47, .iconst 2, 2, 0, 0, []),
  (48, .if_icmp .ne 9, 0, 57, 0, []),
  (51, .sipush 400, 400, 0, 0, []),
  (54, .goto 5, 0, 59, 0, []),
  (57, .bipush 20, 20, 0, 0, []),
  (59, .invokevirtual 47, 0, 137, 904, [(0, 0)]),
  (62, .ifCond .ne 5, 0, 67, 0, []),
  (65, .iconst 0, 0, 0, 0, []),
  (66, .ireturn, 0, 0, 0, []),
  (67, .aload_n 0, 0, 0, 0, []),
  (68, .getfield 13, 0, 901, 0, []),
  (71, .iload_n 1, 0, 0, 0, []),
  (72, .iload_n 2, 0, 0, 0, []),
  (73, .aload_n 0, 0, 0, 0, []),
  (74, .iload_n 1, 0, 0, 0, []),
  (75, .invokevirtual 40, 0, 138, 902, [(0, 0)]),
  (78, .isub, 0, 0, 0, []),
  (79, .iastore, 0, 0, 0, []),
  (80, .iconst 1, 1, 0, 0, []),
  (81, .ireturn, 0, 0, 0, [])])
def m_M_isIn : sm_M := (⟨"SpansAwayModel", "isIn", "(III)Z"⟩, prog_12_method_2_code, 4, (some .boolean), (0, 0, 10, 904), [
  (0, .iload_n 1, 0, 0, 0, []),
  (1, .iload_n 2, 0, 0, 0, []),
  (2, .if_icmp .lt 12, 0, 14, 0, []),
  (5, .iload_n 1, 0, 0, 0, []),
  (6, .iload_n 3, 0, 0, 0, []),
  (7, .if_icmp .gt 7, 0, 14, 0, []),
  (10, .iconst 1, 1, 0, 0, []),
  (11, .goto 4, 0, 15, 0, []),
  (14, .iconst 0, 0, 0, 0, []),
  (15, .ireturn, 0, 0, 0, [])])
def m_M_firstOf : sm_M := (⟨"SpansAwayModel", "firstOf", "(I)I"⟩, prog_12_method_9_code, 2, (some .int), (0, 0, 10, 902), [
  (0, .iload_n 1, 0, 0, 0, []),
  (1, .ifCond .ne 5, 0, 6, 0, []),
  (4, .iconst 4, 4, 0, 0, []),
  (5, .ireturn, 0, 0, 0, []),
  (6, .iload_n 1, 0, 0, 0, []),
  (7, .iconst 1, 1, 0, 0, []),
  (8, .if_icmp .ne 5, 0, 13, 0, []),
  (11, .iconst 3, 3, 0, 0, []),
  (12, .ireturn, 0, 0, 0, []),
  (13, .iload_n 1, 0, 0, 0, []),
  (14, .iconst 2, 2, 0, 0, []),
  (15, .if_icmp .ne 9, 0, 24, 0, []),
  (18, .sipush 150, 150, 0, 0, []),
  (21, .goto 4, 0, 25, 0, []),
  (24, .iconst 2, 2, 0, 0, []),
  (25, .ireturn, 0, 0, 0, [])])
def m_M_home : sm_M := (⟨"SpansAwayModel", "home", "(II)Z"⟩, prog_12_method_17_code, 3, (some .boolean), (1, 23, 10, 903), [
  (0, .aload_n 0, 0, 0, 0, []),
  (1, .iconst 0, 0, 0, 0, []),
  (2, .putfield 1, 0, 900, 0, []),
  (5, .aload_n 0, 0, 0, 0, []),
  (6, .iload_n 1, 0, 0, 0, []),
  (7, .invokevirtual 54, 0, 140, 902, [(0, 0)]),
  (10, .ifCond .eq 13, 0, 23, 0, []),
  (13, .aload_n 0, 0, 0, 0, []),
  (14, .iload_n 2, 0, 0, 0, []),
  (15, .iconst 0, 0, 0, 0, []),
  (16, .iconst 1, 1, 0, 0, []),
  (17, .invokevirtual 47, 0, 137, 904, [(0, 0)]),
  (20, .ifCond .ne 5, 0, 25, 0, []),
  (23, .iconst 0, 0, 0, 0, []),
  (24, .ireturn, 0, 0, 0, []),
  (25, .aload_n 0, 0, 0, 0, []),
  (26, .getfield 13, 0, 901, 0, []),
  (29, .aload_n 0, 0, 0, 0, []),
  (30, .iload_n 1, 0, 0, 0, []),
  (31, .invokevirtual 58, 0, 141, 902, [(0, 0)]),
  (34, .iconst 0, 0, 0, 0, []),
  (35, .iadd, 0, 0, 0, []),
  (36, .iload_n 2, 0, 0, 0, []),
  (37, .iastore, 0, 0, 0, []),
  (38, .iconst 1, 1, 0, 0, []),
  (39, .ireturn, 0, 0, 0, [])])
def m_M_isTask : sm_M := (⟨"SpansAwayModel", "isTask", "(I)Z"⟩, prog_12_method_14_code, 2, (some .boolean), (0, 0, 10, 902), [
  (0, .iload_n 1, 0, 0, 0, []),
  (1, .ifCond .lt 13, 0, 14, 0, []),
  (4, .iload_n 1, 0, 0, 0, []),
  (5, .bipush 6, 6, 0, 0, []),
  (7, .if_icmp .ge 7, 0, 14, 0, []),
  (10, .iconst 1, 1, 0, 0, []),
  (11, .goto 4, 0, 15, 0, []),
  (14, .iconst 0, 0, 0, 0, []),
  (15, .ireturn, 0, 0, 0, [])])
def m_M_taskAt : sm_M := (⟨"SpansAwayModel", "taskAt", "(I)I"⟩, prog_12_method_7_code, 2, (some .int), (0, 0, 10, 902), [
  (0, .sipush 2322, 2322, 0, 0, []),
  (3, .bipush 6, 6, 0, 0, []),
  (5, .iload_n 1, 0, 0, 0, []),
  (6, .imul, 0, 0, 0, []),
  (7, .iadd, 0, 0, 0, []),
  (8, .ireturn, 0, 0, 0, [])])
def m_M_take : sm_M := (⟨"SpansAwayModel", "take", "(IIII)I"⟩, prog_12_method_45_code, 8, (some .int), (6, 140, 10, 905), [
  (0, .aload_n 0, 0, 0, 0, []),
  (1, .iconst 0, 0, 0, 0, []),
  (2, .putfield 1, 0, 900, 0, []),
  (5, .aload_n 0, 0, 0, 0, []),
  (6, .iload_n 1, 0, 0, 0, []),
  (7, .invokevirtual 54, 0, 140, 902, [(0, 0)]),
  (10, .ifCond .eq 23, 0, 33, 0, []),
  (13, .aload_n 0, 0, 0, 0, []),
  (14, .iload_n 2, 0, 0, 0, []),
  (15, .iconst 0, 0, 0, 0, []),
  (16, .iconst 2, 2, 0, 0, []),
  (17, .invokevirtual 47, 0, 137, 904, [(0, 0)]),
  (20, .ifCond .eq 13, 0, 33, 0, []),
  (23, .aload_n 0, 0, 0, 0, []),
  (24, .iload_n 3, 0, 0, 0, []),
  (25, .iconst 0, 0, 0, 0, []),
  (26, .iconst 4, 4, 0, 0, []),
  (27, .invokevirtual 47, 0, 137, 904, [(0, 0)]),
  (30, .ifCond .ne 6, 0, 36, 0, []),
  (33, .bipush (-2), (-2), 0, 0, []),
  (35, .ireturn, 0, 0, 0, []),
  (36, .aload_n 0, 0, 0, 0, []),
  (37, .iload_n 1, 0, 0, 0, []),
  (38, .iload_n 2, 0, 0, 0, []),
  (39, .iload_n 3, 0, 0, 0, []),
  (40, .iconst 0, 0, 0, 0, []),
  (41, .invokevirtual 126, 0, 143, 905, [(0, 0)]),
  (44, .istore 5, 0, 0, 0, []),
  (46, .iload 5, 0, 0, 0, []),
  (48, .iconst (-1), (-1), 0, 0, []),
  (49, .if_icmp .ne 32, 0, 81, 0, []),
  (52, .aload_n 0, 0, 0, 0, []),
  (53, .invokevirtual 130, 0, 152, 901, [(0, 0)]),
  (56, .iconst (-1), (-1), 0, 0, []),
  (57, .if_icmp .eq 24, 0, 81, 0, []),
  (60, .aload_n 0, 0, 0, 0, []),
  (61, .aload_n 0, 0, 0, 0, []),
  (62, .invokevirtual 130, 0, 152, 901, [(0, 0)]),
  (65, .invokevirtual 134, 0, 157, 902, []),
  (68, .aload_n 0, 0, 0, 0, []),
  (69, .iload_n 1, 0, 0, 0, []),
  (70, .iload_n 2, 0, 0, 0, []),
  (71, .iload_n 3, 0, 0, 0, []),
  (72, .iconst 0, 0, 0, 0, []),
  (73, .invokevirtual 126, 0, 143, 905, [(0, 0)]),
  (76, .istore 5, 0, 0, 0, []),
  (78, .goto (-32), 0, 46, 0, []),
  (81, .aload_n 0, 0, 0, 0, []),
  (82, .invokevirtual 137, 0, 167, 901, [(0, 0)]),
  (85, .istore 6, 0, 0, 0, []),
  (87, .iload 5, 0, 0, 0, []),
  (89, .iconst (-1), (-1), 0, 0, []),
  (90, .if_icmp .eq 9, 0, 99, 0, []),
  (93, .iload 6, 0, 0, 0, []),
  (95, .iconst (-1), (-1), 0, 0, []),
  (96, .if_icmp .ne 11, 0, 107, 0, []),
  (99, .aload_n 0, 0, 0, 0, []),
  (100, .iconst 1, 1, 0, 0, []),
  (101, .iconst 1, 1, 0, 0, []),
  (102, .invokevirtual 111, 0, 161, 903, []),
  (105, .iconst (-1), (-1), 0, 0, []),
  (106, .ireturn, 0, 0, 0, []),
  (107, .aload_n 0, 0, 0, 0, []),
  (108, .bipush 6, 6, 0, 0, []),
  (110, .iconst 1, 1, 0, 0, []),
  (111, .invokevirtual 43, 0, 160, 903, []),
  (114, .aload_n 0, 0, 0, 0, []),
  (115, .iload 6, 0, 0, 0, []),
  (117, .iload 5, 0, 0, 0, []),
  (119, .iload_n 3, 0, 0, 0, []),
  (120, .iload_n 2, 0, 0, 0, []),
  (121, .iload_n 1, 0, 0, 0, []),
  (122, .aload_n 0, 0, 0, 0, []),
  (123, .getfield 13, 0, 901, 0, []),
  (126, .bipush 6, 6, 0, 0, []),
  (128, .iaload, 0, 0, 0, []),
  (129, .invokevirtual 140, 0, 168, 907, []),
  (132, .iconst 0, 0, 0, 0, []),
  (133, .istore 7, 0, 0, 0, []),
  (135, .iload 7, 0, 0, 0, []),
  (137, .iconst 1, 1, 0, 0, []),
  (138, .iload_n 3, 0, 0, 0, []),
  (139, .ishl, 0, 0, 0, []),
  (140, .if_icmp .ge 23, 0, 163, 0, []),
  (143, .aload_n 0, 0, 0, 0, []),
  (144, .iload 5, 0, 0, 0, []),
  (146, .iload 7, 0, 0, 0, []),
  (148, .iadd, 0, 0, 0, []),
  (149, .iload 4, 0, 0, 0, []),
  (151, .iload 7, 0, 0, 0, []),
  (153, .iadd, 0, 0, 0, []),
  (154, .invokevirtual 144, 0, 170, 903, []),
  (157, .iinc 7 1, 1, 0, 0, []),
  (160, .goto (-25), 0, 135, 0, []),
  (163, .aload_n 0, 0, 0, 0, []),
  (164, .iconst 0, 0, 0, 0, []),
  (165, .iconst 1, 1, 0, 0, []),
  (166, .invokevirtual 111, 0, 161, 903, []),
  (169, .iload 6, 0, 0, 0, []),
  (171, .ireturn, 0, 0, 0, [])])
def m_M_bestPlace : sm_M := (⟨"SpansAwayModel", "bestPlace", "(IIIZ)I"⟩, prog_12_method_39_code, 11, (some .int), (5, 110, 10, 905), [
  (0, .iconst (-1), (-1), 0, 0, []),
  (1, .istore 5, 0, 0, 0, []),
  (3, .iconst 0, 0, 0, 0, []),
  (4, .istore 6, 0, 0, 0, []),
  (6, .iconst 0, 0, 0, 0, []),
  (7, .istore 7, 0, 0, 0, []),
  (9, .iconst 0, 0, 0, 0, []),
  (10, .istore 8, 0, 0, 0, []),
  (12, .iload 8, 0, 0, 0, []),
  (14, .sipush 256, 256, 0, 0, []),
  (17, .if_icmp .ge 117, 0, 134, 0, []),
  (20, .aload_n 0, 0, 0, 0, []),
  (21, .aload_n 0, 0, 0, 0, []),
  (22, .iload 8, 0, 0, 0, []),
  (24, .invokevirtual 67, 0, 144, 902, [(0, 0)]),
  (27, .iload_n 2, 0, 0, 0, []),
  (28, .iload_n 1, 0, 0, 0, []),
  (29, .invokevirtual 87, 0, 145, 904, [(0, 0)]),
  (32, .istore 9, 0, 0, 0, []),
  (34, .iload 9, 0, 0, 0, []),
  (36, .iconst (-1), (-1), 0, 0, []),
  (37, .if_icmp .eq 86, 0, 123, 0, []),
  (40, .iload 4, 0, 0, 0, []),
  (42, .ifCond .eq 17, 0, 59, 0, []),
  (45, .aload_n 0, 0, 0, 0, []),
  (46, .aload_n 0, 0, 0, 0, []),
  (47, .iload 8, 0, 0, 0, []),
  (49, .invokevirtual 67, 0, 144, 902, [(0, 0)]),
  (52, .invokevirtual 64, 0, 147, 902, [(0, 0)]),
  (55, .iconst 1, 1, 0, 0, []),
  (56, .if_icmp .ne 67, 0, 123, 0, []),
  (59, .aload_n 0, 0, 0, 0, []),
  (60, .iload 8, 0, 0, 0, []),
  (62, .iload_n 3, 0, 0, 0, []),
  (63, .invokevirtual 76, 0, 148, 903, [(0, 0)]),
  (66, .ifCond .ne 6, 0, 72, 0, []),
  (69, .goto 54, 0, 123, 0, []),
  (72, .aload_n 0, 0, 0, 0, []),
  (73, .iload 8, 0, 0, 0, []),
  (75, .iload_n 3, 0, 0, 0, []),
  (76, .invokevirtual 91, 0, 151, 903, [(0, 0)]),
  (79, .istore 10, 0, 0, 0, []),
  (81, .iload 5, 0, 0, 0, []),
  (83, .iconst (-1), (-1), 0, 0, []),
  (84, .if_icmp .eq 27, 0, 111, 0, []),
  (87, .iload 9, 0, 0, 0, []),
  (89, .iload 6, 0, 0, 0, []),
  (91, .if_icmp .gt 32, 0, 123, 0, []),
  (94, .iload 9, 0, 0, 0, []),
  (96, .iload 6, 0, 0, 0, []),
  (98, .if_icmp .ne 13, 0, 111, 0, []),
  (101, .iload 10, 0, 0, 0, []),
  (103, .iload 7, 0, 0, 0, []),
  (105, .if_icmp .lt 6, 0, 111, 0, []),
  (108, .goto 15, 0, 123, 0, []),
  (111, .iload 8, 0, 0, 0, []),
  (113, .istore 5, 0, 0, 0, []),
  (115, .iload 9, 0, 0, 0, []),
  (117, .istore 6, 0, 0, 0, []),
  (119, .iload 10, 0, 0, 0, []),
  (121, .istore 7, 0, 0, 0, []),
  (123, .iload 8, 0, 0, 0, []),
  (125, .iconst 1, 1, 0, 0, []),
  (126, .iload_n 3, 0, 0, 0, []),
  (127, .ishl, 0, 0, 0, []),
  (128, .iadd, 0, 0, 0, []),
  (129, .istore 8, 0, 0, 0, []),
  (131, .goto (-119), 0, 12, 0, []),
  (134, .iload 5, 0, 0, 0, []),
  (136, .ireturn, 0, 0, 0, [])])
def m_M_spanOf : sm_M := (⟨"SpansAwayModel", "spanOf", "(I)I"⟩, prog_12_method_21_code, 2, (some .int), (0, 0, 10, 902), [
  (0, .iload_n 1, 0, 0, 0, []),
  (1, .bipush 32, 32, 0, 0, []),
  (3, .idiv, 0, 0, 0, []),
  (4, .ireturn, 0, 0, 0, [])])
def m_M_rankOf : sm_M := (⟨"SpansAwayModel", "rankOf", "(III)I"⟩, prog_12_method_38_code, 6, (some .int), (3, 63, 10, 904), [
  (0, .aload_n 0, 0, 0, 0, []),
  (1, .iload_n 1, 0, 0, 0, []),
  (2, .invokevirtual 84, 0, 146, 902, [(0, 0)]),
  (5, .istore 4, 0, 0, 0, []),
  (7, .iload_n 1, 0, 0, 0, []),
  (8, .iconst 2, 2, 0, 0, []),
  (9, .irem, 0, 0, 0, []),
  (10, .aload_n 0, 0, 0, 0, []),
  (11, .getfield 13, 0, 901, 0, []),
  (14, .aload_n 0, 0, 0, 0, []),
  (15, .iload_n 3, 0, 0, 0, []),
  (16, .invokevirtual 58, 0, 141, 902, [(0, 0)]),
  (19, .iconst 0, 0, 0, 0, []),
  (20, .iadd, 0, 0, 0, []),
  (21, .iaload, 0, 0, 0, []),
  (22, .if_icmp .ne 7, 0, 29, 0, []),
  (25, .iconst 0, 0, 0, 0, []),
  (26, .goto 4, 0, 30, 0, []),
  (29, .iconst 1, 1, 0, 0, []),
  (30, .istore 5, 0, 0, 0, []),
  (32, .iload 4, 0, 0, 0, []),
  (34, .iconst (-1), (-1), 0, 0, []),
  (35, .if_icmp .eq 13, 0, 48, 0, []),
  (38, .iload_n 2, 0, 0, 0, []),
  (39, .ifCond .eq 11, 0, 50, 0, []),
  (42, .iload 4, 0, 0, 0, []),
  (44, .iconst 1, 1, 0, 0, []),
  (45, .if_icmp .ne 5, 0, 50, 0, []),
  (48, .iconst (-1), (-1), 0, 0, []),
  (49, .ireturn, 0, 0, 0, []),
  (50, .iload_n 2, 0, 0, 0, []),
  (51, .ifCond .ne 9, 0, 60, 0, []),
  (54, .iload 4, 0, 0, 0, []),
  (56, .iconst 1, 1, 0, 0, []),
  (57, .if_icmp .ne 8, 0, 65, 0, []),
  (60, .iload 5, 0, 0, 0, []),
  (62, .goto 7, 0, 69, 0, []),
  (65, .iconst 2, 2, 0, 0, []),
  (66, .iload 5, 0, 0, 0, []),
  (68, .iadd, 0, 0, 0, []),
  (69, .ireturn, 0, 0, 0, [])])
def m_M_zoneOf : sm_M := (⟨"SpansAwayModel", "zoneOf", "(I)I"⟩, prog_12_method_23_code, 2, (some .int), (2, 42, 10, 902), [
  (0, .aload_n 0, 0, 0, 0, []),
  (1, .iload_n 1, 0, 0, 0, []),
  (2, .invokevirtual 64, 0, 147, 902, [(0, 0)]),
  (5, .ifCond .ne 7, 0, 12, 0, []),
  (8, .iconst (-1), (-1), 0, 0, []),
  (9, .goto 15, 0, 24, 0, []),
  (12, .aload_n 0, 0, 0, 0, []),
  (13, .getfield 13, 0, 901, 0, []),
  (16, .aload_n 0, 0, 0, 0, []),
  (17, .iload_n 1, 0, 0, 0, []),
  (18, .invokevirtual 33, 0, 134, 902, [(0, 0)]),
  (21, .iconst 1, 1, 0, 0, []),
  (22, .iadd, 0, 0, 0, []),
  (23, .iaload, 0, 0, 0, []),
  (24, .ireturn, 0, 0, 0, [])])
def m_M_spanState : sm_M := (⟨"SpansAwayModel", "spanState", "(I)I"⟩, prog_12_method_22_code, 2, (some .int), (1, 21, 10, 902), [
  (0, .aload_n 0, 0, 0, 0, []),
  (1, .getfield 13, 0, 901, 0, []),
  (4, .aload_n 0, 0, 0, 0, []),
  (5, .iload_n 1, 0, 0, 0, []),
  (6, .invokevirtual 33, 0, 134, 902, [(0, 0)]),
  (9, .iconst 0, 0, 0, 0, []),
  (10, .iadd, 0, 0, 0, []),
  (11, .iaload, 0, 0, 0, []),
  (12, .ireturn, 0, 0, 0, [])])
def m_M_areFree : sm_M := (⟨"SpansAwayModel", "areFree", "(II)Z"⟩, prog_12_method_29_code, 5, (some .boolean), (3, 63, 10, 903), [
  (0, .iload_n 1, 0, 0, 0, []),
  (1, .iload_n 2, 0, 0, 0, []),
  (2, .ishr, 0, 0, 0, []),
  (3, .iload_n 2, 0, 0, 0, []),
  (4, .ishl, 0, 0, 0, []),
  (5, .istore_n 3, 0, 0, 0, []),
  (6, .iload_n 3, 0, 0, 0, []),
  (7, .istore 4, 0, 0, 0, []),
  (9, .iload 4, 0, 0, 0, []),
  (11, .iload_n 3, 0, 0, 0, []),
  (12, .iconst 1, 1, 0, 0, []),
  (13, .iload_n 2, 0, 0, 0, []),
  (14, .ishl, 0, 0, 0, []),
  (15, .iadd, 0, 0, 0, []),
  (16, .if_icmp .ge 20, 0, 36, 0, []),
  (19, .aload_n 0, 0, 0, 0, []),
  (20, .iload 4, 0, 0, 0, []),
  (22, .invokevirtual 73, 0, 149, 902, [(0, 0)]),
  (25, .ifCond .ne 5, 0, 30, 0, []),
  (28, .iconst 0, 0, 0, 0, []),
  (29, .ireturn, 0, 0, 0, []),
  (30, .iinc 4 1, 1, 0, 0, []),
  (33, .goto (-24), 0, 9, 0, []),
  (36, .iconst 1, 1, 0, 0, []),
  (37, .ireturn, 0, 0, 0, [])])
def m_M_isFree : sm_M := (⟨"SpansAwayModel", "isFree", "(I)Z"⟩, prog_12_method_20_code, 2, (some .boolean), (2, 42, 10, 902), [
  (0, .aload_n 0, 0, 0, 0, []),
  (1, .iload_n 1, 0, 0, 0, []),
  (2, .invokevirtual 61, 0, 150, 902, [(0, 0)]),
  (5, .iconst 1, 1, 0, 0, []),
  (6, .if_icmp .ne 7, 0, 13, 0, []),
  (9, .iconst 1, 1, 0, 0, []),
  (10, .goto 4, 0, 14, 0, []),
  (13, .iconst 0, 0, 0, 0, []),
  (14, .ireturn, 0, 0, 0, [])])
def m_M_stateOf : sm_M := (⟨"SpansAwayModel", "stateOf", "(I)I"⟩, prog_12_method_19_code, 2, (some .int), (1, 21, 10, 902), [
  (0, .aload_n 0, 0, 0, 0, []),
  (1, .getfield 13, 0, 901, 0, []),
  (4, .aload_n 0, 0, 0, 0, []),
  (5, .iload_n 1, 0, 0, 0, []),
  (6, .invokevirtual 37, 0, 135, 902, [(0, 0)]),
  (9, .iconst 0, 0, 0, 0, []),
  (10, .iadd, 0, 0, 0, []),
  (11, .iaload, 0, 0, 0, []),
  (12, .ireturn, 0, 0, 0, [])])
def m_M_holeFrom : sm_M := (⟨"SpansAwayModel", "holeFrom", "(II)I"⟩, prog_12_method_40_code, 4, (some .int), (4, 87, 10, 903), [
  (0, .iload_n 2, 0, 0, 0, []),
  (1, .istore_n 3, 0, 0, 0, []),
  (2, .iload_n 3, 0, 0, 0, []),
  (3, .iconst 5, 5, 0, 0, []),
  (4, .if_icmp .ge 21, 0, 25, 0, []),
  (7, .aload_n 0, 0, 0, 0, []),
  (8, .iload_n 1, 0, 0, 0, []),
  (9, .iload_n 3, 0, 0, 0, []),
  (10, .iconst 1, 1, 0, 0, []),
  (11, .iadd, 0, 0, 0, []),
  (12, .invokevirtual 76, 0, 148, 903, [(0, 0)]),
  (15, .ifCond .eq 10, 0, 25, 0, []),
  (18, .iload_n 3, 0, 0, 0, []),
  (19, .iconst 1, 1, 0, 0, []),
  (20, .iadd, 0, 0, 0, []),
  (21, .istore_n 3, 0, 0, 0, []),
  (22, .goto (-20), 0, 2, 0, []),
  (25, .iload_n 3, 0, 0, 0, []),
  (26, .ireturn, 0, 0, 0, [])])
def m_M_leastUsed : sm_M := (⟨"SpansAwayModel", "leastUsed", "()I"⟩, prog_12_method_43_code, 3, (some .int), (3, 64, 10, 901), [
  (0, .iconst (-1), (-1), 0, 0, []),
  (1, .istore_n 1, 0, 0, 0, []),
  (2, .iconst 0, 0, 0, 0, []),
  (3, .istore_n 2, 0, 0, 0, []),
  (4, .iload_n 2, 0, 0, 0, []),
  (5, .bipush 96, 96, 0, 0, []),
  (7, .if_icmp .ge 69, 0, 76, 0, []),
  (10, .aload_n 0, 0, 0, 0, []),
  (11, .iload_n 2, 0, 0, 0, []),
  (12, .iconst 0, 0, 0, 0, []),
  (13, .invokevirtual 80, 0, 153, 903, [(0, 0)]),
  (16, .iconst 1, 1, 0, 0, []),
  (17, .if_icmp .ne 53, 0, 70, 0, []),
  (20, .aload_n 0, 0, 0, 0, []),
  (21, .iload_n 2, 0, 0, 0, []),
  (22, .iconst 3, 3, 0, 0, []),
  (23, .invokevirtual 80, 0, 153, 903, [(0, 0)]),
  (26, .iconst 2, 2, 0, 0, []),
  (27, .if_icmp .ne 43, 0, 70, 0, []),
  (30, .aload_n 0, 0, 0, 0, []),
  (31, .iload_n 2, 0, 0, 0, []),
  (32, .invokevirtual 117, 0, 155, 902, [(0, 0)]),
  (35, .ifCond .ne 35, 0, 70, 0, []),
  (38, .aload_n 0, 0, 0, 0, []),
  (39, .iload_n 2, 0, 0, 0, []),
  (40, .invokevirtual 120, 0, 156, 902, [(0, 0)]),
  (43, .ifCond .ne 27, 0, 70, 0, []),
  (46, .iload_n 1, 0, 0, 0, []),
  (47, .iconst (-1), (-1), 0, 0, []),
  (48, .if_icmp .eq 20, 0, 68, 0, []),
  (51, .aload_n 0, 0, 0, 0, []),
  (52, .iload_n 2, 0, 0, 0, []),
  (53, .bipush 8, 8, 0, 0, []),
  (55, .invokevirtual 80, 0, 153, 903, [(0, 0)]),
  (58, .aload_n 0, 0, 0, 0, []),
  (59, .iload_n 1, 0, 0, 0, []),
  (60, .bipush 8, 8, 0, 0, []),
  (62, .invokevirtual 80, 0, 153, 903, [(0, 0)]),
  (65, .if_icmp .ge 5, 0, 70, 0, []),
  (68, .iload_n 2, 0, 0, 0, []),
  (69, .istore_n 1, 0, 0, 0, []),
  (70, .iinc 2 1, 1, 0, 0, []),
  (73, .goto (-69), 0, 4, 0, []),
  (76, .iload_n 1, 0, 0, 0, []),
  (77, .ireturn, 0, 0, 0, [])])
def m_M_of : sm_M := (⟨"SpansAwayModel", "of", "(II)I"⟩, prog_12_method_31_code, 3, (some .int), (1, 21, 10, 903), [
  (0, .aload_n 0, 0, 0, 0, []),
  (1, .getfield 13, 0, 901, 0, []),
  (4, .aload_n 0, 0, 0, 0, []),
  (5, .iload_n 1, 0, 0, 0, []),
  (6, .invokevirtual 51, 0, 154, 902, [(0, 0)]),
  (9, .iload_n 2, 0, 0, 0, []),
  (10, .iadd, 0, 0, 0, []),
  (11, .iaload, 0, 0, 0, []),
  (12, .ireturn, 0, 0, 0, [])])
def m_M_blockAt : sm_M := (⟨"SpansAwayModel", "blockAt", "(I)I"⟩, prog_12_method_6_code, 2, (some .int), (0, 0, 10, 902), [
  (0, .sipush 786, 786, 0, 0, []),
  (3, .bipush 16, 16, 0, 0, []),
  (5, .iload_n 1, 0, 0, 0, []),
  (6, .imul, 0, 0, 0, []),
  (7, .iadd, 0, 0, 0, []),
  (8, .ireturn, 0, 0, 0, [])])
def m_M_isPinned : sm_M := (⟨"SpansAwayModel", "isPinned", "(I)Z"⟩, prog_12_method_36_code, 2, (some .boolean), (2, 43, 10, 902), [
  (0, .aload_n 0, 0, 0, 0, []),
  (1, .iload_n 1, 0, 0, 0, []),
  (2, .iconst 5, 5, 0, 0, []),
  (3, .invokevirtual 80, 0, 153, 903, [(0, 0)]),
  (6, .ifCond .eq 7, 0, 13, 0, []),
  (9, .iconst 1, 1, 0, 0, []),
  (10, .goto 4, 0, 14, 0, []),
  (13, .iconst 0, 0, 0, 0, []),
  (14, .ireturn, 0, 0, 0, [])])
def m_M_isOnWay : sm_M := (⟨"SpansAwayModel", "isOnWay", "(I)Z"⟩, prog_12_method_35_code, 2, (some .boolean), (2, 43, 10, 902), [
  (0, .aload_n 0, 0, 0, 0, []),
  (1, .iload_n 1, 0, 0, 0, []),
  (2, .bipush 6, 6, 0, 0, []),
  (4, .invokevirtual 80, 0, 153, 903, [(0, 0)]),
  (7, .ifCond .le 7, 0, 14, 0, []),
  (10, .iconst 1, 1, 0, 0, []),
  (11, .goto 4, 0, 15, 0, []),
  (14, .iconst 0, 0, 0, 0, []),
  (15, .ireturn, 0, 0, 0, [])])
def m_M_drops : sm_M := (⟨"SpansAwayModel", "drops", "(I)V"⟩, prog_12_method_42_code, 2, none, (4, 86, 10, 902), [
  (0, .aload_n 0, 0, 0, 0, []),
  (1, .bipush 6, 6, 0, 0, []),
  (3, .iload_n 1, 0, 0, 0, []),
  (4, .aload_n 0, 0, 0, 0, []),
  (5, .iload_n 1, 0, 0, 0, []),
  (6, .invokevirtual 97, 0, 158, 902, [(0, 0)]),
  (9, .invokevirtual 108, 0, 159, 904, []),
  (12, .aload_n 0, 0, 0, 0, []),
  (13, .iconst 5, 5, 0, 0, []),
  (14, .iconst 1, 1, 0, 0, []),
  (15, .invokevirtual 111, 0, 161, 903, []),
  (18, .aload_n 0, 0, 0, 0, []),
  (19, .iload_n 1, 0, 0, 0, []),
  (20, .invokevirtual 114, 0, 162, 902, []),
  (23, .return_, 0, 0, 0, [])])
def m_M_frameOf : sm_M := (⟨"SpansAwayModel", "frameOf", "(I)I"⟩, prog_12_method_33_code, 2, (some .int), (2, 43, 10, 902), [
  (0, .aload_n 0, 0, 0, 0, []),
  (1, .iload_n 1, 0, 0, 0, []),
  (2, .iconst 1, 1, 0, 0, []),
  (3, .invokevirtual 80, 0, 153, 903, [(0, 0)]),
  (6, .ireturn, 0, 0, 0, [])])
def m_M_writes : sm_M := (⟨"SpansAwayModel", "writes", "(III)V"⟩, prog_12_method_18_code, 5, none, (1, 22, 10, 904), [
  (0, .sipush 2422, 2422, 0, 0, []),
  (3, .iconst 4, 4, 0, 0, []),
  (4, .aload_n 0, 0, 0, 0, []),
  (5, .getfield 13, 0, 901, 0, []),
  (8, .iconst 5, 5, 0, 0, []),
  (9, .iaload, 0, 0, 0, []),
  (10, .bipush 60, 60, 0, 0, []),
  (12, .irem, 0, 0, 0, []),
  (13, .imul, 0, 0, 0, []),
  (14, .iadd, 0, 0, 0, []),
  (15, .istore 4, 0, 0, 0, []),
  (17, .aload_n 0, 0, 0, 0, []),
  (18, .getfield 13, 0, 901, 0, []),
  (21, .iload 4, 0, 0, 0, []),
  (23, .aload_n 0, 0, 0, 0, []),
  (24, .getfield 13, 0, 901, 0, []),
  (27, .iconst 4, 4, 0, 0, []),
  (28, .iaload, 0, 0, 0, []),
  (29, .iastore, 0, 0, 0, []),
  (30, .aload_n 0, 0, 0, 0, []),
  (31, .getfield 13, 0, 901, 0, []),
  (34, .iload 4, 0, 0, 0, []),
  (36, .iconst 1, 1, 0, 0, []),
  (37, .iadd, 0, 0, 0, []),
  (38, .iload_n 1, 0, 0, 0, []),
  (39, .iastore, 0, 0, 0, []),
  (40, .aload_n 0, 0, 0, 0, []),
  (41, .getfield 13, 0, 901, 0, []),
  (44, .iload 4, 0, 0, 0, []),
  (46, .iconst 2, 2, 0, 0, []),
  (47, .iadd, 0, 0, 0, []),
  (48, .iload_n 2, 0, 0, 0, []),
  (49, .iastore, 0, 0, 0, []),
  (50, .aload_n 0, 0, 0, 0, []),
  (51, .getfield 13, 0, 901, 0, []),
  (54, .iload 4, 0, 0, 0, []),
  (56, .iconst 3, 3, 0, 0, []),
  (57, .iadd, 0, 0, 0, []),
  (58, .iload_n 3, 0, 0, 0, []),
  (59, .iastore, 0, 0, 0, []),
  (60, .aload_n 0, 0, 0, 0, []),
  (61, .iconst 5, 5, 0, 0, []),
  (62, .iconst 1, 1, 0, 0, []),
  (63, .invokevirtual 43, 0, 160, 903, []),
  (66, .return_, 0, 0, 0, [])])
def m_M_more : sm_M := (⟨"SpansAwayModel", "more", "(II)V"⟩, prog_12_method_11_code, 3, none, (0, 0, 10, 903), [
  (0, .aload_n 0, 0, 0, 0, []),
  (1, .getfield 13, 0, 901, 0, []),
  (4, .iload_n 1, 0, 0, 0, []),
  (5, .aload_n 0, 0, 0, 0, []),
  (6, .getfield 13, 0, 901, 0, []),
  (9, .iload_n 1, 0, 0, 0, []),
  (10, .iaload, 0, 0, 0, []),
  (11, .iload_n 2, 0, 0, 0, []),
  (12, .iadd, 0, 0, 0, []),
  (13, .iastore, 0, 0, 0, []),
  (14, .return_, 0, 0, 0, [])])
def m_M_counts : sm_M := (⟨"SpansAwayModel", "counts", "(II)V"⟩, prog_12_method_12_code, 3, none, (1, 22, 10, 903), [
  (0, .aload_n 0, 0, 0, 0, []),
  (1, .bipush 7, 7, 0, 0, []),
  (3, .iload_n 1, 0, 0, 0, []),
  (4, .iadd, 0, 0, 0, []),
  (5, .iload_n 2, 0, 0, 0, []),
  (6, .invokevirtual 43, 0, 160, 903, []),
  (9, .return_, 0, 0, 0, [])])
def m_M_goes : sm_M := (⟨"SpansAwayModel", "goes", "(I)V"⟩, prog_12_method_41_code, 3, none, (3, 64, 10, 902), [
  (0, .iconst 0, 0, 0, 0, []),
  (1, .istore_n 2, 0, 0, 0, []),
  (2, .iload_n 2, 0, 0, 0, []),
  (3, .aload_n 0, 0, 0, 0, []),
  (4, .iload_n 1, 0, 0, 0, []),
  (5, .invokevirtual 94, 0, 163, 902, [(0, 0)]),
  (8, .if_icmp .ge 20, 0, 28, 0, []),
  (11, .aload_n 0, 0, 0, 0, []),
  (12, .aload_n 0, 0, 0, 0, []),
  (13, .iload_n 1, 0, 0, 0, []),
  (14, .invokevirtual 97, 0, 158, 902, [(0, 0)]),
  (17, .iload_n 2, 0, 0, 0, []),
  (18, .iadd, 0, 0, 0, []),
  (19, .invokevirtual 100, 0, 164, 902, []),
  (22, .iinc 2 1, 1, 0, 0, []),
  (25, .goto (-23), 0, 2, 0, []),
  (28, .aload_n 0, 0, 0, 0, []),
  (29, .iload_n 1, 0, 0, 0, []),
  (30, .iconst 0, 0, 0, 0, []),
  (31, .iconst 0, 0, 0, 0, []),
  (32, .invokevirtual 104, 0, 166, 904, []),
  (35, .return_, 0, 0, 0, [])])
def m_M_longOf : sm_M := (⟨"SpansAwayModel", "longOf", "(I)I"⟩, prog_12_method_34_code, 2, (some .int), (2, 43, 10, 902), [
  (0, .iconst 1, 1, 0, 0, []),
  (1, .aload_n 0, 0, 0, 0, []),
  (2, .iload_n 1, 0, 0, 0, []),
  (3, .iconst 2, 2, 0, 0, []),
  (4, .invokevirtual 80, 0, 153, 903, [(0, 0)]),
  (7, .ishl, 0, 0, 0, []),
  (8, .ireturn, 0, 0, 0, [])])
def m_M_leaves : sm_M := (⟨"SpansAwayModel", "leaves", "(I)V"⟩, prog_12_method_25_code, 3, none, (2, 42, 10, 902), [
  (0, .aload_n 0, 0, 0, 0, []),
  (1, .iload_n 1, 0, 0, 0, []),
  (2, .invokevirtual 37, 0, 135, 902, [(0, 0)]),
  (5, .istore_n 2, 0, 0, 0, []),
  (6, .aload_n 0, 0, 0, 0, []),
  (7, .getfield 13, 0, 901, 0, []),
  (10, .iload_n 2, 0, 0, 0, []),
  (11, .iconst 0, 0, 0, 0, []),
  (12, .iadd, 0, 0, 0, []),
  (13, .aload_n 0, 0, 0, 0, []),
  (14, .iload_n 1, 0, 0, 0, []),
  (15, .invokevirtual 70, 0, 165, 902, [(0, 0)]),
  (18, .ifCond .eq 7, 0, 25, 0, []),
  (21, .iconst 2, 2, 0, 0, []),
  (22, .goto 4, 0, 26, 0, []),
  (25, .iconst 1, 1, 0, 0, []),
  (26, .iastore, 0, 0, 0, []),
  (27, .aload_n 0, 0, 0, 0, []),
  (28, .getfield 13, 0, 901, 0, []),
  (31, .iload_n 2, 0, 0, 0, []),
  (32, .iconst 1, 1, 0, 0, []),
  (33, .iadd, 0, 0, 0, []),
  (34, .iconst 0, 0, 0, 0, []),
  (35, .iastore, 0, 0, 0, []),
  (36, .aload_n 0, 0, 0, 0, []),
  (37, .getfield 13, 0, 901, 0, []),
  (40, .iload_n 2, 0, 0, 0, []),
  (41, .iconst 2, 2, 0, 0, []),
  (42, .iadd, 0, 0, 0, []),
  (43, .iconst 0, 0, 0, 0, []),
  (44, .iastore, 0, 0, 0, []),
  (45, .return_, 0, 0, 0, [])])
def m_M_isShut : sm_M := (⟨"SpansAwayModel", "isShut", "(I)Z"⟩, prog_12_method_24_code, 2, (some .boolean), (1, 21, 10, 902), [
  (0, .iload_n 1, 0, 0, 0, []),
  (1, .bipush 32, 32, 0, 0, []),
  (3, .irem, 0, 0, 0, []),
  (4, .bipush 8, 8, 0, 0, []),
  (6, .idiv, 0, 0, 0, []),
  (7, .aload_n 0, 0, 0, 0, []),
  (8, .getfield 13, 0, 901, 0, []),
  (11, .aload_n 0, 0, 0, 0, []),
  (12, .aload_n 0, 0, 0, 0, []),
  (13, .iload_n 1, 0, 0, 0, []),
  (14, .invokevirtual 67, 0, 144, 902, [(0, 0)]),
  (17, .invokevirtual 33, 0, 134, 902, [(0, 0)]),
  (20, .iconst 2, 2, 0, 0, []),
  (21, .iadd, 0, 0, 0, []),
  (22, .iaload, 0, 0, 0, []),
  (23, .if_icmp .ge 7, 0, 30, 0, []),
  (26, .iconst 1, 1, 0, 0, []),
  (27, .goto 4, 0, 31, 0, []),
  (30, .iconst 0, 0, 0, 0, []),
  (31, .ireturn, 0, 0, 0, [])])
def m_M_lay : sm_M := (⟨"SpansAwayModel", "lay", "(III)V"⟩, prog_12_method_32_code, 4, none, (1, 21, 10, 904), [
  (0, .aload_n 0, 0, 0, 0, []),
  (1, .getfield 13, 0, 901, 0, []),
  (4, .aload_n 0, 0, 0, 0, []),
  (5, .iload_n 1, 0, 0, 0, []),
  (6, .invokevirtual 51, 0, 154, 902, [(0, 0)]),
  (9, .iload_n 2, 0, 0, 0, []),
  (10, .iadd, 0, 0, 0, []),
  (11, .iload_n 3, 0, 0, 0, []),
  (12, .iastore, 0, 0, 0, []),
  (13, .return_, 0, 0, 0, [])])
def m_M_freeNumber : sm_M := (⟨"SpansAwayModel", "freeNumber", "()I"⟩, prog_12_method_37_code, 2, (some .int), (2, 43, 10, 901), [
  (0, .iconst 0, 0, 0, 0, []),
  (1, .istore_n 1, 0, 0, 0, []),
  (2, .iload_n 1, 0, 0, 0, []),
  (3, .bipush 96, 96, 0, 0, []),
  (5, .if_icmp .ge 20, 0, 25, 0, []),
  (8, .aload_n 0, 0, 0, 0, []),
  (9, .iload_n 1, 0, 0, 0, []),
  (10, .iconst 0, 0, 0, 0, []),
  (11, .invokevirtual 80, 0, 153, 903, [(0, 0)]),
  (14, .ifCond .ne 5, 0, 19, 0, []),
  (17, .iload_n 1, 0, 0, 0, []),
  (18, .ireturn, 0, 0, 0, []),
  (19, .iinc 1 1, 1, 0, 0, []),
  (22, .goto (-20), 0, 2, 0, []),
  (25, .iconst (-1), (-1), 0, 0, []),
  (26, .ireturn, 0, 0, 0, [])])
def m_M_comes : sm_M := (⟨"SpansAwayModel", "comes", "(IIIIII)V"⟩, prog_12_method_44_code, 8, none, (2, 44, 10, 907), [
  (0, .iconst 0, 0, 0, 0, []),
  (1, .istore 7, 0, 0, 0, []),
  (3, .iload 7, 0, 0, 0, []),
  (5, .bipush 16, 16, 0, 0, []),
  (7, .if_icmp .ge 17, 0, 24, 0, []),
  (10, .aload_n 0, 0, 0, 0, []),
  (11, .iload_n 1, 0, 0, 0, []),
  (12, .iload 7, 0, 0, 0, []),
  (14, .iconst 0, 0, 0, 0, []),
  (15, .invokevirtual 104, 0, 166, 904, []),
  (18, .iinc 7 1, 1, 0, 0, []),
  (21, .goto (-18), 0, 3, 0, []),
  (24, .aload_n 0, 0, 0, 0, []),
  (25, .iload_n 1, 0, 0, 0, []),
  (26, .iconst 0, 0, 0, 0, []),
  (27, .iconst 1, 1, 0, 0, []),
  (28, .invokevirtual 104, 0, 166, 904, []),
  (31, .aload_n 0, 0, 0, 0, []),
  (32, .iload_n 1, 0, 0, 0, []),
  (33, .iconst 1, 1, 0, 0, []),
  (34, .iload_n 2, 0, 0, 0, []),
  (35, .invokevirtual 104, 0, 166, 904, []),
  (38, .aload_n 0, 0, 0, 0, []),
  (39, .iload_n 1, 0, 0, 0, []),
  (40, .iconst 2, 2, 0, 0, []),
  (41, .iload_n 3, 0, 0, 0, []),
  (42, .invokevirtual 104, 0, 166, 904, []),
  (45, .aload_n 0, 0, 0, 0, []),
  (46, .iload_n 1, 0, 0, 0, []),
  (47, .iconst 3, 3, 0, 0, []),
  (48, .iload 4, 0, 0, 0, []),
  (50, .invokevirtual 104, 0, 166, 904, []),
  (53, .aload_n 0, 0, 0, 0, []),
  (54, .iload_n 1, 0, 0, 0, []),
  (55, .iconst 4, 4, 0, 0, []),
  (56, .iload 5, 0, 0, 0, []),
  (58, .invokevirtual 104, 0, 166, 904, []),
  (61, .aload_n 0, 0, 0, 0, []),
  (62, .iload_n 1, 0, 0, 0, []),
  (63, .bipush 8, 8, 0, 0, []),
  (65, .iload 6, 0, 0, 0, []),
  (67, .invokevirtual 104, 0, 166, 904, []),
  (70, .iconst 0, 0, 0, 0, []),
  (71, .istore 7, 0, 0, 0, []),
  (73, .iload 7, 0, 0, 0, []),
  (75, .iconst 1, 1, 0, 0, []),
  (76, .iload_n 3, 0, 0, 0, []),
  (77, .ishl, 0, 0, 0, []),
  (78, .if_icmp .ge 19, 0, 97, 0, []),
  (81, .aload_n 0, 0, 0, 0, []),
  (82, .iload_n 2, 0, 0, 0, []),
  (83, .iload 7, 0, 0, 0, []),
  (85, .iadd, 0, 0, 0, []),
  (86, .iload_n 1, 0, 0, 0, []),
  (87, .iconst 3, 3, 0, 0, []),
  (88, .invokevirtual 123, 0, 169, 904, []),
  (91, .iinc 7 1, 1, 0, 0, []),
  (94, .goto (-21), 0, 73, 0, []),
  (97, .return_, 0, 0, 0, [])])
def m_M_has : sm_M := (⟨"SpansAwayModel", "has", "(III)V"⟩, prog_12_method_26_code, 4, none, (1, 21, 10, 904), [
  (0, .aload_n 0, 0, 0, 0, []),
  (1, .getfield 13, 0, 901, 0, []),
  (4, .aload_n 0, 0, 0, 0, []),
  (5, .iload_n 1, 0, 0, 0, []),
  (6, .invokevirtual 37, 0, 135, 902, [(0, 0)]),
  (9, .iconst 0, 0, 0, 0, []),
  (10, .iadd, 0, 0, 0, []),
  (11, .iload_n 3, 0, 0, 0, []),
  (12, .iastore, 0, 0, 0, []),
  (13, .aload_n 0, 0, 0, 0, []),
  (14, .getfield 13, 0, 901, 0, []),
  (17, .aload_n 0, 0, 0, 0, []),
  (18, .iload_n 1, 0, 0, 0, []),
  (19, .invokevirtual 37, 0, 135, 902, [(0, 0)]),
  (22, .iconst 1, 1, 0, 0, []),
  (23, .iadd, 0, 0, 0, []),
  (24, .iload_n 2, 0, 0, 0, []),
  (25, .iconst 1, 1, 0, 0, []),
  (26, .iadd, 0, 0, 0, []),
  (27, .iastore, 0, 0, 0, []),
  (28, .return_, 0, 0, 0, [])])
def m_M_lays : sm_M := (⟨"SpansAwayModel", "lays", "(II)V"⟩, prog_12_method_28_code, 3, none, (1, 21, 10, 903), [
  (0, .aload_n 0, 0, 0, 0, []),
  (1, .getfield 13, 0, 901, 0, []),
  (4, .aload_n 0, 0, 0, 0, []),
  (5, .iload_n 1, 0, 0, 0, []),
  (6, .invokevirtual 37, 0, 135, 902, [(0, 0)]),
  (9, .iconst 2, 2, 0, 0, []),
  (10, .iadd, 0, 0, 0, []),
  (11, .iload_n 2, 0, 0, 0, []),
  (12, .iastore, 0, 0, 0, []),
  (13, .return_, 0, 0, 0, [])])
def m_M_free : sm_M := (⟨"SpansAwayModel", "free", "(I)Z"⟩, prog_12_method_46_code, 2, (some .boolean), (4, 86, 10, 902), [
  (0, .aload_n 0, 0, 0, 0, []),
  (1, .iconst 0, 0, 0, 0, []),
  (2, .putfield 1, 0, 900, 0, []),
  (5, .aload_n 0, 0, 0, 0, []),
  (6, .iload_n 1, 0, 0, 0, []),
  (7, .invokevirtual 147, 0, 172, 902, [(0, 0)]),
  (10, .ifCond .eq 19, 0, 29, 0, []),
  (13, .aload_n 0, 0, 0, 0, []),
  (14, .iload_n 1, 0, 0, 0, []),
  (15, .invokevirtual 117, 0, 155, 902, [(0, 0)]),
  (18, .ifCond .ne 11, 0, 29, 0, []),
  (21, .aload_n 0, 0, 0, 0, []),
  (22, .iload_n 1, 0, 0, 0, []),
  (23, .invokevirtual 120, 0, 156, 902, [(0, 0)]),
  (26, .ifCond .eq 5, 0, 31, 0, []),
  (29, .iconst 0, 0, 0, 0, []),
  (30, .ireturn, 0, 0, 0, []),
  (31, .aload_n 0, 0, 0, 0, []),
  (32, .iload_n 1, 0, 0, 0, []),
  (33, .invokevirtual 114, 0, 162, 902, []),
  (36, .iconst 1, 1, 0, 0, []),
  (37, .ireturn, 0, 0, 0, [])])
def m_M_isBlock : sm_M := (⟨"SpansAwayModel", "isBlock", "(I)Z"⟩, prog_12_method_16_code, 2, (some .boolean), (1, 21, 10, 902), [
  (0, .iload_n 1, 0, 0, 0, []),
  (1, .ifCond .lt 29, 0, 30, 0, []),
  (4, .iload_n 1, 0, 0, 0, []),
  (5, .bipush 96, 96, 0, 0, []),
  (7, .if_icmp .ge 23, 0, 30, 0, []),
  (10, .aload_n 0, 0, 0, 0, []),
  (11, .getfield 13, 0, 901, 0, []),
  (14, .aload_n 0, 0, 0, 0, []),
  (15, .iload_n 1, 0, 0, 0, []),
  (16, .invokevirtual 51, 0, 154, 902, [(0, 0)]),
  (19, .iconst 0, 0, 0, 0, []),
  (20, .iadd, 0, 0, 0, []),
  (21, .iaload, 0, 0, 0, []),
  (22, .iconst 1, 1, 0, 0, []),
  (23, .if_icmp .ne 7, 0, 30, 0, []),
  (26, .iconst 1, 1, 0, 0, []),
  (27, .goto 4, 0, 31, 0, []),
  (30, .iconst 0, 0, 0, 0, []),
  (31, .ireturn, 0, 0, 0, [])])
def m_M_read : sm_M := (⟨"SpansAwayModel", "read", "(III)I"⟩, prog_12_method_52_code, 4, (some .int), (5, 116, 10, 904), [
  (0, .aload_n 0, 0, 0, 0, []),
  (1, .iconst 0, 0, 0, 0, []),
  (2, .putfield 1, 0, 900, 0, []),
  (5, .aload_n 0, 0, 0, 0, []),
  (6, .iload_n 1, 0, 0, 0, []),
  (7, .iload_n 2, 0, 0, 0, []),
  (8, .invokevirtual 160, 0, 174, 903, [(0, 0)]),
  (11, .ifCond .eq 31, 0, 42, 0, []),
  (14, .aload_n 0, 0, 0, 0, []),
  (15, .iload_n 3, 0, 0, 0, []),
  (16, .iconst 0, 0, 0, 0, []),
  (17, .aload_n 0, 0, 0, 0, []),
  (18, .iload_n 2, 0, 0, 0, []),
  (19, .invokevirtual 94, 0, 163, 902, [(0, 0)]),
  (22, .iconst 1, 1, 0, 0, []),
  (23, .isub, 0, 0, 0, []),
  (24, .invokevirtual 47, 0, 137, 904, [(0, 0)]),
  (27, .ifCond .eq 15, 0, 42, 0, []),
  (30, .aload_n 0, 0, 0, 0, []),
  (31, .iload_n 1, 0, 0, 0, []),
  (32, .iload_n 2, 0, 0, 0, []),
  (33, .iconst 0, 0, 0, 0, []),
  (34, .iload_n 3, 0, 0, 0, []),
  (35, .iconst 0, 0, 0, 0, []),
  (36, .invokevirtual 163, 0, 175, 906, [(0, 0)]),
  (39, .goto 4, 0, 43, 0, []),
  (42, .iconst (-1), (-1), 0, 0, []),
  (43, .ireturn, 0, 0, 0, [])])
def m_M_canDo : sm_M := (⟨"SpansAwayModel", "canDo", "(II)Z"⟩, prog_12_method_51_code, 3, (some .boolean), (2, 42, 10, 903), [
  (0, .aload_n 0, 0, 0, 0, []),
  (1, .iload_n 1, 0, 0, 0, []),
  (2, .invokevirtual 54, 0, 140, 902, [(0, 0)]),
  (5, .ifCond .eq 30, 0, 35, 0, []),
  (8, .aload_n 0, 0, 0, 0, []),
  (9, .getfield 13, 0, 901, 0, []),
  (12, .aload_n 0, 0, 0, 0, []),
  (13, .iload_n 1, 0, 0, 0, []),
  (14, .invokevirtual 58, 0, 141, 902, [(0, 0)]),
  (17, .iconst 1, 1, 0, 0, []),
  (18, .iadd, 0, 0, 0, []),
  (19, .iaload, 0, 0, 0, []),
  (20, .ifCond .ne 15, 0, 35, 0, []),
  (23, .aload_n 0, 0, 0, 0, []),
  (24, .iload_n 2, 0, 0, 0, []),
  (25, .invokevirtual 147, 0, 172, 902, [(0, 0)]),
  (28, .ifCond .eq 7, 0, 35, 0, []),
  (31, .iconst 1, 1, 0, 0, []),
  (32, .goto 4, 0, 36, 0, []),
  (35, .iconst 0, 0, 0, 0, []),
  (36, .ireturn, 0, 0, 0, [])])
def m_M_wants : sm_M := (⟨"SpansAwayModel", "wants", "(IIIII)I"⟩, prog_12_method_49_code, 7, (some .int), (4, 90, 10, 906), [
  (0, .aload_n 0, 0, 0, 0, []),
  (1, .iload_n 2, 0, 0, 0, []),
  (2, .invokevirtual 120, 0, 156, 902, [(0, 0)]),
  (5, .ifCond .ne 16, 0, 21, 0, []),
  (8, .aload_n 0, 0, 0, 0, []),
  (9, .iload_n 1, 0, 0, 0, []),
  (10, .iload_n 2, 0, 0, 0, []),
  (11, .iload_n 3, 0, 0, 0, []),
  (12, .iload 4, 0, 0, 0, []),
  (14, .iload 5, 0, 0, 0, []),
  (16, .invokevirtual 156, 0, 176, 906, []),
  (19, .iconst 0, 0, 0, 0, []),
  (20, .ireturn, 0, 0, 0, []),
  (21, .aload_n 0, 0, 0, 0, []),
  (22, .iload_n 1, 0, 0, 0, []),
  (23, .invokevirtual 58, 0, 141, 902, [(0, 0)]),
  (26, .istore 6, 0, 0, 0, []),
  (28, .aload_n 0, 0, 0, 0, []),
  (29, .getfield 13, 0, 901, 0, []),
  (32, .iload 6, 0, 0, 0, []),
  (34, .iconst 1, 1, 0, 0, []),
  (35, .iadd, 0, 0, 0, []),
  (36, .iload_n 2, 0, 0, 0, []),
  (37, .iconst 1, 1, 0, 0, []),
  (38, .iadd, 0, 0, 0, []),
  (39, .iastore, 0, 0, 0, []),
  (40, .aload_n 0, 0, 0, 0, []),
  (41, .getfield 13, 0, 901, 0, []),
  (44, .iload 6, 0, 0, 0, []),
  (46, .iconst 2, 2, 0, 0, []),
  (47, .iadd, 0, 0, 0, []),
  (48, .iload_n 3, 0, 0, 0, []),
  (49, .iastore, 0, 0, 0, []),
  (50, .aload_n 0, 0, 0, 0, []),
  (51, .getfield 13, 0, 901, 0, []),
  (54, .iload 6, 0, 0, 0, []),
  (56, .iconst 3, 3, 0, 0, []),
  (57, .iadd, 0, 0, 0, []),
  (58, .iload 4, 0, 0, 0, []),
  (60, .iastore, 0, 0, 0, []),
  (61, .aload_n 0, 0, 0, 0, []),
  (62, .getfield 13, 0, 901, 0, []),
  (65, .iload 6, 0, 0, 0, []),
  (67, .iconst 4, 4, 0, 0, []),
  (68, .iadd, 0, 0, 0, []),
  (69, .iload 5, 0, 0, 0, []),
  (71, .iastore, 0, 0, 0, []),
  (72, .aload_n 0, 0, 0, 0, []),
  (73, .iload_n 2, 0, 0, 0, []),
  (74, .bipush 10, 10, 0, 0, []),
  (76, .aload_n 0, 0, 0, 0, []),
  (77, .iload_n 2, 0, 0, 0, []),
  (78, .bipush 9, 9, 0, 0, []),
  (80, .invokevirtual 80, 0, 153, 903, [(0, 0)]),
  (83, .iadd, 0, 0, 0, []),
  (84, .iload_n 1, 0, 0, 0, []),
  (85, .invokevirtual 104, 0, 166, 904, []),
  (88, .aload_n 0, 0, 0, 0, []),
  (89, .iload_n 2, 0, 0, 0, []),
  (90, .bipush 9, 9, 0, 0, []),
  (92, .aload_n 0, 0, 0, 0, []),
  (93, .iload_n 2, 0, 0, 0, []),
  (94, .bipush 9, 9, 0, 0, []),
  (96, .invokevirtual 80, 0, 153, 903, [(0, 0)]),
  (99, .iconst 1, 1, 0, 0, []),
  (100, .iadd, 0, 0, 0, []),
  (101, .invokevirtual 104, 0, 166, 904, []),
  (104, .aload_n 0, 0, 0, 0, []),
  (105, .bipush 7, 7, 0, 0, []),
  (107, .iload_n 1, 0, 0, 0, []),
  (108, .iload_n 2, 0, 0, 0, []),
  (109, .invokevirtual 108, 0, 159, 904, []),
  (112, .aload_n 0, 0, 0, 0, []),
  (113, .bipush 8, 8, 0, 0, []),
  (115, .iconst 1, 1, 0, 0, []),
  (116, .invokevirtual 111, 0, 161, 903, []),
  (119, .iconst 1, 1, 0, 0, []),
  (120, .ireturn, 0, 0, 0, [])])
def m_M_does : sm_M := (⟨"SpansAwayModel", "does", "(IIIII)V"⟩, prog_12_method_48_code, 6, none, (3, 65, 10, 906), [
  (0, .iload_n 3, 0, 0, 0, []),
  (1, .iconst 2, 2, 0, 0, []),
  (2, .if_icmp .ne 20, 0, 22, 0, []),
  (5, .aload_n 0, 0, 0, 0, []),
  (6, .iload_n 2, 0, 0, 0, []),
  (7, .iconst 5, 5, 0, 0, []),
  (8, .aload_n 0, 0, 0, 0, []),
  (9, .iload_n 2, 0, 0, 0, []),
  (10, .iconst 5, 5, 0, 0, []),
  (11, .invokevirtual 80, 0, 153, 903, [(0, 0)]),
  (14, .iconst 1, 1, 0, 0, []),
  (15, .iload_n 1, 0, 0, 0, []),
  (16, .ishl, 0, 0, 0, []),
  (17, .ior, 0, 0, 0, []),
  (18, .invokevirtual 104, 0, 166, 904, []),
  (21, .return_, 0, 0, 0, []),
  (22, .aload_n 0, 0, 0, 0, []),
  (23, .iload_n 2, 0, 0, 0, []),
  (24, .invokevirtual 150, 0, 177, 902, []),
  (27, .iload_n 3, 0, 0, 0, []),
  (28, .ifCond .ne 30, 0, 58, 0, []),
  (31, .aload_n 0, 0, 0, 0, []),
  (32, .getfield 13, 0, 901, 0, []),
  (35, .aload_n 0, 0, 0, 0, []),
  (36, .iload_n 1, 0, 0, 0, []),
  (37, .invokevirtual 58, 0, 141, 902, [(0, 0)]),
  (40, .iconst 5, 5, 0, 0, []),
  (41, .iadd, 0, 0, 0, []),
  (42, .aload_n 0, 0, 0, 0, []),
  (43, .aload_n 0, 0, 0, 0, []),
  (44, .iload_n 2, 0, 0, 0, []),
  (45, .invokevirtual 97, 0, 158, 902, [(0, 0)]),
  (48, .iload 4, 0, 0, 0, []),
  (50, .iadd, 0, 0, 0, []),
  (51, .invokevirtual 153, 0, 178, 902, [(0, 0)]),
  (54, .iastore, 0, 0, 0, []),
  (55, .goto 17, 0, 72, 0, []),
  (58, .aload_n 0, 0, 0, 0, []),
  (59, .aload_n 0, 0, 0, 0, []),
  (60, .iload_n 2, 0, 0, 0, []),
  (61, .invokevirtual 97, 0, 158, 902, [(0, 0)]),
  (64, .iload 4, 0, 0, 0, []),
  (66, .iadd, 0, 0, 0, []),
  (67, .iload 5, 0, 0, 0, []),
  (69, .invokevirtual 144, 0, 170, 903, []),
  (72, .return_, 0, 0, 0, [])])
def m_M_uses : sm_M := (⟨"SpansAwayModel", "uses", "(I)V"⟩, prog_12_method_47_code, 2, none, (2, 44, 10, 902), [
  (0, .aload_n 0, 0, 0, 0, []),
  (1, .bipush 6, 6, 0, 0, []),
  (3, .iconst 1, 1, 0, 0, []),
  (4, .invokevirtual 43, 0, 160, 903, []),
  (7, .aload_n 0, 0, 0, 0, []),
  (8, .iload_n 1, 0, 0, 0, []),
  (9, .bipush 8, 8, 0, 0, []),
  (11, .aload_n 0, 0, 0, 0, []),
  (12, .getfield 13, 0, 901, 0, []),
  (15, .bipush 6, 6, 0, 0, []),
  (17, .iaload, 0, 0, 0, []),
  (18, .invokevirtual 104, 0, 166, 904, []),
  (21, .return_, 0, 0, 0, [])])
def m_M_valueOf : sm_M := (⟨"SpansAwayModel", "valueOf", "(I)I"⟩, prog_12_method_27_code, 2, (some .int), (1, 21, 10, 902), [
  (0, .aload_n 0, 0, 0, 0, []),
  (1, .getfield 13, 0, 901, 0, []),
  (4, .aload_n 0, 0, 0, 0, []),
  (5, .iload_n 1, 0, 0, 0, []),
  (6, .invokevirtual 37, 0, 135, 902, [(0, 0)]),
  (9, .iconst 2, 2, 0, 0, []),
  (10, .iadd, 0, 0, 0, []),
  (11, .iaload, 0, 0, 0, []),
  (12, .ireturn, 0, 0, 0, [])])
def m_M_write : sm_M := (⟨"SpansAwayModel", "write", "(IIII)I"⟩, prog_12_method_53_code, 5, (some .int), (5, 116, 10, 905), [
  (0, .aload_n 0, 0, 0, 0, []),
  (1, .iconst 0, 0, 0, 0, []),
  (2, .putfield 1, 0, 900, 0, []),
  (5, .aload_n 0, 0, 0, 0, []),
  (6, .iload_n 1, 0, 0, 0, []),
  (7, .iload_n 2, 0, 0, 0, []),
  (8, .invokevirtual 160, 0, 174, 903, [(0, 0)]),
  (11, .ifCond .eq 32, 0, 43, 0, []),
  (14, .aload_n 0, 0, 0, 0, []),
  (15, .iload_n 3, 0, 0, 0, []),
  (16, .iconst 0, 0, 0, 0, []),
  (17, .aload_n 0, 0, 0, 0, []),
  (18, .iload_n 2, 0, 0, 0, []),
  (19, .invokevirtual 94, 0, 163, 902, [(0, 0)]),
  (22, .iconst 1, 1, 0, 0, []),
  (23, .isub, 0, 0, 0, []),
  (24, .invokevirtual 47, 0, 137, 904, [(0, 0)]),
  (27, .ifCond .eq 16, 0, 43, 0, []),
  (30, .aload_n 0, 0, 0, 0, []),
  (31, .iload_n 1, 0, 0, 0, []),
  (32, .iload_n 2, 0, 0, 0, []),
  (33, .iconst 1, 1, 0, 0, []),
  (34, .iload_n 3, 0, 0, 0, []),
  (35, .iload 4, 0, 0, 0, []),
  (37, .invokevirtual 163, 0, 175, 906, [(0, 0)]),
  (40, .goto 4, 0, 44, 0, []),
  (43, .iconst (-1), (-1), 0, 0, []),
  (44, .ireturn, 0, 0, 0, [])])
def m_M_pin : sm_M := (⟨"SpansAwayModel", "pin", "(II)I"⟩, prog_12_method_55_code, 3, (some .int), (5, 116, 10, 903), [
  (0, .aload_n 0, 0, 0, 0, []),
  (1, .iconst 0, 0, 0, 0, []),
  (2, .putfield 1, 0, 900, 0, []),
  (5, .aload_n 0, 0, 0, 0, []),
  (6, .iload_n 1, 0, 0, 0, []),
  (7, .iload_n 2, 0, 0, 0, []),
  (8, .invokevirtual 160, 0, 174, 903, [(0, 0)]),
  (11, .ifCond .eq 24, 0, 35, 0, []),
  (14, .aload_n 0, 0, 0, 0, []),
  (15, .iload_n 1, 0, 0, 0, []),
  (16, .iload_n 2, 0, 0, 0, []),
  (17, .invokevirtual 167, 0, 181, 903, [(0, 0)]),
  (20, .ifCond .ne 15, 0, 35, 0, []),
  (23, .aload_n 0, 0, 0, 0, []),
  (24, .iload_n 1, 0, 0, 0, []),
  (25, .iload_n 2, 0, 0, 0, []),
  (26, .iconst 2, 2, 0, 0, []),
  (27, .iconst 0, 0, 0, 0, []),
  (28, .iconst 0, 0, 0, 0, []),
  (29, .invokevirtual 163, 0, 175, 906, [(0, 0)]),
  (32, .goto 4, 0, 36, 0, []),
  (35, .iconst (-1), (-1), 0, 0, []),
  (36, .ireturn, 0, 0, 0, [])])
def m_M_hasPin : sm_M := (⟨"SpansAwayModel", "hasPin", "(II)Z"⟩, prog_12_method_54_code, 3, (some .boolean), (2, 43, 10, 903), [
  (0, .aload_n 0, 0, 0, 0, []),
  (1, .iload_n 2, 0, 0, 0, []),
  (2, .iconst 5, 5, 0, 0, []),
  (3, .invokevirtual 80, 0, 153, 903, [(0, 0)]),
  (6, .iload_n 1, 0, 0, 0, []),
  (7, .ishr, 0, 0, 0, []),
  (8, .iconst 1, 1, 0, 0, []),
  (9, .iand, 0, 0, 0, []),
  (10, .iconst 1, 1, 0, 0, []),
  (11, .if_icmp .ne 7, 0, 18, 0, []),
  (14, .iconst 1, 1, 0, 0, []),
  (15, .goto 4, 0, 19, 0, []),
  (18, .iconst 0, 0, 0, 0, []),
  (19, .ireturn, 0, 0, 0, [])])
def m_M_unpin : sm_M := (⟨"SpansAwayModel", "unpin", "(II)Z"⟩, prog_12_method_56_code, 3, (some .boolean), (3, 65, 10, 903), [
  (0, .aload_n 0, 0, 0, 0, []),
  (1, .iconst 0, 0, 0, 0, []),
  (2, .putfield 1, 0, 900, 0, []),
  (5, .aload_n 0, 0, 0, 0, []),
  (6, .iload_n 1, 0, 0, 0, []),
  (7, .invokevirtual 54, 0, 140, 902, [(0, 0)]),
  (10, .ifCond .eq 20, 0, 30, 0, []),
  (13, .aload_n 0, 0, 0, 0, []),
  (14, .iload_n 2, 0, 0, 0, []),
  (15, .invokevirtual 147, 0, 172, 902, [(0, 0)]),
  (18, .ifCond .eq 12, 0, 30, 0, []),
  (21, .aload_n 0, 0, 0, 0, []),
  (22, .iload_n 1, 0, 0, 0, []),
  (23, .iload_n 2, 0, 0, 0, []),
  (24, .invokevirtual 167, 0, 181, 903, [(0, 0)]),
  (27, .ifCond .ne 5, 0, 32, 0, []),
  (30, .iconst 0, 0, 0, 0, []),
  (31, .ireturn, 0, 0, 0, []),
  (32, .aload_n 0, 0, 0, 0, []),
  (33, .iload_n 2, 0, 0, 0, []),
  (34, .iconst 5, 5, 0, 0, []),
  (35, .aload_n 0, 0, 0, 0, []),
  (36, .iload_n 2, 0, 0, 0, []),
  (37, .iconst 5, 5, 0, 0, []),
  (38, .invokevirtual 80, 0, 153, 903, [(0, 0)]),
  (41, .iconst 1, 1, 0, 0, []),
  (42, .iload_n 1, 0, 0, 0, []),
  (43, .ishl, 0, 0, 0, []),
  (44, .iconst (-1), (-1), 0, 0, []),
  (45, .ixor, 0, 0, 0, []),
  (46, .iand, 0, 0, 0, []),
  (47, .invokevirtual 104, 0, 166, 904, []),
  (50, .iconst 1, 1, 0, 0, []),
  (51, .ireturn, 0, 0, 0, [])])
def m_M_press : sm_M := (⟨"SpansAwayModel", "press", "(I)I"⟩, prog_12_method_61_code, 2, (some .int), (6, 132, 10, 902), [
  (0, .aload_n 0, 0, 0, 0, []),
  (1, .iconst 0, 0, 0, 0, []),
  (2, .putfield 1, 0, 900, 0, []),
  (5, .aload_n 0, 0, 0, 0, []),
  (6, .iload_n 1, 0, 0, 0, []),
  (7, .invokevirtual 179, 0, 184, 902, [(0, 0)]),
  (10, .ifCond .eq 20, 0, 30, 0, []),
  (13, .aload_n 0, 0, 0, 0, []),
  (14, .iload_n 1, 0, 0, 0, []),
  (15, .invokevirtual 64, 0, 147, 902, [(0, 0)]),
  (18, .iconst 1, 1, 0, 0, []),
  (19, .if_icmp .ne 11, 0, 30, 0, []),
  (22, .aload_n 0, 0, 0, 0, []),
  (23, .iload_n 1, 0, 0, 0, []),
  (24, .invokevirtual 182, 0, 185, 902, [(0, 0)]),
  (27, .goto 4, 0, 31, 0, []),
  (30, .iconst (-1), (-1), 0, 0, []),
  (31, .ireturn, 0, 0, 0, [])])
def m_M_isSpan : sm_M := (⟨"SpansAwayModel", "isSpan", "(I)Z"⟩, prog_12_method_15_code, 2, (some .boolean), (0, 0, 10, 902), [
  (0, .iload_n 1, 0, 0, 0, []),
  (1, .ifCond .lt 13, 0, 14, 0, []),
  (4, .iload_n 1, 0, 0, 0, []),
  (5, .bipush 8, 8, 0, 0, []),
  (7, .if_icmp .ge 7, 0, 14, 0, []),
  (10, .iconst 1, 1, 0, 0, []),
  (11, .goto 4, 0, 15, 0, []),
  (14, .iconst 0, 0, 0, 0, []),
  (15, .ireturn, 0, 0, 0, [])])
def m_M_presses : sm_M := (⟨"SpansAwayModel", "presses", "(I)I"⟩, prog_12_method_60_code, 5, (some .int), (5, 108, 10, 902), [
  (0, .iconst 0, 0, 0, 0, []),
  (1, .istore_n 2, 0, 0, 0, []),
  (2, .iconst 0, 0, 0, 0, []),
  (3, .istore_n 3, 0, 0, 0, []),
  (4, .iload_n 3, 0, 0, 0, []),
  (5, .bipush 96, 96, 0, 0, []),
  (7, .if_icmp .ge 16, 0, 23, 0, []),
  (10, .aload_n 0, 0, 0, 0, []),
  (11, .getfield 23, 0, 904, 0, []),
  (14, .iload_n 3, 0, 0, 0, []),
  (15, .iconst 0, 0, 0, 0, []),
  (16, .bastore, 0, 0, 0, []),
  (17, .iinc 3 1, 1, 0, 0, []),
  (20, .goto (-16), 0, 4, 0, []),
  (23, .aload_n 0, 0, 0, 0, []),
  (24, .iload_n 1, 0, 0, 0, []),
  (25, .invokevirtual 173, 0, 186, 902, [(0, 0)]),
  (28, .istore_n 3, 0, 0, 0, []),
  (29, .iload_n 3, 0, 0, 0, []),
  (30, .iconst (-1), (-1), 0, 0, []),
  (31, .if_icmp .eq 87, 0, 118, 0, []),
  (34, .aload_n 0, 0, 0, 0, []),
  (35, .getfield 23, 0, 904, 0, []),
  (38, .iload_n 3, 0, 0, 0, []),
  (39, .iconst 1, 1, 0, 0, []),
  (40, .bastore, 0, 0, 0, []),
  (41, .bipush 32, 32, 0, 0, []),
  (43, .iload_n 1, 0, 0, 0, []),
  (44, .imul, 0, 0, 0, []),
  (45, .istore 4, 0, 0, 0, []),
  (47, .iload 4, 0, 0, 0, []),
  (49, .aload_n 0, 0, 0, 0, []),
  (50, .iload_n 3, 0, 0, 0, []),
  (51, .invokevirtual 97, 0, 158, 902, [(0, 0)]),
  (54, .if_icmp .ge 31, 0, 85, 0, []),
  (57, .aload_n 0, 0, 0, 0, []),
  (58, .iload 4, 0, 0, 0, []),
  (60, .aload_n 0, 0, 0, 0, []),
  (61, .iload_n 3, 0, 0, 0, []),
  (62, .iconst 2, 2, 0, 0, []),
  (63, .invokevirtual 80, 0, 153, 903, [(0, 0)]),
  (66, .invokevirtual 76, 0, 148, 903, [(0, 0)]),
  (69, .ifCond .ne 16, 0, 85, 0, []),
  (72, .iload 4, 0, 0, 0, []),
  (74, .aload_n 0, 0, 0, 0, []),
  (75, .iload_n 3, 0, 0, 0, []),
  (76, .invokevirtual 94, 0, 163, 902, [(0, 0)]),
  (79, .iadd, 0, 0, 0, []),
  (80, .istore 4, 0, 0, 0, []),
  (82, .goto (-35), 0, 47, 0, []),
  (85, .iload 4, 0, 0, 0, []),
  (87, .aload_n 0, 0, 0, 0, []),
  (88, .iload_n 3, 0, 0, 0, []),
  (89, .invokevirtual 97, 0, 158, 902, [(0, 0)]),
  (92, .if_icmp .lt 6, 0, 98, 0, []),
  (95, .goto 14, 0, 109, 0, []),
  (98, .aload_n 0, 0, 0, 0, []),
  (99, .iload_n 3, 0, 0, 0, []),
  (100, .iload 4, 0, 0, 0, []),
  (102, .invokevirtual 176, 0, 188, 903, []),
  (105, .iload_n 2, 0, 0, 0, []),
  (106, .iconst 1, 1, 0, 0, []),
  (107, .iadd, 0, 0, 0, []),
  (108, .istore_n 2, 0, 0, 0, []),
  (109, .aload_n 0, 0, 0, 0, []),
  (110, .iload_n 1, 0, 0, 0, []),
  (111, .invokevirtual 173, 0, 186, 902, [(0, 0)]),
  (114, .istore_n 3, 0, 0, 0, []),
  (115, .goto (-86), 0, 29, 0, []),
  (118, .iload_n 2, 0, 0, 0, []),
  (119, .ireturn, 0, 0, 0, [])])
def m_M_nextToPress : sm_M := (⟨"SpansAwayModel", "nextToPress", "(I)I"⟩, prog_12_method_59_code, 4, (some .int), (4, 85, 10, 902), [
  (0, .iconst (-1), (-1), 0, 0, []),
  (1, .istore_n 2, 0, 0, 0, []),
  (2, .iconst 0, 0, 0, 0, []),
  (3, .istore_n 3, 0, 0, 0, []),
  (4, .iload_n 3, 0, 0, 0, []),
  (5, .bipush 96, 96, 0, 0, []),
  (7, .if_icmp .ge 67, 0, 74, 0, []),
  (10, .aload_n 0, 0, 0, 0, []),
  (11, .iload_n 3, 0, 0, 0, []),
  (12, .invokevirtual 147, 0, 172, 902, [(0, 0)]),
  (15, .ifCond .eq 53, 0, 68, 0, []),
  (18, .aload_n 0, 0, 0, 0, []),
  (19, .getfield 23, 0, 904, 0, []),
  (22, .iload_n 3, 0, 0, 0, []),
  (23, .baload, 0, 0, 0, []),
  (24, .ifCond .ne 44, 0, 68, 0, []),
  (27, .aload_n 0, 0, 0, 0, []),
  (28, .aload_n 0, 0, 0, 0, []),
  (29, .iload_n 3, 0, 0, 0, []),
  (30, .invokevirtual 97, 0, 158, 902, [(0, 0)]),
  (33, .invokevirtual 67, 0, 144, 902, [(0, 0)]),
  (36, .iload_n 1, 0, 0, 0, []),
  (37, .if_icmp .ne 31, 0, 68, 0, []),
  (40, .aload_n 0, 0, 0, 0, []),
  (41, .iload_n 3, 0, 0, 0, []),
  (42, .invokevirtual 170, 0, 187, 902, [(0, 0)]),
  (45, .ifCond .eq 23, 0, 68, 0, []),
  (48, .iload_n 2, 0, 0, 0, []),
  (49, .iconst (-1), (-1), 0, 0, []),
  (50, .if_icmp .eq 16, 0, 66, 0, []),
  (53, .aload_n 0, 0, 0, 0, []),
  (54, .iload_n 3, 0, 0, 0, []),
  (55, .invokevirtual 97, 0, 158, 902, [(0, 0)]),
  (58, .aload_n 0, 0, 0, 0, []),
  (59, .iload_n 2, 0, 0, 0, []),
  (60, .invokevirtual 97, 0, 158, 902, [(0, 0)]),
  (63, .if_icmp .le 5, 0, 68, 0, []),
  (66, .iload_n 3, 0, 0, 0, []),
  (67, .istore_n 2, 0, 0, 0, []),
  (68, .iinc 3 1, 1, 0, 0, []),
  (71, .goto (-67), 0, 4, 0, []),
  (74, .iload_n 2, 0, 0, 0, []),
  (75, .ireturn, 0, 0, 0, [])])
def m_M_isLoose : sm_M := (⟨"SpansAwayModel", "isLoose", "(I)Z"⟩, prog_12_method_58_code, 2, (some .boolean), (3, 64, 10, 902), [
  (0, .aload_n 0, 0, 0, 0, []),
  (1, .iload_n 1, 0, 0, 0, []),
  (2, .iconst 3, 3, 0, 0, []),
  (3, .invokevirtual 80, 0, 153, 903, [(0, 0)]),
  (6, .ifCond .ne 23, 0, 29, 0, []),
  (9, .aload_n 0, 0, 0, 0, []),
  (10, .iload_n 1, 0, 0, 0, []),
  (11, .invokevirtual 117, 0, 155, 902, [(0, 0)]),
  (14, .ifCond .ne 15, 0, 29, 0, []),
  (17, .aload_n 0, 0, 0, 0, []),
  (18, .iload_n 1, 0, 0, 0, []),
  (19, .invokevirtual 120, 0, 156, 902, [(0, 0)]),
  (22, .ifCond .ne 7, 0, 29, 0, []),
  (25, .iconst 1, 1, 0, 0, []),
  (26, .goto 4, 0, 30, 0, []),
  (29, .iconst 0, 0, 0, 0, []),
  (30, .ireturn, 0, 0, 0, [])])
def m_M_movesTo : sm_M := (⟨"SpansAwayModel", "movesTo", "(II)V"⟩, prog_12_method_57_code, 5, none, (3, 64, 10, 903), [
  (0, .aload_n 0, 0, 0, 0, []),
  (1, .iload_n 1, 0, 0, 0, []),
  (2, .invokevirtual 97, 0, 158, 902, [(0, 0)]),
  (5, .istore_n 3, 0, 0, 0, []),
  (6, .iconst 0, 0, 0, 0, []),
  (7, .istore 4, 0, 0, 0, []),
  (9, .iload 4, 0, 0, 0, []),
  (11, .aload_n 0, 0, 0, 0, []),
  (12, .iload_n 1, 0, 0, 0, []),
  (13, .invokevirtual 94, 0, 163, 902, [(0, 0)]),
  (16, .if_icmp .ge 43, 0, 59, 0, []),
  (19, .aload_n 0, 0, 0, 0, []),
  (20, .iload_n 2, 0, 0, 0, []),
  (21, .iload 4, 0, 0, 0, []),
  (23, .iadd, 0, 0, 0, []),
  (24, .iload_n 1, 0, 0, 0, []),
  (25, .iconst 3, 3, 0, 0, []),
  (26, .invokevirtual 123, 0, 169, 904, []),
  (29, .aload_n 0, 0, 0, 0, []),
  (30, .iload_n 2, 0, 0, 0, []),
  (31, .iload 4, 0, 0, 0, []),
  (33, .iadd, 0, 0, 0, []),
  (34, .aload_n 0, 0, 0, 0, []),
  (35, .iload_n 3, 0, 0, 0, []),
  (36, .iload 4, 0, 0, 0, []),
  (38, .iadd, 0, 0, 0, []),
  (39, .invokevirtual 153, 0, 178, 902, [(0, 0)]),
  (42, .invokevirtual 144, 0, 170, 903, []),
  (45, .aload_n 0, 0, 0, 0, []),
  (46, .iload_n 3, 0, 0, 0, []),
  (47, .iload 4, 0, 0, 0, []),
  (49, .iadd, 0, 0, 0, []),
  (50, .invokevirtual 100, 0, 164, 902, []),
  (53, .iinc 4 1, 1, 0, 0, []),
  (56, .goto (-47), 0, 9, 0, []),
  (59, .aload_n 0, 0, 0, 0, []),
  (60, .iload_n 1, 0, 0, 0, []),
  (61, .iconst 1, 1, 0, 0, []),
  (62, .iload_n 2, 0, 0, 0, []),
  (63, .invokevirtual 104, 0, 166, 904, []),
  (66, .aload_n 0, 0, 0, 0, []),
  (67, .bipush 10, 10, 0, 0, []),
  (69, .iconst 1, 1, 0, 0, []),
  (70, .invokevirtual 111, 0, 161, 903, []),
  (73, .return_, 0, 0, 0, [])])
def m_M_gather : sm_M := (⟨"SpansAwayModel", "gather", "(I)I"⟩, prog_12_method_62_code, 5, (some .int), (6, 140, 10, 902), [
  (0, .aload_n 0, 0, 0, 0, []),
  (1, .iconst 0, 0, 0, 0, []),
  (2, .putfield 1, 0, 900, 0, []),
  (5, .aload_n 0, 0, 0, 0, []),
  (6, .iload_n 1, 0, 0, 0, []),
  (7, .invokevirtual 54, 0, 140, 902, [(0, 0)]),
  (10, .ifCond .ne 5, 0, 15, 0, []),
  (13, .iconst (-1), (-1), 0, 0, []),
  (14, .ireturn, 0, 0, 0, []),
  (15, .iconst 0, 0, 0, 0, []),
  (16, .istore_n 2, 0, 0, 0, []),
  (17, .iconst 0, 0, 0, 0, []),
  (18, .istore_n 3, 0, 0, 0, []),
  (19, .iload_n 3, 0, 0, 0, []),
  (20, .bipush 96, 96, 0, 0, []),
  (22, .if_icmp .ge 120, 0, 142, 0, []),
  (25, .aload_n 0, 0, 0, 0, []),
  (26, .iload_n 3, 0, 0, 0, []),
  (27, .invokevirtual 147, 0, 172, 902, [(0, 0)]),
  (30, .ifCond .eq 106, 0, 136, 0, []),
  (33, .aload_n 0, 0, 0, 0, []),
  (34, .iload_n 3, 0, 0, 0, []),
  (35, .iconst 4, 4, 0, 0, []),
  (36, .invokevirtual 80, 0, 153, 903, [(0, 0)]),
  (39, .iload_n 1, 0, 0, 0, []),
  (40, .if_icmp .ne 96, 0, 136, 0, []),
  (43, .aload_n 0, 0, 0, 0, []),
  (44, .iload_n 3, 0, 0, 0, []),
  (45, .invokevirtual 170, 0, 187, 902, [(0, 0)]),
  (48, .ifCond .eq 88, 0, 136, 0, []),
  (51, .aload_n 0, 0, 0, 0, []),
  (52, .aload_n 0, 0, 0, 0, []),
  (53, .aload_n 0, 0, 0, 0, []),
  (54, .iload_n 3, 0, 0, 0, []),
  (55, .invokevirtual 97, 0, 158, 902, [(0, 0)]),
  (58, .invokevirtual 67, 0, 144, 902, [(0, 0)]),
  (61, .invokevirtual 64, 0, 147, 902, [(0, 0)]),
  (64, .iconst 1, 1, 0, 0, []),
  (65, .if_icmp .eq 6, 0, 71, 0, []),
  (68, .goto 68, 0, 136, 0, []),
  (71, .aload_n 0, 0, 0, 0, []),
  (72, .iload_n 1, 0, 0, 0, []),
  (73, .iconst 0, 0, 0, 0, []),
  (74, .aload_n 0, 0, 0, 0, []),
  (75, .iload_n 3, 0, 0, 0, []),
  (76, .iconst 2, 2, 0, 0, []),
  (77, .invokevirtual 80, 0, 153, 903, [(0, 0)]),
  (80, .iconst 1, 1, 0, 0, []),
  (81, .invokevirtual 126, 0, 143, 905, [(0, 0)]),
  (84, .istore 4, 0, 0, 0, []),
  (86, .iload 4, 0, 0, 0, []),
  (88, .iconst (-1), (-1), 0, 0, []),
  (89, .if_icmp .eq 47, 0, 136, 0, []),
  (92, .aload_n 0, 0, 0, 0, []),
  (93, .aload_n 0, 0, 0, 0, []),
  (94, .iload 4, 0, 0, 0, []),
  (96, .invokevirtual 67, 0, 144, 902, [(0, 0)]),
  (99, .iconst 0, 0, 0, 0, []),
  (100, .iload_n 1, 0, 0, 0, []),
  (101, .invokevirtual 87, 0, 145, 904, [(0, 0)]),
  (104, .aload_n 0, 0, 0, 0, []),
  (105, .aload_n 0, 0, 0, 0, []),
  (106, .aload_n 0, 0, 0, 0, []),
  (107, .iload_n 3, 0, 0, 0, []),
  (108, .invokevirtual 97, 0, 158, 902, [(0, 0)]),
  (111, .invokevirtual 67, 0, 144, 902, [(0, 0)]),
  (114, .iconst 0, 0, 0, 0, []),
  (115, .iload_n 1, 0, 0, 0, []),
  (116, .invokevirtual 87, 0, 145, 904, [(0, 0)]),
  (119, .if_icmp .lt 6, 0, 125, 0, []),
  (122, .goto 14, 0, 136, 0, []),
  (125, .aload_n 0, 0, 0, 0, []),
  (126, .iload_n 3, 0, 0, 0, []),
  (127, .iload 4, 0, 0, 0, []),
  (129, .invokevirtual 176, 0, 188, 903, []),
  (132, .iload_n 2, 0, 0, 0, []),
  (133, .iconst 1, 1, 0, 0, []),
  (134, .iadd, 0, 0, 0, []),
  (135, .istore_n 2, 0, 0, 0, []),
  (136, .iinc 3 1, 1, 0, 0, []),
  (139, .goto (-120), 0, 19, 0, []),
  (142, .iload_n 2, 0, 0, 0, []),
  (143, .ireturn, 0, 0, 0, [])])
def m_M_come : sm_M := (⟨"SpansAwayModel", "come", "(II)I"⟩, prog_12_method_66_code, 3, (some .int), (5, 106, 10, 903), [
  (0, .aload_n 0, 0, 0, 0, []),
  (1, .iconst 0, 0, 0, 0, []),
  (2, .putfield 1, 0, 900, 0, []),
  (5, .aload_n 0, 0, 0, 0, []),
  (6, .iload_n 1, 0, 0, 0, []),
  (7, .invokevirtual 179, 0, 184, 902, [(0, 0)]),
  (10, .ifCond .eq 21, 0, 31, 0, []),
  (13, .aload_n 0, 0, 0, 0, []),
  (14, .iload_n 1, 0, 0, 0, []),
  (15, .invokevirtual 64, 0, 147, 902, [(0, 0)]),
  (18, .ifCond .ne 13, 0, 31, 0, []),
  (21, .aload_n 0, 0, 0, 0, []),
  (22, .iload_n 2, 0, 0, 0, []),
  (23, .iconst 0, 0, 0, 0, []),
  (24, .iconst 2, 2, 0, 0, []),
  (25, .invokevirtual 47, 0, 137, 904, [(0, 0)]),
  (28, .ifCond .ne 5, 0, 33, 0, []),
  (31, .iconst (-1), (-1), 0, 0, []),
  (32, .ireturn, 0, 0, 0, []),
  (33, .aload_n 0, 0, 0, 0, []),
  (34, .iload_n 1, 0, 0, 0, []),
  (35, .iload_n 2, 0, 0, 0, []),
  (36, .iconst 2, 2, 0, 0, []),
  (37, .if_icmp .ne 10, 0, 47, 0, []),
  (40, .aload_n 0, 0, 0, 0, []),
  (41, .invokevirtual 191, 0, 191, 901, [(0, 0)]),
  (44, .goto 4, 0, 48, 0, []),
  (47, .iload_n 2, 0, 0, 0, []),
  (48, .invokevirtual 194, 0, 194, 903, [(0, 0)]),
  (51, .ireturn, 0, 0, 0, [])])
def m_M_zoneByRatio : sm_M := (⟨"SpansAwayModel", "zoneByRatio", "()I"⟩, prog_12_method_64_code, 1, (some .int), (4, 86, 10, 901), [
  (0, .bipush 100, 100, 0, 0, []),
  (2, .aload_n 0, 0, 0, 0, []),
  (3, .iconst 1, 1, 0, 0, []),
  (4, .invokevirtual 185, 0, 192, 902, [(0, 0)]),
  (7, .bipush 32, 32, 0, 0, []),
  (9, .iadd, 0, 0, 0, []),
  (10, .imul, 0, 0, 0, []),
  (11, .aload_n 0, 0, 0, 0, []),
  (12, .iconst 2, 2, 0, 0, []),
  (13, .invokevirtual 188, 0, 193, 902, [(0, 0)]),
  (16, .aload_n 0, 0, 0, 0, []),
  (17, .iconst 0, 0, 0, 0, []),
  (18, .invokevirtual 185, 0, 192, 902, [(0, 0)]),
  (21, .imul, 0, 0, 0, []),
  (22, .if_icmp .gt 7, 0, 29, 0, []),
  (25, .iconst 1, 1, 0, 0, []),
  (26, .goto 4, 0, 30, 0, []),
  (29, .iconst 0, 0, 0, 0, []),
  (30, .ireturn, 0, 0, 0, [])])
def m_M_framesOf : sm_M := (⟨"SpansAwayModel", "framesOf", "(I)I"⟩, prog_12_method_63_code, 4, (some .int), (3, 63, 10, 902), [
  (0, .iconst 0, 0, 0, 0, []),
  (1, .istore_n 2, 0, 0, 0, []),
  (2, .iconst 0, 0, 0, 0, []),
  (3, .istore_n 3, 0, 0, 0, []),
  (4, .iload_n 3, 0, 0, 0, []),
  (5, .bipush 8, 8, 0, 0, []),
  (7, .if_icmp .ge 23, 0, 30, 0, []),
  (10, .aload_n 0, 0, 0, 0, []),
  (11, .iload_n 3, 0, 0, 0, []),
  (12, .invokevirtual 84, 0, 146, 902, [(0, 0)]),
  (15, .iload_n 1, 0, 0, 0, []),
  (16, .if_icmp .ne 8, 0, 24, 0, []),
  (19, .iload_n 2, 0, 0, 0, []),
  (20, .bipush 32, 32, 0, 0, []),
  (22, .iadd, 0, 0, 0, []),
  (23, .istore_n 2, 0, 0, 0, []),
  (24, .iinc 3 1, 1, 0, 0, []),
  (27, .goto (-23), 0, 4, 0, []),
  (30, .iload_n 2, 0, 0, 0, []),
  (31, .ireturn, 0, 0, 0, [])])
def m_M_settingOf : sm_M := (⟨"SpansAwayModel", "settingOf", "(I)I"⟩, prog_12_method_10_code, 2, (some .int), (1, 21, 10, 902), [
  (0, .aload_n 0, 0, 0, 0, []),
  (1, .getfield 13, 0, 901, 0, []),
  (4, .iload_n 1, 0, 0, 0, []),
  (5, .iaload, 0, 0, 0, []),
  (6, .aload_n 0, 0, 0, 0, []),
  (7, .iload_n 1, 0, 0, 0, []),
  (8, .invokevirtual 40, 0, 138, 902, [(0, 0)]),
  (11, .iadd, 0, 0, 0, []),
  (12, .ireturn, 0, 0, 0, [])])
def m_M_comesOn : sm_M := (⟨"SpansAwayModel", "comesOn", "(II)I"⟩, prog_12_method_65_code, 4, (some .int), (2, 46, 10, 903), [
  (0, .aload_n 0, 0, 0, 0, []),
  (1, .getfield 13, 0, 901, 0, []),
  (4, .aload_n 0, 0, 0, 0, []),
  (5, .iload_n 1, 0, 0, 0, []),
  (6, .invokevirtual 33, 0, 134, 902, [(0, 0)]),
  (9, .iconst 0, 0, 0, 0, []),
  (10, .iadd, 0, 0, 0, []),
  (11, .iconst 1, 1, 0, 0, []),
  (12, .iastore, 0, 0, 0, []),
  (13, .aload_n 0, 0, 0, 0, []),
  (14, .getfield 13, 0, 901, 0, []),
  (17, .aload_n 0, 0, 0, 0, []),
  (18, .iload_n 1, 0, 0, 0, []),
  (19, .invokevirtual 33, 0, 134, 902, [(0, 0)]),
  (22, .iconst 1, 1, 0, 0, []),
  (23, .iadd, 0, 0, 0, []),
  (24, .iload_n 2, 0, 0, 0, []),
  (25, .iastore, 0, 0, 0, []),
  (26, .bipush 32, 32, 0, 0, []),
  (28, .iload_n 1, 0, 0, 0, []),
  (29, .imul, 0, 0, 0, []),
  (30, .istore_n 3, 0, 0, 0, []),
  (31, .iload_n 3, 0, 0, 0, []),
  (32, .bipush 32, 32, 0, 0, []),
  (34, .iload_n 1, 0, 0, 0, []),
  (35, .imul, 0, 0, 0, []),
  (36, .bipush 32, 32, 0, 0, []),
  (38, .iadd, 0, 0, 0, []),
  (39, .if_icmp .ge 22, 0, 61, 0, []),
  (42, .aload_n 0, 0, 0, 0, []),
  (43, .getfield 13, 0, 901, 0, []),
  (46, .aload_n 0, 0, 0, 0, []),
  (47, .iload_n 3, 0, 0, 0, []),
  (48, .invokevirtual 37, 0, 135, 902, [(0, 0)]),
  (51, .iconst 0, 0, 0, 0, []),
  (52, .iadd, 0, 0, 0, []),
  (53, .iconst 1, 1, 0, 0, []),
  (54, .iastore, 0, 0, 0, []),
  (55, .iinc 3 1, 1, 0, 0, []),
  (58, .goto (-27), 0, 31, 0, []),
  (61, .aload_n 0, 0, 0, 0, []),
  (62, .iconst 3, 3, 0, 0, []),
  (63, .iload_n 1, 0, 0, 0, []),
  (64, .iload_n 2, 0, 0, 0, []),
  (65, .invokevirtual 108, 0, 159, 904, []),
  (68, .iload_n 2, 0, 0, 0, []),
  (69, .ireturn, 0, 0, 0, [])])
def m_M_byTurns : sm_M := (⟨"SpansAwayModel", "byTurns", "(I)I"⟩, prog_12_method_69_code, 3, (some .int), (5, 106, 10, 902), [
  (0, .aload_n 0, 0, 0, 0, []),
  (1, .iconst 0, 0, 0, 0, []),
  (2, .putfield 1, 0, 900, 0, []),
  (5, .aload_n 0, 0, 0, 0, []),
  (6, .iload_n 1, 0, 0, 0, []),
  (7, .iconst 1, 1, 0, 0, []),
  (8, .bipush 8, 8, 0, 0, []),
  (10, .invokevirtual 47, 0, 137, 904, [(0, 0)]),
  (13, .ifCond .ne 5, 0, 18, 0, []),
  (16, .iconst (-1), (-1), 0, 0, []),
  (17, .ireturn, 0, 0, 0, []),
  (18, .iconst 0, 0, 0, 0, []),
  (19, .istore_n 2, 0, 0, 0, []),
  (20, .iload_n 2, 0, 0, 0, []),
  (21, .iload_n 1, 0, 0, 0, []),
  (22, .if_icmp .ge 31, 0, 53, 0, []),
  (25, .aload_n 0, 0, 0, 0, []),
  (26, .invokevirtual 201, 0, 196, 901, [(0, 0)]),
  (29, .iconst (-1), (-1), 0, 0, []),
  (30, .if_icmp .eq 23, 0, 53, 0, []),
  (33, .aload_n 0, 0, 0, 0, []),
  (34, .aload_n 0, 0, 0, 0, []),
  (35, .invokevirtual 201, 0, 196, 901, [(0, 0)]),
  (38, .aload_n 0, 0, 0, 0, []),
  (39, .invokevirtual 191, 0, 191, 901, [(0, 0)]),
  (42, .invokevirtual 194, 0, 194, 903, [(0, 0)]),
  (45, .pop, 0, 0, 0, []),
  (46, .iload_n 2, 0, 0, 0, []),
  (47, .iconst 1, 1, 0, 0, []),
  (48, .iadd, 0, 0, 0, []),
  (49, .istore_n 2, 0, 0, 0, []),
  (50, .goto (-30), 0, 20, 0, []),
  (53, .iload_n 2, 0, 0, 0, []),
  (54, .ireturn, 0, 0, 0, [])])
def m_M_turnOf : sm_M := (⟨"SpansAwayModel", "turnOf", "()I"⟩, prog_12_method_68_code, 3, (some .int), (3, 66, 10, 901), [
  (0, .aload_n 0, 0, 0, 0, []),
  (1, .iconst 0, 0, 0, 0, []),
  (2, .iconst 1, 1, 0, 0, []),
  (3, .invokevirtual 197, 0, 197, 903, [(0, 0)]),
  (6, .ifCond .le 31, 0, 37, 0, []),
  (9, .aload_n 0, 0, 0, 0, []),
  (10, .iconst 1, 1, 0, 0, []),
  (11, .iconst 1, 1, 0, 0, []),
  (12, .invokevirtual 197, 0, 197, 903, [(0, 0)]),
  (15, .ifCond .eq 18, 0, 33, 0, []),
  (18, .aload_n 0, 0, 0, 0, []),
  (19, .iconst 0, 0, 0, 0, []),
  (20, .iconst 0, 0, 0, 0, []),
  (21, .invokevirtual 197, 0, 197, 903, [(0, 0)]),
  (24, .aload_n 0, 0, 0, 0, []),
  (25, .iconst 1, 1, 0, 0, []),
  (26, .iconst 0, 0, 0, 0, []),
  (27, .invokevirtual 197, 0, 197, 903, [(0, 0)]),
  (30, .if_icmp .gt 7, 0, 37, 0, []),
  (33, .iconst 0, 0, 0, 0, []),
  (34, .goto 4, 0, 38, 0, []),
  (37, .iconst 1, 1, 0, 0, []),
  (38, .istore_n 1, 0, 0, 0, []),
  (39, .iload_n 1, 0, 0, 0, []),
  (40, .istore_n 2, 0, 0, 0, []),
  (41, .iload_n 2, 0, 0, 0, []),
  (42, .bipush 8, 8, 0, 0, []),
  (44, .if_icmp .ge 20, 0, 64, 0, []),
  (47, .aload_n 0, 0, 0, 0, []),
  (48, .iload_n 2, 0, 0, 0, []),
  (49, .invokevirtual 64, 0, 147, 902, [(0, 0)]),
  (52, .ifCond .ne 5, 0, 57, 0, []),
  (55, .iload_n 2, 0, 0, 0, []),
  (56, .ireturn, 0, 0, 0, []),
  (57, .iload_n 2, 0, 0, 0, []),
  (58, .iconst 2, 2, 0, 0, []),
  (59, .iadd, 0, 0, 0, []),
  (60, .istore_n 2, 0, 0, 0, []),
  (61, .goto (-20), 0, 41, 0, []),
  (64, .iconst (-1), (-1), 0, 0, []),
  (65, .ireturn, 0, 0, 0, [])])
def m_M_manyOfNode : sm_M := (⟨"SpansAwayModel", "manyOfNode", "(IZ)I"⟩, prog_12_method_67_code, 5, (some .int), (2, 42, 10, 903), [
  (0, .iconst 0, 0, 0, 0, []),
  (1, .istore_n 3, 0, 0, 0, []),
  (2, .iload_n 1, 0, 0, 0, []),
  (3, .istore 4, 0, 0, 0, []),
  (5, .iload 4, 0, 0, 0, []),
  (7, .bipush 8, 8, 0, 0, []),
  (9, .if_icmp .ge 34, 0, 43, 0, []),
  (12, .aload_n 0, 0, 0, 0, []),
  (13, .iload 4, 0, 0, 0, []),
  (15, .invokevirtual 64, 0, 147, 902, [(0, 0)]),
  (18, .ifCond .ne 7, 0, 25, 0, []),
  (21, .iconst 1, 1, 0, 0, []),
  (22, .goto 4, 0, 26, 0, []),
  (25, .iconst 0, 0, 0, 0, []),
  (26, .iload_n 2, 0, 0, 0, []),
  (27, .if_icmp .ne 7, 0, 34, 0, []),
  (30, .iload_n 3, 0, 0, 0, []),
  (31, .iconst 1, 1, 0, 0, []),
  (32, .iadd, 0, 0, 0, []),
  (33, .istore_n 3, 0, 0, 0, []),
  (34, .iload 4, 0, 0, 0, []),
  (36, .iconst 2, 2, 0, 0, []),
  (37, .iadd, 0, 0, 0, []),
  (38, .istore 4, 0, 0, 0, []),
  (40, .goto (-35), 0, 5, 0, []),
  (43, .iload_n 3, 0, 0, 0, []),
  (44, .ireturn, 0, 0, 0, [])])
def m_M_movable : sm_M := (⟨"SpansAwayModel", "movable", "()I"⟩, prog_12_method_70_code, 2, (some .int), (5, 106, 10, 901), [
  (0, .aload_n 0, 0, 0, 0, []),
  (1, .iconst 0, 0, 0, 0, []),
  (2, .putfield 1, 0, 900, 0, []),
  (5, .aload_n 0, 0, 0, 0, []),
  (6, .invokevirtual 204, 0, 199, 901, []),
  (9, .iconst 0, 0, 0, 0, []),
  (10, .istore_n 1, 0, 0, 0, []),
  (11, .aload_n 0, 0, 0, 0, []),
  (12, .invokevirtual 201, 0, 196, 901, [(0, 0)]),
  (15, .iconst (-1), (-1), 0, 0, []),
  (16, .if_icmp .eq 28, 0, 44, 0, []),
  (19, .aload_n 0, 0, 0, 0, []),
  (20, .invokevirtual 191, 0, 191, 901, [(0, 0)]),
  (23, .iconst 1, 1, 0, 0, []),
  (24, .if_icmp .ne 20, 0, 44, 0, []),
  (27, .aload_n 0, 0, 0, 0, []),
  (28, .aload_n 0, 0, 0, 0, []),
  (29, .invokevirtual 201, 0, 196, 901, [(0, 0)]),
  (32, .iconst 1, 1, 0, 0, []),
  (33, .invokevirtual 194, 0, 194, 903, [(0, 0)]),
  (36, .pop, 0, 0, 0, []),
  (37, .iload_n 1, 0, 0, 0, []),
  (38, .iconst 1, 1, 0, 0, []),
  (39, .iadd, 0, 0, 0, []),
  (40, .istore_n 1, 0, 0, 0, []),
  (41, .goto (-30), 0, 11, 0, []),
  (44, .aload_n 0, 0, 0, 0, []),
  (45, .invokevirtual 207, 0, 200, 901, []),
  (48, .iload_n 1, 0, 0, 0, []),
  (49, .ireturn, 0, 0, 0, [])])
def m_M_thinks : sm_M := (⟨"SpansAwayModel", "thinks", "()V"⟩, prog_12_method_97_code, 2, none, (0, 0, 10, 901), [
  (0, .iconst 0, 0, 0, 0, []),
  (1, .istore_n 1, 0, 0, 0, []),
  (2, .iload_n 1, 0, 0, 0, []),
  (3, .sipush 2662, 2662, 0, 0, []),
  (6, .if_icmp .ge 21, 0, 27, 0, []),
  (9, .aload_n 0, 0, 0, 0, []),
  (10, .getfield 17, 0, 902, 0, []),
  (13, .iload_n 1, 0, 0, 0, []),
  (14, .aload_n 0, 0, 0, 0, []),
  (15, .getfield 13, 0, 901, 0, []),
  (18, .iload_n 1, 0, 0, 0, []),
  (19, .iaload, 0, 0, 0, []),
  (20, .iastore, 0, 0, 0, []),
  (21, .iinc 1 1, 1, 0, 0, []),
  (24, .goto (-22), 0, 2, 0, []),
  (27, .return_, 0, 0, 0, [])])
def m_M_forgets : sm_M := (⟨"SpansAwayModel", "forgets", "()V"⟩, prog_12_method_98_code, 2, none, (0, 0, 10, 901), [
  (0, .iconst 0, 0, 0, 0, []),
  (1, .istore_n 1, 0, 0, 0, []),
  (2, .iload_n 1, 0, 0, 0, []),
  (3, .sipush 2662, 2662, 0, 0, []),
  (6, .if_icmp .ge 21, 0, 27, 0, []),
  (9, .aload_n 0, 0, 0, 0, []),
  (10, .getfield 13, 0, 901, 0, []),
  (13, .iload_n 1, 0, 0, 0, []),
  (14, .aload_n 0, 0, 0, 0, []),
  (15, .getfield 17, 0, 902, 0, []),
  (18, .iload_n 1, 0, 0, 0, []),
  (19, .iaload, 0, 0, 0, []),
  (20, .iastore, 0, 0, 0, []),
  (21, .iinc 1 1, 1, 0, 0, []),
  (24, .goto (-22), 0, 2, 0, []),
  (27, .return_, 0, 0, 0, [])])
def m_M_go : sm_M := (⟨"SpansAwayModel", "go", "(I)Z"⟩, prog_12_method_75_code, 2, (some .boolean), (5, 108, 10, 902), [
  (0, .aload_n 0, 0, 0, 0, []),
  (1, .iconst 0, 0, 0, 0, []),
  (2, .putfield 1, 0, 900, 0, []),
  (5, .aload_n 0, 0, 0, 0, []),
  (6, .iload_n 1, 0, 0, 0, []),
  (7, .invokevirtual 213, 0, 202, 902, [(0, 0)]),
  (10, .ifCond .ne 5, 0, 15, 0, []),
  (13, .iconst 0, 0, 0, 0, []),
  (14, .ireturn, 0, 0, 0, []),
  (15, .aload_n 0, 0, 0, 0, []),
  (16, .iload_n 1, 0, 0, 0, []),
  (17, .invokevirtual 216, 0, 204, 902, []),
  (20, .iconst 1, 1, 0, 0, []),
  (21, .ireturn, 0, 0, 0, [])])
def m_M_canGo : sm_M := (⟨"SpansAwayModel", "canGo", "(I)Z"⟩, prog_12_method_72_code, 2, (some .boolean), (4, 87, 10, 902), [
  (0, .aload_n 0, 0, 0, 0, []),
  (1, .iload_n 1, 0, 0, 0, []),
  (2, .invokevirtual 179, 0, 184, 902, [(0, 0)]),
  (5, .ifCond .eq 25, 0, 30, 0, []),
  (8, .aload_n 0, 0, 0, 0, []),
  (9, .iload_n 1, 0, 0, 0, []),
  (10, .invokevirtual 64, 0, 147, 902, [(0, 0)]),
  (13, .iconst 1, 1, 0, 0, []),
  (14, .if_icmp .ne 16, 0, 30, 0, []),
  (17, .aload_n 0, 0, 0, 0, []),
  (18, .iconst 0, 0, 0, 0, []),
  (19, .iload_n 1, 0, 0, 0, []),
  (20, .invokevirtual 210, 0, 203, 903, [(0, 0)]),
  (23, .ifCond .le 7, 0, 30, 0, []),
  (26, .iconst 1, 1, 0, 0, []),
  (27, .goto 4, 0, 31, 0, []),
  (30, .iconst 0, 0, 0, 0, []),
  (31, .ireturn, 0, 0, 0, [])])
def m_M_onMany : sm_M := (⟨"SpansAwayModel", "onMany", "(II)I"⟩, prog_12_method_71_code, 5, (some .int), (3, 63, 10, 903), [
  (0, .iconst 0, 0, 0, 0, []),
  (1, .istore_n 3, 0, 0, 0, []),
  (2, .iconst 0, 0, 0, 0, []),
  (3, .istore 4, 0, 0, 0, []),
  (5, .iload 4, 0, 0, 0, []),
  (7, .bipush 8, 8, 0, 0, []),
  (9, .if_icmp .ge 39, 0, 48, 0, []),
  (12, .iload 4, 0, 0, 0, []),
  (14, .iload_n 2, 0, 0, 0, []),
  (15, .if_icmp .eq 27, 0, 42, 0, []),
  (18, .aload_n 0, 0, 0, 0, []),
  (19, .iload 4, 0, 0, 0, []),
  (21, .invokevirtual 64, 0, 147, 902, [(0, 0)]),
  (24, .iconst 1, 1, 0, 0, []),
  (25, .if_icmp .ne 17, 0, 42, 0, []),
  (28, .aload_n 0, 0, 0, 0, []),
  (29, .iload 4, 0, 0, 0, []),
  (31, .invokevirtual 84, 0, 146, 902, [(0, 0)]),
  (34, .iload_n 1, 0, 0, 0, []),
  (35, .if_icmp .ne 7, 0, 42, 0, []),
  (38, .iload_n 3, 0, 0, 0, []),
  (39, .iconst 1, 1, 0, 0, []),
  (40, .iadd, 0, 0, 0, []),
  (41, .istore_n 3, 0, 0, 0, []),
  (42, .iinc 4 1, 1, 0, 0, []),
  (45, .goto (-40), 0, 5, 0, []),
  (48, .iload_n 3, 0, 0, 0, []),
  (49, .ireturn, 0, 0, 0, [])])
def m_M_beginsToGo : sm_M := (⟨"SpansAwayModel", "beginsToGo", "(I)V"⟩, prog_12_method_74_code, 3, none, (2, 46, 10, 902), [
  (0, .aload_n 0, 0, 0, 0, []),
  (1, .iload_n 1, 0, 0, 0, []),
  (2, .invokevirtual 33, 0, 134, 902, [(0, 0)]),
  (5, .istore_n 2, 0, 0, 0, []),
  (6, .aload_n 0, 0, 0, 0, []),
  (7, .getfield 13, 0, 901, 0, []),
  (10, .iload_n 2, 0, 0, 0, []),
  (11, .iconst 0, 0, 0, 0, []),
  (12, .iadd, 0, 0, 0, []),
  (13, .iconst 2, 2, 0, 0, []),
  (14, .iastore, 0, 0, 0, []),
  (15, .aload_n 0, 0, 0, 0, []),
  (16, .getfield 13, 0, 901, 0, []),
  (19, .iload_n 2, 0, 0, 0, []),
  (20, .iconst 2, 2, 0, 0, []),
  (21, .iadd, 0, 0, 0, []),
  (22, .iconst 0, 0, 0, 0, []),
  (23, .iastore, 0, 0, 0, []),
  (24, .aload_n 0, 0, 0, 0, []),
  (25, .getfield 13, 0, 901, 0, []),
  (28, .iload_n 2, 0, 0, 0, []),
  (29, .iconst 3, 3, 0, 0, []),
  (30, .iadd, 0, 0, 0, []),
  (31, .iconst 0, 0, 0, 0, []),
  (32, .iastore, 0, 0, 0, []),
  (33, .aload_n 0, 0, 0, 0, []),
  (34, .getfield 13, 0, 901, 0, []),
  (37, .iload_n 2, 0, 0, 0, []),
  (38, .iconst 4, 4, 0, 0, []),
  (39, .iadd, 0, 0, 0, []),
  (40, .iconst 0, 0, 0, 0, []),
  (41, .iastore, 0, 0, 0, []),
  (42, .aload_n 0, 0, 0, 0, []),
  (43, .getfield 13, 0, 901, 0, []),
  (46, .iload_n 2, 0, 0, 0, []),
  (47, .iconst 5, 5, 0, 0, []),
  (48, .iadd, 0, 0, 0, []),
  (49, .iconst 0, 0, 0, 0, []),
  (50, .iastore, 0, 0, 0, []),
  (51, .aload_n 0, 0, 0, 0, []),
  (52, .getfield 13, 0, 901, 0, []),
  (55, .iload_n 2, 0, 0, 0, []),
  (56, .bipush 6, 6, 0, 0, []),
  (58, .iadd, 0, 0, 0, []),
  (59, .iconst 0, 0, 0, 0, []),
  (60, .iastore, 0, 0, 0, []),
  (61, .aload_n 0, 0, 0, 0, []),
  (62, .iconst 0, 0, 0, 0, []),
  (63, .iload_n 1, 0, 0, 0, []),
  (64, .iload_n 1, 0, 0, 0, []),
  (65, .iconst 2, 2, 0, 0, []),
  (66, .irem, 0, 0, 0, []),
  (67, .invokevirtual 108, 0, 159, 904, []),
  (70, .return_, 0, 0, 0, [])])
def m_M_giveUp : sm_M := (⟨"SpansAwayModel", "giveUp", "(I)Z"⟩, prog_12_method_79_code, 2, (some .boolean), (7, 161, 10, 902), [
  (0, .aload_n 0, 0, 0, 0, []),
  (1, .iconst 0, 0, 0, 0, []),
  (2, .putfield 1, 0, 900, 0, []),
  (5, .aload_n 0, 0, 0, 0, []),
  (6, .iload_n 1, 0, 0, 0, []),
  (7, .invokevirtual 179, 0, 184, 902, [(0, 0)]),
  (10, .ifCond .eq 11, 0, 21, 0, []),
  (13, .aload_n 0, 0, 0, 0, []),
  (14, .iload_n 1, 0, 0, 0, []),
  (15, .invokevirtual 228, 0, 206, 902, [(0, 0)]),
  (18, .ifCond .ne 5, 0, 23, 0, []),
  (21, .iconst 0, 0, 0, 0, []),
  (22, .ireturn, 0, 0, 0, []),
  (23, .aload_n 0, 0, 0, 0, []),
  (24, .iload_n 1, 0, 0, 0, []),
  (25, .iconst 3, 3, 0, 0, []),
  (26, .invokevirtual 231, 0, 207, 903, []),
  (29, .iconst 1, 1, 0, 0, []),
  (30, .ireturn, 0, 0, 0, [])])
def m_M_isGoing : sm_M := (⟨"SpansAwayModel", "isGoing", "(I)Z"⟩, prog_12_method_73_code, 2, (some .boolean), (2, 42, 10, 902), [
  (0, .aload_n 0, 0, 0, 0, []),
  (1, .iload_n 1, 0, 0, 0, []),
  (2, .invokevirtual 64, 0, 147, 902, [(0, 0)]),
  (5, .iconst 2, 2, 0, 0, []),
  (6, .if_icmp .lt 7, 0, 13, 0, []),
  (9, .iconst 1, 1, 0, 0, []),
  (10, .goto 4, 0, 14, 0, []),
  (13, .iconst 0, 0, 0, 0, []),
  (14, .ireturn, 0, 0, 0, [])])
def m_M_fails : sm_M := (⟨"SpansAwayModel", "fails", "(II)V"⟩, prog_12_method_78_code, 3, none, (6, 139, 10, 903), [
  (0, .aload_n 0, 0, 0, 0, []),
  (1, .iload_n 1, 0, 0, 0, []),
  (2, .invokevirtual 222, 0, 208, 902, []),
  (5, .aload_n 0, 0, 0, 0, []),
  (6, .iload_n 1, 0, 0, 0, []),
  (7, .invokevirtual 225, 0, 210, 902, []),
  (10, .aload_n 0, 0, 0, 0, []),
  (11, .getfield 13, 0, 901, 0, []),
  (14, .aload_n 0, 0, 0, 0, []),
  (15, .iload_n 1, 0, 0, 0, []),
  (16, .invokevirtual 33, 0, 134, 902, [(0, 0)]),
  (19, .bipush 7, 7, 0, 0, []),
  (21, .iadd, 0, 0, 0, []),
  (22, .iload_n 2, 0, 0, 0, []),
  (23, .iconst 1, 1, 0, 0, []),
  (24, .iadd, 0, 0, 0, []),
  (25, .iastore, 0, 0, 0, []),
  (26, .aload_n 0, 0, 0, 0, []),
  (27, .bipush 7, 7, 0, 0, []),
  (29, .iconst 1, 1, 0, 0, []),
  (30, .invokevirtual 111, 0, 161, 903, []),
  (33, .aload_n 0, 0, 0, 0, []),
  (34, .iconst 2, 2, 0, 0, []),
  (35, .iload_n 1, 0, 0, 0, []),
  (36, .iload_n 2, 0, 0, 0, []),
  (37, .invokevirtual 108, 0, 159, 904, []),
  (40, .return_, 0, 0, 0, [])])
def m_M_staysBack : sm_M := (⟨"SpansAwayModel", "staysBack", "(I)V"⟩, prog_12_method_77_code, 5, none, (5, 115, 10, 902), [
  (0, .aload_n 0, 0, 0, 0, []),
  (1, .getfield 13, 0, 901, 0, []),
  (4, .aload_n 0, 0, 0, 0, []),
  (5, .iload_n 1, 0, 0, 0, []),
  (6, .invokevirtual 33, 0, 134, 902, [(0, 0)]),
  (9, .bipush 6, 6, 0, 0, []),
  (11, .iadd, 0, 0, 0, []),
  (12, .iaload, 0, 0, 0, []),
  (13, .iconst 1, 1, 0, 0, []),
  (14, .isub, 0, 0, 0, []),
  (15, .istore_n 2, 0, 0, 0, []),
  (16, .iload_n 2, 0, 0, 0, []),
  (17, .iconst (-1), (-1), 0, 0, []),
  (18, .if_icmp .ne 4, 0, 22, 0, []),
  (21, .return_, 0, 0, 0, []),
  (22, .aload_n 0, 0, 0, 0, []),
  (23, .iload_n 2, 0, 0, 0, []),
  (24, .bipush 6, 6, 0, 0, []),
  (26, .invokevirtual 80, 0, 153, 903, [(0, 0)]),
  (29, .iconst 1, 1, 0, 0, []),
  (30, .isub, 0, 0, 0, []),
  (31, .istore_n 3, 0, 0, 0, []),
  (32, .iconst 0, 0, 0, 0, []),
  (33, .istore 4, 0, 0, 0, []),
  (35, .iload 4, 0, 0, 0, []),
  (37, .aload_n 0, 0, 0, 0, []),
  (38, .iload_n 2, 0, 0, 0, []),
  (39, .invokevirtual 94, 0, 163, 902, [(0, 0)]),
  (42, .if_icmp .ge 17, 0, 59, 0, []),
  (45, .aload_n 0, 0, 0, 0, []),
  (46, .iload_n 3, 0, 0, 0, []),
  (47, .iload 4, 0, 0, 0, []),
  (49, .iadd, 0, 0, 0, []),
  (50, .invokevirtual 100, 0, 164, 902, []),
  (53, .iinc 4 1, 1, 0, 0, []),
  (56, .goto (-21), 0, 35, 0, []),
  (59, .aload_n 0, 0, 0, 0, []),
  (60, .iload_n 2, 0, 0, 0, []),
  (61, .bipush 6, 6, 0, 0, []),
  (63, .iconst 0, 0, 0, 0, []),
  (64, .invokevirtual 104, 0, 166, 904, []),
  (67, .aload_n 0, 0, 0, 0, []),
  (68, .iload_n 2, 0, 0, 0, []),
  (69, .bipush 7, 7, 0, 0, []),
  (71, .iconst 0, 0, 0, 0, []),
  (72, .invokevirtual 104, 0, 166, 904, []),
  (75, .aload_n 0, 0, 0, 0, []),
  (76, .getfield 13, 0, 901, 0, []),
  (79, .aload_n 0, 0, 0, 0, []),
  (80, .iload_n 1, 0, 0, 0, []),
  (81, .invokevirtual 33, 0, 134, 902, [(0, 0)]),
  (84, .bipush 6, 6, 0, 0, []),
  (86, .iadd, 0, 0, 0, []),
  (87, .iconst 0, 0, 0, 0, []),
  (88, .iastore, 0, 0, 0, []),
  (89, .aload_n 0, 0, 0, 0, []),
  (90, .iload_n 2, 0, 0, 0, []),
  (91, .invokevirtual 219, 0, 209, 902, []),
  (94, .return_, 0, 0, 0, [])])
def m_M_wakes : sm_M := (⟨"SpansAwayModel", "wakes", "(I)V"⟩, prog_12_method_50_code, 6, none, (4, 90, 10, 902), [
  (0, .aload_n 0, 0, 0, 0, []),
  (1, .iload_n 1, 0, 0, 0, []),
  (2, .bipush 9, 9, 0, 0, []),
  (4, .invokevirtual 80, 0, 153, 903, [(0, 0)]),
  (7, .istore_n 2, 0, 0, 0, []),
  (8, .aload_n 0, 0, 0, 0, []),
  (9, .iload_n 1, 0, 0, 0, []),
  (10, .bipush 9, 9, 0, 0, []),
  (12, .iconst 0, 0, 0, 0, []),
  (13, .invokevirtual 104, 0, 166, 904, []),
  (16, .iconst 0, 0, 0, 0, []),
  (17, .istore_n 3, 0, 0, 0, []),
  (18, .iload_n 3, 0, 0, 0, []),
  (19, .iload_n 2, 0, 0, 0, []),
  (20, .if_icmp .ge 81, 0, 101, 0, []),
  (23, .aload_n 0, 0, 0, 0, []),
  (24, .iload_n 1, 0, 0, 0, []),
  (25, .bipush 10, 10, 0, 0, []),
  (27, .iload_n 3, 0, 0, 0, []),
  (28, .iadd, 0, 0, 0, []),
  (29, .invokevirtual 80, 0, 153, 903, [(0, 0)]),
  (32, .istore 4, 0, 0, 0, []),
  (34, .aload_n 0, 0, 0, 0, []),
  (35, .iload 4, 0, 0, 0, []),
  (37, .invokevirtual 58, 0, 141, 902, [(0, 0)]),
  (40, .istore 5, 0, 0, 0, []),
  (42, .aload_n 0, 0, 0, 0, []),
  (43, .getfield 13, 0, 901, 0, []),
  (46, .iload 5, 0, 0, 0, []),
  (48, .iconst 1, 1, 0, 0, []),
  (49, .iadd, 0, 0, 0, []),
  (50, .iconst 0, 0, 0, 0, []),
  (51, .iastore, 0, 0, 0, []),
  (52, .aload_n 0, 0, 0, 0, []),
  (53, .iload 4, 0, 0, 0, []),
  (55, .iload_n 1, 0, 0, 0, []),
  (56, .aload_n 0, 0, 0, 0, []),
  (57, .getfield 13, 0, 901, 0, []),
  (60, .iload 5, 0, 0, 0, []),
  (62, .iconst 2, 2, 0, 0, []),
  (63, .iadd, 0, 0, 0, []),
  (64, .iaload, 0, 0, 0, []),
  (65, .aload_n 0, 0, 0, 0, []),
  (66, .getfield 13, 0, 901, 0, []),
  (69, .iload 5, 0, 0, 0, []),
  (71, .iconst 3, 3, 0, 0, []),
  (72, .iadd, 0, 0, 0, []),
  (73, .iaload, 0, 0, 0, []),
  (74, .aload_n 0, 0, 0, 0, []),
  (75, .getfield 13, 0, 901, 0, []),
  (78, .iload 5, 0, 0, 0, []),
  (80, .iconst 4, 4, 0, 0, []),
  (81, .iadd, 0, 0, 0, []),
  (82, .iaload, 0, 0, 0, []),
  (83, .invokevirtual 156, 0, 176, 906, []),
  (86, .aload_n 0, 0, 0, 0, []),
  (87, .bipush 8, 8, 0, 0, []),
  (89, .iload 4, 0, 0, 0, []),
  (91, .iload_n 1, 0, 0, 0, []),
  (92, .invokevirtual 108, 0, 159, 904, []),
  (95, .iinc 3 1, 1, 0, 0, []),
  (98, .goto (-80), 0, 18, 0, []),
  (101, .return_, 0, 0, 0, [])])
def m_M_opens : sm_M := (⟨"SpansAwayModel", "opens", "(I)V"⟩, prog_12_method_76_code, 4, none, (2, 42, 10, 902), [
  (0, .aload_n 0, 0, 0, 0, []),
  (1, .iload_n 1, 0, 0, 0, []),
  (2, .invokevirtual 33, 0, 134, 902, [(0, 0)]),
  (5, .istore_n 2, 0, 0, 0, []),
  (6, .aload_n 0, 0, 0, 0, []),
  (7, .getfield 13, 0, 901, 0, []),
  (10, .iload_n 2, 0, 0, 0, []),
  (11, .iconst 0, 0, 0, 0, []),
  (12, .iadd, 0, 0, 0, []),
  (13, .iconst 1, 1, 0, 0, []),
  (14, .iastore, 0, 0, 0, []),
  (15, .aload_n 0, 0, 0, 0, []),
  (16, .getfield 13, 0, 901, 0, []),
  (19, .iload_n 2, 0, 0, 0, []),
  (20, .iconst 2, 2, 0, 0, []),
  (21, .iadd, 0, 0, 0, []),
  (22, .iconst 0, 0, 0, 0, []),
  (23, .iastore, 0, 0, 0, []),
  (24, .aload_n 0, 0, 0, 0, []),
  (25, .getfield 13, 0, 901, 0, []),
  (28, .iload_n 2, 0, 0, 0, []),
  (29, .iconst 3, 3, 0, 0, []),
  (30, .iadd, 0, 0, 0, []),
  (31, .iconst 0, 0, 0, 0, []),
  (32, .iastore, 0, 0, 0, []),
  (33, .aload_n 0, 0, 0, 0, []),
  (34, .getfield 13, 0, 901, 0, []),
  (37, .iload_n 2, 0, 0, 0, []),
  (38, .iconst 4, 4, 0, 0, []),
  (39, .iadd, 0, 0, 0, []),
  (40, .iconst 0, 0, 0, 0, []),
  (41, .iastore, 0, 0, 0, []),
  (42, .bipush 32, 32, 0, 0, []),
  (44, .iload_n 1, 0, 0, 0, []),
  (45, .imul, 0, 0, 0, []),
  (46, .istore_n 3, 0, 0, 0, []),
  (47, .iload_n 3, 0, 0, 0, []),
  (48, .bipush 32, 32, 0, 0, []),
  (50, .iload_n 1, 0, 0, 0, []),
  (51, .imul, 0, 0, 0, []),
  (52, .bipush 32, 32, 0, 0, []),
  (54, .iadd, 0, 0, 0, []),
  (55, .if_icmp .ge 31, 0, 86, 0, []),
  (58, .aload_n 0, 0, 0, 0, []),
  (59, .iload_n 3, 0, 0, 0, []),
  (60, .invokevirtual 61, 0, 150, 902, [(0, 0)]),
  (63, .iconst 2, 2, 0, 0, []),
  (64, .if_icmp .ne 16, 0, 80, 0, []),
  (67, .aload_n 0, 0, 0, 0, []),
  (68, .getfield 13, 0, 901, 0, []),
  (71, .aload_n 0, 0, 0, 0, []),
  (72, .iload_n 3, 0, 0, 0, []),
  (73, .invokevirtual 37, 0, 135, 902, [(0, 0)]),
  (76, .iconst 0, 0, 0, 0, []),
  (77, .iadd, 0, 0, 0, []),
  (78, .iconst 1, 1, 0, 0, []),
  (79, .iastore, 0, 0, 0, []),
  (80, .iinc 3 1, 1, 0, 0, []),
  (83, .goto (-36), 0, 47, 0, []),
  (86, .return_, 0, 0, 0, [])])
def m_M_tick : sm_M := (⟨"SpansAwayModel", "tick", "(I)I"⟩, prog_12_method_92_code, 3, (some .int), (10, 228, 10, 902), [
  (0, .aload_n 0, 0, 0, 0, []),
  (1, .iconst 0, 0, 0, 0, []),
  (2, .putfield 1, 0, 900, 0, []),
  (5, .aload_n 0, 0, 0, 0, []),
  (6, .iload_n 1, 0, 0, 0, []),
  (7, .iconst 1, 1, 0, 0, []),
  (8, .bipush 60, 60, 0, 0, []),
  (10, .invokevirtual 47, 0, 137, 904, [(0, 0)]),
  (13, .ifCond .eq 17, 0, 30, 0, []),
  (16, .aload_n 0, 0, 0, 0, []),
  (17, .getfield 13, 0, 901, 0, []),
  (20, .iconst 4, 4, 0, 0, []),
  (21, .iaload, 0, 0, 0, []),
  (22, .iload_n 1, 0, 0, 0, []),
  (23, .iadd, 0, 0, 0, []),
  (24, .sipush 9999, 9999, 0, 0, []),
  (27, .if_icmp .le 5, 0, 32, 0, []),
  (30, .iconst (-1), (-1), 0, 0, []),
  (31, .ireturn, 0, 0, 0, []),
  (32, .iconst 0, 0, 0, 0, []),
  (33, .istore_n 2, 0, 0, 0, []),
  (34, .iload_n 2, 0, 0, 0, []),
  (35, .iload_n 1, 0, 0, 0, []),
  (36, .if_icmp .ge 13, 0, 49, 0, []),
  (39, .aload_n 0, 0, 0, 0, []),
  (40, .invokevirtual 267, 0, 212, 901, []),
  (43, .iinc 2 1, 1, 0, 0, []),
  (46, .goto (-12), 0, 34, 0, []),
  (49, .aload_n 0, 0, 0, 0, []),
  (50, .getfield 13, 0, 901, 0, []),
  (53, .iconst 4, 4, 0, 0, []),
  (54, .iaload, 0, 0, 0, []),
  (55, .ireturn, 0, 0, 0, [])])
def m_M_ticks : sm_M := (⟨"SpansAwayModel", "ticks", "()V"⟩, prog_12_method_91_code, 2, none, (9, 207, 10, 901), [
  (0, .aload_n 0, 0, 0, 0, []),
  (1, .iconst 4, 4, 0, 0, []),
  (2, .iconst 1, 1, 0, 0, []),
  (3, .invokevirtual 43, 0, 160, 903, []),
  (6, .iconst 0, 0, 0, 0, []),
  (7, .istore_n 1, 0, 0, 0, []),
  (8, .iload_n 1, 0, 0, 0, []),
  (9, .bipush 8, 8, 0, 0, []),
  (11, .if_icmp .ge 40, 0, 51, 0, []),
  (14, .aload_n 0, 0, 0, 0, []),
  (15, .iload_n 1, 0, 0, 0, []),
  (16, .invokevirtual 64, 0, 147, 902, [(0, 0)]),
  (19, .iconst 2, 2, 0, 0, []),
  (20, .if_icmp .ne 11, 0, 31, 0, []),
  (23, .aload_n 0, 0, 0, 0, []),
  (24, .iload_n 1, 0, 0, 0, []),
  (25, .invokevirtual 261, 0, 213, 902, []),
  (28, .goto 17, 0, 45, 0, []),
  (31, .aload_n 0, 0, 0, 0, []),
  (32, .iload_n 1, 0, 0, 0, []),
  (33, .invokevirtual 64, 0, 147, 902, [(0, 0)]),
  (36, .iconst 3, 3, 0, 0, []),
  (37, .if_icmp .ne 8, 0, 45, 0, []),
  (40, .aload_n 0, 0, 0, 0, []),
  (41, .iload_n 1, 0, 0, 0, []),
  (42, .invokevirtual 264, 0, 214, 902, []),
  (45, .iinc 1 1, 1, 0, 0, []),
  (48, .goto (-40), 0, 8, 0, []),
  (51, .return_, 0, 0, 0, [])])
def m_M_shuts : sm_M := (⟨"SpansAwayModel", "shuts", "(I)V"⟩, prog_12_method_80_code, 5, none, (7, 161, 10, 902), [
  (0, .aload_n 0, 0, 0, 0, []),
  (1, .iload_n 1, 0, 0, 0, []),
  (2, .invokevirtual 33, 0, 134, 902, [(0, 0)]),
  (5, .istore_n 2, 0, 0, 0, []),
  (6, .bipush 32, 32, 0, 0, []),
  (8, .iload_n 1, 0, 0, 0, []),
  (9, .imul, 0, 0, 0, []),
  (10, .bipush 8, 8, 0, 0, []),
  (12, .aload_n 0, 0, 0, 0, []),
  (13, .getfield 13, 0, 901, 0, []),
  (16, .iload_n 2, 0, 0, 0, []),
  (17, .iconst 2, 2, 0, 0, []),
  (18, .iadd, 0, 0, 0, []),
  (19, .iaload, 0, 0, 0, []),
  (20, .imul, 0, 0, 0, []),
  (21, .iadd, 0, 0, 0, []),
  (22, .istore_n 3, 0, 0, 0, []),
  (23, .iload_n 3, 0, 0, 0, []),
  (24, .istore 4, 0, 0, 0, []),
  (26, .iload 4, 0, 0, 0, []),
  (28, .iload_n 3, 0, 0, 0, []),
  (29, .bipush 8, 8, 0, 0, []),
  (31, .iadd, 0, 0, 0, []),
  (32, .if_icmp .ge 53, 0, 85, 0, []),
  (35, .aload_n 0, 0, 0, 0, []),
  (36, .iload 4, 0, 0, 0, []),
  (38, .invokevirtual 61, 0, 150, 902, [(0, 0)]),
  (41, .iconst 3, 3, 0, 0, []),
  (42, .if_icmp .ne 37, 0, 79, 0, []),
  (45, .aload_n 0, 0, 0, 0, []),
  (46, .aload_n 0, 0, 0, 0, []),
  (47, .getfield 13, 0, 901, 0, []),
  (50, .aload_n 0, 0, 0, 0, []),
  (51, .iload 4, 0, 0, 0, []),
  (53, .invokevirtual 37, 0, 135, 902, [(0, 0)]),
  (56, .iconst 1, 1, 0, 0, []),
  (57, .iadd, 0, 0, 0, []),
  (58, .iaload, 0, 0, 0, []),
  (59, .iconst 1, 1, 0, 0, []),
  (60, .isub, 0, 0, 0, []),
  (61, .iconst 3, 3, 0, 0, []),
  (62, .invokevirtual 80, 0, 153, 903, [(0, 0)]),
  (65, .iconst 1, 1, 0, 0, []),
  (66, .if_icmp .eq 6, 0, 72, 0, []),
  (69, .goto 10, 0, 79, 0, []),
  (72, .aload_n 0, 0, 0, 0, []),
  (73, .iload_n 1, 0, 0, 0, []),
  (74, .iconst 0, 0, 0, 0, []),
  (75, .invokevirtual 231, 0, 207, 903, []),
  (78, .return_, 0, 0, 0, []),
  (79, .iinc 4 1, 1, 0, 0, []),
  (82, .goto (-56), 0, 26, 0, []),
  (85, .iload_n 3, 0, 0, 0, []),
  (86, .istore 4, 0, 0, 0, []),
  (88, .iload 4, 0, 0, 0, []),
  (90, .iload_n 3, 0, 0, 0, []),
  (91, .bipush 8, 8, 0, 0, []),
  (93, .iadd, 0, 0, 0, []),
  (94, .if_icmp .ge 32, 0, 126, 0, []),
  (97, .aload_n 0, 0, 0, 0, []),
  (98, .iload 4, 0, 0, 0, []),
  (100, .invokevirtual 73, 0, 149, 902, [(0, 0)]),
  (103, .ifCond .eq 17, 0, 120, 0, []),
  (106, .aload_n 0, 0, 0, 0, []),
  (107, .getfield 13, 0, 901, 0, []),
  (110, .aload_n 0, 0, 0, 0, []),
  (111, .iload 4, 0, 0, 0, []),
  (113, .invokevirtual 37, 0, 135, 902, [(0, 0)]),
  (116, .iconst 0, 0, 0, 0, []),
  (117, .iadd, 0, 0, 0, []),
  (118, .iconst 2, 2, 0, 0, []),
  (119, .iastore, 0, 0, 0, []),
  (120, .iinc 4 1, 1, 0, 0, []),
  (123, .goto (-35), 0, 88, 0, []),
  (126, .aload_n 0, 0, 0, 0, []),
  (127, .iload_n 2, 0, 0, 0, []),
  (128, .iconst 2, 2, 0, 0, []),
  (129, .iadd, 0, 0, 0, []),
  (130, .iconst 1, 1, 0, 0, []),
  (131, .invokevirtual 43, 0, 160, 903, []),
  (134, .aload_n 0, 0, 0, 0, []),
  (135, .getfield 13, 0, 901, 0, []),
  (138, .iload_n 2, 0, 0, 0, []),
  (139, .iconst 2, 2, 0, 0, []),
  (140, .iadd, 0, 0, 0, []),
  (141, .iaload, 0, 0, 0, []),
  (142, .iconst 4, 4, 0, 0, []),
  (143, .if_icmp .ge 4, 0, 147, 0, []),
  (146, .return_, 0, 0, 0, []),
  (147, .aload_n 0, 0, 0, 0, []),
  (148, .getfield 13, 0, 901, 0, []),
  (151, .iload_n 2, 0, 0, 0, []),
  (152, .iconst 0, 0, 0, 0, []),
  (153, .iadd, 0, 0, 0, []),
  (154, .iconst 3, 3, 0, 0, []),
  (155, .iastore, 0, 0, 0, []),
  (156, .aload_n 0, 0, 0, 0, []),
  (157, .getfield 13, 0, 901, 0, []),
  (160, .iload_n 2, 0, 0, 0, []),
  (161, .iconst 3, 3, 0, 0, []),
  (162, .iadd, 0, 0, 0, []),
  (163, .iconst 1, 1, 0, 0, []),
  (164, .iastore, 0, 0, 0, []),
  (165, .aload_n 0, 0, 0, 0, []),
  (166, .getfield 13, 0, 901, 0, []),
  (169, .iload_n 2, 0, 0, 0, []),
  (170, .iconst 5, 5, 0, 0, []),
  (171, .iadd, 0, 0, 0, []),
  (172, .iconst 0, 0, 0, 0, []),
  (173, .iastore, 0, 0, 0, []),
  (174, .return_, 0, 0, 0, [])])
def m_M_moves : sm_M := (⟨"SpansAwayModel", "moves", "(I)V"⟩, prog_12_method_90_code, 4, none, (8, 184, 10, 902), [
  (0, .aload_n 0, 0, 0, 0, []),
  (1, .iload_n 1, 0, 0, 0, []),
  (2, .invokevirtual 33, 0, 134, 902, [(0, 0)]),
  (5, .istore_n 2, 0, 0, 0, []),
  (6, .aload_n 0, 0, 0, 0, []),
  (7, .getfield 13, 0, 901, 0, []),
  (10, .iload_n 2, 0, 0, 0, []),
  (11, .iconst 4, 4, 0, 0, []),
  (12, .iadd, 0, 0, 0, []),
  (13, .iaload, 0, 0, 0, []),
  (14, .ifCond .le 12, 0, 26, 0, []),
  (17, .aload_n 0, 0, 0, 0, []),
  (18, .iload_n 2, 0, 0, 0, []),
  (19, .iconst 4, 4, 0, 0, []),
  (20, .iadd, 0, 0, 0, []),
  (21, .iconst (-1), (-1), 0, 0, []),
  (22, .invokevirtual 43, 0, 160, 903, []),
  (25, .return_, 0, 0, 0, []),
  (26, .aload_n 0, 0, 0, 0, []),
  (27, .iconst 0, 0, 0, 0, []),
  (28, .invokevirtual 188, 0, 193, 902, [(0, 0)]),
  (31, .istore_n 3, 0, 0, 0, []),
  (32, .aload_n 0, 0, 0, 0, []),
  (33, .getfield 13, 0, 901, 0, []),
  (36, .iload_n 2, 0, 0, 0, []),
  (37, .bipush 6, 6, 0, 0, []),
  (39, .iadd, 0, 0, 0, []),
  (40, .iaload, 0, 0, 0, []),
  (41, .ifCond .gt 11, 0, 52, 0, []),
  (44, .aload_n 0, 0, 0, 0, []),
  (45, .iload_n 1, 0, 0, 0, []),
  (46, .invokevirtual 252, 0, 215, 902, [(0, 0)]),
  (49, .ifCond .eq 23, 0, 72, 0, []),
  (52, .aload_n 0, 0, 0, 0, []),
  (53, .iload_n 1, 0, 0, 0, []),
  (54, .iload_n 3, 0, 0, 0, []),
  (55, .invokevirtual 255, 0, 219, 903, [(0, 0)]),
  (58, .istore_n 3, 0, 0, 0, []),
  (59, .aload_n 0, 0, 0, 0, []),
  (60, .getfield 13, 0, 901, 0, []),
  (63, .iload_n 2, 0, 0, 0, []),
  (64, .bipush 6, 6, 0, 0, []),
  (66, .iadd, 0, 0, 0, []),
  (67, .iaload, 0, 0, 0, []),
  (68, .ifCond .le (-36), 0, 32, 0, []),
  (71, .return_, 0, 0, 0, []),
  (72, .aload_n 0, 0, 0, 0, []),
  (73, .iload_n 1, 0, 0, 0, []),
  (74, .invokevirtual 258, 0, 221, 902, []),
  (77, .return_, 0, 0, 0, [])])
def m_M_looks : sm_M := (⟨"SpansAwayModel", "looks", "(I)Z"⟩, prog_12_method_84_code, 6, (some .boolean), (6, 140, 10, 902), [
  (0, .aload_n 0, 0, 0, 0, []),
  (1, .iload_n 1, 0, 0, 0, []),
  (2, .invokevirtual 33, 0, 134, 902, [(0, 0)]),
  (5, .istore_n 2, 0, 0, 0, []),
  (6, .aload_n 0, 0, 0, 0, []),
  (7, .iload_n 1, 0, 0, 0, []),
  (8, .aload_n 0, 0, 0, 0, []),
  (9, .getfield 13, 0, 901, 0, []),
  (12, .iload_n 2, 0, 0, 0, []),
  (13, .iconst 5, 5, 0, 0, []),
  (14, .iadd, 0, 0, 0, []),
  (15, .iaload, 0, 0, 0, []),
  (16, .invokevirtual 234, 0, 216, 903, [(0, 0)]),
  (19, .istore_n 3, 0, 0, 0, []),
  (20, .iload_n 3, 0, 0, 0, []),
  (21, .iconst (-1), (-1), 0, 0, []),
  (22, .if_icmp .eq 196, 0, 218, 0, []),
  (25, .aload_n 0, 0, 0, 0, []),
  (26, .iload_n 3, 0, 0, 0, []),
  (27, .iconst 3, 3, 0, 0, []),
  (28, .invokevirtual 80, 0, 153, 903, [(0, 0)]),
  (31, .iconst 1, 1, 0, 0, []),
  (32, .if_icmp .eq 11, 0, 43, 0, []),
  (35, .aload_n 0, 0, 0, 0, []),
  (36, .iload_n 3, 0, 0, 0, []),
  (37, .invokevirtual 117, 0, 155, 902, [(0, 0)]),
  (40, .ifCond .eq 12, 0, 52, 0, []),
  (43, .aload_n 0, 0, 0, 0, []),
  (44, .iload_n 1, 0, 0, 0, []),
  (45, .iload_n 3, 0, 0, 0, []),
  (46, .invokevirtual 237, 0, 217, 903, []),
  (49, .goto 152, 0, 201, 0, []),
  (52, .aload_n 0, 0, 0, 0, []),
  (53, .iload_n 3, 0, 0, 0, []),
  (54, .iconst 3, 3, 0, 0, []),
  (55, .invokevirtual 80, 0, 153, 903, [(0, 0)]),
  (58, .iconst 2, 2, 0, 0, []),
  (59, .if_icmp .ne 11, 0, 70, 0, []),
  (62, .aload_n 0, 0, 0, 0, []),
  (63, .iload_n 3, 0, 0, 0, []),
  (64, .invokevirtual 134, 0, 157, 902, []),
  (67, .goto 134, 0, 201, 0, []),
  (70, .aload_n 0, 0, 0, 0, []),
  (71, .aload_n 0, 0, 0, 0, []),
  (72, .iload_n 3, 0, 0, 0, []),
  (73, .iconst 4, 4, 0, 0, []),
  (74, .invokevirtual 80, 0, 153, 903, [(0, 0)]),
  (77, .aload_n 0, 0, 0, 0, []),
  (78, .iload_n 3, 0, 0, 0, []),
  (79, .iconst 3, 3, 0, 0, []),
  (80, .invokevirtual 80, 0, 153, 903, [(0, 0)]),
  (83, .aload_n 0, 0, 0, 0, []),
  (84, .iload_n 3, 0, 0, 0, []),
  (85, .iconst 2, 2, 0, 0, []),
  (86, .invokevirtual 80, 0, 153, 903, [(0, 0)]),
  (89, .iconst 1, 1, 0, 0, []),
  (90, .invokevirtual 126, 0, 143, 905, [(0, 0)]),
  (93, .istore 4, 0, 0, 0, []),
  (95, .iload 4, 0, 0, 0, []),
  (97, .iconst (-1), (-1), 0, 0, []),
  (98, .if_icmp .eq 72, 0, 170, 0, []),
  (101, .aload_n 0, 0, 0, 0, []),
  (102, .iload_n 3, 0, 0, 0, []),
  (103, .bipush 6, 6, 0, 0, []),
  (105, .iload 4, 0, 0, 0, []),
  (107, .iconst 1, 1, 0, 0, []),
  (108, .iadd, 0, 0, 0, []),
  (109, .invokevirtual 104, 0, 166, 904, []),
  (112, .aload_n 0, 0, 0, 0, []),
  (113, .iload_n 3, 0, 0, 0, []),
  (114, .bipush 7, 7, 0, 0, []),
  (116, .iconst 0, 0, 0, 0, []),
  (117, .invokevirtual 104, 0, 166, 904, []),
  (120, .iconst 0, 0, 0, 0, []),
  (121, .istore 5, 0, 0, 0, []),
  (123, .iload 5, 0, 0, 0, []),
  (125, .aload_n 0, 0, 0, 0, []),
  (126, .iload_n 3, 0, 0, 0, []),
  (127, .invokevirtual 94, 0, 163, 902, [(0, 0)]),
  (130, .if_icmp .ge 20, 0, 150, 0, []),
  (133, .aload_n 0, 0, 0, 0, []),
  (134, .iload 4, 0, 0, 0, []),
  (136, .iload 5, 0, 0, 0, []),
  (138, .iadd, 0, 0, 0, []),
  (139, .iload_n 3, 0, 0, 0, []),
  (140, .iconst 4, 4, 0, 0, []),
  (141, .invokevirtual 123, 0, 169, 904, []),
  (144, .iinc 5 1, 1, 0, 0, []),
  (147, .goto (-24), 0, 123, 0, []),
  (150, .aload_n 0, 0, 0, 0, []),
  (151, .getfield 13, 0, 901, 0, []),
  (154, .iload_n 2, 0, 0, 0, []),
  (155, .bipush 6, 6, 0, 0, []),
  (157, .iadd, 0, 0, 0, []),
  (158, .iload_n 3, 0, 0, 0, []),
  (159, .iconst 1, 1, 0, 0, []),
  (160, .iadd, 0, 0, 0, []),
  (161, .iastore, 0, 0, 0, []),
  (162, .aload_n 0, 0, 0, 0, []),
  (163, .iload_n 1, 0, 0, 0, []),
  (164, .iload_n 3, 0, 0, 0, []),
  (165, .invokevirtual 237, 0, 217, 903, []),
  (168, .iconst 1, 1, 0, 0, []),
  (169, .ireturn, 0, 0, 0, []),
  (170, .aload_n 0, 0, 0, 0, []),
  (171, .iload_n 3, 0, 0, 0, []),
  (172, .iconst 2, 2, 0, 0, []),
  (173, .invokevirtual 80, 0, 153, 903, [(0, 0)]),
  (176, .ifCond .le 19, 0, 195, 0, []),
  (179, .aload_n 0, 0, 0, 0, []),
  (180, .invokevirtual 137, 0, 167, 901, [(0, 0)]),
  (183, .iconst (-1), (-1), 0, 0, []),
  (184, .if_icmp .eq 11, 0, 195, 0, []),
  (187, .aload_n 0, 0, 0, 0, []),
  (188, .iload_n 3, 0, 0, 0, []),
  (189, .invokevirtual 240, 0, 218, 902, []),
  (192, .goto 9, 0, 201, 0, []),
  (195, .aload_n 0, 0, 0, 0, []),
  (196, .iload_n 1, 0, 0, 0, []),
  (197, .iload_n 3, 0, 0, 0, []),
  (198, .invokevirtual 237, 0, 217, 903, []),
  (201, .aload_n 0, 0, 0, 0, []),
  (202, .iload_n 1, 0, 0, 0, []),
  (203, .aload_n 0, 0, 0, 0, []),
  (204, .getfield 13, 0, 901, 0, []),
  (207, .iload_n 2, 0, 0, 0, []),
  (208, .iconst 5, 5, 0, 0, []),
  (209, .iadd, 0, 0, 0, []),
  (210, .iaload, 0, 0, 0, []),
  (211, .invokevirtual 234, 0, 216, 903, [(0, 0)]),
  (214, .istore_n 3, 0, 0, 0, []),
  (215, .goto (-195), 0, 20, 0, []),
  (218, .iconst 0, 0, 0, 0, []),
  (219, .ireturn, 0, 0, 0, [])])
def m_M_firstBlock : sm_M := (⟨"SpansAwayModel", "firstBlock", "(II)I"⟩, prog_12_method_81_code, 6, (some .int), (3, 64, 10, 903), [
  (0, .iload_n 2, 0, 0, 0, []),
  (1, .istore_n 3, 0, 0, 0, []),
  (2, .iload_n 3, 0, 0, 0, []),
  (3, .bipush 32, 32, 0, 0, []),
  (5, .if_icmp .ge 58, 0, 63, 0, []),
  (8, .bipush 32, 32, 0, 0, []),
  (10, .iload_n 1, 0, 0, 0, []),
  (11, .imul, 0, 0, 0, []),
  (12, .iload_n 3, 0, 0, 0, []),
  (13, .iadd, 0, 0, 0, []),
  (14, .istore 4, 0, 0, 0, []),
  (16, .aload_n 0, 0, 0, 0, []),
  (17, .getfield 13, 0, 901, 0, []),
  (20, .aload_n 0, 0, 0, 0, []),
  (21, .iload 4, 0, 0, 0, []),
  (23, .invokevirtual 37, 0, 135, 902, [(0, 0)]),
  (26, .iconst 1, 1, 0, 0, []),
  (27, .iadd, 0, 0, 0, []),
  (28, .iaload, 0, 0, 0, []),
  (29, .iconst 1, 1, 0, 0, []),
  (30, .isub, 0, 0, 0, []),
  (31, .istore 5, 0, 0, 0, []),
  (33, .aload_n 0, 0, 0, 0, []),
  (34, .iload 4, 0, 0, 0, []),
  (36, .invokevirtual 61, 0, 150, 902, [(0, 0)]),
  (39, .iconst 3, 3, 0, 0, []),
  (40, .if_icmp .ne 17, 0, 57, 0, []),
  (43, .aload_n 0, 0, 0, 0, []),
  (44, .iload 5, 0, 0, 0, []),
  (46, .invokevirtual 97, 0, 158, 902, [(0, 0)]),
  (49, .iload 4, 0, 0, 0, []),
  (51, .if_icmp .ne 6, 0, 57, 0, []),
  (54, .iload 5, 0, 0, 0, []),
  (56, .ireturn, 0, 0, 0, []),
  (57, .iinc 3 1, 1, 0, 0, []),
  (60, .goto (-58), 0, 2, 0, []),
  (63, .iconst (-1), (-1), 0, 0, []),
  (64, .ireturn, 0, 0, 0, [])])
def m_M_isPassed : sm_M := (⟨"SpansAwayModel", "isPassed", "(II)V"⟩, prog_12_method_82_code, 3, none, (3, 64, 10, 903), [
  (0, .aload_n 0, 0, 0, 0, []),
  (1, .getfield 13, 0, 901, 0, []),
  (4, .aload_n 0, 0, 0, 0, []),
  (5, .iload_n 1, 0, 0, 0, []),
  (6, .invokevirtual 33, 0, 134, 902, [(0, 0)]),
  (9, .iconst 5, 5, 0, 0, []),
  (10, .iadd, 0, 0, 0, []),
  (11, .aload_n 0, 0, 0, 0, []),
  (12, .iload_n 2, 0, 0, 0, []),
  (13, .invokevirtual 97, 0, 158, 902, [(0, 0)]),
  (16, .bipush 32, 32, 0, 0, []),
  (18, .irem, 0, 0, 0, []),
  (19, .aload_n 0, 0, 0, 0, []),
  (20, .iload_n 2, 0, 0, 0, []),
  (21, .invokevirtual 94, 0, 163, 902, [(0, 0)]),
  (24, .iadd, 0, 0, 0, []),
  (25, .iastore, 0, 0, 0, []),
  (26, .return_, 0, 0, 0, [])])
def m_M_splits : sm_M := (⟨"SpansAwayModel", "splits", "(I)V"⟩, prog_12_method_83_code, 4, none, (3, 71, 10, 902), [
  (0, .aload_n 0, 0, 0, 0, []),
  (1, .invokevirtual 137, 0, 167, 901, [(0, 0)]),
  (4, .istore_n 2, 0, 0, 0, []),
  (5, .aload_n 0, 0, 0, 0, []),
  (6, .iload_n 1, 0, 0, 0, []),
  (7, .iconst 2, 2, 0, 0, []),
  (8, .invokevirtual 80, 0, 153, 903, [(0, 0)]),
  (11, .iconst 1, 1, 0, 0, []),
  (12, .isub, 0, 0, 0, []),
  (13, .istore_n 3, 0, 0, 0, []),
  (14, .aload_n 0, 0, 0, 0, []),
  (15, .iload_n 1, 0, 0, 0, []),
  (16, .iconst 2, 2, 0, 0, []),
  (17, .iload_n 3, 0, 0, 0, []),
  (18, .invokevirtual 104, 0, 166, 904, []),
  (21, .aload_n 0, 0, 0, 0, []),
  (22, .iload_n 2, 0, 0, 0, []),
  (23, .aload_n 0, 0, 0, 0, []),
  (24, .iload_n 1, 0, 0, 0, []),
  (25, .invokevirtual 97, 0, 158, 902, [(0, 0)]),
  (28, .iconst 1, 1, 0, 0, []),
  (29, .iload_n 3, 0, 0, 0, []),
  (30, .ishl, 0, 0, 0, []),
  (31, .iadd, 0, 0, 0, []),
  (32, .iload_n 3, 0, 0, 0, []),
  (33, .aload_n 0, 0, 0, 0, []),
  (34, .iload_n 1, 0, 0, 0, []),
  (35, .iconst 3, 3, 0, 0, []),
  (36, .invokevirtual 80, 0, 153, 903, [(0, 0)]),
  (39, .aload_n 0, 0, 0, 0, []),
  (40, .iload_n 1, 0, 0, 0, []),
  (41, .iconst 4, 4, 0, 0, []),
  (42, .invokevirtual 80, 0, 153, 903, [(0, 0)]),
  (45, .aload_n 0, 0, 0, 0, []),
  (46, .iload_n 1, 0, 0, 0, []),
  (47, .bipush 8, 8, 0, 0, []),
  (49, .invokevirtual 80, 0, 153, 903, [(0, 0)]),
  (52, .invokevirtual 140, 0, 168, 907, []),
  (55, .aload_n 0, 0, 0, 0, []),
  (56, .iconst 4, 4, 0, 0, []),
  (57, .iconst 1, 1, 0, 0, []),
  (58, .invokevirtual 111, 0, 161, 903, []),
  (61, .aload_n 0, 0, 0, 0, []),
  (62, .iconst 5, 5, 0, 0, []),
  (63, .iload_n 1, 0, 0, 0, []),
  (64, .iload_n 2, 0, 0, 0, []),
  (65, .invokevirtual 108, 0, 159, 904, []),
  (68, .return_, 0, 0, 0, [])])
def m_M_copies : sm_M := (⟨"SpansAwayModel", "copies", "(II)I"⟩, prog_12_method_86_code, 6, (some .int), (6, 139, 10, 903), [
  (0, .aload_n 0, 0, 0, 0, []),
  (1, .getfield 13, 0, 901, 0, []),
  (4, .aload_n 0, 0, 0, 0, []),
  (5, .iload_n 1, 0, 0, 0, []),
  (6, .invokevirtual 33, 0, 134, 902, [(0, 0)]),
  (9, .bipush 6, 6, 0, 0, []),
  (11, .iadd, 0, 0, 0, []),
  (12, .iaload, 0, 0, 0, []),
  (13, .iconst 1, 1, 0, 0, []),
  (14, .isub, 0, 0, 0, []),
  (15, .istore_n 3, 0, 0, 0, []),
  (16, .iload_n 2, 0, 0, 0, []),
  (17, .istore 4, 0, 0, 0, []),
  (19, .iload 4, 0, 0, 0, []),
  (21, .ifCond .le 81, 0, 102, 0, []),
  (24, .aload_n 0, 0, 0, 0, []),
  (25, .iload_n 3, 0, 0, 0, []),
  (26, .bipush 7, 7, 0, 0, []),
  (28, .invokevirtual 80, 0, 153, 903, [(0, 0)]),
  (31, .aload_n 0, 0, 0, 0, []),
  (32, .iload_n 3, 0, 0, 0, []),
  (33, .invokevirtual 94, 0, 163, 902, [(0, 0)]),
  (36, .if_icmp .ge 66, 0, 102, 0, []),
  (39, .aload_n 0, 0, 0, 0, []),
  (40, .iload_n 3, 0, 0, 0, []),
  (41, .bipush 7, 7, 0, 0, []),
  (43, .invokevirtual 80, 0, 153, 903, [(0, 0)]),
  (46, .istore 5, 0, 0, 0, []),
  (48, .aload_n 0, 0, 0, 0, []),
  (49, .aload_n 0, 0, 0, 0, []),
  (50, .iload_n 3, 0, 0, 0, []),
  (51, .bipush 6, 6, 0, 0, []),
  (53, .invokevirtual 80, 0, 153, 903, [(0, 0)]),
  (56, .iconst 1, 1, 0, 0, []),
  (57, .isub, 0, 0, 0, []),
  (58, .iload 5, 0, 0, 0, []),
  (60, .iadd, 0, 0, 0, []),
  (61, .aload_n 0, 0, 0, 0, []),
  (62, .aload_n 0, 0, 0, 0, []),
  (63, .iload_n 3, 0, 0, 0, []),
  (64, .invokevirtual 97, 0, 158, 902, [(0, 0)]),
  (67, .iload 5, 0, 0, 0, []),
  (69, .iadd, 0, 0, 0, []),
  (70, .invokevirtual 153, 0, 178, 902, [(0, 0)]),
  (73, .invokevirtual 144, 0, 170, 903, []),
  (76, .aload_n 0, 0, 0, 0, []),
  (77, .iload_n 3, 0, 0, 0, []),
  (78, .bipush 7, 7, 0, 0, []),
  (80, .iload 5, 0, 0, 0, []),
  (82, .iconst 1, 1, 0, 0, []),
  (83, .iadd, 0, 0, 0, []),
  (84, .invokevirtual 104, 0, 166, 904, []),
  (87, .aload_n 0, 0, 0, 0, []),
  (88, .iconst 3, 3, 0, 0, []),
  (89, .iconst 1, 1, 0, 0, []),
  (90, .invokevirtual 111, 0, 161, 903, []),
  (93, .iload 4, 0, 0, 0, []),
  (95, .iconst 1, 1, 0, 0, []),
  (96, .isub, 0, 0, 0, []),
  (97, .istore 4, 0, 0, 0, []),
  (99, .goto (-80), 0, 19, 0, []),
  (102, .aload_n 0, 0, 0, 0, []),
  (103, .iload_n 3, 0, 0, 0, []),
  (104, .bipush 7, 7, 0, 0, []),
  (106, .invokevirtual 80, 0, 153, 903, [(0, 0)]),
  (109, .aload_n 0, 0, 0, 0, []),
  (110, .iload_n 3, 0, 0, 0, []),
  (111, .invokevirtual 94, 0, 163, 902, [(0, 0)]),
  (114, .if_icmp .ne 9, 0, 123, 0, []),
  (117, .aload_n 0, 0, 0, 0, []),
  (118, .iload_n 1, 0, 0, 0, []),
  (119, .iload_n 3, 0, 0, 0, []),
  (120, .invokevirtual 243, 0, 220, 903, []),
  (123, .iload 4, 0, 0, 0, []),
  (125, .ireturn, 0, 0, 0, [])])
def m_M_arrives : sm_M := (⟨"SpansAwayModel", "arrives", "(II)V"⟩, prog_12_method_85_code, 5, none, (5, 115, 10, 903), [
  (0, .aload_n 0, 0, 0, 0, []),
  (1, .iload_n 2, 0, 0, 0, []),
  (2, .bipush 6, 6, 0, 0, []),
  (4, .invokevirtual 80, 0, 153, 903, [(0, 0)]),
  (7, .iconst 1, 1, 0, 0, []),
  (8, .isub, 0, 0, 0, []),
  (9, .istore_n 3, 0, 0, 0, []),
  (10, .iconst 0, 0, 0, 0, []),
  (11, .istore 4, 0, 0, 0, []),
  (13, .iload 4, 0, 0, 0, []),
  (15, .aload_n 0, 0, 0, 0, []),
  (16, .iload_n 2, 0, 0, 0, []),
  (17, .invokevirtual 94, 0, 163, 902, [(0, 0)]),
  (20, .if_icmp .ge 31, 0, 51, 0, []),
  (23, .aload_n 0, 0, 0, 0, []),
  (24, .aload_n 0, 0, 0, 0, []),
  (25, .iload_n 2, 0, 0, 0, []),
  (26, .invokevirtual 97, 0, 158, 902, [(0, 0)]),
  (29, .iload 4, 0, 0, 0, []),
  (31, .iadd, 0, 0, 0, []),
  (32, .invokevirtual 100, 0, 164, 902, []),
  (35, .aload_n 0, 0, 0, 0, []),
  (36, .iload_n 3, 0, 0, 0, []),
  (37, .iload 4, 0, 0, 0, []),
  (39, .iadd, 0, 0, 0, []),
  (40, .iload_n 2, 0, 0, 0, []),
  (41, .iconst 3, 3, 0, 0, []),
  (42, .invokevirtual 123, 0, 169, 904, []),
  (45, .iinc 4 1, 1, 0, 0, []),
  (48, .goto (-35), 0, 13, 0, []),
  (51, .aload_n 0, 0, 0, 0, []),
  (52, .iload_n 2, 0, 0, 0, []),
  (53, .iconst 1, 1, 0, 0, []),
  (54, .iload_n 3, 0, 0, 0, []),
  (55, .invokevirtual 104, 0, 166, 904, []),
  (58, .aload_n 0, 0, 0, 0, []),
  (59, .iload_n 2, 0, 0, 0, []),
  (60, .bipush 6, 6, 0, 0, []),
  (62, .iconst 0, 0, 0, 0, []),
  (63, .invokevirtual 104, 0, 166, 904, []),
  (66, .aload_n 0, 0, 0, 0, []),
  (67, .iload_n 2, 0, 0, 0, []),
  (68, .bipush 7, 7, 0, 0, []),
  (70, .iconst 0, 0, 0, 0, []),
  (71, .invokevirtual 104, 0, 166, 904, []),
  (74, .aload_n 0, 0, 0, 0, []),
  (75, .getfield 13, 0, 901, 0, []),
  (78, .aload_n 0, 0, 0, 0, []),
  (79, .iload_n 1, 0, 0, 0, []),
  (80, .invokevirtual 33, 0, 134, 902, [(0, 0)]),
  (83, .bipush 6, 6, 0, 0, []),
  (85, .iadd, 0, 0, 0, []),
  (86, .iconst 0, 0, 0, 0, []),
  (87, .iastore, 0, 0, 0, []),
  (88, .aload_n 0, 0, 0, 0, []),
  (89, .iconst 2, 2, 0, 0, []),
  (90, .iconst 1, 1, 0, 0, []),
  (91, .invokevirtual 111, 0, 161, 903, []),
  (94, .aload_n 0, 0, 0, 0, []),
  (95, .iconst 4, 4, 0, 0, []),
  (96, .iload_n 2, 0, 0, 0, []),
  (97, .iload_n 3, 0, 0, 0, []),
  (98, .invokevirtual 108, 0, 159, 904, []),
  (101, .aload_n 0, 0, 0, 0, []),
  (102, .iload_n 2, 0, 0, 0, []),
  (103, .invokevirtual 219, 0, 209, 902, []),
  (106, .return_, 0, 0, 0, [])])
def m_M_isOver : sm_M := (⟨"SpansAwayModel", "isOver", "(I)V"⟩, prog_12_method_89_code, 4, none, (7, 161, 10, 902), [
  (0, .aload_n 0, 0, 0, 0, []),
  (1, .iload_n 1, 0, 0, 0, []),
  (2, .invokevirtual 33, 0, 134, 902, [(0, 0)]),
  (5, .istore_n 2, 0, 0, 0, []),
  (6, .aload_n 0, 0, 0, 0, []),
  (7, .bipush 9, 9, 0, 0, []),
  (9, .iconst 1, 1, 0, 0, []),
  (10, .invokevirtual 111, 0, 161, 903, []),
  (13, .aload_n 0, 0, 0, 0, []),
  (14, .iload_n 1, 0, 0, 0, []),
  (15, .iconst 3, 3, 0, 0, []),
  (16, .invokevirtual 246, 0, 222, 903, [(0, 0)]),
  (19, .aload_n 0, 0, 0, 0, []),
  (20, .iload_n 1, 0, 0, 0, []),
  (21, .iconst 4, 4, 0, 0, []),
  (22, .invokevirtual 246, 0, 222, 903, [(0, 0)]),
  (25, .iadd, 0, 0, 0, []),
  (26, .ifCond .ne 96, 0, 122, 0, []),
  (29, .aload_n 0, 0, 0, 0, []),
  (30, .iconst 1, 1, 0, 0, []),
  (31, .iload_n 1, 0, 0, 0, []),
  (32, .aload_n 0, 0, 0, 0, []),
  (33, .getfield 13, 0, 901, 0, []),
  (36, .iload_n 2, 0, 0, 0, []),
  (37, .iconst 3, 3, 0, 0, []),
  (38, .iadd, 0, 0, 0, []),
  (39, .iaload, 0, 0, 0, []),
  (40, .invokevirtual 108, 0, 159, 904, []),
  (43, .aload_n 0, 0, 0, 0, []),
  (44, .getfield 13, 0, 901, 0, []),
  (47, .iload_n 2, 0, 0, 0, []),
  (48, .iconst 0, 0, 0, 0, []),
  (49, .iadd, 0, 0, 0, []),
  (50, .iconst 0, 0, 0, 0, []),
  (51, .iastore, 0, 0, 0, []),
  (52, .aload_n 0, 0, 0, 0, []),
  (53, .getfield 13, 0, 901, 0, []),
  (56, .iload_n 2, 0, 0, 0, []),
  (57, .iconst 1, 1, 0, 0, []),
  (58, .iadd, 0, 0, 0, []),
  (59, .iconst 0, 0, 0, 0, []),
  (60, .iastore, 0, 0, 0, []),
  (61, .aload_n 0, 0, 0, 0, []),
  (62, .getfield 13, 0, 901, 0, []),
  (65, .iload_n 2, 0, 0, 0, []),
  (66, .iconst 2, 2, 0, 0, []),
  (67, .iadd, 0, 0, 0, []),
  (68, .iconst 0, 0, 0, 0, []),
  (69, .iastore, 0, 0, 0, []),
  (70, .aload_n 0, 0, 0, 0, []),
  (71, .getfield 13, 0, 901, 0, []),
  (74, .iload_n 2, 0, 0, 0, []),
  (75, .iconst 3, 3, 0, 0, []),
  (76, .iadd, 0, 0, 0, []),
  (77, .iconst 0, 0, 0, 0, []),
  (78, .iastore, 0, 0, 0, []),
  (79, .bipush 32, 32, 0, 0, []),
  (81, .iload_n 1, 0, 0, 0, []),
  (82, .imul, 0, 0, 0, []),
  (83, .istore_n 3, 0, 0, 0, []),
  (84, .iload_n 3, 0, 0, 0, []),
  (85, .bipush 32, 32, 0, 0, []),
  (87, .iload_n 1, 0, 0, 0, []),
  (88, .imul, 0, 0, 0, []),
  (89, .bipush 32, 32, 0, 0, []),
  (91, .iadd, 0, 0, 0, []),
  (92, .if_icmp .ge 22, 0, 114, 0, []),
  (95, .aload_n 0, 0, 0, 0, []),
  (96, .getfield 13, 0, 901, 0, []),
  (99, .aload_n 0, 0, 0, 0, []),
  (100, .iload_n 3, 0, 0, 0, []),
  (101, .invokevirtual 37, 0, 135, 902, [(0, 0)]),
  (104, .iconst 0, 0, 0, 0, []),
  (105, .iadd, 0, 0, 0, []),
  (106, .iconst 0, 0, 0, 0, []),
  (107, .iastore, 0, 0, 0, []),
  (108, .iinc 3 1, 1, 0, 0, []),
  (111, .goto (-27), 0, 84, 0, []),
  (114, .aload_n 0, 0, 0, 0, []),
  (115, .bipush 6, 6, 0, 0, []),
  (117, .iconst 1, 1, 0, 0, []),
  (118, .invokevirtual 111, 0, 161, 903, []),
  (121, .return_, 0, 0, 0, []),
  (122, .aload_n 0, 0, 0, 0, []),
  (123, .getfield 13, 0, 901, 0, []),
  (126, .iload_n 2, 0, 0, 0, []),
  (127, .iconst 3, 3, 0, 0, []),
  (128, .iadd, 0, 0, 0, []),
  (129, .iaload, 0, 0, 0, []),
  (130, .aload_n 0, 0, 0, 0, []),
  (131, .iconst 1, 1, 0, 0, []),
  (132, .invokevirtual 188, 0, 193, 902, [(0, 0)]),
  (135, .if_icmp .lt 14, 0, 149, 0, []),
  (138, .aload_n 0, 0, 0, 0, []),
  (139, .iload_n 1, 0, 0, 0, []),
  (140, .aload_n 0, 0, 0, 0, []),
  (141, .iload_n 1, 0, 0, 0, []),
  (142, .invokevirtual 249, 0, 223, 902, [(0, 0)]),
  (145, .invokevirtual 231, 0, 207, 903, []),
  (148, .return_, 0, 0, 0, []),
  (149, .aload_n 0, 0, 0, 0, []),
  (150, .iload_n 2, 0, 0, 0, []),
  (151, .iconst 3, 3, 0, 0, []),
  (152, .iadd, 0, 0, 0, []),
  (153, .iconst 1, 1, 0, 0, []),
  (154, .invokevirtual 43, 0, 160, 903, []),
  (157, .aload_n 0, 0, 0, 0, []),
  (158, .getfield 13, 0, 901, 0, []),
  (161, .iload_n 2, 0, 0, 0, []),
  (162, .iconst 4, 4, 0, 0, []),
  (163, .iadd, 0, 0, 0, []),
  (164, .aload_n 0, 0, 0, 0, []),
  (165, .iconst 3, 3, 0, 0, []),
  (166, .invokevirtual 188, 0, 193, 902, [(0, 0)]),
  (169, .iastore, 0, 0, 0, []),
  (170, .aload_n 0, 0, 0, 0, []),
  (171, .getfield 13, 0, 901, 0, []),
  (174, .iload_n 2, 0, 0, 0, []),
  (175, .iconst 5, 5, 0, 0, []),
  (176, .iadd, 0, 0, 0, []),
  (177, .iconst 0, 0, 0, 0, []),
  (178, .iastore, 0, 0, 0, []),
  (179, .return_, 0, 0, 0, [])])
def m_M_manyIn : sm_M := (⟨"SpansAwayModel", "manyIn", "(II)I"⟩, prog_12_method_87_code, 5, (some .int), (2, 42, 10, 903), [
  (0, .iconst 0, 0, 0, 0, []),
  (1, .istore_n 3, 0, 0, 0, []),
  (2, .bipush 32, 32, 0, 0, []),
  (4, .iload_n 1, 0, 0, 0, []),
  (5, .imul, 0, 0, 0, []),
  (6, .istore 4, 0, 0, 0, []),
  (8, .iload 4, 0, 0, 0, []),
  (10, .bipush 32, 32, 0, 0, []),
  (12, .iload_n 1, 0, 0, 0, []),
  (13, .imul, 0, 0, 0, []),
  (14, .bipush 32, 32, 0, 0, []),
  (16, .iadd, 0, 0, 0, []),
  (17, .if_icmp .ge 23, 0, 40, 0, []),
  (20, .aload_n 0, 0, 0, 0, []),
  (21, .iload 4, 0, 0, 0, []),
  (23, .invokevirtual 61, 0, 150, 902, [(0, 0)]),
  (26, .iload_n 2, 0, 0, 0, []),
  (27, .if_icmp .ne 7, 0, 34, 0, []),
  (30, .iload_n 3, 0, 0, 0, []),
  (31, .iconst 1, 1, 0, 0, []),
  (32, .iadd, 0, 0, 0, []),
  (33, .istore_n 3, 0, 0, 0, []),
  (34, .iinc 4 1, 1, 0, 0, []),
  (37, .goto (-29), 0, 8, 0, []),
  (40, .iload_n 3, 0, 0, 0, []),
  (41, .ireturn, 0, 0, 0, [])])
def m_M_whyOf : sm_M := (⟨"SpansAwayModel", "whyOf", "(I)I"⟩, prog_12_method_88_code, 3, (some .int), (4, 89, 10, 902), [
  (0, .aload_n 0, 0, 0, 0, []),
  (1, .iload_n 1, 0, 0, 0, []),
  (2, .iconst 0, 0, 0, 0, []),
  (3, .invokevirtual 234, 0, 216, 903, [(0, 0)]),
  (6, .istore_n 2, 0, 0, 0, []),
  (7, .iload_n 2, 0, 0, 0, []),
  (8, .iconst (-1), (-1), 0, 0, []),
  (9, .if_icmp .ne 5, 0, 14, 0, []),
  (12, .iconst 2, 2, 0, 0, []),
  (13, .ireturn, 0, 0, 0, []),
  (14, .aload_n 0, 0, 0, 0, []),
  (15, .iload_n 2, 0, 0, 0, []),
  (16, .iconst 3, 3, 0, 0, []),
  (17, .invokevirtual 80, 0, 153, 903, [(0, 0)]),
  (20, .iconst 1, 1, 0, 0, []),
  (21, .if_icmp .ne 7, 0, 28, 0, []),
  (24, .iconst 0, 0, 0, 0, []),
  (25, .goto 16, 0, 41, 0, []),
  (28, .aload_n 0, 0, 0, 0, []),
  (29, .iload_n 2, 0, 0, 0, []),
  (30, .invokevirtual 117, 0, 155, 902, [(0, 0)]),
  (33, .ifCond .eq 7, 0, 40, 0, []),
  (36, .iconst 1, 1, 0, 0, []),
  (37, .goto 4, 0, 41, 0, []),
  (40, .iconst 2, 2, 0, 0, []),
  (41, .ireturn, 0, 0, 0, [])])
def m_M_keeps : sm_M := (⟨"SpansAwayModel", "keeps", "(III)I"⟩, prog_12_method_95_code, 5, (some .int), (6, 135, 10, 904), [
  (0, .aload_n 0, 0, 0, 0, []),
  (1, .iconst 0, 0, 0, 0, []),
  (2, .putfield 1, 0, 900, 0, []),
  (5, .aload_n 0, 0, 0, 0, []),
  (6, .iload_n 1, 0, 0, 0, []),
  (7, .invokevirtual 179, 0, 184, 902, [(0, 0)]),
  (10, .ifCond .ne 5, 0, 15, 0, []),
  (13, .iconst (-1), (-1), 0, 0, []),
  (14, .ireturn, 0, 0, 0, []),
  (15, .iload_n 2, 0, 0, 0, []),
  (16, .iconst (-1), (-1), 0, 0, []),
  (17, .if_icmp .ne 10, 0, 27, 0, []),
  (20, .aload_n 0, 0, 0, 0, []),
  (21, .iload_n 1, 0, 0, 0, []),
  (22, .iconst (-1), (-1), 0, 0, []),
  (23, .invokevirtual 273, 0, 225, 903, [(0, 0)]),
  (26, .ireturn, 0, 0, 0, []),
  (27, .iload_n 2, 0, 0, 0, []),
  (28, .ifCond .ge 7, 0, 35, 0, []),
  (31, .iconst (-1), (-1), 0, 0, []),
  (32, .goto 9, 0, 41, 0, []),
  (35, .aload_n 0, 0, 0, 0, []),
  (36, .iload_n 1, 0, 0, 0, []),
  (37, .iload_n 2, 0, 0, 0, []),
  (38, .invokevirtual 273, 0, 225, 903, [(0, 0)]),
  (41, .istore 4, 0, 0, 0, []),
  (43, .iload 4, 0, 0, 0, []),
  (45, .iconst (-1), (-1), 0, 0, []),
  (46, .if_icmp .ne 5, 0, 51, 0, []),
  (49, .iconst (-1), (-1), 0, 0, []),
  (50, .ireturn, 0, 0, 0, []),
  (51, .iload_n 3, 0, 0, 0, []),
  (52, .ifCond .ne 6, 0, 58, 0, []),
  (55, .iload 4, 0, 0, 0, []),
  (57, .ireturn, 0, 0, 0, []),
  (58, .iload_n 3, 0, 0, 0, []),
  (59, .iconst 1, 1, 0, 0, []),
  (60, .if_icmp .ne 11, 0, 71, 0, []),
  (63, .aload_n 0, 0, 0, 0, []),
  (64, .iload 4, 0, 0, 0, []),
  (66, .iload_n 1, 0, 0, 0, []),
  (67, .invokevirtual 270, 0, 226, 903, [(0, 0)]),
  (70, .ireturn, 0, 0, 0, []),
  (71, .iload_n 3, 0, 0, 0, []),
  (72, .iconst 2, 2, 0, 0, []),
  (73, .if_icmp .ne 13, 0, 86, 0, []),
  (76, .aload_n 0, 0, 0, 0, []),
  (77, .iload 4, 0, 0, 0, []),
  (79, .iconst 4, 4, 0, 0, []),
  (80, .invokevirtual 80, 0, 153, 903, [(0, 0)]),
  (83, .goto 19, 0, 102, 0, []),
  (86, .iload_n 3, 0, 0, 0, []),
  (87, .iconst 3, 3, 0, 0, []),
  (88, .if_icmp .ne 13, 0, 101, 0, []),
  (91, .aload_n 0, 0, 0, 0, []),
  (92, .iload 4, 0, 0, 0, []),
  (94, .iconst 5, 5, 0, 0, []),
  (95, .invokevirtual 80, 0, 153, 903, [(0, 0)]),
  (98, .goto 4, 0, 102, 0, []),
  (101, .iconst (-1), (-1), 0, 0, []),
  (102, .ireturn, 0, 0, 0, [])])
def m_M_keeperAt : sm_M := (⟨"SpansAwayModel", "keeperAt", "(II)I"⟩, prog_12_method_94_code, 5, (some .int), (5, 111, 10, 903), [
  (0, .iconst 0, 0, 0, 0, []),
  (1, .istore_n 3, 0, 0, 0, []),
  (2, .aload_n 0, 0, 0, 0, []),
  (3, .iload_n 1, 0, 0, 0, []),
  (4, .iconst 0, 0, 0, 0, []),
  (5, .invokevirtual 234, 0, 216, 903, [(0, 0)]),
  (8, .istore 4, 0, 0, 0, []),
  (10, .iload 4, 0, 0, 0, []),
  (12, .iconst (-1), (-1), 0, 0, []),
  (13, .if_icmp .eq 50, 0, 63, 0, []),
  (16, .aload_n 0, 0, 0, 0, []),
  (17, .iload 4, 0, 0, 0, []),
  (19, .iload_n 1, 0, 0, 0, []),
  (20, .invokevirtual 270, 0, 226, 903, [(0, 0)]),
  (23, .iconst (-1), (-1), 0, 0, []),
  (24, .if_icmp .ne 6, 0, 30, 0, []),
  (27, .goto 15, 0, 42, 0, []),
  (30, .iload_n 3, 0, 0, 0, []),
  (31, .iload_n 2, 0, 0, 0, []),
  (32, .if_icmp .ne 6, 0, 38, 0, []),
  (35, .iload 4, 0, 0, 0, []),
  (37, .ireturn, 0, 0, 0, []),
  (38, .iload_n 3, 0, 0, 0, []),
  (39, .iconst 1, 1, 0, 0, []),
  (40, .iadd, 0, 0, 0, []),
  (41, .istore_n 3, 0, 0, 0, []),
  (42, .aload_n 0, 0, 0, 0, []),
  (43, .iload_n 1, 0, 0, 0, []),
  (44, .aload_n 0, 0, 0, 0, []),
  (45, .iload 4, 0, 0, 0, []),
  (47, .invokevirtual 97, 0, 158, 902, [(0, 0)]),
  (50, .bipush 32, 32, 0, 0, []),
  (52, .irem, 0, 0, 0, []),
  (53, .iconst 1, 1, 0, 0, []),
  (54, .iadd, 0, 0, 0, []),
  (55, .invokevirtual 234, 0, 216, 903, [(0, 0)]),
  (58, .istore 4, 0, 0, 0, []),
  (60, .goto (-50), 0, 10, 0, []),
  (63, .iload_n 2, 0, 0, 0, []),
  (64, .iconst (-1), (-1), 0, 0, []),
  (65, .if_icmp .ne 7, 0, 72, 0, []),
  (68, .iload_n 3, 0, 0, 0, []),
  (69, .goto 4, 0, 73, 0, []),
  (72, .iconst (-1), (-1), 0, 0, []),
  (73, .ireturn, 0, 0, 0, [])])
def m_M_keepsWhy : sm_M := (⟨"SpansAwayModel", "keepsWhy", "(II)I"⟩, prog_12_method_93_code, 4, (some .int), (4, 88, 10, 903), [
  (0, .aload_n 0, 0, 0, 0, []),
  (1, .iload_n 1, 0, 0, 0, []),
  (2, .iconst 3, 3, 0, 0, []),
  (3, .invokevirtual 80, 0, 153, 903, [(0, 0)]),
  (6, .iconst 1, 1, 0, 0, []),
  (7, .if_icmp .ne 5, 0, 12, 0, []),
  (10, .iconst 0, 0, 0, 0, []),
  (11, .ireturn, 0, 0, 0, []),
  (12, .aload_n 0, 0, 0, 0, []),
  (13, .iload_n 1, 0, 0, 0, []),
  (14, .invokevirtual 117, 0, 155, 902, [(0, 0)]),
  (17, .ifCond .eq 5, 0, 22, 0, []),
  (20, .iconst 1, 1, 0, 0, []),
  (21, .ireturn, 0, 0, 0, []),
  (22, .aload_n 0, 0, 0, 0, []),
  (23, .iload_n 1, 0, 0, 0, []),
  (24, .iconst 3, 3, 0, 0, []),
  (25, .invokevirtual 80, 0, 153, 903, [(0, 0)]),
  (28, .iconst 2, 2, 0, 0, []),
  (29, .if_icmp .ne 5, 0, 34, 0, []),
  (32, .iconst (-1), (-1), 0, 0, []),
  (33, .ireturn, 0, 0, 0, []),
  (34, .iconst 0, 0, 0, 0, []),
  (35, .istore_n 3, 0, 0, 0, []),
  (36, .iload_n 3, 0, 0, 0, []),
  (37, .sipush 256, 256, 0, 0, []),
  (40, .if_icmp .ge 77, 0, 117, 0, []),
  (43, .aload_n 0, 0, 0, 0, []),
  (44, .iload_n 3, 0, 0, 0, []),
  (45, .invokevirtual 67, 0, 144, 902, [(0, 0)]),
  (48, .iload_n 2, 0, 0, 0, []),
  (49, .if_icmp .eq 57, 0, 106, 0, []),
  (52, .aload_n 0, 0, 0, 0, []),
  (53, .aload_n 0, 0, 0, 0, []),
  (54, .iload_n 3, 0, 0, 0, []),
  (55, .invokevirtual 67, 0, 144, 902, [(0, 0)]),
  (58, .invokevirtual 64, 0, 147, 902, [(0, 0)]),
  (61, .iconst 1, 1, 0, 0, []),
  (62, .if_icmp .ne 44, 0, 106, 0, []),
  (65, .aload_n 0, 0, 0, 0, []),
  (66, .aload_n 0, 0, 0, 0, []),
  (67, .iload_n 3, 0, 0, 0, []),
  (68, .invokevirtual 67, 0, 144, 902, [(0, 0)]),
  (71, .aload_n 0, 0, 0, 0, []),
  (72, .iload_n 1, 0, 0, 0, []),
  (73, .iconst 3, 3, 0, 0, []),
  (74, .invokevirtual 80, 0, 153, 903, [(0, 0)]),
  (77, .aload_n 0, 0, 0, 0, []),
  (78, .iload_n 1, 0, 0, 0, []),
  (79, .iconst 4, 4, 0, 0, []),
  (80, .invokevirtual 80, 0, 153, 903, [(0, 0)]),
  (83, .invokevirtual 87, 0, 145, 904, [(0, 0)]),
  (86, .iconst (-1), (-1), 0, 0, []),
  (87, .if_icmp .eq 19, 0, 106, 0, []),
  (90, .aload_n 0, 0, 0, 0, []),
  (91, .iload_n 3, 0, 0, 0, []),
  (92, .aload_n 0, 0, 0, 0, []),
  (93, .iload_n 1, 0, 0, 0, []),
  (94, .iconst 2, 2, 0, 0, []),
  (95, .invokevirtual 80, 0, 153, 903, [(0, 0)]),
  (98, .invokevirtual 76, 0, 148, 903, [(0, 0)]),
  (101, .ifCond .eq 5, 0, 106, 0, []),
  (104, .iconst (-1), (-1), 0, 0, []),
  (105, .ireturn, 0, 0, 0, []),
  (106, .iload_n 3, 0, 0, 0, []),
  (107, .aload_n 0, 0, 0, 0, []),
  (108, .iload_n 1, 0, 0, 0, []),
  (109, .invokevirtual 94, 0, 163, 902, [(0, 0)]),
  (112, .iadd, 0, 0, 0, []),
  (113, .istore_n 3, 0, 0, 0, []),
  (114, .goto (-78), 0, 36, 0, []),
  (117, .iconst 2, 2, 0, 0, []),
  (118, .ireturn, 0, 0, 0, [])])
def m_M_holders : sm_M := (⟨"SpansAwayModel", "holders", "(I)I"⟩, prog_12_method_96_code, 5, (some .int), (6, 135, 10, 902), [
  (0, .aload_n 0, 0, 0, 0, []),
  (1, .iconst 0, 0, 0, 0, []),
  (2, .putfield 1, 0, 900, 0, []),
  (5, .aload_n 0, 0, 0, 0, []),
  (6, .iload_n 1, 0, 0, 0, []),
  (7, .invokevirtual 179, 0, 184, 902, [(0, 0)]),
  (10, .ifCond .ne 5, 0, 15, 0, []),
  (13, .iconst (-1), (-1), 0, 0, []),
  (14, .ireturn, 0, 0, 0, []),
  (15, .iconst 0, 0, 0, 0, []),
  (16, .istore_n 2, 0, 0, 0, []),
  (17, .iconst 0, 0, 0, 0, []),
  (18, .istore_n 3, 0, 0, 0, []),
  (19, .iload_n 3, 0, 0, 0, []),
  (20, .aload_n 0, 0, 0, 0, []),
  (21, .iload_n 1, 0, 0, 0, []),
  (22, .iconst (-1), (-1), 0, 0, []),
  (23, .invokevirtual 273, 0, 225, 903, [(0, 0)]),
  (26, .if_icmp .ge 50, 0, 76, 0, []),
  (29, .aload_n 0, 0, 0, 0, []),
  (30, .iload_n 1, 0, 0, 0, []),
  (31, .iload_n 3, 0, 0, 0, []),
  (32, .invokevirtual 273, 0, 225, 903, [(0, 0)]),
  (35, .istore 4, 0, 0, 0, []),
  (37, .aload_n 0, 0, 0, 0, []),
  (38, .iload 4, 0, 0, 0, []),
  (40, .iconst 3, 3, 0, 0, []),
  (41, .invokevirtual 80, 0, 153, 903, [(0, 0)]),
  (44, .iconst 1, 1, 0, 0, []),
  (45, .if_icmp .ne 15, 0, 60, 0, []),
  (48, .iload_n 2, 0, 0, 0, []),
  (49, .iconst 1, 1, 0, 0, []),
  (50, .aload_n 0, 0, 0, 0, []),
  (51, .iload 4, 0, 0, 0, []),
  (53, .iconst 4, 4, 0, 0, []),
  (54, .invokevirtual 80, 0, 153, 903, [(0, 0)]),
  (57, .ishl, 0, 0, 0, []),
  (58, .ior, 0, 0, 0, []),
  (59, .istore_n 2, 0, 0, 0, []),
  (60, .iload_n 2, 0, 0, 0, []),
  (61, .aload_n 0, 0, 0, 0, []),
  (62, .iload 4, 0, 0, 0, []),
  (64, .iconst 5, 5, 0, 0, []),
  (65, .invokevirtual 80, 0, 153, 903, [(0, 0)]),
  (68, .ior, 0, 0, 0, []),
  (69, .istore_n 2, 0, 0, 0, []),
  (70, .iinc 3 1, 1, 0, 0, []),
  (73, .goto (-54), 0, 19, 0, []),
  (76, .iload_n 2, 0, 0, 0, []),
  (77, .ireturn, 0, 0, 0, [])])
def m_M_would : sm_M := (⟨"SpansAwayModel", "would", "(II)I"⟩, prog_12_method_100_code, 7, (some .int), (11, 250, 10, 903), [
  (0, .aload_n 0, 0, 0, 0, []),
  (1, .iconst 0, 0, 0, 0, []),
  (2, .putfield 1, 0, 900, 0, []),
  (5, .aload_n 0, 0, 0, 0, []),
  (6, .iload_n 1, 0, 0, 0, []),
  (7, .invokevirtual 213, 0, 202, 902, [(0, 0)]),
  (10, .ifCond .eq 13, 0, 23, 0, []),
  (13, .aload_n 0, 0, 0, 0, []),
  (14, .iload_n 2, 0, 0, 0, []),
  (15, .iconst 0, 0, 0, 0, []),
  (16, .iconst 4, 4, 0, 0, []),
  (17, .invokevirtual 47, 0, 137, 904, [(0, 0)]),
  (20, .ifCond .ne 5, 0, 25, 0, []),
  (23, .iconst (-1), (-1), 0, 0, []),
  (24, .ireturn, 0, 0, 0, []),
  (25, .aload_n 0, 0, 0, 0, []),
  (26, .invokevirtual 204, 0, 199, 901, []),
  (29, .aload_n 0, 0, 0, 0, []),
  (30, .getfield 13, 0, 901, 0, []),
  (33, .bipush 10, 10, 0, 0, []),
  (35, .iaload, 0, 0, 0, []),
  (36, .istore_n 3, 0, 0, 0, []),
  (37, .aload_n 0, 0, 0, 0, []),
  (38, .getfield 13, 0, 901, 0, []),
  (41, .bipush 11, 11, 0, 0, []),
  (43, .iaload, 0, 0, 0, []),
  (44, .istore 4, 0, 0, 0, []),
  (46, .aload_n 0, 0, 0, 0, []),
  (47, .getfield 13, 0, 901, 0, []),
  (50, .bipush 12, 12, 0, 0, []),
  (52, .iaload, 0, 0, 0, []),
  (53, .istore 5, 0, 0, 0, []),
  (55, .aload_n 0, 0, 0, 0, []),
  (56, .iload_n 1, 0, 0, 0, []),
  (57, .invokevirtual 276, 0, 229, 902, [(0, 0)]),
  (60, .istore 6, 0, 0, 0, []),
  (62, .iload_n 2, 0, 0, 0, []),
  (63, .ifCond .ne 18, 0, 81, 0, []),
  (66, .aload_n 0, 0, 0, 0, []),
  (67, .iload_n 1, 0, 0, 0, []),
  (68, .invokevirtual 64, 0, 147, 902, [(0, 0)]),
  (71, .ifCond .ne 7, 0, 78, 0, []),
  (74, .iconst 1, 1, 0, 0, []),
  (75, .goto 4, 0, 79, 0, []),
  (78, .iconst 0, 0, 0, 0, []),
  (79, .istore 6, 0, 0, 0, []),
  (81, .iload_n 2, 0, 0, 0, []),
  (82, .iconst 2, 2, 0, 0, []),
  (83, .if_icmp .ne 14, 0, 97, 0, []),
  (86, .aload_n 0, 0, 0, 0, []),
  (87, .getfield 13, 0, 901, 0, []),
  (90, .bipush 10, 10, 0, 0, []),
  (92, .iaload, 0, 0, 0, []),
  (93, .iload_n 3, 0, 0, 0, []),
  (94, .isub, 0, 0, 0, []),
  (95, .istore 6, 0, 0, 0, []),
  (97, .iload_n 2, 0, 0, 0, []),
  (98, .iconst 3, 3, 0, 0, []),
  (99, .if_icmp .ne 15, 0, 114, 0, []),
  (102, .aload_n 0, 0, 0, 0, []),
  (103, .getfield 13, 0, 901, 0, []),
  (106, .bipush 11, 11, 0, 0, []),
  (108, .iaload, 0, 0, 0, []),
  (109, .iload 4, 0, 0, 0, []),
  (111, .isub, 0, 0, 0, []),
  (112, .istore 6, 0, 0, 0, []),
  (114, .iload_n 2, 0, 0, 0, []),
  (115, .iconst 4, 4, 0, 0, []),
  (116, .if_icmp .ne 15, 0, 131, 0, []),
  (119, .aload_n 0, 0, 0, 0, []),
  (120, .getfield 13, 0, 901, 0, []),
  (123, .bipush 12, 12, 0, 0, []),
  (125, .iaload, 0, 0, 0, []),
  (126, .iload 5, 0, 0, 0, []),
  (128, .isub, 0, 0, 0, []),
  (129, .istore 6, 0, 0, 0, []),
  (131, .aload_n 0, 0, 0, 0, []),
  (132, .invokevirtual 207, 0, 200, 901, []),
  (135, .iload 6, 0, 0, 0, []),
  (137, .ireturn, 0, 0, 0, [])])
def m_M_goesAway : sm_M := (⟨"SpansAwayModel", "goesAway", "(I)I"⟩, prog_12_method_99_code, 3, (some .int), (10, 228, 10, 902), [
  (0, .iconst 0, 0, 0, 0, []),
  (1, .istore_n 2, 0, 0, 0, []),
  (2, .aload_n 0, 0, 0, 0, []),
  (3, .iload_n 1, 0, 0, 0, []),
  (4, .invokevirtual 216, 0, 204, 902, []),
  (7, .iload_n 2, 0, 0, 0, []),
  (8, .sipush 500, 500, 0, 0, []),
  (11, .if_icmp .ge 22, 0, 33, 0, []),
  (14, .aload_n 0, 0, 0, 0, []),
  (15, .iload_n 1, 0, 0, 0, []),
  (16, .invokevirtual 228, 0, 206, 902, [(0, 0)]),
  (19, .ifCond .eq 14, 0, 33, 0, []),
  (22, .aload_n 0, 0, 0, 0, []),
  (23, .invokevirtual 267, 0, 212, 901, []),
  (26, .iload_n 2, 0, 0, 0, []),
  (27, .iconst 1, 1, 0, 0, []),
  (28, .iadd, 0, 0, 0, []),
  (29, .istore_n 2, 0, 0, 0, []),
  (30, .goto (-23), 0, 7, 0, []),
  (33, .iload_n 2, 0, 0, 0, []),
  (34, .ireturn, 0, 0, 0, [])])
def m_M_easiest : sm_M := (⟨"SpansAwayModel", "easiest", "(I)I"⟩, prog_12_method_102_code, 3, (some .int), (12, 275, 10, 902), [
  (0, .aload_n 0, 0, 0, 0, []),
  (1, .iconst 0, 0, 0, 0, []),
  (2, .putfield 1, 0, 900, 0, []),
  (5, .aload_n 0, 0, 0, 0, []),
  (6, .iload_n 1, 0, 0, 0, []),
  (7, .iconst 0, 0, 0, 0, []),
  (8, .iconst 1, 1, 0, 0, []),
  (9, .invokevirtual 47, 0, 137, 904, [(0, 0)]),
  (12, .ifCond .ne 5, 0, 17, 0, []),
  (15, .iconst (-1), (-1), 0, 0, []),
  (16, .ireturn, 0, 0, 0, []),
  (17, .aload_n 0, 0, 0, 0, []),
  (18, .invokevirtual 282, 0, 231, 901, [(0, 0)]),
  (21, .istore_n 2, 0, 0, 0, []),
  (22, .iload_n 2, 0, 0, 0, []),
  (23, .iconst (-1), (-1), 0, 0, []),
  (24, .if_icmp .ne 7, 0, 31, 0, []),
  (27, .iconst (-1), (-1), 0, 0, []),
  (28, .goto 15, 0, 43, 0, []),
  (31, .iload_n 1, 0, 0, 0, []),
  (32, .ifCond .ne 7, 0, 39, 0, []),
  (35, .iload_n 2, 0, 0, 0, []),
  (36, .goto 7, 0, 43, 0, []),
  (39, .aload_n 0, 0, 0, 0, []),
  (40, .getfield 279, 0, 905, 0, []),
  (43, .ireturn, 0, 0, 0, [])])
def m_M_easiestNow : sm_M := (⟨"SpansAwayModel", "easiestNow", "()I"⟩, prog_12_method_101_code, 6, (some .int), (11, 250, 10, 901), [
  (0, .iconst (-1), (-1), 0, 0, []),
  (1, .istore_n 1, 0, 0, 0, []),
  (2, .iconst 0, 0, 0, 0, []),
  (3, .istore_n 2, 0, 0, 0, []),
  (4, .iload_n 2, 0, 0, 0, []),
  (5, .sipush 2662, 2662, 0, 0, []),
  (8, .if_icmp .ge 21, 0, 29, 0, []),
  (11, .aload_n 0, 0, 0, 0, []),
  (12, .getfield 20, 0, 903, 0, []),
  (15, .iload_n 2, 0, 0, 0, []),
  (16, .aload_n 0, 0, 0, 0, []),
  (17, .getfield 13, 0, 901, 0, []),
  (20, .iload_n 2, 0, 0, 0, []),
  (21, .iaload, 0, 0, 0, []),
  (22, .iastore, 0, 0, 0, []),
  (23, .iinc 2 1, 1, 0, 0, []),
  (26, .goto (-22), 0, 4, 0, []),
  (29, .iconst 0, 0, 0, 0, []),
  (30, .istore_n 2, 0, 0, 0, []),
  (31, .iload_n 2, 0, 0, 0, []),
  (32, .bipush 8, 8, 0, 0, []),
  (34, .if_icmp .ge 100, 0, 134, 0, []),
  (37, .aload_n 0, 0, 0, 0, []),
  (38, .iload_n 2, 0, 0, 0, []),
  (39, .invokevirtual 213, 0, 202, 902, [(0, 0)]),
  (42, .ifCond .ne 6, 0, 48, 0, []),
  (45, .goto 83, 0, 128, 0, []),
  (48, .aload_n 0, 0, 0, 0, []),
  (49, .iload_n 2, 0, 0, 0, []),
  (50, .invokevirtual 276, 0, 229, 902, [(0, 0)]),
  (53, .istore_n 3, 0, 0, 0, []),
  (54, .aload_n 0, 0, 0, 0, []),
  (55, .iload_n 2, 0, 0, 0, []),
  (56, .invokevirtual 64, 0, 147, 902, [(0, 0)]),
  (59, .ifCond .ne 7, 0, 66, 0, []),
  (62, .iconst 1, 1, 0, 0, []),
  (63, .goto 4, 0, 67, 0, []),
  (66, .iconst 0, 0, 0, 0, []),
  (67, .istore 4, 0, 0, 0, []),
  (69, .iconst 0, 0, 0, 0, []),
  (70, .istore 5, 0, 0, 0, []),
  (72, .iload 5, 0, 0, 0, []),
  (74, .sipush 2662, 2662, 0, 0, []),
  (77, .if_icmp .ge 23, 0, 100, 0, []),
  (80, .aload_n 0, 0, 0, 0, []),
  (81, .getfield 13, 0, 901, 0, []),
  (84, .iload 5, 0, 0, 0, []),
  (86, .aload_n 0, 0, 0, 0, []),
  (87, .getfield 20, 0, 903, 0, []),
  (90, .iload 5, 0, 0, 0, []),
  (92, .iaload, 0, 0, 0, []),
  (93, .iastore, 0, 0, 0, []),
  (94, .iinc 5 1, 1, 0, 0, []),
  (97, .goto (-25), 0, 72, 0, []),
  (100, .iload 4, 0, 0, 0, []),
  (102, .ifCond .eq 26, 0, 128, 0, []),
  (105, .iload_n 1, 0, 0, 0, []),
  (106, .iconst (-1), (-1), 0, 0, []),
  (107, .if_icmp .eq 14, 0, 121, 0, []),
  (110, .iload_n 3, 0, 0, 0, []),
  (111, .aload_n 0, 0, 0, 0, []),
  (112, .getfield 279, 0, 905, 0, []),
  (115, .if_icmp .lt 6, 0, 121, 0, []),
  (118, .goto 10, 0, 128, 0, []),
  (121, .iload_n 2, 0, 0, 0, []),
  (122, .istore_n 1, 0, 0, 0, []),
  (123, .aload_n 0, 0, 0, 0, []),
  (124, .iload_n 3, 0, 0, 0, []),
  (125, .putfield 279, 0, 905, 0, []),
  (128, .iinc 2 1, 1, 0, 0, []),
  (131, .goto (-100), 0, 31, 0, []),
  (134, .iload_n 1, 0, 0, 0, []),
  (135, .ireturn, 0, 0, 0, [])])
def m_M_givenBack : sm_M := (⟨"SpansAwayModel", "givenBack", "()I"⟩, prog_12_method_103_code, 3, (some .int), (12, 275, 10, 901), [
  (0, .aload_n 0, 0, 0, 0, []),
  (1, .iconst 0, 0, 0, 0, []),
  (2, .putfield 1, 0, 900, 0, []),
  (5, .iconst 0, 0, 0, 0, []),
  (6, .istore_n 1, 0, 0, 0, []),
  (7, .aload_n 0, 0, 0, 0, []),
  (8, .invokevirtual 204, 0, 199, 901, []),
  (11, .aload_n 0, 0, 0, 0, []),
  (12, .invokevirtual 282, 0, 231, 901, [(0, 0)]),
  (15, .istore_n 2, 0, 0, 0, []),
  (16, .iload_n 2, 0, 0, 0, []),
  (17, .iconst (-1), (-1), 0, 0, []),
  (18, .if_icmp .eq 21, 0, 39, 0, []),
  (21, .aload_n 0, 0, 0, 0, []),
  (22, .iload_n 2, 0, 0, 0, []),
  (23, .invokevirtual 276, 0, 229, 902, [(0, 0)]),
  (26, .pop, 0, 0, 0, []),
  (27, .iload_n 1, 0, 0, 0, []),
  (28, .iconst 1, 1, 0, 0, []),
  (29, .iadd, 0, 0, 0, []),
  (30, .istore_n 1, 0, 0, 0, []),
  (31, .aload_n 0, 0, 0, 0, []),
  (32, .invokevirtual 282, 0, 231, 901, [(0, 0)]),
  (35, .istore_n 2, 0, 0, 0, []),
  (36, .goto (-20), 0, 16, 0, []),
  (39, .aload_n 0, 0, 0, 0, []),
  (40, .invokevirtual 207, 0, 200, 901, []),
  (43, .iload_n 1, 0, 0, 0, []),
  (44, .ireturn, 0, 0, 0, [])])
def m_M_pressed : sm_M := (⟨"SpansAwayModel", "pressed", "(I)I"⟩, prog_12_method_105_code, 3, (some .int), (6, 132, 10, 902), [
  (0, .aload_n 0, 0, 0, 0, []),
  (1, .iconst 0, 0, 0, 0, []),
  (2, .putfield 1, 0, 900, 0, []),
  (5, .aload_n 0, 0, 0, 0, []),
  (6, .iload_n 1, 0, 0, 0, []),
  (7, .invokevirtual 179, 0, 184, 902, [(0, 0)]),
  (10, .ifCond .eq 12, 0, 22, 0, []),
  (13, .aload_n 0, 0, 0, 0, []),
  (14, .iload_n 1, 0, 0, 0, []),
  (15, .invokevirtual 64, 0, 147, 902, [(0, 0)]),
  (18, .iconst 1, 1, 0, 0, []),
  (19, .if_icmp .eq 5, 0, 24, 0, []),
  (22, .iconst (-1), (-1), 0, 0, []),
  (23, .ireturn, 0, 0, 0, []),
  (24, .aload_n 0, 0, 0, 0, []),
  (25, .invokevirtual 204, 0, 199, 901, []),
  (28, .aload_n 0, 0, 0, 0, []),
  (29, .iload_n 1, 0, 0, 0, []),
  (30, .invokevirtual 182, 0, 185, 902, [(0, 0)]),
  (33, .pop, 0, 0, 0, []),
  (34, .aload_n 0, 0, 0, 0, []),
  (35, .iload_n 1, 0, 0, 0, []),
  (36, .invokevirtual 285, 0, 234, 902, [(0, 0)]),
  (39, .istore_n 2, 0, 0, 0, []),
  (40, .aload_n 0, 0, 0, 0, []),
  (41, .invokevirtual 207, 0, 200, 901, []),
  (44, .iload_n 2, 0, 0, 0, []),
  (45, .ireturn, 0, 0, 0, [])])
def m_M_greatestIn : sm_M := (⟨"SpansAwayModel", "greatestIn", "(I)I"⟩, prog_12_method_104_code, 5, (some .int), (4, 87, 10, 902), [
  (0, .iconst (-1), (-1), 0, 0, []),
  (1, .istore_n 2, 0, 0, 0, []),
  (2, .iconst 0, 0, 0, 0, []),
  (3, .istore_n 3, 0, 0, 0, []),
  (4, .iload_n 3, 0, 0, 0, []),
  (5, .iconst 5, 5, 0, 0, []),
  (6, .if_icmp .gt 50, 0, 56, 0, []),
  (9, .bipush 32, 32, 0, 0, []),
  (11, .iload_n 1, 0, 0, 0, []),
  (12, .imul, 0, 0, 0, []),
  (13, .istore 4, 0, 0, 0, []),
  (15, .iload 4, 0, 0, 0, []),
  (17, .bipush 32, 32, 0, 0, []),
  (19, .iload_n 1, 0, 0, 0, []),
  (20, .imul, 0, 0, 0, []),
  (21, .bipush 32, 32, 0, 0, []),
  (23, .iadd, 0, 0, 0, []),
  (24, .if_icmp .ge 26, 0, 50, 0, []),
  (27, .aload_n 0, 0, 0, 0, []),
  (28, .iload 4, 0, 0, 0, []),
  (30, .iload_n 3, 0, 0, 0, []),
  (31, .invokevirtual 76, 0, 148, 903, [(0, 0)]),
  (34, .ifCond .eq 5, 0, 39, 0, []),
  (37, .iload_n 3, 0, 0, 0, []),
  (38, .istore_n 2, 0, 0, 0, []),
  (39, .iload 4, 0, 0, 0, []),
  (41, .iconst 1, 1, 0, 0, []),
  (42, .iload_n 3, 0, 0, 0, []),
  (43, .ishl, 0, 0, 0, []),
  (44, .iadd, 0, 0, 0, []),
  (45, .istore 4, 0, 0, 0, []),
  (47, .goto (-32), 0, 15, 0, []),
  (50, .iinc 3 1, 1, 0, 0, []),
  (53, .goto (-49), 0, 4, 0, []),
  (56, .iload_n 2, 0, 0, 0, []),
  (57, .ireturn, 0, 0, 0, [])])
def m_M_frame : sm_M := (⟨"SpansAwayModel", "frame", "(II)I"⟩, prog_12_method_106_code, 4, (some .int), (1, 23, 10, 903), [
  (0, .aload_n 0, 0, 0, 0, []),
  (1, .iconst 0, 0, 0, 0, []),
  (2, .putfield 1, 0, 900, 0, []),
  (5, .aload_n 0, 0, 0, 0, []),
  (6, .iload_n 1, 0, 0, 0, []),
  (7, .iconst 0, 0, 0, 0, []),
  (8, .sipush 255, 255, 0, 0, []),
  (11, .invokevirtual 47, 0, 137, 904, [(0, 0)]),
  (14, .ifCond .eq 13, 0, 27, 0, []),
  (17, .aload_n 0, 0, 0, 0, []),
  (18, .iload_n 2, 0, 0, 0, []),
  (19, .iconst 0, 0, 0, 0, []),
  (20, .iconst 2, 2, 0, 0, []),
  (21, .invokevirtual 47, 0, 137, 904, [(0, 0)]),
  (24, .ifCond .ne 5, 0, 29, 0, []),
  (27, .iconst (-1), (-1), 0, 0, []),
  (28, .ireturn, 0, 0, 0, []),
  (29, .aload_n 0, 0, 0, 0, []),
  (30, .getfield 13, 0, 901, 0, []),
  (33, .aload_n 0, 0, 0, 0, []),
  (34, .iload_n 1, 0, 0, 0, []),
  (35, .invokevirtual 37, 0, 135, 902, [(0, 0)]),
  (38, .iload_n 2, 0, 0, 0, []),
  (39, .iadd, 0, 0, 0, []),
  (40, .iaload, 0, 0, 0, []),
  (41, .istore_n 3, 0, 0, 0, []),
  (42, .iload_n 2, 0, 0, 0, []),
  (43, .iconst 1, 1, 0, 0, []),
  (44, .if_icmp .ne 9, 0, 53, 0, []),
  (47, .iload_n 3, 0, 0, 0, []),
  (48, .iconst 1, 1, 0, 0, []),
  (49, .isub, 0, 0, 0, []),
  (50, .goto 4, 0, 54, 0, []),
  (53, .iload_n 3, 0, 0, 0, []),
  (54, .ireturn, 0, 0, 0, [])])
def m_M_block : sm_M := (⟨"SpansAwayModel", "block", "(II)I"⟩, prog_12_method_107_code, 4, (some .int), (2, 43, 10, 903), [
  (0, .aload_n 0, 0, 0, 0, []),
  (1, .iconst 0, 0, 0, 0, []),
  (2, .putfield 1, 0, 900, 0, []),
  (5, .aload_n 0, 0, 0, 0, []),
  (6, .iload_n 1, 0, 0, 0, []),
  (7, .invokevirtual 147, 0, 172, 902, [(0, 0)]),
  (10, .ifCond .eq 14, 0, 24, 0, []),
  (13, .aload_n 0, 0, 0, 0, []),
  (14, .iload_n 2, 0, 0, 0, []),
  (15, .iconst 0, 0, 0, 0, []),
  (16, .bipush 8, 8, 0, 0, []),
  (18, .invokevirtual 47, 0, 137, 904, [(0, 0)]),
  (21, .ifCond .ne 5, 0, 26, 0, []),
  (24, .iconst (-1), (-1), 0, 0, []),
  (25, .ireturn, 0, 0, 0, []),
  (26, .aload_n 0, 0, 0, 0, []),
  (27, .iload_n 1, 0, 0, 0, []),
  (28, .iload_n 2, 0, 0, 0, []),
  (29, .iconst 1, 1, 0, 0, []),
  (30, .iadd, 0, 0, 0, []),
  (31, .invokevirtual 80, 0, 153, 903, [(0, 0)]),
  (34, .istore_n 3, 0, 0, 0, []),
  (35, .iload_n 2, 0, 0, 0, []),
  (36, .iconst 1, 1, 0, 0, []),
  (37, .iadd, 0, 0, 0, []),
  (38, .bipush 6, 6, 0, 0, []),
  (40, .if_icmp .ne 9, 0, 49, 0, []),
  (43, .iload_n 3, 0, 0, 0, []),
  (44, .iconst 1, 1, 0, 0, []),
  (45, .isub, 0, 0, 0, []),
  (46, .goto 4, 0, 50, 0, []),
  (49, .iload_n 3, 0, 0, 0, []),
  (50, .ireturn, 0, 0, 0, [])])
def m_M_span : sm_M := (⟨"SpansAwayModel", "span", "(II)I"⟩, prog_12_method_108_code, 4, (some .int), (3, 66, 10, 903), [
  (0, .aload_n 0, 0, 0, 0, []),
  (1, .iconst 0, 0, 0, 0, []),
  (2, .putfield 1, 0, 900, 0, []),
  (5, .aload_n 0, 0, 0, 0, []),
  (6, .iload_n 1, 0, 0, 0, []),
  (7, .invokevirtual 179, 0, 184, 902, [(0, 0)]),
  (10, .ifCond .eq 14, 0, 24, 0, []),
  (13, .aload_n 0, 0, 0, 0, []),
  (14, .iload_n 2, 0, 0, 0, []),
  (15, .iconst 0, 0, 0, 0, []),
  (16, .bipush 10, 10, 0, 0, []),
  (18, .invokevirtual 47, 0, 137, 904, [(0, 0)]),
  (21, .ifCond .ne 5, 0, 26, 0, []),
  (24, .iconst (-1), (-1), 0, 0, []),
  (25, .ireturn, 0, 0, 0, []),
  (26, .aload_n 0, 0, 0, 0, []),
  (27, .iload_n 1, 0, 0, 0, []),
  (28, .invokevirtual 33, 0, 134, 902, [(0, 0)]),
  (31, .istore_n 3, 0, 0, 0, []),
  (32, .iload_n 2, 0, 0, 0, []),
  (33, .ifCond .ne 12, 0, 45, 0, []),
  (36, .aload_n 0, 0, 0, 0, []),
  (37, .getfield 13, 0, 901, 0, []),
  (40, .iload_n 3, 0, 0, 0, []),
  (41, .iconst 0, 0, 0, 0, []),
  (42, .iadd, 0, 0, 0, []),
  (43, .iaload, 0, 0, 0, []),
  (44, .ireturn, 0, 0, 0, []),
  (45, .iload_n 2, 0, 0, 0, []),
  (46, .iconst 1, 1, 0, 0, []),
  (47, .if_icmp .ne 9, 0, 56, 0, []),
  (50, .aload_n 0, 0, 0, 0, []),
  (51, .iload_n 1, 0, 0, 0, []),
  (52, .invokevirtual 84, 0, 146, 902, [(0, 0)]),
  (55, .ireturn, 0, 0, 0, []),
  (56, .iload_n 2, 0, 0, 0, []),
  (57, .bipush 6, 6, 0, 0, []),
  (59, .if_icmp .ge 12, 0, 71, 0, []),
  (62, .aload_n 0, 0, 0, 0, []),
  (63, .iload_n 1, 0, 0, 0, []),
  (64, .iload_n 2, 0, 0, 0, []),
  (65, .iconst 1, 1, 0, 0, []),
  (66, .isub, 0, 0, 0, []),
  (67, .invokevirtual 246, 0, 222, 903, [(0, 0)]),
  (70, .ireturn, 0, 0, 0, []),
  (71, .iload_n 2, 0, 0, 0, []),
  (72, .bipush 6, 6, 0, 0, []),
  (74, .if_icmp .ne 12, 0, 86, 0, []),
  (77, .aload_n 0, 0, 0, 0, []),
  (78, .getfield 13, 0, 901, 0, []),
  (81, .iload_n 3, 0, 0, 0, []),
  (82, .iconst 2, 2, 0, 0, []),
  (83, .iadd, 0, 0, 0, []),
  (84, .iaload, 0, 0, 0, []),
  (85, .ireturn, 0, 0, 0, []),
  (86, .iload_n 2, 0, 0, 0, []),
  (87, .bipush 7, 7, 0, 0, []),
  (89, .if_icmp .ne 12, 0, 101, 0, []),
  (92, .aload_n 0, 0, 0, 0, []),
  (93, .getfield 13, 0, 901, 0, []),
  (96, .iload_n 3, 0, 0, 0, []),
  (97, .iconst 3, 3, 0, 0, []),
  (98, .iadd, 0, 0, 0, []),
  (99, .iaload, 0, 0, 0, []),
  (100, .ireturn, 0, 0, 0, []),
  (101, .iload_n 2, 0, 0, 0, []),
  (102, .bipush 8, 8, 0, 0, []),
  (104, .if_icmp .ne 14, 0, 118, 0, []),
  (107, .aload_n 0, 0, 0, 0, []),
  (108, .getfield 13, 0, 901, 0, []),
  (111, .iload_n 3, 0, 0, 0, []),
  (112, .iconst 4, 4, 0, 0, []),
  (113, .iadd, 0, 0, 0, []),
  (114, .iaload, 0, 0, 0, []),
  (115, .goto 34, 0, 149, 0, []),
  (118, .iload_n 2, 0, 0, 0, []),
  (119, .bipush 9, 9, 0, 0, []),
  (121, .if_icmp .ne 17, 0, 138, 0, []),
  (124, .aload_n 0, 0, 0, 0, []),
  (125, .getfield 13, 0, 901, 0, []),
  (128, .iload_n 3, 0, 0, 0, []),
  (129, .bipush 6, 6, 0, 0, []),
  (131, .iadd, 0, 0, 0, []),
  (132, .iaload, 0, 0, 0, []),
  (133, .iconst 1, 1, 0, 0, []),
  (134, .isub, 0, 0, 0, []),
  (135, .goto 14, 0, 149, 0, []),
  (138, .aload_n 0, 0, 0, 0, []),
  (139, .getfield 13, 0, 901, 0, []),
  (142, .iload_n 3, 0, 0, 0, []),
  (143, .bipush 7, 7, 0, 0, []),
  (145, .iadd, 0, 0, 0, []),
  (146, .iaload, 0, 0, 0, []),
  (147, .iconst 1, 1, 0, 0, []),
  (148, .isub, 0, 0, 0, []),
  (149, .ireturn, 0, 0, 0, [])])
def m_M_task : sm_M := (⟨"SpansAwayModel", "task", "(II)I"⟩, prog_12_method_110_code, 4, (some .int), (4, 89, 10, 903), [
  (0, .aload_n 0, 0, 0, 0, []),
  (1, .iconst 0, 0, 0, 0, []),
  (2, .putfield 1, 0, 900, 0, []),
  (5, .aload_n 0, 0, 0, 0, []),
  (6, .iload_n 1, 0, 0, 0, []),
  (7, .invokevirtual 54, 0, 140, 902, [(0, 0)]),
  (10, .ifCond .eq 13, 0, 23, 0, []),
  (13, .aload_n 0, 0, 0, 0, []),
  (14, .iload_n 2, 0, 0, 0, []),
  (15, .iconst 0, 0, 0, 0, []),
  (16, .iconst 5, 5, 0, 0, []),
  (17, .invokevirtual 47, 0, 137, 904, [(0, 0)]),
  (20, .ifCond .ne 5, 0, 25, 0, []),
  (23, .iconst (-1), (-1), 0, 0, []),
  (24, .ireturn, 0, 0, 0, []),
  (25, .aload_n 0, 0, 0, 0, []),
  (26, .iload_n 1, 0, 0, 0, []),
  (27, .invokevirtual 58, 0, 141, 902, [(0, 0)]),
  (30, .istore_n 3, 0, 0, 0, []),
  (31, .iload_n 2, 0, 0, 0, []),
  (32, .ifCond .ne 12, 0, 44, 0, []),
  (35, .aload_n 0, 0, 0, 0, []),
  (36, .getfield 13, 0, 901, 0, []),
  (39, .iload_n 3, 0, 0, 0, []),
  (40, .iconst 0, 0, 0, 0, []),
  (41, .iadd, 0, 0, 0, []),
  (42, .iaload, 0, 0, 0, []),
  (43, .ireturn, 0, 0, 0, []),
  (44, .iload_n 2, 0, 0, 0, []),
  (45, .iconst 1, 1, 0, 0, []),
  (46, .if_icmp .ne 20, 0, 66, 0, []),
  (49, .aload_n 0, 0, 0, 0, []),
  (50, .getfield 13, 0, 901, 0, []),
  (53, .iload_n 3, 0, 0, 0, []),
  (54, .iconst 1, 1, 0, 0, []),
  (55, .iadd, 0, 0, 0, []),
  (56, .iaload, 0, 0, 0, []),
  (57, .ifCond .le 7, 0, 64, 0, []),
  (60, .iconst 1, 1, 0, 0, []),
  (61, .goto 4, 0, 65, 0, []),
  (64, .iconst 0, 0, 0, 0, []),
  (65, .ireturn, 0, 0, 0, []),
  (66, .iload_n 2, 0, 0, 0, []),
  (67, .iconst 2, 2, 0, 0, []),
  (68, .if_icmp .ne 14, 0, 82, 0, []),
  (71, .aload_n 0, 0, 0, 0, []),
  (72, .getfield 13, 0, 901, 0, []),
  (75, .iload_n 3, 0, 0, 0, []),
  (76, .iconst 1, 1, 0, 0, []),
  (77, .iadd, 0, 0, 0, []),
  (78, .iaload, 0, 0, 0, []),
  (79, .iconst 1, 1, 0, 0, []),
  (80, .isub, 0, 0, 0, []),
  (81, .ireturn, 0, 0, 0, []),
  (82, .iload_n 2, 0, 0, 0, []),
  (83, .iconst 3, 3, 0, 0, []),
  (84, .if_icmp .ne 14, 0, 98, 0, []),
  (87, .aload_n 0, 0, 0, 0, []),
  (88, .getfield 13, 0, 901, 0, []),
  (91, .iload_n 3, 0, 0, 0, []),
  (92, .iconst 5, 5, 0, 0, []),
  (93, .iadd, 0, 0, 0, []),
  (94, .iaload, 0, 0, 0, []),
  (95, .goto 18, 0, 113, 0, []),
  (98, .aload_n 0, 0, 0, 0, []),
  (99, .iload_n 1, 0, 0, 0, []),
  (100, .iload_n 2, 0, 0, 0, []),
  (101, .iconst 4, 4, 0, 0, []),
  (102, .if_icmp .ne 7, 0, 109, 0, []),
  (105, .iconst 1, 1, 0, 0, []),
  (106, .goto 4, 0, 110, 0, []),
  (109, .iconst 0, 0, 0, 0, []),
  (110, .invokevirtual 288, 0, 239, 903, [(0, 0)]),
  (113, .ireturn, 0, 0, 0, [])])
def m_M_ownsMany : sm_M := (⟨"SpansAwayModel", "ownsMany", "(IZ)I"⟩, prog_12_method_109_code, 5, (some .int), (3, 65, 10, 903), [
  (0, .iconst 0, 0, 0, 0, []),
  (1, .istore_n 3, 0, 0, 0, []),
  (2, .iconst 0, 0, 0, 0, []),
  (3, .istore 4, 0, 0, 0, []),
  (5, .iload 4, 0, 0, 0, []),
  (7, .bipush 96, 96, 0, 0, []),
  (9, .if_icmp .ge 50, 0, 59, 0, []),
  (12, .aload_n 0, 0, 0, 0, []),
  (13, .iload 4, 0, 0, 0, []),
  (15, .invokevirtual 147, 0, 172, 902, [(0, 0)]),
  (18, .ifCond .eq 35, 0, 53, 0, []),
  (21, .iload_n 2, 0, 0, 0, []),
  (22, .ifCond .eq 17, 0, 39, 0, []),
  (25, .aload_n 0, 0, 0, 0, []),
  (26, .iload 4, 0, 0, 0, []),
  (28, .iconst 4, 4, 0, 0, []),
  (29, .invokevirtual 80, 0, 153, 903, [(0, 0)]),
  (32, .iload_n 1, 0, 0, 0, []),
  (33, .if_icmp .ne 20, 0, 53, 0, []),
  (36, .goto 13, 0, 49, 0, []),
  (39, .aload_n 0, 0, 0, 0, []),
  (40, .iload_n 1, 0, 0, 0, []),
  (41, .iload 4, 0, 0, 0, []),
  (43, .invokevirtual 167, 0, 181, 903, [(0, 0)]),
  (46, .ifCond .eq 7, 0, 53, 0, []),
  (49, .iload_n 3, 0, 0, 0, []),
  (50, .iconst 1, 1, 0, 0, []),
  (51, .iadd, 0, 0, 0, []),
  (52, .istore_n 3, 0, 0, 0, []),
  (53, .iinc 4 1, 1, 0, 0, []),
  (56, .goto (-51), 0, 5, 0, []),
  (59, .iload_n 3, 0, 0, 0, []),
  (60, .ireturn, 0, 0, 0, [])])
def m_M_zone : sm_M := (⟨"SpansAwayModel", "zone", "(II)I"⟩, prog_12_method_112_code, 5, (some .int), (5, 111, 10, 903), [
  (0, .aload_n 0, 0, 0, 0, []),
  (1, .iconst 0, 0, 0, 0, []),
  (2, .putfield 1, 0, 900, 0, []),
  (5, .aload_n 0, 0, 0, 0, []),
  (6, .iload_n 1, 0, 0, 0, []),
  (7, .iconst 0, 0, 0, 0, []),
  (8, .iconst 1, 1, 0, 0, []),
  (9, .invokevirtual 47, 0, 137, 904, [(0, 0)]),
  (12, .ifCond .eq 13, 0, 25, 0, []),
  (15, .aload_n 0, 0, 0, 0, []),
  (16, .iload_n 2, 0, 0, 0, []),
  (17, .iconst 0, 0, 0, 0, []),
  (18, .iconst 2, 2, 0, 0, []),
  (19, .invokevirtual 47, 0, 137, 904, [(0, 0)]),
  (22, .ifCond .ne 5, 0, 27, 0, []),
  (25, .iconst (-1), (-1), 0, 0, []),
  (26, .ireturn, 0, 0, 0, []),
  (27, .iload_n 2, 0, 0, 0, []),
  (28, .ifCond .ne 12, 0, 40, 0, []),
  (31, .aload_n 0, 0, 0, 0, []),
  (32, .iload_n 1, 0, 0, 0, []),
  (33, .invokevirtual 185, 0, 192, 902, [(0, 0)]),
  (36, .bipush 32, 32, 0, 0, []),
  (38, .idiv, 0, 0, 0, []),
  (39, .ireturn, 0, 0, 0, []),
  (40, .iload_n 2, 0, 0, 0, []),
  (41, .iconst 1, 1, 0, 0, []),
  (42, .if_icmp .ne 9, 0, 51, 0, []),
  (45, .aload_n 0, 0, 0, 0, []),
  (46, .iload_n 1, 0, 0, 0, []),
  (47, .invokevirtual 291, 0, 241, 902, [(0, 0)]),
  (50, .ireturn, 0, 0, 0, []),
  (51, .iconst (-1), (-1), 0, 0, []),
  (52, .istore_n 3, 0, 0, 0, []),
  (53, .iconst 0, 0, 0, 0, []),
  (54, .istore 4, 0, 0, 0, []),
  (56, .iload 4, 0, 0, 0, []),
  (58, .bipush 8, 8, 0, 0, []),
  (60, .if_icmp .ge 36, 0, 96, 0, []),
  (63, .aload_n 0, 0, 0, 0, []),
  (64, .iload 4, 0, 0, 0, []),
  (66, .invokevirtual 84, 0, 146, 902, [(0, 0)]),
  (69, .iload_n 1, 0, 0, 0, []),
  (70, .if_icmp .ne 20, 0, 90, 0, []),
  (73, .aload_n 0, 0, 0, 0, []),
  (74, .iload 4, 0, 0, 0, []),
  (76, .invokevirtual 285, 0, 234, 902, [(0, 0)]),
  (79, .iload_n 3, 0, 0, 0, []),
  (80, .if_icmp .le 10, 0, 90, 0, []),
  (83, .aload_n 0, 0, 0, 0, []),
  (84, .iload 4, 0, 0, 0, []),
  (86, .invokevirtual 285, 0, 234, 902, [(0, 0)]),
  (89, .istore_n 3, 0, 0, 0, []),
  (90, .iinc 4 1, 1, 0, 0, []),
  (93, .goto (-37), 0, 56, 0, []),
  (96, .iload_n 3, 0, 0, 0, []),
  (97, .ireturn, 0, 0, 0, [])])
def m_M_freeIn : sm_M := (⟨"SpansAwayModel", "freeIn", "(I)I"⟩, prog_12_method_111_code, 4, (some .int), (3, 63, 10, 902), [
  (0, .iconst 0, 0, 0, 0, []),
  (1, .istore_n 2, 0, 0, 0, []),
  (2, .iconst 0, 0, 0, 0, []),
  (3, .istore_n 3, 0, 0, 0, []),
  (4, .iload_n 3, 0, 0, 0, []),
  (5, .sipush 256, 256, 0, 0, []),
  (8, .if_icmp .ge 34, 0, 42, 0, []),
  (11, .aload_n 0, 0, 0, 0, []),
  (12, .iload_n 3, 0, 0, 0, []),
  (13, .invokevirtual 73, 0, 149, 902, [(0, 0)]),
  (16, .ifCond .eq 20, 0, 36, 0, []),
  (19, .aload_n 0, 0, 0, 0, []),
  (20, .aload_n 0, 0, 0, 0, []),
  (21, .iload_n 3, 0, 0, 0, []),
  (22, .invokevirtual 67, 0, 144, 902, [(0, 0)]),
  (25, .invokevirtual 84, 0, 146, 902, [(0, 0)]),
  (28, .iload_n 1, 0, 0, 0, []),
  (29, .if_icmp .ne 7, 0, 36, 0, []),
  (32, .iload_n 2, 0, 0, 0, []),
  (33, .iconst 1, 1, 0, 0, []),
  (34, .iadd, 0, 0, 0, []),
  (35, .istore_n 2, 0, 0, 0, []),
  (36, .iinc 3 1, 1, 0, 0, []),
  (39, .goto (-35), 0, 4, 0, []),
  (42, .iload_n 2, 0, 0, 0, []),
  (43, .ireturn, 0, 0, 0, [])])
def m_M_loose : sm_M := (⟨"SpansAwayModel", "loose", "(II)I"⟩, prog_12_method_113_code, 5, (some .int), (4, 87, 10, 903), [
  (0, .aload_n 0, 0, 0, 0, []),
  (1, .iconst 0, 0, 0, 0, []),
  (2, .putfield 1, 0, 900, 0, []),
  (5, .aload_n 0, 0, 0, 0, []),
  (6, .iload_n 1, 0, 0, 0, []),
  (7, .iconst 0, 0, 0, 0, []),
  (8, .iconst 1, 1, 0, 0, []),
  (9, .invokevirtual 47, 0, 137, 904, [(0, 0)]),
  (12, .ifCond .eq 13, 0, 25, 0, []),
  (15, .aload_n 0, 0, 0, 0, []),
  (16, .iload_n 2, 0, 0, 0, []),
  (17, .iconst 0, 0, 0, 0, []),
  (18, .iconst 5, 5, 0, 0, []),
  (19, .invokevirtual 47, 0, 137, 904, [(0, 0)]),
  (22, .ifCond .ne 5, 0, 27, 0, []),
  (25, .iconst (-1), (-1), 0, 0, []),
  (26, .ireturn, 0, 0, 0, []),
  (27, .iconst 0, 0, 0, 0, []),
  (28, .istore_n 3, 0, 0, 0, []),
  (29, .iconst 0, 0, 0, 0, []),
  (30, .istore 4, 0, 0, 0, []),
  (32, .iload 4, 0, 0, 0, []),
  (34, .sipush 256, 256, 0, 0, []),
  (37, .if_icmp .ge 46, 0, 83, 0, []),
  (40, .aload_n 0, 0, 0, 0, []),
  (41, .iload 4, 0, 0, 0, []),
  (43, .invokevirtual 73, 0, 149, 902, [(0, 0)]),
  (46, .ifCond .eq 31, 0, 77, 0, []),
  (49, .aload_n 0, 0, 0, 0, []),
  (50, .aload_n 0, 0, 0, 0, []),
  (51, .iload 4, 0, 0, 0, []),
  (53, .invokevirtual 67, 0, 144, 902, [(0, 0)]),
  (56, .invokevirtual 84, 0, 146, 902, [(0, 0)]),
  (59, .iload_n 1, 0, 0, 0, []),
  (60, .if_icmp .ne 17, 0, 77, 0, []),
  (63, .aload_n 0, 0, 0, 0, []),
  (64, .iload 4, 0, 0, 0, []),
  (66, .iload_n 2, 0, 0, 0, []),
  (67, .invokevirtual 76, 0, 148, 903, [(0, 0)]),
  (70, .ifCond .ne 7, 0, 77, 0, []),
  (73, .iload_n 3, 0, 0, 0, []),
  (74, .iconst 1, 1, 0, 0, []),
  (75, .iadd, 0, 0, 0, []),
  (76, .istore_n 3, 0, 0, 0, []),
  (77, .iinc 4 1, 1, 0, 0, []),
  (80, .goto (-48), 0, 32, 0, []),
  (83, .iload_n 3, 0, 0, 0, []),
  (84, .ireturn, 0, 0, 0, [])])
def m_M_place : sm_M := (⟨"SpansAwayModel", "place", "(III)I"⟩, prog_12_method_114_code, 4, (some .int), (6, 140, 10, 904), [
  (0, .aload_n 0, 0, 0, 0, []),
  (1, .iconst 0, 0, 0, 0, []),
  (2, .putfield 1, 0, 900, 0, []),
  (5, .aload_n 0, 0, 0, 0, []),
  (6, .iload_n 1, 0, 0, 0, []),
  (7, .invokevirtual 54, 0, 140, 902, [(0, 0)]),
  (10, .ifCond .eq 34, 0, 44, 0, []),
  (13, .aload_n 0, 0, 0, 0, []),
  (14, .iload_n 2, 0, 0, 0, []),
  (15, .iconst 0, 0, 0, 0, []),
  (16, .iconst 2, 2, 0, 0, []),
  (17, .invokevirtual 47, 0, 137, 904, [(0, 0)]),
  (20, .ifCond .eq 24, 0, 44, 0, []),
  (23, .aload_n 0, 0, 0, 0, []),
  (24, .iload_n 3, 0, 0, 0, []),
  (25, .iconst 0, 0, 0, 0, []),
  (26, .iconst 4, 4, 0, 0, []),
  (27, .invokevirtual 47, 0, 137, 904, [(0, 0)]),
  (30, .ifCond .eq 14, 0, 44, 0, []),
  (33, .aload_n 0, 0, 0, 0, []),
  (34, .iload_n 1, 0, 0, 0, []),
  (35, .iload_n 2, 0, 0, 0, []),
  (36, .iload_n 3, 0, 0, 0, []),
  (37, .iconst 0, 0, 0, 0, []),
  (38, .invokevirtual 126, 0, 143, 905, [(0, 0)]),
  (41, .goto 4, 0, 45, 0, []),
  (44, .iconst (-1), (-1), 0, 0, []),
  (45, .ireturn, 0, 0, 0, [])])
def m_M_hole : sm_M := (⟨"SpansAwayModel", "hole", "(I)I"⟩, prog_12_method_115_code, 2, (some .int), (5, 109, 10, 902), [
  (0, .aload_n 0, 0, 0, 0, []),
  (1, .iconst 0, 0, 0, 0, []),
  (2, .putfield 1, 0, 900, 0, []),
  (5, .aload_n 0, 0, 0, 0, []),
  (6, .iload_n 1, 0, 0, 0, []),
  (7, .iconst 0, 0, 0, 0, []),
  (8, .sipush 255, 255, 0, 0, []),
  (11, .invokevirtual 47, 0, 137, 904, [(0, 0)]),
  (14, .ifCond .eq 19, 0, 33, 0, []),
  (17, .aload_n 0, 0, 0, 0, []),
  (18, .iload_n 1, 0, 0, 0, []),
  (19, .invokevirtual 73, 0, 149, 902, [(0, 0)]),
  (22, .ifCond .eq 11, 0, 33, 0, []),
  (25, .aload_n 0, 0, 0, 0, []),
  (26, .iload_n 1, 0, 0, 0, []),
  (27, .invokevirtual 294, 0, 245, 902, [(0, 0)]),
  (30, .goto 4, 0, 34, 0, []),
  (33, .iconst (-1), (-1), 0, 0, []),
  (34, .ireturn, 0, 0, 0, [])])
def m_M_holeOf : sm_M := (⟨"SpansAwayModel", "holeOf", "(I)I"⟩, prog_12_method_30_code, 3, (some .int), (4, 87, 10, 902), [
  (0, .iconst 0, 0, 0, 0, []),
  (1, .istore_n 2, 0, 0, 0, []),
  (2, .iload_n 2, 0, 0, 0, []),
  (3, .iconst 5, 5, 0, 0, []),
  (4, .if_icmp .ge 21, 0, 25, 0, []),
  (7, .aload_n 0, 0, 0, 0, []),
  (8, .iload_n 1, 0, 0, 0, []),
  (9, .iload_n 2, 0, 0, 0, []),
  (10, .iconst 1, 1, 0, 0, []),
  (11, .iadd, 0, 0, 0, []),
  (12, .invokevirtual 76, 0, 148, 903, [(0, 0)]),
  (15, .ifCond .eq 10, 0, 25, 0, []),
  (18, .iload_n 2, 0, 0, 0, []),
  (19, .iconst 1, 1, 0, 0, []),
  (20, .iadd, 0, 0, 0, []),
  (21, .istore_n 2, 0, 0, 0, []),
  (22, .goto (-20), 0, 2, 0, []),
  (25, .iload_n 2, 0, 0, 0, []),
  (26, .ireturn, 0, 0, 0, [])])
def m_M_at : sm_M := (⟨"SpansAwayModel", "at", "(II)I"⟩, prog_12_method_116_code, 5, (some .int), (2, 43, 10, 903), [
  (0, .aload_n 0, 0, 0, 0, []),
  (1, .iconst 0, 0, 0, 0, []),
  (2, .putfield 1, 0, 900, 0, []),
  (5, .aload_n 0, 0, 0, 0, []),
  (6, .iload_n 1, 0, 0, 0, []),
  (7, .invokevirtual 54, 0, 140, 902, [(0, 0)]),
  (10, .ifCond .eq 13, 0, 23, 0, []),
  (13, .aload_n 0, 0, 0, 0, []),
  (14, .iload_n 2, 0, 0, 0, []),
  (15, .iconst 0, 0, 0, 0, []),
  (16, .iconst 1, 1, 0, 0, []),
  (17, .invokevirtual 47, 0, 137, 904, [(0, 0)]),
  (20, .ifCond .ne 5, 0, 25, 0, []),
  (23, .iconst (-1), (-1), 0, 0, []),
  (24, .ireturn, 0, 0, 0, []),
  (25, .iconst 0, 0, 0, 0, []),
  (26, .istore_n 3, 0, 0, 0, []),
  (27, .iconst 0, 0, 0, 0, []),
  (28, .istore 4, 0, 0, 0, []),
  (30, .iload 4, 0, 0, 0, []),
  (32, .sipush 256, 256, 0, 0, []),
  (35, .if_icmp .ge 59, 0, 94, 0, []),
  (38, .aload_n 0, 0, 0, 0, []),
  (39, .iload 4, 0, 0, 0, []),
  (41, .invokevirtual 67, 0, 144, 902, [(0, 0)]),
  (44, .iconst 2, 2, 0, 0, []),
  (45, .irem, 0, 0, 0, []),
  (46, .iload_n 2, 0, 0, 0, []),
  (47, .if_icmp .ne 41, 0, 88, 0, []),
  (50, .aload_n 0, 0, 0, 0, []),
  (51, .iload 4, 0, 0, 0, []),
  (53, .invokevirtual 61, 0, 150, 902, [(0, 0)]),
  (56, .iconst 3, 3, 0, 0, []),
  (57, .if_icmp .ne 31, 0, 88, 0, []),
  (60, .aload_n 0, 0, 0, 0, []),
  (61, .aload_n 0, 0, 0, 0, []),
  (62, .getfield 13, 0, 901, 0, []),
  (65, .aload_n 0, 0, 0, 0, []),
  (66, .iload 4, 0, 0, 0, []),
  (68, .invokevirtual 37, 0, 135, 902, [(0, 0)]),
  (71, .iconst 1, 1, 0, 0, []),
  (72, .iadd, 0, 0, 0, []),
  (73, .iaload, 0, 0, 0, []),
  (74, .iconst 1, 1, 0, 0, []),
  (75, .isub, 0, 0, 0, []),
  (76, .iconst 4, 4, 0, 0, []),
  (77, .invokevirtual 80, 0, 153, 903, [(0, 0)]),
  (80, .iload_n 1, 0, 0, 0, []),
  (81, .if_icmp .ne 7, 0, 88, 0, []),
  (84, .iload_n 3, 0, 0, 0, []),
  (85, .iconst 1, 1, 0, 0, []),
  (86, .iadd, 0, 0, 0, []),
  (87, .istore_n 3, 0, 0, 0, []),
  (88, .iinc 4 1, 1, 0, 0, []),
  (91, .goto (-61), 0, 30, 0, []),
  (94, .iload_n 3, 0, 0, 0, []),
  (95, .ireturn, 0, 0, 0, [])])
def m_M_log : sm_M := (⟨"SpansAwayModel", "log", "(II)I"⟩, prog_12_method_117_code, 3, (some .int), (1, 23, 10, 903), [
  (0, .aload_n 0, 0, 0, 0, []),
  (1, .iconst 0, 0, 0, 0, []),
  (2, .putfield 1, 0, 900, 0, []),
  (5, .iload_n 1, 0, 0, 0, []),
  (6, .ifCond .lt 29, 0, 35, 0, []),
  (9, .iload_n 1, 0, 0, 0, []),
  (10, .bipush 60, 60, 0, 0, []),
  (12, .if_icmp .ge 23, 0, 35, 0, []),
  (15, .iload_n 1, 0, 0, 0, []),
  (16, .aload_n 0, 0, 0, 0, []),
  (17, .getfield 13, 0, 901, 0, []),
  (20, .iconst 5, 5, 0, 0, []),
  (21, .iaload, 0, 0, 0, []),
  (22, .if_icmp .ge 13, 0, 35, 0, []),
  (25, .aload_n 0, 0, 0, 0, []),
  (26, .iload_n 2, 0, 0, 0, []),
  (27, .iconst 0, 0, 0, 0, []),
  (28, .iconst 3, 3, 0, 0, []),
  (29, .invokevirtual 47, 0, 137, 904, [(0, 0)]),
  (32, .ifCond .ne 5, 0, 37, 0, []),
  (35, .iconst (-1), (-1), 0, 0, []),
  (36, .ireturn, 0, 0, 0, []),
  (37, .aload_n 0, 0, 0, 0, []),
  (38, .getfield 13, 0, 901, 0, []),
  (41, .sipush 2422, 2422, 0, 0, []),
  (44, .iconst 4, 4, 0, 0, []),
  (45, .aload_n 0, 0, 0, 0, []),
  (46, .getfield 13, 0, 901, 0, []),
  (49, .iconst 5, 5, 0, 0, []),
  (50, .iaload, 0, 0, 0, []),
  (51, .iconst 1, 1, 0, 0, []),
  (52, .isub, 0, 0, 0, []),
  (53, .iload_n 1, 0, 0, 0, []),
  (54, .isub, 0, 0, 0, []),
  (55, .bipush 60, 60, 0, 0, []),
  (57, .irem, 0, 0, 0, []),
  (58, .imul, 0, 0, 0, []),
  (59, .iadd, 0, 0, 0, []),
  (60, .iload_n 2, 0, 0, 0, []),
  (61, .iadd, 0, 0, 0, []),
  (62, .iaload, 0, 0, 0, []),
  (63, .ireturn, 0, 0, 0, [])])
def m_M_count : sm_M := (⟨"SpansAwayModel", "count", "(I)I"⟩, prog_12_method_118_code, 2, (some .int), (1, 23, 10, 902), [
  (0, .aload_n 0, 0, 0, 0, []),
  (1, .iconst 0, 0, 0, 0, []),
  (2, .putfield 1, 0, 900, 0, []),
  (5, .aload_n 0, 0, 0, 0, []),
  (6, .iload_n 1, 0, 0, 0, []),
  (7, .iconst 0, 0, 0, 0, []),
  (8, .bipush 10, 10, 0, 0, []),
  (10, .invokevirtual 47, 0, 137, 904, [(0, 0)]),
  (13, .ifCond .eq 15, 0, 28, 0, []),
  (16, .aload_n 0, 0, 0, 0, []),
  (17, .getfield 13, 0, 901, 0, []),
  (20, .bipush 7, 7, 0, 0, []),
  (22, .iload_n 1, 0, 0, 0, []),
  (23, .iadd, 0, 0, 0, []),
  (24, .iaload, 0, 0, 0, []),
  (25, .goto 4, 0, 29, 0, []),
  (28, .iconst (-1), (-1), 0, 0, []),
  (29, .ireturn, 0, 0, 0, [])])
def m_M_look : sm_M := (⟨"SpansAwayModel", "look", "(I)I"⟩, prog_12_method_123_code, 2, (some .int), (4, 89, 10, 902), [
  (0, .aload_n 0, 0, 0, 0, []),
  (1, .iconst 0, 0, 0, 0, []),
  (2, .putfield 1, 0, 900, 0, []),
  (5, .aload_n 0, 0, 0, 0, []),
  (6, .iload_n 1, 0, 0, 0, []),
  (7, .iconst 0, 0, 0, 0, []),
  (8, .iconst 3, 3, 0, 0, []),
  (9, .invokevirtual 47, 0, 137, 904, [(0, 0)]),
  (12, .ifCond .eq 9, 0, 21, 0, []),
  (15, .aload_n 0, 0, 0, 0, []),
  (16, .iload_n 1, 0, 0, 0, []),
  (17, .invokevirtual 188, 0, 193, 902, [(0, 0)]),
  (20, .ireturn, 0, 0, 0, []),
  (21, .iload_n 1, 0, 0, 0, []),
  (22, .iconst 4, 4, 0, 0, []),
  (23, .if_icmp .ne 10, 0, 33, 0, []),
  (26, .aload_n 0, 0, 0, 0, []),
  (27, .getfield 13, 0, 901, 0, []),
  (30, .iconst 4, 4, 0, 0, []),
  (31, .iaload, 0, 0, 0, []),
  (32, .ireturn, 0, 0, 0, []),
  (33, .iload_n 1, 0, 0, 0, []),
  (34, .iconst 5, 5, 0, 0, []),
  (35, .if_icmp .ne 8, 0, 43, 0, []),
  (38, .aload_n 0, 0, 0, 0, []),
  (39, .invokevirtual 297, 0, 250, 901, [(0, 0)]),
  (42, .ireturn, 0, 0, 0, []),
  (43, .iload_n 1, 0, 0, 0, []),
  (44, .bipush 6, 6, 0, 0, []),
  (46, .if_icmp .ne 18, 0, 64, 0, []),
  (49, .aload_n 0, 0, 0, 0, []),
  (50, .iconst 0, 0, 0, 0, []),
  (51, .invokevirtual 185, 0, 192, 902, [(0, 0)]),
  (54, .aload_n 0, 0, 0, 0, []),
  (55, .iconst 1, 1, 0, 0, []),
  (56, .invokevirtual 185, 0, 192, 902, [(0, 0)]),
  (59, .iadd, 0, 0, 0, []),
  (60, .bipush 32, 32, 0, 0, []),
  (62, .idiv, 0, 0, 0, []),
  (63, .ireturn, 0, 0, 0, []),
  (64, .aload_n 0, 0, 0, 0, []),
  (65, .iload_n 1, 0, 0, 0, []),
  (66, .bipush 7, 7, 0, 0, []),
  (68, .bipush 10, 10, 0, 0, []),
  (70, .invokevirtual 47, 0, 137, 904, [(0, 0)]),
  (73, .ifCond .eq 12, 0, 85, 0, []),
  (76, .aload_n 0, 0, 0, 0, []),
  (77, .iload_n 1, 0, 0, 0, []),
  (78, .bipush 6, 6, 0, 0, []),
  (80, .isub, 0, 0, 0, []),
  (81, .invokevirtual 300, 0, 251, 902, [(0, 0)]),
  (84, .ireturn, 0, 0, 0, []),
  (85, .iload_n 1, 0, 0, 0, []),
  (86, .bipush 11, 11, 0, 0, []),
  (88, .if_icmp .ne 8, 0, 96, 0, []),
  (91, .aload_n 0, 0, 0, 0, []),
  (92, .invokevirtual 303, 0, 252, 901, [(0, 0)]),
  (95, .ireturn, 0, 0, 0, []),
  (96, .iload_n 1, 0, 0, 0, []),
  (97, .bipush 12, 12, 0, 0, []),
  (99, .if_icmp .ne 8, 0, 107, 0, []),
  (102, .aload_n 0, 0, 0, 0, []),
  (103, .invokevirtual 306, 0, 253, 901, [(0, 0)]),
  (106, .ireturn, 0, 0, 0, []),
  (107, .iload_n 1, 0, 0, 0, []),
  (108, .bipush 13, 13, 0, 0, []),
  (110, .if_icmp .ne 10, 0, 120, 0, []),
  (113, .aload_n 0, 0, 0, 0, []),
  (114, .getfield 13, 0, 901, 0, []),
  (117, .iconst 5, 5, 0, 0, []),
  (118, .iaload, 0, 0, 0, []),
  (119, .ireturn, 0, 0, 0, []),
  (120, .iload_n 1, 0, 0, 0, []),
  (121, .bipush 14, 14, 0, 0, []),
  (123, .if_icmp .ne 20, 0, 143, 0, []),
  (126, .bipush 100, 100, 0, 0, []),
  (128, .aload_n 0, 0, 0, 0, []),
  (129, .iconst 1, 1, 0, 0, []),
  (130, .invokevirtual 185, 0, 192, 902, [(0, 0)]),
  (133, .imul, 0, 0, 0, []),
  (134, .aload_n 0, 0, 0, 0, []),
  (135, .iconst 0, 0, 0, 0, []),
  (136, .invokevirtual 185, 0, 192, 902, [(0, 0)]),
  (139, .idiv, 0, 0, 0, []),
  (140, .goto 4, 0, 144, 0, []),
  (143, .iconst (-1), (-1), 0, 0, []),
  (144, .ireturn, 0, 0, 0, [])])
def m_M_blocks : sm_M := (⟨"SpansAwayModel", "blocks", "()I"⟩, prog_12_method_120_code, 3, (some .int), (2, 43, 10, 901), [
  (0, .iconst 0, 0, 0, 0, []),
  (1, .istore_n 1, 0, 0, 0, []),
  (2, .iconst 0, 0, 0, 0, []),
  (3, .istore_n 2, 0, 0, 0, []),
  (4, .iload_n 2, 0, 0, 0, []),
  (5, .bipush 96, 96, 0, 0, []),
  (7, .if_icmp .ge 18, 0, 25, 0, []),
  (10, .iload_n 1, 0, 0, 0, []),
  (11, .aload_n 0, 0, 0, 0, []),
  (12, .iload_n 2, 0, 0, 0, []),
  (13, .iconst 0, 0, 0, 0, []),
  (14, .invokevirtual 80, 0, 153, 903, [(0, 0)]),
  (17, .iadd, 0, 0, 0, []),
  (18, .istore_n 1, 0, 0, 0, []),
  (19, .iinc 2 1, 1, 0, 0, []),
  (22, .goto (-18), 0, 4, 0, []),
  (25, .iload_n 1, 0, 0, 0, []),
  (26, .ireturn, 0, 0, 0, [])])
def m_M_framesIn : sm_M := (⟨"SpansAwayModel", "framesIn", "(I)I"⟩, prog_12_method_119_code, 4, (some .int), (3, 66, 10, 902), [
  (0, .iconst 0, 0, 0, 0, []),
  (1, .istore_n 2, 0, 0, 0, []),
  (2, .iconst 0, 0, 0, 0, []),
  (3, .istore_n 3, 0, 0, 0, []),
  (4, .iload_n 3, 0, 0, 0, []),
  (5, .bipush 8, 8, 0, 0, []),
  (7, .if_icmp .ge 18, 0, 25, 0, []),
  (10, .iload_n 2, 0, 0, 0, []),
  (11, .aload_n 0, 0, 0, 0, []),
  (12, .iload_n 3, 0, 0, 0, []),
  (13, .iload_n 1, 0, 0, 0, []),
  (14, .invokevirtual 246, 0, 222, 903, [(0, 0)]),
  (17, .iadd, 0, 0, 0, []),
  (18, .istore_n 2, 0, 0, 0, []),
  (19, .iinc 3 1, 1, 0, 0, []),
  (22, .goto (-18), 0, 4, 0, []),
  (25, .iload_n 2, 0, 0, 0, []),
  (26, .ireturn, 0, 0, 0, [])])
def m_M_waiters : sm_M := (⟨"SpansAwayModel", "waiters", "()I"⟩, prog_12_method_121_code, 3, (some .int), (1, 21, 10, 901), [
  (0, .iconst 0, 0, 0, 0, []),
  (1, .istore_n 1, 0, 0, 0, []),
  (2, .iconst 0, 0, 0, 0, []),
  (3, .istore_n 2, 0, 0, 0, []),
  (4, .iload_n 2, 0, 0, 0, []),
  (5, .bipush 6, 6, 0, 0, []),
  (7, .if_icmp .ge 30, 0, 37, 0, []),
  (10, .aload_n 0, 0, 0, 0, []),
  (11, .getfield 13, 0, 901, 0, []),
  (14, .aload_n 0, 0, 0, 0, []),
  (15, .iload_n 2, 0, 0, 0, []),
  (16, .invokevirtual 58, 0, 141, 902, [(0, 0)]),
  (19, .iconst 1, 1, 0, 0, []),
  (20, .iadd, 0, 0, 0, []),
  (21, .iaload, 0, 0, 0, []),
  (22, .ifCond .le 9, 0, 31, 0, []),
  (25, .iload_n 1, 0, 0, 0, []),
  (26, .iconst 1, 1, 0, 0, []),
  (27, .iload_n 2, 0, 0, 0, []),
  (28, .ishl, 0, 0, 0, []),
  (29, .ior, 0, 0, 0, []),
  (30, .istore_n 1, 0, 0, 0, []),
  (31, .iinc 2 1, 1, 0, 0, []),
  (34, .goto (-30), 0, 4, 0, []),
  (37, .iload_n 1, 0, 0, 0, []),
  (38, .ireturn, 0, 0, 0, [])])
def m_M_goers : sm_M := (⟨"SpansAwayModel", "goers", "()I"⟩, prog_12_method_122_code, 3, (some .int), (3, 63, 10, 901), [
  (0, .iconst 0, 0, 0, 0, []),
  (1, .istore_n 1, 0, 0, 0, []),
  (2, .iconst 0, 0, 0, 0, []),
  (3, .istore_n 2, 0, 0, 0, []),
  (4, .iload_n 2, 0, 0, 0, []),
  (5, .bipush 8, 8, 0, 0, []),
  (7, .if_icmp .ge 23, 0, 30, 0, []),
  (10, .aload_n 0, 0, 0, 0, []),
  (11, .iload_n 2, 0, 0, 0, []),
  (12, .invokevirtual 228, 0, 206, 902, [(0, 0)]),
  (15, .ifCond .eq 9, 0, 24, 0, []),
  (18, .iload_n 1, 0, 0, 0, []),
  (19, .iconst 1, 1, 0, 0, []),
  (20, .iload_n 2, 0, 0, 0, []),
  (21, .ishl, 0, 0, 0, []),
  (22, .ior, 0, 0, 0, []),
  (23, .istore_n 1, 0, 0, 0, []),
  (24, .iinc 2 1, 1, 0, 0, []),
  (27, .goto (-23), 0, 4, 0, []),
  (30, .iload_n 1, 0, 0, 0, []),
  (31, .ireturn, 0, 0, 0, [])])
def m_M_image : sm_M := (⟨"SpansAwayModel", "image", "(Z)Z"⟩, prog_12_method_124_code, 3, (some .boolean), (0, 0, 10, 902), [
  (0, .aload_n 0, 0, 0, 0, []),
  (1, .iconst 0, 0, 0, 0, []),
  (2, .putfield 1, 0, 900, 0, []),
  (5, .iload_n 1, 0, 0, 0, []),
  (6, .ifCond .ne 12, 0, 18, 0, []),
  (9, .aload_n 0, 0, 0, 0, []),
  (10, .getfield 309, 0, 906, 0, []),
  (13, .ifCond .ne 5, 0, 18, 0, []),
  (16, .iconst 0, 0, 0, 0, []),
  (17, .ireturn, 0, 0, 0, []),
  (18, .aload_n 0, 0, 0, 0, []),
  (19, .iconst 1, 1, 0, 0, []),
  (20, .putfield 309, 0, 906, 0, []),
  (23, .iconst 0, 0, 0, 0, []),
  (24, .istore_n 2, 0, 0, 0, []),
  (25, .iload_n 2, 0, 0, 0, []),
  (26, .sipush 2662, 2662, 0, 0, []),
  (29, .if_icmp .ge 40, 0, 69, 0, []),
  (32, .iload_n 1, 0, 0, 0, []),
  (33, .ifCond .eq 18, 0, 51, 0, []),
  (36, .aload_n 0, 0, 0, 0, []),
  (37, .getfield 27, 0, 907, 0, []),
  (40, .iload_n 2, 0, 0, 0, []),
  (41, .aload_n 0, 0, 0, 0, []),
  (42, .getfield 13, 0, 901, 0, []),
  (45, .iload_n 2, 0, 0, 0, []),
  (46, .iaload, 0, 0, 0, []),
  (47, .iastore, 0, 0, 0, []),
  (48, .goto 15, 0, 63, 0, []),
  (51, .aload_n 0, 0, 0, 0, []),
  (52, .getfield 13, 0, 901, 0, []),
  (55, .iload_n 2, 0, 0, 0, []),
  (56, .aload_n 0, 0, 0, 0, []),
  (57, .getfield 27, 0, 907, 0, []),
  (60, .iload_n 2, 0, 0, 0, []),
  (61, .iaload, 0, 0, 0, []),
  (62, .iastore, 0, 0, 0, []),
  (63, .iinc 2 1, 1, 0, 0, []),
  (66, .goto (-41), 0, 25, 0, []),
  (69, .iconst 1, 1, 0, 0, []),
  (70, .ireturn, 0, 0, 0, [])])
def sm_TB : List (List Int32) := [[1, 1, 0, 1], [16, 9, 400, 20], [-1, 1431655765, 286331153, 16843009, 65537, 1]]
def sm_MS : List sm_M := [m_I_fill, m_R_copy, m_A_set, m_A_home, m_A_isTask, m_A_isNode, m_A_take, m_A_isKind, m_A_isBlockOrder, m_Y_bring, m_Y_bestPlace, m_R_starts, m_Y_rank, m_R_leastHole, m_R_alone, m_I_numberOfTrailingZeros, m_B_leastUsedCache, m_B_isLoose, m_Y_noteDrop, m_L_add, m_Y_remove, m_S_shutBits, m_F_letGo, m_B_leastNumber, m_B_begin, m_F_give, m_F_claim, m_A_free, m_B_has, m_A_read, m_A_touch, m_B_size, m_K_wants, m_Y_doOrWait, m_Y_fulfil, m_K_queue, m_A_write, m_A_pin, m_A_hasPin, m_A_unpin, m_A_come, m_A_isSpan, m_Y_zoneByRatio, m_S_inZone, m_Y_staysInRatio, m_Y_open, m_A_byTurns, m_S_nextByTurns, m_A_press, m_Y_pack, m_Y_blockAt, m_Y_moveAtOnce, m_F_copyValues, m_A_gather, m_Y_bringNearer, m_Y_nearerPlace, m_A_go, m_S_canGo, m_G_begin, m_A_giveUp, m_S_isGoing, m_G_callOff, m_G_endWay, m_Y_serveLine, m_G_fail, m_S_endGoing, m_A_tick, m_G_oneTick, m_G_shutNextPart, m_G_hasUnmovable, m_G_moveOn, m_G_blockFrom, m_G_endPass, m_G_turnOff, m_G_whyFails, m_G_lookAt, m_F_hold, m_G_split, m_G_copySome, m_G_arrive, m_F_settle, m_A_frame, m_F_stateOf, m_A_block, m_K_lineOf, m_A_span, m_I_bitCount, m_A_task, m_B_ownedBy, m_B_pinnedBy, m_A_zone, m_A_isZone, m_Y_freeInZone, m_Y_widestInZone, m_R_widest, m_A_loose, m_A_place, m_A_hole, m_R_holeRound, m_A_keeps, m_Y_keepers, m_Y_whyKeeps, m_Y_hasPlaceBeside, m_Y_keeper, m_A_holders, m_Y_holdersOf, m_A_pressed, m_H_widestPacked, m_Y_copyFrom, m_F_copyFrom, m_B_copyFrom, m_S_copyFrom, m_K_copyFrom, m_A_at, m_B_framesAt, m_A_movable, m_A_would, m_H_tryOut, m_H_grownSince, m_A_easiest, m_H_findEasiest, m_A_givenBack, m_A_log, m_L_cell, m_A_count, m_A_image, m_L_copyFrom, m_A_look, m_B_howMany, m_R_bitsIn, m_K_waitingSet, m_S_goingSet, m_A_movableByNormal, m_M_begins, m_M_spanAt, m_M_frameAt, m_M_set, m_M_isIn, m_M_firstOf, m_M_home, m_M_isTask, m_M_taskAt, m_M_take, m_M_bestPlace, m_M_spanOf, m_M_rankOf, m_M_zoneOf, m_M_spanState, m_M_areFree, m_M_isFree, m_M_stateOf, m_M_holeFrom, m_M_leastUsed, m_M_of, m_M_blockAt, m_M_isPinned, m_M_isOnWay, m_M_drops, m_M_frameOf, m_M_writes, m_M_more, m_M_counts, m_M_goes, m_M_longOf, m_M_leaves, m_M_isShut, m_M_lay, m_M_freeNumber, m_M_comes, m_M_has, m_M_lays, m_M_free, m_M_isBlock, m_M_read, m_M_canDo, m_M_wants, m_M_does, m_M_uses, m_M_valueOf, m_M_write, m_M_pin, m_M_hasPin, m_M_unpin, m_M_press, m_M_isSpan, m_M_presses, m_M_nextToPress, m_M_isLoose, m_M_movesTo, m_M_gather, m_M_come, m_M_zoneByRatio, m_M_framesOf, m_M_settingOf, m_M_comesOn, m_M_byTurns, m_M_turnOf, m_M_manyOfNode, m_M_movable, m_M_thinks, m_M_forgets, m_M_go, m_M_canGo, m_M_onMany, m_M_beginsToGo, m_M_giveUp, m_M_isGoing, m_M_fails, m_M_staysBack, m_M_wakes, m_M_opens, m_M_tick, m_M_ticks, m_M_shuts, m_M_moves, m_M_looks, m_M_firstBlock, m_M_isPassed, m_M_splits, m_M_copies, m_M_arrives, m_M_isOver, m_M_manyIn, m_M_whyOf, m_M_keeps, m_M_keeperAt, m_M_keepsWhy, m_M_holders, m_M_would, m_M_goesAway, m_M_easiest, m_M_easiestNow, m_M_givenBack, m_M_pressed, m_M_greatestIn, m_M_frame, m_M_block, m_M_span, m_M_task, m_M_ownsMany, m_M_zone, m_M_freeIn, m_M_loose, m_M_place, m_M_hole, m_M_holeOf, m_M_at, m_M_log, m_M_count, m_M_look, m_M_blocks, m_M_framesIn, m_M_waiters, m_M_goers, m_M_image]
end
section
/-! ===== a run in a small world is a run in a bigger one: cells under other numbers, slots that aren't touched ===== -/
def sm_cv (ad : Nat → Nat) (v : Value) : Value := match v with
  | .ref k => .ref (ad k)
  | v => v
theorem sm_arr_at {SH : List sm_Sh} {a : Nat} {q : Nat × Nat} (h : sm_arr SH a = some q) : SH[a]? = some (.inl q) := by
  unfold sm_arr at h
  split at h
  · next h2 => cases h; exact h2
  · cases h
theorem sm_cv_i (ad : Nat → Nat) (x : Int32) : sm_cv ad (.int x) = .int x := rfl
theorem sm_cv_r (ad : Nat → Nat) (k : Nat) : sm_cv ad (.ref k) = .ref (ad k) := rfl
def sm_slR (ρ : Nat → Nat) (o o' : sm_Sl) : Prop := match o with
  | .inl t => t ≤ 1 → o' = .inl t
  | .inr k => o' = .inr (ρ k)
/-- SH1's cells stand in SH2, under their numbers by ρ; tables keep theirs -/
def sm_shR (ρ : Nat → Nat) (SH1 SH2 : List sm_Sh) : Prop :=
  (∀ (k : Nat) (q : Nat × Nat), SH1[k]? = some (.inl q) → SH2[ρ k]? = some (.inl q)) ∧ (∀ (k ci : Nat) (fl : List sm_Sl), SH1[k]? = some (.inr (ci, fl)) → ∃ fl' : List sm_Sl, SH2[ρ k]? = some (.inr (ci, fl')) ∧ ∀ (j : Nat) (o : sm_Sl), fl[j]? = some o → ∃ o', fl'[j]? = some o' ∧ sm_slR ρ o o') ∧
  (∀ i j, i < SH1.length → j < SH1.length → ρ i = ρ j → i = j) ∧ (∀ a, 1000 ≤ a → ρ a = a) ∧ SH2.length ≤ 1000
/-- slot j of cell a is seen from the small world -/
def sm_vis (ρ : Nat → Nat) (SH1 : List sm_Sh) (a j : Nat) : Prop := ∃ k : Nat, ρ k = a ∧ ((∃ q : Nat × Nat, SH1[k]? = some (.inl q)) ∨ ∃ (ci : Nat) (fl : List sm_Sl) (t : Nat), SH1[k]? = some (.inr (ci, fl)) ∧ fl[j]? = some (.inl t) ∧ t ≤ 1)
def sm_stR (ρ : Nat → Nat) (SH1 : List sm_Sh) (σ1 σ2 : sm_S) : Prop :=
  (∀ (k : Nat) (q : Nat × Nat), SH1[k]? = some (.inl q) → σ2 (ρ k) = σ1 k) ∧ ∀ (k ci : Nat) (fl : List sm_Sl) (j t : Nat), SH1[k]? = some (.inr (ci, fl)) → fl[j]? = some (.inl t) → t ≤ 1 → σ2 (ρ k) j = σ1 k j
def sm_off (ρ : Nat → Nat) (SH1 : List sm_Sh) (σ2 σ2' : sm_S) : Prop := ∀ a j, ¬ sm_vis ρ SH1 a j → σ2' a j = σ2 a j
theorem sm_stR_arr {ρ : Nat → Nat} {SH1 : List sm_Sh} {σ1 σ2 : sm_S} (h : sm_stR ρ SH1 σ1 σ2) (hinj : ∀ i j, i < SH1.length → j < SH1.length → ρ i = ρ j → i = j) {k : Nat} {q : Nat × Nat} (hk : SH1[k]? = some (.inl q)) (f : Nat → Int32) : sm_stR ρ SH1 (sm_set σ1 k f) (sm_set σ2 (ρ k) f) ∧ sm_off ρ SH1 σ2 (sm_set σ2 (ρ k) f) := by
  have hl := (List.getElem?_eq_some_iff.mp hk).1
  refine ⟨⟨fun k2 q2 h2 => ?_, fun k2 ci fl j t h2 h3 h4 => ?_⟩, fun a j hv => ?_⟩
  · have hl2 := (List.getElem?_eq_some_iff.mp h2).1
    by_cases e : k2 = k
    · subst e; simp [sm_set]
    · have : ρ k2 ≠ ρ k := fun z => e (hinj _ _ hl2 hl z)
      simp only [sm_set, if_neg this, if_neg e]
      exact h.1 k2 q2 h2
  · have hl2 := (List.getElem?_eq_some_iff.mp h2).1
    have e : k2 ≠ k := fun z => by subst z; rw [hk] at h2; cases h2
    have : ρ k2 ≠ ρ k := fun z => e (hinj _ _ hl2 hl z)
    simp only [sm_set, if_neg this, if_neg e]
    exact h.2 k2 ci fl j t h2 h3 h4
  · have : a ≠ ρ k := fun z => hv ⟨k, z.symm, Or.inl ⟨q, hk⟩⟩
    simp only [sm_set, if_neg this]
theorem sm_stR_put {ρ : Nat → Nat} {SH1 : List sm_Sh} {σ1 σ2 : sm_S} (h : sm_stR ρ SH1 σ1 σ2) (hinj : ∀ i j, i < SH1.length → j < SH1.length → ρ i = ρ j → i = j) {k ci : Nat} {fl : List sm_Sl} (hk : SH1[k]? = some (.inr (ci, fl))) {j t : Nat} (hj : fl[j]? = some (.inl t)) (ht : t ≤ 1) (x : Int32) : sm_stR ρ SH1 (sm_set σ1 k (upd (σ1 k) j x)) (sm_set σ2 (ρ k) (upd (σ2 (ρ k)) j x)) ∧ sm_off ρ SH1 σ2 (sm_set σ2 (ρ k) (upd (σ2 (ρ k)) j x)) := by
  have hl := (List.getElem?_eq_some_iff.mp hk).1
  refine ⟨⟨fun k2 q2 h2 => ?_, fun k2 ci2 fl2 j2 t2 h2 h3 h4 => ?_⟩, fun a j2 hv => ?_⟩
  · have hl2 := (List.getElem?_eq_some_iff.mp h2).1
    have e : k2 ≠ k := fun z => by subst z; rw [hk] at h2; cases h2
    have : ρ k2 ≠ ρ k := fun z => e (hinj _ _ hl2 hl z)
    simp only [sm_set, if_neg this, if_neg e]
    exact h.1 k2 q2 h2
  · have hl2 := (List.getElem?_eq_some_iff.mp h2).1
    by_cases e : k2 = k
    · subst e
      simp only [sm_set, if_pos, upd]
      by_cases e2 : j2 = j
      · simp only [if_pos e2]
      · simp only [if_neg e2]
        exact h.2 k2 ci2 fl2 j2 t2 h2 h3 h4
    · have : ρ k2 ≠ ρ k := fun z => e (hinj _ _ hl2 hl z)
      simp only [sm_set, if_neg this, if_neg e]
      exact h.2 k2 ci2 fl2 j2 t2 h2 h3 h4
  · by_cases e : a = ρ k
    · subst e
      have : j2 ≠ j := fun z => by subst z; exact hv ⟨k, rfl, Or.inr ⟨ci, fl, t, hk, hj, ht⟩⟩
      simp only [sm_set, if_pos, upd, if_neg this]
    · simp only [sm_set, if_neg e]
theorem sm_off.trans {ρ : Nat → Nat} {SH1 : List sm_Sh} {a b c : sm_S} (h1 : sm_off ρ SH1 a b) (h2 : sm_off ρ SH1 b c) : sm_off ρ SH1 a c := fun x j hv => (h2 x j hv).trans (h1 x j hv)
theorem sm_pop_map (f : Value → Value) : ∀ (n : Nat) (acc st as r : List Value), sm_pop n acc st = some (as, r) → sm_pop n (acc.map f) (st.map f) = some (as.map f, r.map f)
  | 0, acc, st, as, r, h => by cases h; rfl
  | n + 1, acc, [], as, r, h => by cases h
  | n + 1, acc, v :: st, as, r, h => sm_pop_map f n (v :: acc) st as r h
theorem sm_irs_map (ρ : Nat → Nat) : ∀ (as : List Value), sm_irs as = true → sm_irs (as.map (sm_cv ρ)) = true
  | [], _ => rfl
  | .int _ :: t, h => sm_irs_map ρ t h
  | .ref _ :: t, h => sm_irs_map ρ t h
  | .null :: t, h => by cases h
  | .long _ :: t, h => by cases h
  | .float _ :: t, h => by cases h
  | .double _ :: t, h => by cases h
theorem sm_ent_map (ρ : Nat → Nat) (M : sm_M) (as : List Value) : (sm_ent M as).map (sm_cv ρ) = sm_ent M (as.map (sm_cv ρ)) := by
  unfold sm_ent
  rw [List.map_append, List.map_replicate, List.length_map]
  rfl
set_option maxHeartbeats 16000000 in
set_option maxRecDepth 100000 in
theorem sm_lift {TB : List (List Int32)} {MS : List sm_M} {ρ : Nat → Nat} {SH1 SH2 : List sm_Sh} (hR : sm_shR ρ SH1 SH2) (hMS : ∀ M ∈ MS, ∀ pc i aux tgt nn sw, sm_find M.2.2.2.2.2 pc = some (.getstatic i, aux, tgt, nn, sw) → 1000 ≤ tgt) : ∀ (n : Nat) (M : sm_M), M ∈ MS → ∀ (pc : Nat) (ls st : List Value) (σ1 : sm_S) (r : Option Value) (σ1' : sm_S), sm_run TB MS SH1 n M pc ls st σ1 = some (r, σ1') →
    ∀ σ2, sm_stR ρ SH1 σ1 σ2 → ∃ σ2', sm_run TB MS SH2 n M pc (ls.map (sm_cv ρ)) (st.map (sm_cv ρ)) σ2 = some (r.map (sm_cv ρ), σ2') ∧ sm_stR ρ SH1 σ1' σ2' ∧ sm_off ρ SH1 σ2 σ2'
  | 0, M, _, pc, ls, st, σ1, r, σ1', h => by cases h
  | n + 1, M, hM, pc, ls, st, σ1, r, σ1', h => by
    intro σ2 hσ
    have ih := sm_lift (TB := TB) (MS := MS) hR hMS n
    have go : ∀ (pc : Nat) (ls st : List Value) (σ1 : sm_S), sm_run TB MS SH1 n M pc ls st σ1 = some (r, σ1') → ∀ σ2, sm_stR ρ SH1 σ1 σ2 → ∃ σ2', sm_run TB MS SH2 n M pc (ls.map (sm_cv ρ)) (st.map (sm_cv ρ)) σ2 = some (r.map (sm_cv ρ), σ2') ∧ sm_stR ρ SH1 σ1' σ2' ∧ sm_off ρ SH1 σ2 σ2' := fun pc ls st σ1 h => ih M hM pc ls st σ1 r σ1' h
    have go2 : ∀ (pc : Nat) (ls st : List Value) (σa : sm_S) (σ2 σb : sm_S), sm_run TB MS SH1 n M pc ls st σa = some (r, σ1') → sm_stR ρ SH1 σa σb ∧ sm_off ρ SH1 σ2 σb → ∃ σ2', sm_run TB MS SH2 n M pc (ls.map (sm_cv ρ)) (st.map (sm_cv ρ)) σb = some (r.map (sm_cv ρ), σ2') ∧ sm_stR ρ SH1 σ1' σ2' ∧ sm_off ρ SH1 σ2 σ2' := by
      intro pc ls st σa σ2 σb h hh
      obtain ⟨σ2', h1, h2, h3⟩ := go pc ls st σa h σb hh.1
      exact ⟨σ2', h1, h2, hh.2.trans h3⟩
    obtain ⟨R1, R2, hinj, R4, R5⟩ := id hR
    have hcl : ∀ (tgt : Nat) (as : List Value) (σ1 σ2 : sm_S) (k : Option Value → sm_S → sm_X) (k' : Option Value → sm_S → sm_X), sm_stR ρ SH1 σ1 σ2 → sm_cll MS (sm_run TB MS SH1 n) tgt as σ1 k = some (r, σ1') → (∀ rr σa σb, k rr σa = some (r, σ1') → sm_stR ρ SH1 σa σb → ∃ σ2', k' (rr.map (sm_cv ρ)) σb = some (r.map (sm_cv ρ), σ2') ∧ sm_stR ρ SH1 σ1' σ2' ∧ sm_off ρ SH1 σb σ2') → ∃ σ2', sm_cll MS (sm_run TB MS SH2 n) tgt (as.map (sm_cv ρ)) σ2 k' = some (r.map (sm_cv ρ), σ2') ∧ sm_stR ρ SH1 σ1' σ2' ∧ sm_off ρ SH1 σ2 σ2' := by
      intro tgt as σ1 σ2 k k' hσ h hk
      unfold sm_cll at h ⊢
      cases hj : MS[tgt]? with
      | none => rw [hj] at h; cases h
      | some M' =>
        rw [hj] at h
        dsimp only at h ⊢
        split at h
        · cases h
        · next rr σa h1 =>
          obtain ⟨σb, h2, h3, h4⟩ := ih M' (List.mem_of_getElem? hj) 0 (sm_ent M' as) [] σ1 rr σa h1 σ2 hσ
          rw [sm_ent_map] at h2
          obtain ⟨σ2', h5, h6, h7⟩ := hk rr σa σb h h3
          refine ⟨σ2', ?_, h6, h4.trans h7⟩
          have h2' : sm_run TB MS SH2 n M' 0 (sm_ent M' (as.map (sm_cv ρ))) [] σ2 = some (rr.map (sm_cv ρ), σb) := h2
          rw [h2']
          exact h5
    have hinv : ∀ (ok1 ok2 : List Value → Bool) (pc tgt nn : Nat) (sw : List (Int32 × Nat)), (∀ as, ok1 as = true → ok2 (as.map (sm_cv ρ)) = true) → sm_inv none (sm_cll MS (sm_run TB MS SH1 n)) (fun pc ls st σ => sm_run TB MS SH1 n M pc ls st σ) ok1 pc tgt nn sw ls st σ1 = some (r, σ1') → ∃ σ2', sm_inv none (sm_cll MS (sm_run TB MS SH2 n)) (fun pc ls st σ => sm_run TB MS SH2 n M pc ls st σ) ok2 pc tgt nn sw (ls.map (sm_cv ρ)) (st.map (sm_cv ρ)) σ2 = some (r.map (sm_cv ρ), σ2') ∧ sm_stR ρ SH1 σ1' σ2' ∧ sm_off ρ SH1 σ2 σ2' := by
      intro ok1 ok2 pc tgt nn sw hok h
      unfold sm_inv at h ⊢
      split at h
      · next as r0 hpop =>
        have hp2 := sm_pop_map (sm_cv ρ) _ _ _ _ _ hpop
        rw [List.map_nil] at hp2
        rw [hp2]
        cases hq : (ok1 as && (sm_irs as && (sm_irs r0 && Nat.ble r0.length 8))) with
        | false => rw [hq] at h; cases h
        | true =>
          rw [hq] at h
          simp only [Bool.and_eq_true] at hq
          obtain ⟨q1, q2, q3, q4⟩ := hq
          have hq' : (ok2 (as.map (sm_cv ρ)) && (sm_irs (as.map (sm_cv ρ)) && (sm_irs (r0.map (sm_cv ρ)) && Nat.ble (r0.map (sm_cv ρ)).length 8))) = true := by
            rw [hok _ q1, sm_irs_map ρ _ q2, sm_irs_map ρ _ q3, List.length_map, q4]; rfl
          dsimp only
          rw [hq']
          dsimp only [cond] at h ⊢
          split at h
          · refine hcl _ _ _ _ _ _ hσ h (fun rr σa σb hk hs => ?_)
            unfold sm_rv at hk ⊢
            split at hk
            · exact go _ _ _ _ hk σb hs
            · cases hk
          · refine hcl _ _ _ _ _ _ hσ h (fun rr σa σb hk hs => ?_)
            unfold sm_ri at hk ⊢
            split at hk
            · exact go _ _ (.int _ :: _) _ hk σb hs
            · cases hk
      · cases h
    have harr : ∀ (a : Nat) (q : Nat × Nat), sm_arr SH1 a = some q → sm_arr SH2 (ρ a) = some q ∧ SH1[a]? = some (.inl q) := by
      intro a q ha
      have h1 := sm_arr_at ha
      refine ⟨?_, h1⟩
      unfold sm_arr
      rw [R1 a q h1]
    have hmm : ∀ (f : Int32 → Int32 → Int32) (pc : Nat), sm_mm none (fun pc ls st σ => sm_run TB MS SH1 n M pc ls st σ) f pc ls st σ1 = some (r, σ1') → ∃ σ2', sm_mm none (fun pc ls st σ => sm_run TB MS SH2 n M pc ls st σ) f pc (ls.map (sm_cv ρ)) (st.map (sm_cv ρ)) σ2 = some (r.map (sm_cv ρ), σ2') ∧ sm_stR ρ SH1 σ1' σ2' ∧ sm_off ρ SH1 σ2 σ2' := by
      intro f pc h
      unfold sm_mm at h ⊢
      split at h
      · next y x r0 h00 =>
        cases hq : (sm_irs r0 && Nat.ble r0.length 8) with
        | false => rw [hq] at h; cases h
        | true =>
          rw [hq] at h
          have hq' : (sm_irs (r0.map (sm_cv ρ)) && Nat.ble (r0.map (sm_cv ρ)).length 8) = true := by
            simp only [Bool.and_eq_true] at hq
            rw [sm_irs_map ρ _ hq.1, List.length_map, hq.2]; rfl
          simp only [List.map_cons, sm_cv_i, sm_cv_r]
          rw [hq']
          exact go _ _ (.int _ :: _) _ h σ2 hσ
      · cases h
    simp only [sm_run] at h ⊢
    unfold sm_g at h ⊢
    split at h
    · cases h
    next ins aux tgt nn sw hf =>
    cases ins with
    | iconst k => exact go _ _ (.int _ :: _) _ h σ2 hσ
    | bipush k => exact go _ _ (.int _ :: _) _ h σ2 hσ
    | sipush k => exact go _ _ (.int _ :: _) _ h σ2 hσ
    | ldc_w k => exact go _ _ (.int _ :: _) _ h σ2 hσ
    | goto k => exact go _ _ _ _ h σ2 hσ
    | iload i =>
      dsimp only at h ⊢
      unfold sm_ld at h ⊢
      split at h
      · next x hi => rw [List.getElem?_map, hi]; exact go _ _ (.int _ :: _) _ h σ2 hσ
      · cases h
    | iload_n i =>
      dsimp only at h ⊢
      unfold sm_ld at h ⊢
      split at h
      · next x hi => rw [List.getElem?_map, hi]; exact go _ _ (.int _ :: _) _ h σ2 hσ
      · cases h
    | aload i =>
      dsimp only at h ⊢
      unfold sm_la at h ⊢
      split at h
      · next x hi => rw [List.getElem?_map, hi]; exact go _ _ (.ref _ :: _) _ h σ2 hσ
      · cases h
    | aload_n i =>
      dsimp only at h ⊢
      unfold sm_la at h ⊢
      split at h
      · next x hi => rw [List.getElem?_map, hi]; exact go _ _ (.ref _ :: _) _ h σ2 hσ
      · cases h
    | istore i =>
      dsimp only at h ⊢
      unfold sm_sti at h ⊢
      split at h
      · next x r0 =>
        cases hq : Nat.blt i ls.length with
        | false => rw [hq] at h; cases h
        | true =>
          rw [hq] at h
          have hq2 : Nat.blt i (ls.map (sm_cv ρ)).length = true := by rw [List.length_map]; exact hq
          have := go _ (ls.set i (.int x)) _ _ h σ2 hσ
          rw [List.map_set] at this
          obtain ⟨σ2', g1, g2⟩ := this
          refine ⟨σ2', ?_, g2⟩
          simp only [List.map_cons, sm_cv_i, sm_cv_r]
          rw [hq2]
          exact g1
      · cases h
    | istore_n i =>
      dsimp only at h ⊢
      unfold sm_sti at h ⊢
      split at h
      · next x r0 =>
        cases hq : Nat.blt i.val ls.length with
        | false => rw [hq] at h; cases h
        | true =>
          rw [hq] at h
          have hq2 : Nat.blt i.val (ls.map (sm_cv ρ)).length = true := by rw [List.length_map]; exact hq
          have := go _ (ls.set i.val (.int x)) _ _ h σ2 hσ
          rw [List.map_set] at this
          obtain ⟨σ2', g1, g2⟩ := this
          refine ⟨σ2', ?_, g2⟩
          simp only [List.map_cons, sm_cv_i, sm_cv_r]
          rw [hq2]
          exact g1
      · cases h
    | astore i =>
      dsimp only at h ⊢
      unfold sm_sta at h ⊢
      split at h
      · next x r0 =>
        cases hq : Nat.blt i ls.length with
        | false => rw [hq] at h; cases h
        | true =>
          rw [hq] at h
          have hq2 : Nat.blt i (ls.map (sm_cv ρ)).length = true := by rw [List.length_map]; exact hq
          have := go _ (ls.set i (.ref x)) _ _ h σ2 hσ
          rw [List.map_set] at this
          obtain ⟨σ2', g1, g2⟩ := this
          refine ⟨σ2', ?_, g2⟩
          simp only [List.map_cons, sm_cv_i, sm_cv_r]
          rw [hq2]
          exact g1
      · cases h
    | astore_n i =>
      dsimp only at h ⊢
      unfold sm_sta at h ⊢
      split at h
      · next x r0 =>
        cases hq : Nat.blt i.val ls.length with
        | false => rw [hq] at h; cases h
        | true =>
          rw [hq] at h
          have hq2 : Nat.blt i.val (ls.map (sm_cv ρ)).length = true := by rw [List.length_map]; exact hq
          have := go _ (ls.set i.val (.ref x)) _ _ h σ2 hσ
          rw [List.map_set] at this
          obtain ⟨σ2', g1, g2⟩ := this
          refine ⟨σ2', ?_, g2⟩
          simp only [List.map_cons, sm_cv_i, sm_cv_r]
          rw [hq2]
          exact g1
      · cases h
    | iadd =>
      dsimp only at h ⊢
      unfold sm_bin at h ⊢
      split at h
      · exact go _ _ (.int _ :: _) _ h σ2 hσ
      · cases h
    | isub =>
      dsimp only at h ⊢
      unfold sm_bin at h ⊢
      split at h
      · exact go _ _ (.int _ :: _) _ h σ2 hσ
      · cases h
    | imul =>
      dsimp only at h ⊢
      unfold sm_bin at h ⊢
      split at h
      · exact go _ _ (.int _ :: _) _ h σ2 hσ
      · cases h
    | iand =>
      dsimp only at h ⊢
      unfold sm_bin at h ⊢
      split at h
      · exact go _ _ (.int _ :: _) _ h σ2 hσ
      · cases h
    | ior =>
      dsimp only at h ⊢
      unfold sm_bin at h ⊢
      split at h
      · exact go _ _ (.int _ :: _) _ h σ2 hσ
      · cases h
    | ixor =>
      dsimp only at h ⊢
      unfold sm_bin at h ⊢
      split at h
      · exact go _ _ (.int _ :: _) _ h σ2 hσ
      · cases h
    | ishl =>
      dsimp only at h ⊢
      unfold sm_bin at h ⊢
      split at h
      · exact go _ _ (.int _ :: _) _ h σ2 hσ
      · cases h
    | ishr =>
      dsimp only at h ⊢
      unfold sm_bin at h ⊢
      split at h
      · exact go _ _ (.int _ :: _) _ h σ2 hσ
      · cases h
    | iushr =>
      dsimp only at h ⊢
      unfold sm_bin at h ⊢
      split at h
      · exact go _ _ (.int _ :: _) _ h σ2 hσ
      · cases h
    | iinc i k =>
      dsimp only at h ⊢
      split at h
      · next x hi =>
        cases hq : Nat.blt i ls.length with
        | false => rw [hq] at h; cases h
        | true =>
          rw [hq] at h
          rw [List.getElem?_map, hi]
          show ∃ σ2', (bif Nat.blt i (ls.map (sm_cv ρ)).length then _ else _) = _ ∧ _
          rw [List.length_map, hq]
          have := go _ (ls.set i (.int (x + aux))) _ _ h σ2 hσ
          rw [List.map_set] at this
          exact this
      · cases h
    | idiv =>
      dsimp only at h ⊢
      split at h
      · next y x r0 =>
        by_cases hy : ¬ y = 0
        · replace h := (sm_if_t hy).symm.trans h
          obtain ⟨σ2', h1, h2⟩ := go _ _ (.int _ :: _) _ h σ2 hσ
          exact ⟨σ2', (sm_if_t hy).trans h1, h2⟩
        · replace h := (sm_if_f hy).symm.trans h
          cases h
      · cases h
    | irem =>
      dsimp only at h ⊢
      split at h
      · next y x r0 =>
        by_cases hy : ¬ y = 0
        · replace h := (sm_if_t hy).symm.trans h
          obtain ⟨σ2', h1, h2⟩ := go _ _ (.int _ :: _) _ h σ2 hσ
          exact ⟨σ2', (sm_if_t hy).trans h1, h2⟩
        · replace h := (sm_if_f hy).symm.trans h
          cases h
      · cases h
    | ineg =>
      dsimp only at h ⊢
      split at h
      · exact go _ _ (.int _ :: _) _ h σ2 hσ
      · cases h
    | dup =>
      dsimp only at h ⊢
      split at h
      · exact go _ _ (.int _ :: .int _ :: _) _ h σ2 hσ
      · exact go _ _ (.ref _ :: .ref _ :: _) _ h σ2 hσ
      · cases h
    | dup2 =>
      dsimp only at h ⊢
      split at h
      · exact go _ _ (.int _ :: .ref _ :: .int _ :: .ref _ :: _) _ h σ2 hσ
      · cases h
    | pop =>
      dsimp only at h ⊢
      split at h
      · exact go _ _ _ _ h σ2 hσ
      · cases h
    | ifCond cc off =>
      dsimp only at h ⊢
      split at h
      · next x r0 =>
        by_cases hc : sm_cnd cc x 0
        · replace h := (sm_if_t hc).symm.trans h
          obtain ⟨σ2', h1, h2⟩ := go _ _ _ _ h σ2 hσ
          exact ⟨σ2', (sm_if_t hc).trans h1, h2⟩
        · replace h := (sm_if_f hc).symm.trans h
          obtain ⟨σ2', h1, h2⟩ := go _ _ _ _ h σ2 hσ
          exact ⟨σ2', (sm_if_f hc).trans h1, h2⟩
      · cases h
    | if_icmp cc off =>
      dsimp only at h ⊢
      split at h
      · next y x r0 =>
        by_cases hc : sm_cnd cc x y
        · replace h := (sm_if_t hc).symm.trans h
          obtain ⟨σ2', h1, h2⟩ := go _ _ _ _ h σ2 hσ
          exact ⟨σ2', (sm_if_t hc).trans h1, h2⟩
        · replace h := (sm_if_f hc).symm.trans h
          obtain ⟨σ2', h1, h2⟩ := go _ _ _ _ h σ2 hσ
          exact ⟨σ2', (sm_if_f hc).trans h1, h2⟩
      · cases h
    | tableswitch df lo hi offs =>
      dsimp only at h ⊢
      split at h
      · next x r0 =>
        clear hf
        revert h
        induction sw with
        | nil => intro h; exact go _ _ _ _ h σ2 hσ
        | cons q sw ihs =>
          obtain ⟨v, t⟩ := q
          intro h
          by_cases hc : x = v
          · replace h := (sm_if_t hc).symm.trans h
            obtain ⟨σ2', h1, h2⟩ := go _ _ _ _ h σ2 hσ
            exact ⟨σ2', (sm_if_t hc).trans h1, h2⟩
          · replace h := (sm_if_f hc).symm.trans h
            obtain ⟨σ2', h1, h2⟩ := ihs h
            exact ⟨σ2', (sm_if_f hc).trans h1, h2⟩
      · cases h
    | getfield i =>
      dsimp only at h ⊢
      unfold sm_getf at h ⊢
      split at h
      · next a r0 =>
        split at h
        · next ci fl ha =>
          obtain ⟨fl', h1, h2⟩ := R2 a ci fl ha
          simp only [List.map_cons, sm_cv_i, sm_cv_r]
          rw [h1]
          dsimp only
          cases hq : Nat.beq ci (tgt / 100) with
          | false => rw [hq] at h; cases h
          | true =>
            rw [hq] at h
            dsimp only [cond] at h ⊢
            split at h
            · next t0 ht =>
              cases hq2 : Nat.ble t0 1 with
              | false => rw [hq2] at h; cases h
              | true =>
                rw [hq2] at h
                have ht1 := Nat.le_of_ble_eq_true hq2
                obtain ⟨o', h3, h4⟩ := h2 _ _ ht
                rw [h3, h4 ht1]
                dsimp only
                rw [hq2]
                have := go _ _ (.int (σ1 a (tgt % 100)) :: r0) _ h σ2 hσ
                rw [← hσ.2 a ci fl (tgt % 100) t0 ha ht ht1] at this
                exact this
            · next k ht =>
              obtain ⟨o', h3, h4⟩ := h2 _ _ ht
              rw [h3, h4]
              exact go _ _ (.ref k :: r0) _ h σ2 hσ
            · cases h
        · cases h
      · cases h
    | putfield i =>
      dsimp only at h ⊢
      unfold sm_putf at h ⊢
      split at h
      · next x a r0 =>
        split at h
        · next ci fl ha =>
          obtain ⟨fl', h1, h2⟩ := R2 a ci fl ha
          simp only [List.map_cons, sm_cv_i, sm_cv_r]
          rw [h1]
          dsimp only
          cases hq : Nat.beq ci (tgt / 100) with
          | false => rw [hq] at h; cases h
          | true =>
            rw [hq] at h
            dsimp only [cond] at h ⊢
            split at h
            · next ht =>
              obtain ⟨o', h3, h4⟩ := h2 _ _ ht
              rw [h3, h4 (Nat.zero_le 1)]
              exact go2 _ _ _ _ σ2 _ h (sm_stR_put hσ hinj ha ht (Nat.zero_le 1) x)
            · next ht =>
              obtain ⟨o', h3, h4⟩ := h2 _ _ ht
              rw [h3, h4 (Nat.le_refl 1)]
              by_cases hx01 : x = 0 ∨ x = 1
              · replace h := (sm_if_t hx01).symm.trans h
                obtain ⟨σ2', g1, g2⟩ := go2 _ _ _ _ σ2 _ h (sm_stR_put hσ hinj ha ht (Nat.le_refl 1) x)
                exact ⟨σ2', (sm_if_t hx01).trans g1, g2⟩
              · replace h := (sm_if_f hx01).symm.trans h
                cases h
            · cases h
        · cases h
      · cases h
    | getstatic i =>
      dsimp only at h ⊢
      have hg : ∃ σ2', sm_run TB MS SH2 n M (pc + 3) (ls.map (sm_cv ρ)) (.ref (ρ tgt) :: st.map (sm_cv ρ)) σ2 = some (r.map (sm_cv ρ), σ2') ∧ sm_stR ρ SH1 σ1' σ2' ∧ sm_off ρ SH1 σ2 σ2' := go _ _ (.ref _ :: _) _ h σ2 hσ
      rw [R4 tgt (hMS M hM _ _ _ _ _ _ hf)] at hg
      exact hg
    | iaload =>
      dsimp only at h ⊢
      unfold sm_ald at h ⊢
      split at h
      · next i a r0 =>
        simp only [List.map_cons, sm_cv_i, sm_cv_r]
        split at h
        · next t nn2 ha =>
          obtain ⟨h1, h2⟩ := harr a _ ha
          rw [h1]
          dsimp only
          cases hq : Nat.beq t 0 with
          | false => rw [hq] at h; cases h
          | true =>
            rw [hq] at h
            by_cases hin : vp_in i nn2
            · replace h := (sm_if_t hin).symm.trans h
              have := go _ _ (.int (σ1 a i.toNatClampNeg) :: r0) _ h σ2 hσ
              rw [← hσ.1 a _ h2] at this
              obtain ⟨σ2', g1, g2⟩ := this
              exact ⟨σ2', (sm_if_t hin).trans g1, g2⟩
            · replace h := (sm_if_f hin).symm.trans h
              cases h
        · next hn =>
          split at h
          · next q ht =>
            cases hq : (Nat.ble 1000 a && Nat.beq 0 0) with
            | false => rw [hq] at h; cases h
            | true =>
              rw [hq] at h
              have h1000 : 1000 ≤ a := Nat.le_of_ble_eq_true ((Bool.and_eq_true _ _).mp hq).1
              have hno : sm_arr SH2 (ρ a) = none := by
                rw [R4 a h1000]
                unfold sm_arr
                rw [List.getElem?_eq_none (Nat.le_trans R5 h1000)]
              rw [hno, R4 a h1000, ht]
              dsimp only
              rw [hq]
              by_cases hin : vp_in i q.length
              · replace h := (sm_if_t hin).symm.trans h
                obtain ⟨σ2', g1, g2⟩ := go _ _ (.int _ :: _) _ h σ2 hσ
                exact ⟨σ2', (sm_if_t hin).trans g1, g2⟩
              · replace h := (sm_if_f hin).symm.trans h
                cases h
          · cases h
      · cases h
    | baload =>
      dsimp only at h ⊢
      unfold sm_ald at h ⊢
      split at h
      · next i a r0 =>
        simp only [List.map_cons, sm_cv_i, sm_cv_r]
        split at h
        · next t nn2 ha =>
          obtain ⟨h1, h2⟩ := harr a _ ha
          rw [h1]
          dsimp only
          cases hq : Nat.beq t 1 with
          | false => rw [hq] at h; cases h
          | true =>
            rw [hq] at h
            by_cases hin : vp_in i nn2
            · replace h := (sm_if_t hin).symm.trans h
              have := go _ _ (.int (σ1 a i.toNatClampNeg) :: r0) _ h σ2 hσ
              rw [← hσ.1 a _ h2] at this
              obtain ⟨σ2', g1, g2⟩ := this
              exact ⟨σ2', (sm_if_t hin).trans g1, g2⟩
            · replace h := (sm_if_f hin).symm.trans h
              cases h
        · next hn =>
          split at h
          · next q ht =>
            cases hq : (Nat.ble 1000 a && Nat.beq 1 0) with
            | false => rw [hq] at h; cases h
            | true =>
              rw [hq] at h
              have h1000 : 1000 ≤ a := Nat.le_of_ble_eq_true ((Bool.and_eq_true _ _).mp hq).1
              have hno : sm_arr SH2 (ρ a) = none := by
                rw [R4 a h1000]
                unfold sm_arr
                rw [List.getElem?_eq_none (Nat.le_trans R5 h1000)]
              rw [hno, R4 a h1000, ht]
              dsimp only
              rw [hq]
              by_cases hin : vp_in i q.length
              · replace h := (sm_if_t hin).symm.trans h
                obtain ⟨σ2', g1, g2⟩ := go _ _ (.int _ :: _) _ h σ2 hσ
                exact ⟨σ2', (sm_if_t hin).trans g1, g2⟩
              · replace h := (sm_if_f hin).symm.trans h
                cases h
          · cases h
      · cases h
    | iastore =>
      dsimp only at h ⊢
      unfold sm_ast at h ⊢
      split at h
      · next x i a r0 =>
        simp only [List.map_cons, sm_cv_i, sm_cv_r]
        split at h
        · next t nn2 ha =>
          obtain ⟨h1, h2⟩ := harr a _ ha
          rw [h1]
          dsimp only
          cases hq : Nat.beq t 0 with
          | false => rw [hq] at h; cases h
          | true =>
            rw [hq] at h
            by_cases hin : vp_in i nn2
            · replace h := (sm_if_t hin).symm.trans h
              have hs := sm_stR_arr hσ hinj h2 (upd (σ1 a) i.toNatClampNeg x)
              rw [← hσ.1 a _ h2] at hs
              rw [hσ.1 a _ h2] at hs
              have hs2 := hs
              rw [← hσ.1 a _ h2] at hs2
              obtain ⟨σ2', g1, g2⟩ := go2 _ _ _ _ σ2 _ h hs
              rw [← hσ.1 a _ h2] at g1
              exact ⟨σ2', (sm_if_t hin).trans g1, g2⟩
            · replace h := (sm_if_f hin).symm.trans h
              cases h
        · cases h
      · cases h
    | bastore =>
      dsimp only at h ⊢
      unfold sm_ast at h ⊢
      split at h
      · next x i a r0 =>
        simp only [List.map_cons, sm_cv_i, sm_cv_r]
        split at h
        · next t nn2 ha =>
          obtain ⟨h1, h2⟩ := harr a _ ha
          rw [h1]
          dsimp only
          cases hq : Nat.beq t 1 with
          | false => rw [hq] at h; cases h
          | true =>
            rw [hq] at h
            by_cases hin : vp_in i nn2
            · replace h := (sm_if_t hin).symm.trans h
              have hs := sm_stR_arr hσ hinj h2 (upd (σ1 a) i.toNatClampNeg x)
              rw [← hσ.1 a _ h2] at hs
              rw [hσ.1 a _ h2] at hs
              by_cases hx01 : x = 0 ∨ x = 1
              · replace h := (sm_if_t hx01).symm.trans h
                obtain ⟨σ2', g1, g2⟩ := go2 _ _ _ _ σ2 _ h hs
                rw [← hσ.1 a _ h2] at g1
                exact ⟨σ2', (sm_if_t hin).trans ((sm_if_t hx01).trans g1), g2⟩
              · replace h := (sm_if_f hx01).symm.trans h
                cases h
            · replace h := (sm_if_f hin).symm.trans h
              cases h
        · cases h
      · cases h
    | arraylength =>
      dsimp only at h ⊢
      unfold sm_len at h ⊢
      split at h
      · next a r0 =>
        simp only [List.map_cons, sm_cv_i, sm_cv_r]
        split at h
        · next t nn2 ha =>
          obtain ⟨h1, h2⟩ := harr a _ ha
          rw [h1]
          exact go _ _ (.int _ :: _) _ h σ2 hσ
        · cases h
      · cases h
    | invokevirtual i =>
      refine hinv _ _ _ _ _ _ (fun as hr => ?_) h
      unfold sm_rc at hr ⊢
      split at hr
      · next a t0 =>
        simp only [List.map_cons, sm_cv_i, sm_cv_r]
        split at hr
        · next c2 fl ha =>
          obtain ⟨fl', h1, -⟩ := R2 a c2 fl ha
          rw [h1]
          exact hr
        · cases hr
      · cases hr
    | invokestatic i =>
      dsimp only at h ⊢
      cases hac : Nat.beq tgt 9999 with
      | false =>
        rw [hac] at h
        dsimp only [cond] at h ⊢
        cases h98 : Nat.beq tgt 9998 with
        | true =>
          rw [h98] at h
          dsimp only [cond] at h ⊢
          exact hmm _ _ h
        | false =>
          rw [h98] at h
          dsimp only [cond] at h ⊢
          cases h97 : Nat.beq tgt 9997 with
          | true =>
            rw [h97] at h
            dsimp only [cond] at h ⊢
            exact hmm _ _ h
          | false =>
            rw [h97] at h
            exact hinv _ _ _ _ _ _ (fun _ _ => rfl) h
      | true =>
        rw [hac] at h
        dsimp only [cond] at h ⊢
        unfold sm_cpy at h ⊢
        split at h
        · next nc dp b sp a =>
          simp only [List.map_cons, List.map_nil, sm_cv_i, sm_cv_r]
          split at h
          · next nb hbb =>
            obtain ⟨b1, b2⟩ := harr b _ hbb
            rw [b1]
            split at h
            · next na haa =>
              obtain ⟨a1, a2⟩ := harr a _ haa
              rw [a1]
              by_cases hin : ¬ sp < 0 ∧ ¬ dp < 0 ∧ ¬ nc < 0 ∧ sp.toNatClampNeg + nc.toNatClampNeg ≤ na ∧ dp.toNatClampNeg + nc.toNatClampNeg ≤ nb
              · replace h := (sm_if_t hin).symm.trans h
                have hs := sm_stR_arr hσ hinj b2 (va_cpy (σ1 a) (σ1 b) sp.toNatClampNeg dp.toNatClampNeg nc.toNatClampNeg)
                obtain ⟨σ2', g1, g2⟩ := go2 _ _ _ _ σ2 _ h hs
                rw [← hσ.1 a _ a2, ← hσ.1 b _ b2] at g1
                exact ⟨σ2', (sm_if_t hin).trans g1, g2⟩
              · replace h := (sm_if_f hin).symm.trans h
                cases h
            · cases h
          · cases h
        · cases h
    | ireturn =>
      dsimp only at h ⊢
      split at h
      · next x =>
        split at h
        · next hrt =>
          cases h
          simp only [List.map_cons, List.map_nil, sm_cv, hrt]
          exact ⟨σ2, rfl, hσ, fun _ _ _ => rfl⟩
        · next hrt =>
          by_cases hx01 : x = 0 ∨ x = 1
          · replace h := (sm_if_t hx01).symm.trans h
            cases h
            simp only [List.map_cons, List.map_nil, sm_cv, hrt]
            exact ⟨σ2, sm_if_t hx01, hσ, fun _ _ _ => rfl⟩
          · replace h := (sm_if_f hx01).symm.trans h
            cases h
        · cases h
      · cases h
    | return_ =>
      dsimp only at h ⊢
      split at h
      · split at h
        · next hrt =>
          cases h
          simp only [List.map_nil, hrt]
          exact ⟨σ2, rfl, hσ, fun _ _ _ => rfl⟩
        · cases h
      · cases h
    | _ => cases h
end
section
/-! ===== the same, for stores that agree where the arrays reach ===== -/
theorem vp_lt {x : Int32} {n : Nat} (h : vp_in x n) : x.toNatClampNeg < n := by
  rw [vp_in_iff] at h
  show x.toInt.toNat < n
  omega
def sm_stW (ρ : Nat → Nat) (SH1 : List sm_Sh) (σ1 σ2 : sm_S) : Prop :=
  (∀ (k : Nat) (q : Nat × Nat), SH1[k]? = some (.inl q) → ∀ i, i < q.2 → σ2 (ρ k) i = σ1 k i) ∧ ∀ (k ci : Nat) (fl : List sm_Sl) (j t : Nat), SH1[k]? = some (.inr (ci, fl)) → fl[j]? = some (.inl t) → t ≤ 1 → σ2 (ρ k) j = σ1 k j
theorem sm_stW_arr {ρ : Nat → Nat} {SH1 : List sm_Sh} {σ1 σ2 : sm_S} (h : sm_stW ρ SH1 σ1 σ2) (hinj : ∀ i j, i < SH1.length → j < SH1.length → ρ i = ρ j → i = j) {k : Nat} {q : Nat × Nat} (hk : SH1[k]? = some (.inl q)) (f f' : Nat → Int32) (hff : ∀ i, i < q.2 → f' i = f i) : sm_stW ρ SH1 (sm_set σ1 k f) (sm_set σ2 (ρ k) f') ∧ sm_off ρ SH1 σ2 (sm_set σ2 (ρ k) f') := by
  have hl := (List.getElem?_eq_some_iff.mp hk).1
  refine ⟨⟨fun k2 q2 h2 i hi => ?_, fun k2 ci fl j t h2 h3 h4 => ?_⟩, fun a j hv => ?_⟩
  · have hl2 := (List.getElem?_eq_some_iff.mp h2).1
    by_cases e : k2 = k
    · subst e
      rw [hk] at h2
      cases h2
      simp only [sm_set, if_pos]
      exact hff i hi
    · have : ρ k2 ≠ ρ k := fun z => e (hinj _ _ hl2 hl z)
      simp only [sm_set, if_neg this, if_neg e]
      exact h.1 k2 q2 h2 i hi
  · have hl2 := (List.getElem?_eq_some_iff.mp h2).1
    have e : k2 ≠ k := fun z => by subst z; rw [hk] at h2; cases h2
    have : ρ k2 ≠ ρ k := fun z => e (hinj _ _ hl2 hl z)
    simp only [sm_set, if_neg this, if_neg e]
    exact h.2 k2 ci fl j t h2 h3 h4
  · have : a ≠ ρ k := fun z => hv ⟨k, z.symm, Or.inl ⟨q, hk⟩⟩
    simp only [sm_set, if_neg this]
theorem sm_stW_put {ρ : Nat → Nat} {SH1 : List sm_Sh} {σ1 σ2 : sm_S} (h : sm_stW ρ SH1 σ1 σ2) (hinj : ∀ i j, i < SH1.length → j < SH1.length → ρ i = ρ j → i = j) {k ci : Nat} {fl : List sm_Sl} (hk : SH1[k]? = some (.inr (ci, fl))) {j t : Nat} (hj : fl[j]? = some (.inl t)) (ht : t ≤ 1) (x : Int32) : sm_stW ρ SH1 (sm_set σ1 k (upd (σ1 k) j x)) (sm_set σ2 (ρ k) (upd (σ2 (ρ k)) j x)) ∧ sm_off ρ SH1 σ2 (sm_set σ2 (ρ k) (upd (σ2 (ρ k)) j x)) := by
  have hl := (List.getElem?_eq_some_iff.mp hk).1
  refine ⟨⟨fun k2 q2 h2 i hi => ?_, fun k2 ci2 fl2 j2 t2 h2 h3 h4 => ?_⟩, fun a j2 hv => ?_⟩
  · have hl2 := (List.getElem?_eq_some_iff.mp h2).1
    have e : k2 ≠ k := fun z => by subst z; rw [hk] at h2; cases h2
    have : ρ k2 ≠ ρ k := fun z => e (hinj _ _ hl2 hl z)
    simp only [sm_set, if_neg this, if_neg e]
    exact h.1 k2 q2 h2 i hi
  · have hl2 := (List.getElem?_eq_some_iff.mp h2).1
    by_cases e : k2 = k
    · subst e
      simp only [sm_set, if_pos, upd]
      by_cases e2 : j2 = j
      · simp only [if_pos e2]
      · simp only [if_neg e2]
        exact h.2 k2 ci2 fl2 j2 t2 h2 h3 h4
    · have : ρ k2 ≠ ρ k := fun z => e (hinj _ _ hl2 hl z)
      simp only [sm_set, if_neg this, if_neg e]
      exact h.2 k2 ci2 fl2 j2 t2 h2 h3 h4
  · by_cases e : a = ρ k
    · subst e
      have : j2 ≠ j := fun z => by subst z; exact hv ⟨k, rfl, Or.inr ⟨ci, fl, t, hk, hj, ht⟩⟩
      simp only [sm_set, if_pos, upd, if_neg this]
    · simp only [sm_set, if_neg e]
set_option maxHeartbeats 16000000 in
set_option maxRecDepth 100000 in
theorem sm_liftW {TB : List (List Int32)} {MS : List sm_M} {ρ : Nat → Nat} {SH1 SH2 : List sm_Sh} (hR : sm_shR ρ SH1 SH2) (hMS : ∀ M ∈ MS, ∀ pc i aux tgt nn sw, sm_find M.2.2.2.2.2 pc = some (.getstatic i, aux, tgt, nn, sw) → 1000 ≤ tgt) : ∀ (n : Nat) (M : sm_M), M ∈ MS → ∀ (pc : Nat) (ls st : List Value) (σ1 : sm_S) (r : Option Value) (σ1' : sm_S), sm_run TB MS SH1 n M pc ls st σ1 = some (r, σ1') →
    ∀ σ2, sm_stW ρ SH1 σ1 σ2 → ∃ σ2', sm_run TB MS SH2 n M pc (ls.map (sm_cv ρ)) (st.map (sm_cv ρ)) σ2 = some (r.map (sm_cv ρ), σ2') ∧ sm_stW ρ SH1 σ1' σ2' ∧ sm_off ρ SH1 σ2 σ2'
  | 0, M, _, pc, ls, st, σ1, r, σ1', h => by cases h
  | n + 1, M, hM, pc, ls, st, σ1, r, σ1', h => by
    intro σ2 hσ
    have ih := sm_liftW (TB := TB) (MS := MS) hR hMS n
    have go : ∀ (pc : Nat) (ls st : List Value) (σ1 : sm_S), sm_run TB MS SH1 n M pc ls st σ1 = some (r, σ1') → ∀ σ2, sm_stW ρ SH1 σ1 σ2 → ∃ σ2', sm_run TB MS SH2 n M pc (ls.map (sm_cv ρ)) (st.map (sm_cv ρ)) σ2 = some (r.map (sm_cv ρ), σ2') ∧ sm_stW ρ SH1 σ1' σ2' ∧ sm_off ρ SH1 σ2 σ2' := fun pc ls st σ1 h => ih M hM pc ls st σ1 r σ1' h
    have go2 : ∀ (pc : Nat) (ls st : List Value) (σa : sm_S) (σ2 σb : sm_S), sm_run TB MS SH1 n M pc ls st σa = some (r, σ1') → sm_stW ρ SH1 σa σb ∧ sm_off ρ SH1 σ2 σb → ∃ σ2', sm_run TB MS SH2 n M pc (ls.map (sm_cv ρ)) (st.map (sm_cv ρ)) σb = some (r.map (sm_cv ρ), σ2') ∧ sm_stW ρ SH1 σ1' σ2' ∧ sm_off ρ SH1 σ2 σ2' := by
      intro pc ls st σa σ2 σb h hh
      obtain ⟨σ2', h1, h2, h3⟩ := go pc ls st σa h σb hh.1
      exact ⟨σ2', h1, h2, hh.2.trans h3⟩
    obtain ⟨R1, R2, hinj, R4, R5⟩ := id hR
    have hcl : ∀ (tgt : Nat) (as : List Value) (σ1 σ2 : sm_S) (k : Option Value → sm_S → sm_X) (k' : Option Value → sm_S → sm_X), sm_stW ρ SH1 σ1 σ2 → sm_cll MS (sm_run TB MS SH1 n) tgt as σ1 k = some (r, σ1') → (∀ rr σa σb, k rr σa = some (r, σ1') → sm_stW ρ SH1 σa σb → ∃ σ2', k' (rr.map (sm_cv ρ)) σb = some (r.map (sm_cv ρ), σ2') ∧ sm_stW ρ SH1 σ1' σ2' ∧ sm_off ρ SH1 σb σ2') → ∃ σ2', sm_cll MS (sm_run TB MS SH2 n) tgt (as.map (sm_cv ρ)) σ2 k' = some (r.map (sm_cv ρ), σ2') ∧ sm_stW ρ SH1 σ1' σ2' ∧ sm_off ρ SH1 σ2 σ2' := by
      intro tgt as σ1 σ2 k k' hσ h hk
      unfold sm_cll at h ⊢
      cases hj : MS[tgt]? with
      | none => rw [hj] at h; cases h
      | some M' =>
        rw [hj] at h
        dsimp only at h ⊢
        split at h
        · cases h
        · next rr σa h1 =>
          obtain ⟨σb, h2, h3, h4⟩ := ih M' (List.mem_of_getElem? hj) 0 (sm_ent M' as) [] σ1 rr σa h1 σ2 hσ
          rw [sm_ent_map] at h2
          obtain ⟨σ2', h5, h6, h7⟩ := hk rr σa σb h h3
          refine ⟨σ2', ?_, h6, h4.trans h7⟩
          have h2' : sm_run TB MS SH2 n M' 0 (sm_ent M' (as.map (sm_cv ρ))) [] σ2 = some (rr.map (sm_cv ρ), σb) := h2
          rw [h2']
          exact h5
    have hinv : ∀ (ok1 ok2 : List Value → Bool) (pc tgt nn : Nat) (sw : List (Int32 × Nat)), (∀ as, ok1 as = true → ok2 (as.map (sm_cv ρ)) = true) → sm_inv none (sm_cll MS (sm_run TB MS SH1 n)) (fun pc ls st σ => sm_run TB MS SH1 n M pc ls st σ) ok1 pc tgt nn sw ls st σ1 = some (r, σ1') → ∃ σ2', sm_inv none (sm_cll MS (sm_run TB MS SH2 n)) (fun pc ls st σ => sm_run TB MS SH2 n M pc ls st σ) ok2 pc tgt nn sw (ls.map (sm_cv ρ)) (st.map (sm_cv ρ)) σ2 = some (r.map (sm_cv ρ), σ2') ∧ sm_stW ρ SH1 σ1' σ2' ∧ sm_off ρ SH1 σ2 σ2' := by
      intro ok1 ok2 pc tgt nn sw hok h
      unfold sm_inv at h ⊢
      split at h
      · next as r0 hpop =>
        have hp2 := sm_pop_map (sm_cv ρ) _ _ _ _ _ hpop
        rw [List.map_nil] at hp2
        rw [hp2]
        cases hq : (ok1 as && (sm_irs as && (sm_irs r0 && Nat.ble r0.length 8))) with
        | false => rw [hq] at h; cases h
        | true =>
          rw [hq] at h
          simp only [Bool.and_eq_true] at hq
          obtain ⟨q1, q2, q3, q4⟩ := hq
          have hq' : (ok2 (as.map (sm_cv ρ)) && (sm_irs (as.map (sm_cv ρ)) && (sm_irs (r0.map (sm_cv ρ)) && Nat.ble (r0.map (sm_cv ρ)).length 8))) = true := by
            rw [hok _ q1, sm_irs_map ρ _ q2, sm_irs_map ρ _ q3, List.length_map, q4]; rfl
          dsimp only
          rw [hq']
          dsimp only [cond] at h ⊢
          split at h
          · refine hcl _ _ _ _ _ _ hσ h (fun rr σa σb hk hs => ?_)
            unfold sm_rv at hk ⊢
            split at hk
            · exact go _ _ _ _ hk σb hs
            · cases hk
          · refine hcl _ _ _ _ _ _ hσ h (fun rr σa σb hk hs => ?_)
            unfold sm_ri at hk ⊢
            split at hk
            · exact go _ _ (.int _ :: _) _ hk σb hs
            · cases hk
      · cases h
    have harr : ∀ (a : Nat) (q : Nat × Nat), sm_arr SH1 a = some q → sm_arr SH2 (ρ a) = some q ∧ SH1[a]? = some (.inl q) := by
      intro a q ha
      have h1 := sm_arr_at ha
      refine ⟨?_, h1⟩
      unfold sm_arr
      rw [R1 a q h1]
    have hmm : ∀ (f : Int32 → Int32 → Int32) (pc : Nat), sm_mm none (fun pc ls st σ => sm_run TB MS SH1 n M pc ls st σ) f pc ls st σ1 = some (r, σ1') → ∃ σ2', sm_mm none (fun pc ls st σ => sm_run TB MS SH2 n M pc ls st σ) f pc (ls.map (sm_cv ρ)) (st.map (sm_cv ρ)) σ2 = some (r.map (sm_cv ρ), σ2') ∧ sm_stW ρ SH1 σ1' σ2' ∧ sm_off ρ SH1 σ2 σ2' := by
      intro f pc h
      unfold sm_mm at h ⊢
      split at h
      · next y x r0 h00 =>
        cases hq : (sm_irs r0 && Nat.ble r0.length 8) with
        | false => rw [hq] at h; cases h
        | true =>
          rw [hq] at h
          have hq' : (sm_irs (r0.map (sm_cv ρ)) && Nat.ble (r0.map (sm_cv ρ)).length 8) = true := by
            simp only [Bool.and_eq_true] at hq
            rw [sm_irs_map ρ _ hq.1, List.length_map, hq.2]; rfl
          simp only [List.map_cons, sm_cv_i, sm_cv_r]
          rw [hq']
          exact go _ _ (.int _ :: _) _ h σ2 hσ
      · cases h
    simp only [sm_run] at h ⊢
    unfold sm_g at h ⊢
    split at h
    · cases h
    next ins aux tgt nn sw hf =>
    cases ins with
    | iconst k => exact go _ _ (.int _ :: _) _ h σ2 hσ
    | bipush k => exact go _ _ (.int _ :: _) _ h σ2 hσ
    | sipush k => exact go _ _ (.int _ :: _) _ h σ2 hσ
    | ldc_w k => exact go _ _ (.int _ :: _) _ h σ2 hσ
    | goto k => exact go _ _ _ _ h σ2 hσ
    | iload i =>
      dsimp only at h ⊢
      unfold sm_ld at h ⊢
      split at h
      · next x hi => rw [List.getElem?_map, hi]; exact go _ _ (.int _ :: _) _ h σ2 hσ
      · cases h
    | iload_n i =>
      dsimp only at h ⊢
      unfold sm_ld at h ⊢
      split at h
      · next x hi => rw [List.getElem?_map, hi]; exact go _ _ (.int _ :: _) _ h σ2 hσ
      · cases h
    | aload i =>
      dsimp only at h ⊢
      unfold sm_la at h ⊢
      split at h
      · next x hi => rw [List.getElem?_map, hi]; exact go _ _ (.ref _ :: _) _ h σ2 hσ
      · cases h
    | aload_n i =>
      dsimp only at h ⊢
      unfold sm_la at h ⊢
      split at h
      · next x hi => rw [List.getElem?_map, hi]; exact go _ _ (.ref _ :: _) _ h σ2 hσ
      · cases h
    | istore i =>
      dsimp only at h ⊢
      unfold sm_sti at h ⊢
      split at h
      · next x r0 =>
        cases hq : Nat.blt i ls.length with
        | false => rw [hq] at h; cases h
        | true =>
          rw [hq] at h
          have hq2 : Nat.blt i (ls.map (sm_cv ρ)).length = true := by rw [List.length_map]; exact hq
          have := go _ (ls.set i (.int x)) _ _ h σ2 hσ
          rw [List.map_set] at this
          obtain ⟨σ2', g1, g2⟩ := this
          refine ⟨σ2', ?_, g2⟩
          simp only [List.map_cons, sm_cv_i, sm_cv_r]
          rw [hq2]
          exact g1
      · cases h
    | istore_n i =>
      dsimp only at h ⊢
      unfold sm_sti at h ⊢
      split at h
      · next x r0 =>
        cases hq : Nat.blt i.val ls.length with
        | false => rw [hq] at h; cases h
        | true =>
          rw [hq] at h
          have hq2 : Nat.blt i.val (ls.map (sm_cv ρ)).length = true := by rw [List.length_map]; exact hq
          have := go _ (ls.set i.val (.int x)) _ _ h σ2 hσ
          rw [List.map_set] at this
          obtain ⟨σ2', g1, g2⟩ := this
          refine ⟨σ2', ?_, g2⟩
          simp only [List.map_cons, sm_cv_i, sm_cv_r]
          rw [hq2]
          exact g1
      · cases h
    | astore i =>
      dsimp only at h ⊢
      unfold sm_sta at h ⊢
      split at h
      · next x r0 =>
        cases hq : Nat.blt i ls.length with
        | false => rw [hq] at h; cases h
        | true =>
          rw [hq] at h
          have hq2 : Nat.blt i (ls.map (sm_cv ρ)).length = true := by rw [List.length_map]; exact hq
          have := go _ (ls.set i (.ref x)) _ _ h σ2 hσ
          rw [List.map_set] at this
          obtain ⟨σ2', g1, g2⟩ := this
          refine ⟨σ2', ?_, g2⟩
          simp only [List.map_cons, sm_cv_i, sm_cv_r]
          rw [hq2]
          exact g1
      · cases h
    | astore_n i =>
      dsimp only at h ⊢
      unfold sm_sta at h ⊢
      split at h
      · next x r0 =>
        cases hq : Nat.blt i.val ls.length with
        | false => rw [hq] at h; cases h
        | true =>
          rw [hq] at h
          have hq2 : Nat.blt i.val (ls.map (sm_cv ρ)).length = true := by rw [List.length_map]; exact hq
          have := go _ (ls.set i.val (.ref x)) _ _ h σ2 hσ
          rw [List.map_set] at this
          obtain ⟨σ2', g1, g2⟩ := this
          refine ⟨σ2', ?_, g2⟩
          simp only [List.map_cons, sm_cv_i, sm_cv_r]
          rw [hq2]
          exact g1
      · cases h
    | iadd =>
      dsimp only at h ⊢
      unfold sm_bin at h ⊢
      split at h
      · exact go _ _ (.int _ :: _) _ h σ2 hσ
      · cases h
    | isub =>
      dsimp only at h ⊢
      unfold sm_bin at h ⊢
      split at h
      · exact go _ _ (.int _ :: _) _ h σ2 hσ
      · cases h
    | imul =>
      dsimp only at h ⊢
      unfold sm_bin at h ⊢
      split at h
      · exact go _ _ (.int _ :: _) _ h σ2 hσ
      · cases h
    | iand =>
      dsimp only at h ⊢
      unfold sm_bin at h ⊢
      split at h
      · exact go _ _ (.int _ :: _) _ h σ2 hσ
      · cases h
    | ior =>
      dsimp only at h ⊢
      unfold sm_bin at h ⊢
      split at h
      · exact go _ _ (.int _ :: _) _ h σ2 hσ
      · cases h
    | ixor =>
      dsimp only at h ⊢
      unfold sm_bin at h ⊢
      split at h
      · exact go _ _ (.int _ :: _) _ h σ2 hσ
      · cases h
    | ishl =>
      dsimp only at h ⊢
      unfold sm_bin at h ⊢
      split at h
      · exact go _ _ (.int _ :: _) _ h σ2 hσ
      · cases h
    | ishr =>
      dsimp only at h ⊢
      unfold sm_bin at h ⊢
      split at h
      · exact go _ _ (.int _ :: _) _ h σ2 hσ
      · cases h
    | iushr =>
      dsimp only at h ⊢
      unfold sm_bin at h ⊢
      split at h
      · exact go _ _ (.int _ :: _) _ h σ2 hσ
      · cases h
    | iinc i k =>
      dsimp only at h ⊢
      split at h
      · next x hi =>
        cases hq : Nat.blt i ls.length with
        | false => rw [hq] at h; cases h
        | true =>
          rw [hq] at h
          rw [List.getElem?_map, hi]
          show ∃ σ2', (bif Nat.blt i (ls.map (sm_cv ρ)).length then _ else _) = _ ∧ _
          rw [List.length_map, hq]
          have := go _ (ls.set i (.int (x + aux))) _ _ h σ2 hσ
          rw [List.map_set] at this
          exact this
      · cases h
    | idiv =>
      dsimp only at h ⊢
      split at h
      · next y x r0 =>
        by_cases hy : ¬ y = 0
        · replace h := (sm_if_t hy).symm.trans h
          obtain ⟨σ2', h1, h2⟩ := go _ _ (.int _ :: _) _ h σ2 hσ
          exact ⟨σ2', (sm_if_t hy).trans h1, h2⟩
        · replace h := (sm_if_f hy).symm.trans h
          cases h
      · cases h
    | irem =>
      dsimp only at h ⊢
      split at h
      · next y x r0 =>
        by_cases hy : ¬ y = 0
        · replace h := (sm_if_t hy).symm.trans h
          obtain ⟨σ2', h1, h2⟩ := go _ _ (.int _ :: _) _ h σ2 hσ
          exact ⟨σ2', (sm_if_t hy).trans h1, h2⟩
        · replace h := (sm_if_f hy).symm.trans h
          cases h
      · cases h
    | ineg =>
      dsimp only at h ⊢
      split at h
      · exact go _ _ (.int _ :: _) _ h σ2 hσ
      · cases h
    | dup =>
      dsimp only at h ⊢
      split at h
      · exact go _ _ (.int _ :: .int _ :: _) _ h σ2 hσ
      · exact go _ _ (.ref _ :: .ref _ :: _) _ h σ2 hσ
      · cases h
    | dup2 =>
      dsimp only at h ⊢
      split at h
      · exact go _ _ (.int _ :: .ref _ :: .int _ :: .ref _ :: _) _ h σ2 hσ
      · cases h
    | pop =>
      dsimp only at h ⊢
      split at h
      · exact go _ _ _ _ h σ2 hσ
      · cases h
    | ifCond cc off =>
      dsimp only at h ⊢
      split at h
      · next x r0 =>
        by_cases hc : sm_cnd cc x 0
        · replace h := (sm_if_t hc).symm.trans h
          obtain ⟨σ2', h1, h2⟩ := go _ _ _ _ h σ2 hσ
          exact ⟨σ2', (sm_if_t hc).trans h1, h2⟩
        · replace h := (sm_if_f hc).symm.trans h
          obtain ⟨σ2', h1, h2⟩ := go _ _ _ _ h σ2 hσ
          exact ⟨σ2', (sm_if_f hc).trans h1, h2⟩
      · cases h
    | if_icmp cc off =>
      dsimp only at h ⊢
      split at h
      · next y x r0 =>
        by_cases hc : sm_cnd cc x y
        · replace h := (sm_if_t hc).symm.trans h
          obtain ⟨σ2', h1, h2⟩ := go _ _ _ _ h σ2 hσ
          exact ⟨σ2', (sm_if_t hc).trans h1, h2⟩
        · replace h := (sm_if_f hc).symm.trans h
          obtain ⟨σ2', h1, h2⟩ := go _ _ _ _ h σ2 hσ
          exact ⟨σ2', (sm_if_f hc).trans h1, h2⟩
      · cases h
    | tableswitch df lo hi offs =>
      dsimp only at h ⊢
      split at h
      · next x r0 =>
        clear hf
        revert h
        induction sw with
        | nil => intro h; exact go _ _ _ _ h σ2 hσ
        | cons q sw ihs =>
          obtain ⟨v, t⟩ := q
          intro h
          by_cases hc : x = v
          · replace h := (sm_if_t hc).symm.trans h
            obtain ⟨σ2', h1, h2⟩ := go _ _ _ _ h σ2 hσ
            exact ⟨σ2', (sm_if_t hc).trans h1, h2⟩
          · replace h := (sm_if_f hc).symm.trans h
            obtain ⟨σ2', h1, h2⟩ := ihs h
            exact ⟨σ2', (sm_if_f hc).trans h1, h2⟩
      · cases h
    | getfield i =>
      dsimp only at h ⊢
      unfold sm_getf at h ⊢
      split at h
      · next a r0 =>
        split at h
        · next ci fl ha =>
          obtain ⟨fl', h1, h2⟩ := R2 a ci fl ha
          simp only [List.map_cons, sm_cv_i, sm_cv_r]
          rw [h1]
          dsimp only
          cases hq : Nat.beq ci (tgt / 100) with
          | false => rw [hq] at h; cases h
          | true =>
            rw [hq] at h
            dsimp only [cond] at h ⊢
            split at h
            · next t0 ht =>
              cases hq2 : Nat.ble t0 1 with
              | false => rw [hq2] at h; cases h
              | true =>
                rw [hq2] at h
                have ht1 := Nat.le_of_ble_eq_true hq2
                obtain ⟨o', h3, h4⟩ := h2 _ _ ht
                rw [h3, h4 ht1]
                dsimp only
                rw [hq2]
                have := go _ _ (.int (σ1 a (tgt % 100)) :: r0) _ h σ2 hσ
                rw [← hσ.2 a ci fl (tgt % 100) t0 ha ht ht1] at this
                exact this
            · next k ht =>
              obtain ⟨o', h3, h4⟩ := h2 _ _ ht
              rw [h3, h4]
              exact go _ _ (.ref k :: r0) _ h σ2 hσ
            · cases h
        · cases h
      · cases h
    | putfield i =>
      dsimp only at h ⊢
      unfold sm_putf at h ⊢
      split at h
      · next x a r0 =>
        split at h
        · next ci fl ha =>
          obtain ⟨fl', h1, h2⟩ := R2 a ci fl ha
          simp only [List.map_cons, sm_cv_i, sm_cv_r]
          rw [h1]
          dsimp only
          cases hq : Nat.beq ci (tgt / 100) with
          | false => rw [hq] at h; cases h
          | true =>
            rw [hq] at h
            dsimp only [cond] at h ⊢
            split at h
            · next ht =>
              obtain ⟨o', h3, h4⟩ := h2 _ _ ht
              rw [h3, h4 (Nat.zero_le 1)]
              exact go2 _ _ _ _ σ2 _ h (sm_stW_put hσ hinj ha ht (Nat.zero_le 1) x)
            · next ht =>
              obtain ⟨o', h3, h4⟩ := h2 _ _ ht
              rw [h3, h4 (Nat.le_refl 1)]
              by_cases hx01 : x = 0 ∨ x = 1
              · replace h := (sm_if_t hx01).symm.trans h
                obtain ⟨σ2', g1, g2⟩ := go2 _ _ _ _ σ2 _ h (sm_stW_put hσ hinj ha ht (Nat.le_refl 1) x)
                exact ⟨σ2', (sm_if_t hx01).trans g1, g2⟩
              · replace h := (sm_if_f hx01).symm.trans h
                cases h
            · cases h
        · cases h
      · cases h
    | getstatic i =>
      dsimp only at h ⊢
      have hg : ∃ σ2', sm_run TB MS SH2 n M (pc + 3) (ls.map (sm_cv ρ)) (.ref (ρ tgt) :: st.map (sm_cv ρ)) σ2 = some (r.map (sm_cv ρ), σ2') ∧ sm_stW ρ SH1 σ1' σ2' ∧ sm_off ρ SH1 σ2 σ2' := go _ _ (.ref _ :: _) _ h σ2 hσ
      rw [R4 tgt (hMS M hM _ _ _ _ _ _ hf)] at hg
      exact hg
    | iaload =>
      dsimp only at h ⊢
      unfold sm_ald at h ⊢
      split at h
      · next i a r0 =>
        simp only [List.map_cons, sm_cv_i, sm_cv_r]
        split at h
        · next t nn2 ha =>
          obtain ⟨h1, h2⟩ := harr a _ ha
          rw [h1]
          dsimp only
          cases hq : Nat.beq t 0 with
          | false => rw [hq] at h; cases h
          | true =>
            rw [hq] at h
            by_cases hin : vp_in i nn2
            · replace h := (sm_if_t hin).symm.trans h
              have := go _ _ (.int (σ1 a i.toNatClampNeg) :: r0) _ h σ2 hσ
              rw [← hσ.1 a _ h2 _ (vp_lt hin)] at this
              obtain ⟨σ2', g1, g2⟩ := this
              exact ⟨σ2', (sm_if_t hin).trans g1, g2⟩
            · replace h := (sm_if_f hin).symm.trans h
              cases h
        · next hn =>
          split at h
          · next q ht =>
            cases hq : (Nat.ble 1000 a && Nat.beq 0 0) with
            | false => rw [hq] at h; cases h
            | true =>
              rw [hq] at h
              have h1000 : 1000 ≤ a := Nat.le_of_ble_eq_true ((Bool.and_eq_true _ _).mp hq).1
              have hno : sm_arr SH2 (ρ a) = none := by
                rw [R4 a h1000]
                unfold sm_arr
                rw [List.getElem?_eq_none (Nat.le_trans R5 h1000)]
              rw [hno, R4 a h1000, ht]
              dsimp only
              rw [hq]
              by_cases hin : vp_in i q.length
              · replace h := (sm_if_t hin).symm.trans h
                obtain ⟨σ2', g1, g2⟩ := go _ _ (.int _ :: _) _ h σ2 hσ
                exact ⟨σ2', (sm_if_t hin).trans g1, g2⟩
              · replace h := (sm_if_f hin).symm.trans h
                cases h
          · cases h
      · cases h
    | baload =>
      dsimp only at h ⊢
      unfold sm_ald at h ⊢
      split at h
      · next i a r0 =>
        simp only [List.map_cons, sm_cv_i, sm_cv_r]
        split at h
        · next t nn2 ha =>
          obtain ⟨h1, h2⟩ := harr a _ ha
          rw [h1]
          dsimp only
          cases hq : Nat.beq t 1 with
          | false => rw [hq] at h; cases h
          | true =>
            rw [hq] at h
            by_cases hin : vp_in i nn2
            · replace h := (sm_if_t hin).symm.trans h
              have := go _ _ (.int (σ1 a i.toNatClampNeg) :: r0) _ h σ2 hσ
              rw [← hσ.1 a _ h2 _ (vp_lt hin)] at this
              obtain ⟨σ2', g1, g2⟩ := this
              exact ⟨σ2', (sm_if_t hin).trans g1, g2⟩
            · replace h := (sm_if_f hin).symm.trans h
              cases h
        · next hn =>
          split at h
          · next q ht =>
            cases hq : (Nat.ble 1000 a && Nat.beq 1 0) with
            | false => rw [hq] at h; cases h
            | true =>
              rw [hq] at h
              have h1000 : 1000 ≤ a := Nat.le_of_ble_eq_true ((Bool.and_eq_true _ _).mp hq).1
              have hno : sm_arr SH2 (ρ a) = none := by
                rw [R4 a h1000]
                unfold sm_arr
                rw [List.getElem?_eq_none (Nat.le_trans R5 h1000)]
              rw [hno, R4 a h1000, ht]
              dsimp only
              rw [hq]
              by_cases hin : vp_in i q.length
              · replace h := (sm_if_t hin).symm.trans h
                obtain ⟨σ2', g1, g2⟩ := go _ _ (.int _ :: _) _ h σ2 hσ
                exact ⟨σ2', (sm_if_t hin).trans g1, g2⟩
              · replace h := (sm_if_f hin).symm.trans h
                cases h
          · cases h
      · cases h
    | iastore =>
      dsimp only at h ⊢
      unfold sm_ast at h ⊢
      split at h
      · next x i a r0 =>
        simp only [List.map_cons, sm_cv_i, sm_cv_r]
        split at h
        · next t nn2 ha =>
          obtain ⟨h1, h2⟩ := harr a _ ha
          rw [h1]
          dsimp only
          cases hq : Nat.beq t 0 with
          | false => rw [hq] at h; cases h
          | true =>
            rw [hq] at h
            by_cases hin : vp_in i nn2
            · replace h := (sm_if_t hin).symm.trans h
              have hs := sm_stW_arr hσ hinj h2 (upd (σ1 a) i.toNatClampNeg x) (upd (σ2 (ρ a)) i.toNatClampNeg x) (fun l hl => by
                by_cases hli : l = i.toNatClampNeg
                · simp only [upd, if_pos hli]
                · simp only [upd, if_neg hli]; exact hσ.1 a _ h2 l hl)
              obtain ⟨σ2', g1, g2⟩ := go2 _ _ _ _ σ2 _ h hs
              exact ⟨σ2', (sm_if_t hin).trans g1, g2⟩
            · replace h := (sm_if_f hin).symm.trans h
              cases h
        · cases h
      · cases h
    | bastore =>
      dsimp only at h ⊢
      unfold sm_ast at h ⊢
      split at h
      · next x i a r0 =>
        simp only [List.map_cons, sm_cv_i, sm_cv_r]
        split at h
        · next t nn2 ha =>
          obtain ⟨h1, h2⟩ := harr a _ ha
          rw [h1]
          dsimp only
          cases hq : Nat.beq t 1 with
          | false => rw [hq] at h; cases h
          | true =>
            rw [hq] at h
            by_cases hin : vp_in i nn2
            · replace h := (sm_if_t hin).symm.trans h
              have hs := sm_stW_arr hσ hinj h2 (upd (σ1 a) i.toNatClampNeg x) (upd (σ2 (ρ a)) i.toNatClampNeg x) (fun l hl => by
                by_cases hli : l = i.toNatClampNeg
                · simp only [upd, if_pos hli]
                · simp only [upd, if_neg hli]; exact hσ.1 a _ h2 l hl)
              by_cases hx01 : x = 0 ∨ x = 1
              · replace h := (sm_if_t hx01).symm.trans h
                obtain ⟨σ2', g1, g2⟩ := go2 _ _ _ _ σ2 _ h hs
                exact ⟨σ2', (sm_if_t hin).trans ((sm_if_t hx01).trans g1), g2⟩
              · replace h := (sm_if_f hx01).symm.trans h
                cases h
            · replace h := (sm_if_f hin).symm.trans h
              cases h
        · cases h
      · cases h
    | arraylength =>
      dsimp only at h ⊢
      unfold sm_len at h ⊢
      split at h
      · next a r0 =>
        simp only [List.map_cons, sm_cv_i, sm_cv_r]
        split at h
        · next t nn2 ha =>
          obtain ⟨h1, h2⟩ := harr a _ ha
          rw [h1]
          exact go _ _ (.int _ :: _) _ h σ2 hσ
        · cases h
      · cases h
    | invokevirtual i =>
      refine hinv _ _ _ _ _ _ (fun as hr => ?_) h
      unfold sm_rc at hr ⊢
      split at hr
      · next a t0 =>
        simp only [List.map_cons, sm_cv_i, sm_cv_r]
        split at hr
        · next c2 fl ha =>
          obtain ⟨fl', h1, -⟩ := R2 a c2 fl ha
          rw [h1]
          exact hr
        · cases hr
      · cases hr
    | invokestatic i =>
      dsimp only at h ⊢
      cases hac : Nat.beq tgt 9999 with
      | false =>
        rw [hac] at h
        dsimp only [cond] at h ⊢
        cases h98 : Nat.beq tgt 9998 with
        | true =>
          rw [h98] at h
          dsimp only [cond] at h ⊢
          exact hmm _ _ h
        | false =>
          rw [h98] at h
          dsimp only [cond] at h ⊢
          cases h97 : Nat.beq tgt 9997 with
          | true =>
            rw [h97] at h
            dsimp only [cond] at h ⊢
            exact hmm _ _ h
          | false =>
            rw [h97] at h
            exact hinv _ _ _ _ _ _ (fun _ _ => rfl) h
      | true =>
        rw [hac] at h
        dsimp only [cond] at h ⊢
        unfold sm_cpy at h ⊢
        split at h
        · next nc dp b sp a =>
          simp only [List.map_cons, List.map_nil, sm_cv_i, sm_cv_r]
          split at h
          · next nb hbb =>
            obtain ⟨b1, b2⟩ := harr b _ hbb
            rw [b1]
            split at h
            · next na haa =>
              obtain ⟨a1, a2⟩ := harr a _ haa
              rw [a1]
              by_cases hin : ¬ sp < 0 ∧ ¬ dp < 0 ∧ ¬ nc < 0 ∧ sp.toNatClampNeg + nc.toNatClampNeg ≤ na ∧ dp.toNatClampNeg + nc.toNatClampNeg ≤ nb
              · replace h := (sm_if_t hin).symm.trans h
                have hs := sm_stW_arr hσ hinj b2 (va_cpy (σ1 a) (σ1 b) sp.toNatClampNeg dp.toNatClampNeg nc.toNatClampNeg) (va_cpy (σ2 (ρ a)) (σ2 (ρ b)) sp.toNatClampNeg dp.toNatClampNeg nc.toNatClampNeg) (fun l hl => by
                  unfold va_cpy
                  by_cases hr : dp.toNatClampNeg ≤ l ∧ l < dp.toNatClampNeg + nc.toNatClampNeg
                  · rw [if_pos hr, if_pos hr]
                    refine hσ.1 a _ a2 _ ?_
                    have := hin.2.2.2.1
                    show _ < na
                    omega
                  · rw [if_neg hr, if_neg hr]
                    exact hσ.1 b _ b2 l hl)
                obtain ⟨σ2', g1, g2⟩ := go2 _ _ _ _ σ2 _ h hs
                exact ⟨σ2', (sm_if_t hin).trans g1, g2⟩
              · replace h := (sm_if_f hin).symm.trans h
                cases h
            · cases h
          · cases h
        · cases h
    | ireturn =>
      dsimp only at h ⊢
      split at h
      · next x =>
        split at h
        · next hrt =>
          cases h
          simp only [List.map_cons, List.map_nil, sm_cv, hrt]
          exact ⟨σ2, rfl, hσ, fun _ _ _ => rfl⟩
        · next hrt =>
          by_cases hx01 : x = 0 ∨ x = 1
          · replace h := (sm_if_t hx01).symm.trans h
            cases h
            simp only [List.map_cons, List.map_nil, sm_cv, hrt]
            exact ⟨σ2, sm_if_t hx01, hσ, fun _ _ _ => rfl⟩
          · replace h := (sm_if_f hx01).symm.trans h
            cases h
        · cases h
      · cases h
    | return_ =>
      dsimp only at h ⊢
      split at h
      · split at h
        · next hrt =>
          cases h
          simp only [List.map_nil, hrt]
          exact ⟨σ2, rfl, hσ, fun _ _ _ => rfl⟩
        · cases h
      · cases h
    | _ => cases h
end
section
/-! ===== lifting, for the methods that there are ===== -/
def gs_ok : List (Nat × sm_R) → Bool
  | [] => true
  | (_, (.getstatic _, _, tgt, _, _)) :: t => Nat.ble 1000 tgt && gs_ok t
  | _ :: t => gs_ok t
theorem gs_find : ∀ (L : List (Nat × sm_R)), gs_ok L = true → ∀ pc i aux tgt nn sw, sm_find L pc = some (.getstatic i, aux, tgt, nn, sw) → 1000 ≤ tgt
  | [], _, _, _, _, _, _, _, h => by cases h
  | (a, r) :: t, hk, pc, i, aux, tgt, nn, sw, h => by
    unfold sm_find at h
    cases hb : Nat.beq a pc with
    | true =>
      rw [hb] at h
      have h : some r = _ := h
      cases h
      simp only [gs_ok, Bool.and_eq_true] at hk
      exact Nat.le_of_ble_eq_true hk.1
    | false =>
      rw [hb] at h
      have h : sm_find t pc = _ := h
      refine gs_find t ?_ pc i aux tgt nn sw h
      unfold gs_ok at hk
      split at hk
      · next h1 => cases h1
      · next h1 => cases h1; exact (Bool.and_eq_true _ _ ▸ hk).2
      · next h1 => cases h1; exact hk
set_option maxRecDepth 100000 in
theorem gs_all : (sm_MS.all (fun M => gs_ok M.2.2.2.2.2)) = true := by decide +kernel
theorem sm_gs : ∀ M ∈ sm_MS, ∀ pc i aux tgt nn sw, sm_find M.2.2.2.2.2 pc = some (.getstatic i, aux, tgt, nn, sw) → 1000 ≤ tgt := by
  intro M hM pc i aux tgt nn sw h
  exact gs_find _ (List.all_eq_true.mp gs_all M hM) pc i aux tgt nn sw h
theorem sm_cv_id (v : Value) : sm_cv id v = v := by cases v <;> rfl
theorem sm_cv_ids (as : List Value) : as.map (sm_cv id) = as := by
  have : sm_cv id = id := funext sm_cv_id
  rw [this, List.map_id]
theorem sm_cv_ido (r : Option Value) : r.map (sm_cv id) = r := by cases r <;> simp [sm_cv_id]
/-- the same call in a world that shows more -/
theorem x_lift {SH1 SH2 : List sm_Sh} (hR : sm_shR id SH1 SH2) {j : Nat} {as : List Value} {σ : sm_S} {Q : Option Value → sm_S → Prop} (h : sm_C sm_TB sm_MS SH1 j as σ Q) (hp : ∀ r σ', Q r σ' → ∀ a i, ¬ sm_vis id SH1 a i → σ' a i = σ a i) : sm_C sm_TB sm_MS SH2 j as σ Q := by
  obtain ⟨M, hM, n, r, σ', hr, hq⟩ := h
  have hmem : M ∈ sm_MS := List.mem_of_getElem? hM
  obtain ⟨σ2, g1, g2, g3⟩ := sm_lift hR sm_gs n M hmem 0 _ _ σ r σ' hr σ ⟨fun _ _ _ => rfl, fun _ _ _ _ _ _ _ _ => rfl⟩
  rw [sm_ent_map, sm_cv_ids, sm_cv_ido, List.map_nil] at g1
  have e : σ2 = σ' := by
    funext a i
    by_cases hv : sm_vis id SH1 a i
    · obtain ⟨k, hk, hv⟩ := hv
      have hk : k = a := hk
      subst hk
      rcases hv with ⟨q, hq⟩ | ⟨ci, fl, t, f1, f2, f3⟩
      · exact congrFun (g2.1 k q hq) i
      · exact g2.2 k ci fl i t f1 f2 f3
    · rw [g3 a i hv, hp r σ' hq a i hv]
  rw [e] at g1
  exact ⟨M, hM, n, r, σ', g1, hq⟩
/-- what it comes to from another store that agrees -/
theorem x_det {SH1 SH2 : List sm_Sh} (hR : sm_shR id SH1 SH2) {j : Nat} {as : List Value} {σ : sm_S} {Q : Option Value → sm_S → Prop} (h : sm_C sm_TB sm_MS SH1 j as σ Q) : sm_C sm_TB sm_MS SH1 j as σ (fun r σ' => Q r σ' ∧ ∀ τ, sm_stW id SH1 σ τ → sm_C sm_TB sm_MS SH2 j as τ (fun r2 τ' => r2 = r ∧ sm_stW id SH1 σ' τ')) := by
  obtain ⟨M, hM, n, r, σ', hr, hq⟩ := h
  have hmem : M ∈ sm_MS := List.mem_of_getElem? hM
  refine ⟨M, hM, n, r, σ', hr, hq, fun τ hτ => ?_⟩
  obtain ⟨σ2, g1, g2, g3⟩ := sm_liftW hR sm_gs n M hmem 0 _ _ σ r σ' hr τ hτ
  rw [sm_ent_map, sm_cv_ids, sm_cv_ido, List.map_nil] at g1
  exact ⟨M, hM, n, r, σ2, g1, rfl, g2⟩
end
section
/-! ===== the model's world: its object 0, now 1, waiting 2, deeper 3, isDone 4, images 5 ===== -/
abbrev xE := sm_E sm_TB sm_MS
abbrev xC := sm_C sm_TB sm_MS
def xM : List sm_Sh := [.inr (9, [.inl 0, .inr 1, .inr 2, .inr 3, .inr 4, .inl 2, .inl 1, .inr 5]), .inl (0, 2662), .inl (0, 2662), .inl (0, 2662), .inl (1, 96), .inl (0, 2662)]
abbrev j_I_fill : Nat := 0
abbrev j_R_copy : Nat := 1
abbrev j_A_set : Nat := 2
abbrev j_A_home : Nat := 3
abbrev j_A_isTask : Nat := 4
abbrev j_A_isNode : Nat := 5
abbrev j_A_take : Nat := 6
abbrev j_A_isKind : Nat := 7
abbrev j_A_isBlockOrder : Nat := 8
abbrev j_Y_bring : Nat := 9
abbrev j_Y_bestPlace : Nat := 10
abbrev j_R_starts : Nat := 11
abbrev j_Y_rank : Nat := 12
abbrev j_R_leastHole : Nat := 13
abbrev j_R_alone : Nat := 14
abbrev j_I_numberOfTrailingZeros : Nat := 15
abbrev j_B_leastUsedCache : Nat := 16
abbrev j_B_isLoose : Nat := 17
abbrev j_Y_noteDrop : Nat := 18
abbrev j_L_add : Nat := 19
abbrev j_Y_remove : Nat := 20
abbrev j_S_shutBits : Nat := 21
abbrev j_F_letGo : Nat := 22
abbrev j_B_leastNumber : Nat := 23
abbrev j_B_begin : Nat := 24
abbrev j_F_give : Nat := 25
abbrev j_F_claim : Nat := 26
abbrev j_A_free : Nat := 27
abbrev j_B_has : Nat := 28
abbrev j_A_read : Nat := 29
abbrev j_A_touch : Nat := 30
abbrev j_B_size : Nat := 31
abbrev j_K_wants : Nat := 32
abbrev j_Y_doOrWait : Nat := 33
abbrev j_Y_fulfil : Nat := 34
abbrev j_K_queue : Nat := 35
abbrev j_A_write : Nat := 36
abbrev j_A_pin : Nat := 37
abbrev j_A_hasPin : Nat := 38
abbrev j_A_unpin : Nat := 39
abbrev j_A_come : Nat := 40
abbrev j_A_isSpan : Nat := 41
abbrev j_Y_zoneByRatio : Nat := 42
abbrev j_S_inZone : Nat := 43
abbrev j_Y_staysInRatio : Nat := 44
abbrev j_Y_open : Nat := 45
abbrev j_A_byTurns : Nat := 46
abbrev j_S_nextByTurns : Nat := 47
abbrev j_A_press : Nat := 48
abbrev j_Y_pack : Nat := 49
abbrev j_Y_blockAt : Nat := 50
abbrev j_Y_moveAtOnce : Nat := 51
abbrev j_F_copyValues : Nat := 52
abbrev j_A_gather : Nat := 53
abbrev j_Y_bringNearer : Nat := 54
abbrev j_Y_nearerPlace : Nat := 55
abbrev j_A_go : Nat := 56
abbrev j_S_canGo : Nat := 57
abbrev j_G_begin : Nat := 58
abbrev j_A_giveUp : Nat := 59
abbrev j_S_isGoing : Nat := 60
abbrev j_G_callOff : Nat := 61
abbrev j_G_endWay : Nat := 62
abbrev j_Y_serveLine : Nat := 63
abbrev j_G_fail : Nat := 64
abbrev j_S_endGoing : Nat := 65
abbrev j_A_tick : Nat := 66
abbrev j_G_oneTick : Nat := 67
abbrev j_G_shutNextPart : Nat := 68
abbrev j_G_hasUnmovable : Nat := 69
abbrev j_G_moveOn : Nat := 70
abbrev j_G_blockFrom : Nat := 71
abbrev j_G_endPass : Nat := 72
abbrev j_G_turnOff : Nat := 73
abbrev j_G_whyFails : Nat := 74
abbrev j_G_lookAt : Nat := 75
abbrev j_F_hold : Nat := 76
abbrev j_G_split : Nat := 77
abbrev j_G_copySome : Nat := 78
abbrev j_G_arrive : Nat := 79
abbrev j_F_settle : Nat := 80
abbrev j_A_frame : Nat := 81
abbrev j_F_stateOf : Nat := 82
abbrev j_A_block : Nat := 83
abbrev j_K_lineOf : Nat := 84
abbrev j_A_span : Nat := 85
abbrev j_I_bitCount : Nat := 86
abbrev j_A_task : Nat := 87
abbrev j_B_ownedBy : Nat := 88
abbrev j_B_pinnedBy : Nat := 89
abbrev j_A_zone : Nat := 90
abbrev j_A_isZone : Nat := 91
abbrev j_Y_freeInZone : Nat := 92
abbrev j_Y_widestInZone : Nat := 93
abbrev j_R_widest : Nat := 94
abbrev j_A_loose : Nat := 95
abbrev j_A_place : Nat := 96
abbrev j_A_hole : Nat := 97
abbrev j_R_holeRound : Nat := 98
abbrev j_A_keeps : Nat := 99
abbrev j_Y_keepers : Nat := 100
abbrev j_Y_whyKeeps : Nat := 101
abbrev j_Y_hasPlaceBeside : Nat := 102
abbrev j_Y_keeper : Nat := 103
abbrev j_A_holders : Nat := 104
abbrev j_Y_holdersOf : Nat := 105
abbrev j_A_pressed : Nat := 106
abbrev j_H_widestPacked : Nat := 107
abbrev j_Y_copyFrom : Nat := 108
abbrev j_F_copyFrom : Nat := 109
abbrev j_B_copyFrom : Nat := 110
abbrev j_S_copyFrom : Nat := 111
abbrev j_K_copyFrom : Nat := 112
abbrev j_A_at : Nat := 113
abbrev j_B_framesAt : Nat := 114
abbrev j_A_movable : Nat := 115
abbrev j_A_would : Nat := 116
abbrev j_H_tryOut : Nat := 117
abbrev j_H_grownSince : Nat := 118
abbrev j_A_easiest : Nat := 119
abbrev j_H_findEasiest : Nat := 120
abbrev j_A_givenBack : Nat := 121
abbrev j_A_log : Nat := 122
abbrev j_L_cell : Nat := 123
abbrev j_A_count : Nat := 124
abbrev j_A_image : Nat := 125
abbrev j_L_copyFrom : Nat := 126
abbrev j_A_look : Nat := 127
abbrev j_B_howMany : Nat := 128
abbrev j_R_bitsIn : Nat := 129
abbrev j_K_waitingSet : Nat := 130
abbrev j_S_goingSet : Nat := 131
abbrev j_A_movableByNormal : Nat := 132
abbrev j_M_begins : Nat := 133
abbrev j_M_spanAt : Nat := 134
abbrev j_M_frameAt : Nat := 135
abbrev j_M_set : Nat := 136
abbrev j_M_isIn : Nat := 137
abbrev j_M_firstOf : Nat := 138
abbrev j_M_home : Nat := 139
abbrev j_M_isTask : Nat := 140
abbrev j_M_taskAt : Nat := 141
abbrev j_M_take : Nat := 142
abbrev j_M_bestPlace : Nat := 143
abbrev j_M_spanOf : Nat := 144
abbrev j_M_rankOf : Nat := 145
abbrev j_M_zoneOf : Nat := 146
abbrev j_M_spanState : Nat := 147
abbrev j_M_areFree : Nat := 148
abbrev j_M_isFree : Nat := 149
abbrev j_M_stateOf : Nat := 150
abbrev j_M_holeFrom : Nat := 151
abbrev j_M_leastUsed : Nat := 152
abbrev j_M_of : Nat := 153
abbrev j_M_blockAt : Nat := 154
abbrev j_M_isPinned : Nat := 155
abbrev j_M_isOnWay : Nat := 156
abbrev j_M_drops : Nat := 157
abbrev j_M_frameOf : Nat := 158
abbrev j_M_writes : Nat := 159
abbrev j_M_more : Nat := 160
abbrev j_M_counts : Nat := 161
abbrev j_M_goes : Nat := 162
abbrev j_M_longOf : Nat := 163
abbrev j_M_leaves : Nat := 164
abbrev j_M_isShut : Nat := 165
abbrev j_M_lay : Nat := 166
abbrev j_M_freeNumber : Nat := 167
abbrev j_M_comes : Nat := 168
abbrev j_M_has : Nat := 169
abbrev j_M_lays : Nat := 170
abbrev j_M_free : Nat := 171
abbrev j_M_isBlock : Nat := 172
abbrev j_M_read : Nat := 173
abbrev j_M_canDo : Nat := 174
abbrev j_M_wants : Nat := 175
abbrev j_M_does : Nat := 176
abbrev j_M_uses : Nat := 177
abbrev j_M_valueOf : Nat := 178
abbrev j_M_write : Nat := 179
abbrev j_M_pin : Nat := 180
abbrev j_M_hasPin : Nat := 181
abbrev j_M_unpin : Nat := 182
abbrev j_M_press : Nat := 183
abbrev j_M_isSpan : Nat := 184
abbrev j_M_presses : Nat := 185
abbrev j_M_nextToPress : Nat := 186
abbrev j_M_isLoose : Nat := 187
abbrev j_M_movesTo : Nat := 188
abbrev j_M_gather : Nat := 189
abbrev j_M_come : Nat := 190
abbrev j_M_zoneByRatio : Nat := 191
abbrev j_M_framesOf : Nat := 192
abbrev j_M_settingOf : Nat := 193
abbrev j_M_comesOn : Nat := 194
abbrev j_M_byTurns : Nat := 195
abbrev j_M_turnOf : Nat := 196
abbrev j_M_manyOfNode : Nat := 197
abbrev j_M_movable : Nat := 198
abbrev j_M_thinks : Nat := 199
abbrev j_M_forgets : Nat := 200
abbrev j_M_go : Nat := 201
abbrev j_M_canGo : Nat := 202
abbrev j_M_onMany : Nat := 203
abbrev j_M_beginsToGo : Nat := 204
abbrev j_M_giveUp : Nat := 205
abbrev j_M_isGoing : Nat := 206
abbrev j_M_fails : Nat := 207
abbrev j_M_staysBack : Nat := 208
abbrev j_M_wakes : Nat := 209
abbrev j_M_opens : Nat := 210
abbrev j_M_tick : Nat := 211
abbrev j_M_ticks : Nat := 212
abbrev j_M_shuts : Nat := 213
abbrev j_M_moves : Nat := 214
abbrev j_M_looks : Nat := 215
abbrev j_M_firstBlock : Nat := 216
abbrev j_M_isPassed : Nat := 217
abbrev j_M_splits : Nat := 218
abbrev j_M_copies : Nat := 219
abbrev j_M_arrives : Nat := 220
abbrev j_M_isOver : Nat := 221
abbrev j_M_manyIn : Nat := 222
abbrev j_M_whyOf : Nat := 223
abbrev j_M_keeps : Nat := 224
abbrev j_M_keeperAt : Nat := 225
abbrev j_M_keepsWhy : Nat := 226
abbrev j_M_holders : Nat := 227
abbrev j_M_would : Nat := 228
abbrev j_M_goesAway : Nat := 229
abbrev j_M_easiest : Nat := 230
abbrev j_M_easiestNow : Nat := 231
abbrev j_M_givenBack : Nat := 232
abbrev j_M_pressed : Nat := 233
abbrev j_M_greatestIn : Nat := 234
abbrev j_M_frame : Nat := 235
abbrev j_M_block : Nat := 236
abbrev j_M_span : Nat := 237
abbrev j_M_task : Nat := 238
abbrev j_M_ownsMany : Nat := 239
abbrev j_M_zone : Nat := 240
abbrev j_M_freeIn : Nat := 241
abbrev j_M_loose : Nat := 242
abbrev j_M_place : Nat := 243
abbrev j_M_hole : Nat := 244
abbrev j_M_holeOf : Nat := 245
abbrev j_M_at : Nat := 246
abbrev j_M_log : Nat := 247
abbrev j_M_count : Nat := 248
abbrev j_M_look : Nat := 249
abbrev j_M_blocks : Nat := 250
abbrev j_M_framesIn : Nat := 251
abbrev j_M_waiters : Nat := 252
abbrev j_M_goers : Nat := 253
abbrev j_M_image : Nat := 254
set_option maxRecDepth 100000 in
set_option maxHeartbeats 4000000 in
theorem w_M_begins (σ : sm_S) (Q : Option Value → sm_S → Prop) (h : xE xM m_M_begins 2 [.ref 0, .int 0, .null] [] σ Q) : xC xM j_M_begins [.ref 0] σ Q := sm_wp_C (M := m_M_begins) rfl [2, 25] 3 h
set_option maxRecDepth 100000 in
set_option maxHeartbeats 4000000 in
theorem w_M_begins_2 (a1 : Int32) (v2 : Value) (σ : sm_S) (Q : Option Value → sm_S → Prop) (h : ((2 ≤ a1 → Q none σ) ∧ (¬ (2 ≤ a1) → xC xM j_M_spanAt [.ref 0, .int a1] σ (sm_ri False (fun x2 σ1 => (vp_in (x2 + 0) 2662 ∧ ∀ σ3, σ3 = sm_set σ1 1 (upd (σ1 1) ((x2 + 0)).toNatClampNeg 1) → xE xM m_M_begins 25 [.ref 0, .int a1, .int (32 * a1)] [] σ3 Q)))))) : xE xM m_M_begins 2 [.ref 0, .int a1, v2] [] σ Q := sm_wp_E (M := m_M_begins) [2, 25] 17 h
set_option maxRecDepth 100000 in
set_option maxHeartbeats 4000000 in
theorem w_M_begins_25 (a1 a2 : Int32) (σ : sm_S) (Q : Option Value → sm_S → Prop) (h : ((((32 * a1) + 32) ≤ a2 → xE xM m_M_begins 2 [.ref 0, .int (a1 + 1), .int a2] [] σ Q) ∧ (¬ (((32 * a1) + 32) ≤ a2) → xC xM j_M_frameAt [.ref 0, .int a2] σ (sm_ri False (fun x2 σ1 => (vp_in (x2 + 0) 2662 ∧ ∀ σ3, σ3 = sm_set σ1 1 (upd (σ1 1) ((x2 + 0)).toNatClampNeg 1) → xE xM m_M_begins 25 [.ref 0, .int a1, .int (a2 + 1)] [] σ3 Q)))))) : xE xM m_M_begins 25 [.ref 0, .int a1, .int a2] [] σ Q := sm_wp_E (M := m_M_begins) [2, 25] 19 h
set_option maxRecDepth 100000 in
set_option maxHeartbeats 4000000 in
theorem w_M_spanAt (a1 : Int32) (σ : sm_S) (Q : Option Value → sm_S → Prop) (h : Q (some (.int (2358 + (8 * a1)))) σ) : xC xM j_M_spanAt [.ref 0, .int a1] σ Q := sm_wp_C (M := m_M_spanAt) rfl [] 7 h
set_option maxRecDepth 100000 in
set_option maxHeartbeats 4000000 in
theorem w_M_frameAt (a1 : Int32) (σ : sm_S) (Q : Option Value → sm_S → Prop) (h : Q (some (.int (18 + (3 * a1)))) σ) : xC xM j_M_frameAt [.ref 0, .int a1] σ Q := sm_wp_C (M := m_M_frameAt) rfl [] 7 h
set_option maxRecDepth 100000 in
set_option maxHeartbeats 4000000 in
theorem w_M_set (a1 a2 : Int32) (σ : sm_S) (Q : Option Value → sm_S → Prop) (h : (∀ σ1, σ1 = sm_set σ 0 (upd (σ 0) 0 0) → xC xM j_M_isIn [.ref 0, .int a1, .int 0, .int 3] σ1 (sm_ri False (fun x3 σ2 => ((x3 = 0 → (((0 : Int32) = 0 ∨ (0 : Int32) = 1) ∧ Q (some (.int 0)) σ2)) ∧ (¬ (x3 = 0) → ((a1 ≠ 2 → ((a1 ≠ 0 → ((a1 ≠ 1 → ((a1 ≠ 2 → xC xM j_M_isIn [.ref 0, .int a2, .int 1, .int 20] σ2 (sm_ri False (fun x5 σ4 => ((x5 ≠ 0 → xC xM j_M_firstOf [.ref 0, .int a1] σ4 (sm_ri False (fun x7 σ6 => (vp_in a1 2662 ∧ ∀ σ8, σ8 = sm_set σ6 1 (upd (σ6 1) (a1).toNatClampNeg (a2 - x7)) → (((1 : Int32) = 0 ∨ (1 : Int32) = 1) ∧ Q (some (.int 1)) σ8))))) ∧ (¬ (x5 ≠ 0) → (((0 : Int32) = 0 ∨ (0 : Int32) = 1) ∧ Q (some (.int 0)) σ4)))))) ∧ (¬ (a1 ≠ 2) → xC xM j_M_isIn [.ref 0, .int a2, .int 1, .int 400] σ2 (sm_ri False (fun x10 σ9 => ((x10 ≠ 0 → xC xM j_M_firstOf [.ref 0, .int a1] σ9 (sm_ri False (fun x12 σ11 => (vp_in a1 2662 ∧ ∀ σ13, σ13 = sm_set σ11 1 (upd (σ11 1) (a1).toNatClampNeg (a2 - x12)) → (((1 : Int32) = 0 ∨ (1 : Int32) = 1) ∧ Q (some (.int 1)) σ13))))) ∧ (¬ (x10 ≠ 0) → (((0 : Int32) = 0 ∨ (0 : Int32) = 1) ∧ Q (some (.int 0)) σ9)))))))) ∧ (¬ (a1 ≠ 1) → xC xM j_M_isIn [.ref 0, .int a2, .int 1, .int 9] σ2 (sm_ri False (fun x15 σ14 => ((x15 ≠ 0 → xC xM j_M_firstOf [.ref 0, .int a1] σ14 (sm_ri False (fun x17 σ16 => (vp_in a1 2662 ∧ ∀ σ18, σ18 = sm_set σ16 1 (upd (σ16 1) (a1).toNatClampNeg (a2 - x17)) → (((1 : Int32) = 0 ∨ (1 : Int32) = 1) ∧ Q (some (.int 1)) σ18))))) ∧ (¬ (x15 ≠ 0) → (((0 : Int32) = 0 ∨ (0 : Int32) = 1) ∧ Q (some (.int 0)) σ14)))))))) ∧ (¬ (a1 ≠ 0) → xC xM j_M_isIn [.ref 0, .int a2, .int 1, .int 16] σ2 (sm_ri False (fun x20 σ19 => ((x20 ≠ 0 → xC xM j_M_firstOf [.ref 0, .int a1] σ19 (sm_ri False (fun x22 σ21 => (vp_in a1 2662 ∧ ∀ σ23, σ23 = sm_set σ21 1 (upd (σ21 1) (a1).toNatClampNeg (a2 - x22)) → (((1 : Int32) = 0 ∨ (1 : Int32) = 1) ∧ Q (some (.int 1)) σ23))))) ∧ (¬ (x20 ≠ 0) → (((0 : Int32) = 0 ∨ (0 : Int32) = 1) ∧ Q (some (.int 0)) σ19)))))))) ∧ (¬ (a1 ≠ 2) → ((a1 ≠ 0 → ((a1 ≠ 1 → ((a1 ≠ 2 → xC xM j_M_isIn [.ref 0, .int a2, .int 0, .int 20] σ2 (sm_ri False (fun x25 σ24 => ((x25 ≠ 0 → xC xM j_M_firstOf [.ref 0, .int a1] σ24 (sm_ri False (fun x27 σ26 => (vp_in a1 2662 ∧ ∀ σ28, σ28 = sm_set σ26 1 (upd (σ26 1) (a1).toNatClampNeg (a2 - x27)) → (((1 : Int32) = 0 ∨ (1 : Int32) = 1) ∧ Q (some (.int 1)) σ28))))) ∧ (¬ (x25 ≠ 0) → (((0 : Int32) = 0 ∨ (0 : Int32) = 1) ∧ Q (some (.int 0)) σ24)))))) ∧ (¬ (a1 ≠ 2) → xC xM j_M_isIn [.ref 0, .int a2, .int 0, .int 400] σ2 (sm_ri False (fun x30 σ29 => ((x30 ≠ 0 → xC xM j_M_firstOf [.ref 0, .int a1] σ29 (sm_ri False (fun x32 σ31 => (vp_in a1 2662 ∧ ∀ σ33, σ33 = sm_set σ31 1 (upd (σ31 1) (a1).toNatClampNeg (a2 - x32)) → (((1 : Int32) = 0 ∨ (1 : Int32) = 1) ∧ Q (some (.int 1)) σ33))))) ∧ (¬ (x30 ≠ 0) → (((0 : Int32) = 0 ∨ (0 : Int32) = 1) ∧ Q (some (.int 0)) σ29)))))))) ∧ (¬ (a1 ≠ 1) → xC xM j_M_isIn [.ref 0, .int a2, .int 0, .int 9] σ2 (sm_ri False (fun x35 σ34 => ((x35 ≠ 0 → xC xM j_M_firstOf [.ref 0, .int a1] σ34 (sm_ri False (fun x37 σ36 => (vp_in a1 2662 ∧ ∀ σ38, σ38 = sm_set σ36 1 (upd (σ36 1) (a1).toNatClampNeg (a2 - x37)) → (((1 : Int32) = 0 ∨ (1 : Int32) = 1) ∧ Q (some (.int 1)) σ38))))) ∧ (¬ (x35 ≠ 0) → (((0 : Int32) = 0 ∨ (0 : Int32) = 1) ∧ Q (some (.int 0)) σ34)))))))) ∧ (¬ (a1 ≠ 0) → xC xM j_M_isIn [.ref 0, .int a2, .int 0, .int 16] σ2 (sm_ri False (fun x40 σ39 => ((x40 ≠ 0 → xC xM j_M_firstOf [.ref 0, .int a1] σ39 (sm_ri False (fun x42 σ41 => (vp_in a1 2662 ∧ ∀ σ43, σ43 = sm_set σ41 1 (upd (σ41 1) (a1).toNatClampNeg (a2 - x42)) → (((1 : Int32) = 0 ∨ (1 : Int32) = 1) ∧ Q (some (.int 1)) σ43))))) ∧ (¬ (x40 ≠ 0) → (((0 : Int32) = 0 ∨ (0 : Int32) = 1) ∧ Q (some (.int 0)) σ39))))))))))))))) : xC xM j_M_set [.ref 0, .int a1, .int a2] σ Q := sm_wp_C (M := m_M_set) rfl [] 40 h
set_option maxRecDepth 100000 in
set_option maxHeartbeats 4000000 in
theorem w_M_isIn (a1 a2 a3 : Int32) (σ : sm_S) (Q : Option Value → sm_S → Prop) (h : ((a1 < a2 → (((0 : Int32) = 0 ∨ (0 : Int32) = 1) ∧ Q (some (.int 0)) σ)) ∧ (¬ (a1 < a2) → ((a3 < a1 → (((0 : Int32) = 0 ∨ (0 : Int32) = 1) ∧ Q (some (.int 0)) σ)) ∧ (¬ (a3 < a1) → (((1 : Int32) = 0 ∨ (1 : Int32) = 1) ∧ Q (some (.int 1)) σ)))))) : xC xM j_M_isIn [.ref 0, .int a1, .int a2, .int a3] σ Q := sm_wp_C (M := m_M_isIn) rfl [] 10 h
set_option maxRecDepth 100000 in
set_option maxHeartbeats 4000000 in
theorem w_M_firstOf (a1 : Int32) (σ : sm_S) (Q : Option Value → sm_S → Prop) (h : ((a1 ≠ 0 → ((a1 ≠ 1 → ((a1 ≠ 2 → Q (some (.int 2)) σ) ∧ (¬ (a1 ≠ 2) → Q (some (.int 150)) σ))) ∧ (¬ (a1 ≠ 1) → Q (some (.int 3)) σ))) ∧ (¬ (a1 ≠ 0) → Q (some (.int 4)) σ))) : xC xM j_M_firstOf [.ref 0, .int a1] σ Q := sm_wp_C (M := m_M_firstOf) rfl [] 12 h
set_option maxRecDepth 100000 in
set_option maxHeartbeats 4000000 in
theorem w_M_home (a1 a2 : Int32) (σ : sm_S) (Q : Option Value → sm_S → Prop) (h : (∀ σ1, σ1 = sm_set σ 0 (upd (σ 0) 0 0) → xC xM j_M_isTask [.ref 0, .int a1] σ1 (sm_ri False (fun x3 σ2 => ((x3 = 0 → (((0 : Int32) = 0 ∨ (0 : Int32) = 1) ∧ Q (some (.int 0)) σ2)) ∧ (¬ (x3 = 0) → xC xM j_M_isIn [.ref 0, .int a2, .int 0, .int 1] σ2 (sm_ri False (fun x5 σ4 => ((x5 ≠ 0 → xC xM j_M_taskAt [.ref 0, .int a1] σ4 (sm_ri False (fun x7 σ6 => (vp_in (x7 + 0) 2662 ∧ ∀ σ8, σ8 = sm_set σ6 1 (upd (σ6 1) ((x7 + 0)).toNatClampNeg a2) → (((1 : Int32) = 0 ∨ (1 : Int32) = 1) ∧ Q (some (.int 1)) σ8))))) ∧ (¬ (x5 ≠ 0) → (((0 : Int32) = 0 ∨ (0 : Int32) = 1) ∧ Q (some (.int 0)) σ4))))))))))) : xC xM j_M_home [.ref 0, .int a1, .int a2] σ Q := sm_wp_C (M := m_M_home) rfl [] 25 h
set_option maxRecDepth 100000 in
set_option maxHeartbeats 4000000 in
theorem w_M_isTask (a1 : Int32) (σ : sm_S) (Q : Option Value → sm_S → Prop) (h : ((a1 < 0 → (((0 : Int32) = 0 ∨ (0 : Int32) = 1) ∧ Q (some (.int 0)) σ)) ∧ (¬ (a1 < 0) → ((6 ≤ a1 → (((0 : Int32) = 0 ∨ (0 : Int32) = 1) ∧ Q (some (.int 0)) σ)) ∧ (¬ (6 ≤ a1) → (((1 : Int32) = 0 ∨ (1 : Int32) = 1) ∧ Q (some (.int 1)) σ)))))) : xC xM j_M_isTask [.ref 0, .int a1] σ Q := sm_wp_C (M := m_M_isTask) rfl [] 9 h
set_option maxRecDepth 100000 in
set_option maxHeartbeats 4000000 in
theorem w_M_taskAt (a1 : Int32) (σ : sm_S) (Q : Option Value → sm_S → Prop) (h : Q (some (.int (2322 + (6 * a1)))) σ) : xC xM j_M_taskAt [.ref 0, .int a1] σ Q := sm_wp_C (M := m_M_taskAt) rfl [] 7 h
set_option maxRecDepth 100000 in
set_option maxHeartbeats 4000000 in
theorem w_M_take (a1 a2 a3 a4 : Int32) (σ : sm_S) (Q : Option Value → sm_S → Prop) (h : (∀ σ1, σ1 = sm_set σ 0 (upd (σ 0) 0 0) → xC xM j_M_isTask [.ref 0, .int a1] σ1 (sm_ri False (fun x3 σ2 => ((x3 = 0 → Q (some (.int (-2))) σ2) ∧ (¬ (x3 = 0) → xC xM j_M_isIn [.ref 0, .int a2, .int 0, .int 2] σ2 (sm_ri False (fun x5 σ4 => ((x5 = 0 → Q (some (.int (-2))) σ4) ∧ (¬ (x5 = 0) → xC xM j_M_isIn [.ref 0, .int a3, .int 0, .int 4] σ4 (sm_ri False (fun x7 σ6 => ((x7 ≠ 0 → xC xM j_M_bestPlace [.ref 0, .int a1, .int a2, .int a3, .int 0] σ6 (sm_ri False (fun x9 σ8 => xE xM m_M_take 46 [.ref 0, .int a1, .int a2, .int a3, .int a4, .int x9, .null, .null] [] σ8 Q))) ∧ (¬ (x7 ≠ 0) → Q (some (.int (-2))) σ6)))))))))))))) : xC xM j_M_take [.ref 0, .int a1, .int a2, .int a3, .int a4] σ Q := sm_wp_C (M := m_M_take) rfl [46, 135] 27 h
set_option maxRecDepth 100000 in
set_option maxHeartbeats 4000000 in
theorem w_M_take_46 (a1 a2 a3 a4 a5 : Int32) (v6 v7 : Value) (σ : sm_S) (Q : Option Value → sm_S → Prop) (h : ((a5 ≠ (-1) → xC xM j_M_freeNumber [.ref 0] σ (sm_ri False (fun x2 σ1 => ((a5 = (-1) → xC xM j_M_counts [.ref 0, .int 1, .int 1] σ1 (sm_rv False (fun σ3 => Q (some (.int (-1))) σ3))) ∧ (¬ (a5 = (-1)) → ((x2 ≠ (-1) → xC xM j_M_more [.ref 0, .int 6, .int 1] σ1 (sm_rv False (fun σ4 => (vp_in (6 : Int32) 2662 ∧ xC xM j_M_comes [.ref 0, .int x2, .int a5, .int a3, .int a2, .int a1, .int (σ4 1 ((6 : Int32)).toNatClampNeg)] σ4 (sm_rv False (fun σ5 => xE xM m_M_take 135 [.ref 0, .int a1, .int a2, .int a3, .int a4, .int a5, .int x2, .int 0] [] σ5 Q)))))) ∧ (¬ (x2 ≠ (-1)) → xC xM j_M_counts [.ref 0, .int 1, .int 1] σ1 (sm_rv False (fun σ6 => Q (some (.int (-1))) σ6))))))))) ∧ (¬ (a5 ≠ (-1)) → xC xM j_M_leastUsed [.ref 0] σ (sm_ri False (fun x8 σ7 => ((x8 = (-1) → xC xM j_M_freeNumber [.ref 0] σ7 (sm_ri False (fun x10 σ9 => ((a5 = (-1) → xC xM j_M_counts [.ref 0, .int 1, .int 1] σ9 (sm_rv False (fun σ11 => Q (some (.int (-1))) σ11))) ∧ (¬ (a5 = (-1)) → ((x10 ≠ (-1) → xC xM j_M_more [.ref 0, .int 6, .int 1] σ9 (sm_rv False (fun σ12 => (vp_in (6 : Int32) 2662 ∧ xC xM j_M_comes [.ref 0, .int x10, .int a5, .int a3, .int a2, .int a1, .int (σ12 1 ((6 : Int32)).toNatClampNeg)] σ12 (sm_rv False (fun σ13 => xE xM m_M_take 135 [.ref 0, .int a1, .int a2, .int a3, .int a4, .int a5, .int x10, .int 0] [] σ13 Q)))))) ∧ (¬ (x10 ≠ (-1)) → xC xM j_M_counts [.ref 0, .int 1, .int 1] σ9 (sm_rv False (fun σ14 => Q (some (.int (-1))) σ14))))))))) ∧ (¬ (x8 = (-1)) → xC xM j_M_leastUsed [.ref 0] σ7 (sm_ri False (fun x16 σ15 => xC xM j_M_drops [.ref 0, .int x16] σ15 (sm_rv False (fun σ17 => xC xM j_M_bestPlace [.ref 0, .int a1, .int a2, .int a3, .int 0] σ17 (sm_ri False (fun x19 σ18 => xE xM m_M_take 46 [.ref 0, .int a1, .int a2, .int a3, .int a4, .int x19, v6, v7] [] σ18 Q))))))))))))) : xE xM m_M_take 46 [.ref 0, .int a1, .int a2, .int a3, .int a4, .int a5, v6, v7] [] σ Q := sm_wp_E (M := m_M_take) [46, 135] 34 h
set_option maxRecDepth 100000 in
set_option maxHeartbeats 4000000 in
theorem w_M_take_135 (a1 a2 a3 a4 a5 a6 a7 : Int32) (σ : sm_S) (Q : Option Value → sm_S → Prop) (h : ((((1 : Int32) <<< (a3 &&& 31)) ≤ a7 → xC xM j_M_counts [.ref 0, .int 0, .int 1] σ (sm_rv False (fun σ1 => Q (some (.int a6)) σ1))) ∧ (¬ (((1 : Int32) <<< (a3 &&& 31)) ≤ a7) → xC xM j_M_lays [.ref 0, .int (a5 + a7), .int (a4 + a7)] σ (sm_rv False (fun σ2 => xE xM m_M_take 135 [.ref 0, .int a1, .int a2, .int a3, .int a4, .int a5, .int a6, .int (a7 + 1)] [] σ2 Q))))) : xE xM m_M_take 135 [.ref 0, .int a1, .int a2, .int a3, .int a4, .int a5, .int a6, .int a7] [] σ Q := sm_wp_E (M := m_M_take) [46, 135] 16 h
set_option maxRecDepth 100000 in
set_option maxHeartbeats 4000000 in
theorem w_M_bestPlace (a1 a2 a3 a4 : Int32) (σ : sm_S) (Q : Option Value → sm_S → Prop) (h : xE xM m_M_bestPlace 12 [.ref 0, .int a1, .int a2, .int a3, .int a4, .int (-1), .int 0, .int 0, .int 0, .null, .null] [] σ Q) : xC xM j_M_bestPlace [.ref 0, .int a1, .int a2, .int a3, .int a4] σ Q := sm_wp_C (M := m_M_bestPlace) rfl [12] 9 h
set_option maxRecDepth 100000 in
set_option maxHeartbeats 4000000 in
theorem w_M_bestPlace_12 (a1 a2 a3 a4 a5 a6 a7 a8 : Int32) (v9 v10 : Value) (σ : sm_S) (Q : Option Value → sm_S → Prop) (h : ((256 ≤ a8 → Q (some (.int a5)) σ) ∧ (¬ (256 ≤ a8) → xC xM j_M_spanOf [.ref 0, .int a8] σ (sm_ri False (fun x2 σ1 => xC xM j_M_rankOf [.ref 0, .int x2, .int a2, .int a1] σ1 (sm_ri False (fun x4 σ3 => ((x4 = (-1) → xE xM m_M_bestPlace 12 [.ref 0, .int a1, .int a2, .int a3, .int a4, .int a5, .int a6, .int a7, .int (a8 + ((1 : Int32) <<< (a3 &&& 31))), .int x4, v10] [] σ3 Q) ∧ (¬ (x4 = (-1)) → ((a4 = 0 → xC xM j_M_areFree [.ref 0, .int a8, .int a3] σ3 (sm_ri False (fun x6 σ5 => ((x6 ≠ 0 → xC xM j_M_holeFrom [.ref 0, .int a8, .int a3] σ5 (sm_ri False (fun x8 σ7 => ((a5 = (-1) → xE xM m_M_bestPlace 12 [.ref 0, .int a1, .int a2, .int a3, .int a4, .int a8, .int x4, .int x8, .int (a8 + ((1 : Int32) <<< (a3 &&& 31))), .int x4, .int x8] [] σ7 Q) ∧ (¬ (a5 = (-1)) → ((a6 < x4 → xE xM m_M_bestPlace 12 [.ref 0, .int a1, .int a2, .int a3, .int a4, .int a5, .int a6, .int a7, .int (a8 + ((1 : Int32) <<< (a3 &&& 31))), .int x4, .int x8] [] σ7 Q) ∧ (¬ (a6 < x4) → ((x4 ≠ a6 → xE xM m_M_bestPlace 12 [.ref 0, .int a1, .int a2, .int a3, .int a4, .int a8, .int x4, .int x8, .int (a8 + ((1 : Int32) <<< (a3 &&& 31))), .int x4, .int x8] [] σ7 Q) ∧ (¬ (x4 ≠ a6) → ((x8 < a7 → xE xM m_M_bestPlace 12 [.ref 0, .int a1, .int a2, .int a3, .int a4, .int a8, .int x4, .int x8, .int (a8 + ((1 : Int32) <<< (a3 &&& 31))), .int x4, .int x8] [] σ7 Q) ∧ (¬ (x8 < a7) → xE xM m_M_bestPlace 12 [.ref 0, .int a1, .int a2, .int a3, .int a4, .int a5, .int a6, .int a7, .int (a8 + ((1 : Int32) <<< (a3 &&& 31))), .int x4, .int x8] [] σ7 Q))))))))))) ∧ (¬ (x6 ≠ 0) → xE xM m_M_bestPlace 12 [.ref 0, .int a1, .int a2, .int a3, .int a4, .int a5, .int a6, .int a7, .int (a8 + ((1 : Int32) <<< (a3 &&& 31))), .int x4, v10] [] σ5 Q))))) ∧ (¬ (a4 = 0) → xC xM j_M_spanOf [.ref 0, .int a8] σ3 (sm_ri False (fun x10 σ9 => xC xM j_M_spanState [.ref 0, .int x10] σ9 (sm_ri False (fun x12 σ11 => ((x12 ≠ 1 → xE xM m_M_bestPlace 12 [.ref 0, .int a1, .int a2, .int a3, .int a4, .int a5, .int a6, .int a7, .int (a8 + ((1 : Int32) <<< (a3 &&& 31))), .int x4, v10] [] σ11 Q) ∧ (¬ (x12 ≠ 1) → xC xM j_M_areFree [.ref 0, .int a8, .int a3] σ11 (sm_ri False (fun x14 σ13 => ((x14 ≠ 0 → xC xM j_M_holeFrom [.ref 0, .int a8, .int a3] σ13 (sm_ri False (fun x16 σ15 => ((a5 = (-1) → xE xM m_M_bestPlace 12 [.ref 0, .int a1, .int a2, .int a3, .int a4, .int a8, .int x4, .int x16, .int (a8 + ((1 : Int32) <<< (a3 &&& 31))), .int x4, .int x16] [] σ15 Q) ∧ (¬ (a5 = (-1)) → ((a6 < x4 → xE xM m_M_bestPlace 12 [.ref 0, .int a1, .int a2, .int a3, .int a4, .int a5, .int a6, .int a7, .int (a8 + ((1 : Int32) <<< (a3 &&& 31))), .int x4, .int x16] [] σ15 Q) ∧ (¬ (a6 < x4) → ((x4 ≠ a6 → xE xM m_M_bestPlace 12 [.ref 0, .int a1, .int a2, .int a3, .int a4, .int a8, .int x4, .int x16, .int (a8 + ((1 : Int32) <<< (a3 &&& 31))), .int x4, .int x16] [] σ15 Q) ∧ (¬ (x4 ≠ a6) → ((x16 < a7 → xE xM m_M_bestPlace 12 [.ref 0, .int a1, .int a2, .int a3, .int a4, .int a8, .int x4, .int x16, .int (a8 + ((1 : Int32) <<< (a3 &&& 31))), .int x4, .int x16] [] σ15 Q) ∧ (¬ (x16 < a7) → xE xM m_M_bestPlace 12 [.ref 0, .int a1, .int a2, .int a3, .int a4, .int a5, .int a6, .int a7, .int (a8 + ((1 : Int32) <<< (a3 &&& 31))), .int x4, .int x16] [] σ15 Q))))))))))) ∧ (¬ (x14 ≠ 0) → xE xM m_M_bestPlace 12 [.ref 0, .int a1, .int a2, .int a3, .int a4, .int a5, .int a6, .int a7, .int (a8 + ((1 : Int32) <<< (a3 &&& 31))), .int x4, v10] [] σ13 Q))))))))))))))))))))) : xE xM m_M_bestPlace 12 [.ref 0, .int a1, .int a2, .int a3, .int a4, .int a5, .int a6, .int a7, .int a8, v9, v10] [] σ Q := sm_wp_E (M := m_M_bestPlace) [12] 59 h
set_option maxRecDepth 100000 in
set_option maxHeartbeats 4000000 in
theorem w_M_spanOf (a1 : Int32) (σ : sm_S) (Q : Option Value → sm_S → Prop) (h : (¬ (32 : Int32) = 0 ∧ Q (some (.int (a1 / (32 : Int32)))) σ)) : xC xM j_M_spanOf [.ref 0, .int a1] σ Q := sm_wp_C (M := m_M_spanOf) rfl [] 5 h
set_option maxRecDepth 100000 in
set_option maxHeartbeats 4000000 in
theorem w_M_rankOf (a1 a2 a3 : Int32) (σ : sm_S) (Q : Option Value → sm_S → Prop) (h : xC xM j_M_zoneOf [.ref 0, .int a1] σ (sm_ri False (fun x2 σ1 => (¬ (2 : Int32) = 0 ∧ xC xM j_M_taskAt [.ref 0, .int a3] σ1 (sm_ri False (fun x4 σ3 => (vp_in (x4 + 0) 2662 ∧ (((a1 - a1 / (2 : Int32) * (2 : Int32)) ≠ (σ3 1 ((x4 + 0)).toNatClampNeg) → ((x2 = (-1) → Q (some (.int (-1))) σ3) ∧ (¬ (x2 = (-1)) → ((a2 = 0 → ((a2 ≠ 0 → Q (some (.int 1)) σ3) ∧ (¬ (a2 ≠ 0) → ((x2 ≠ 1 → Q (some (.int ((2 : Int32) + 1))) σ3) ∧ (¬ (x2 ≠ 1) → Q (some (.int 1)) σ3))))) ∧ (¬ (a2 = 0) → ((x2 ≠ 1 → ((a2 ≠ 0 → Q (some (.int 1)) σ3) ∧ (¬ (a2 ≠ 0) → ((x2 ≠ 1 → Q (some (.int ((2 : Int32) + 1))) σ3) ∧ (¬ (x2 ≠ 1) → Q (some (.int 1)) σ3))))) ∧ (¬ (x2 ≠ 1) → Q (some (.int (-1))) σ3))))))) ∧ (¬ ((a1 - a1 / (2 : Int32) * (2 : Int32)) ≠ (σ3 1 ((x4 + 0)).toNatClampNeg)) → ((x2 = (-1) → Q (some (.int (-1))) σ3) ∧ (¬ (x2 = (-1)) → ((a2 = 0 → ((a2 ≠ 0 → Q (some (.int 0)) σ3) ∧ (¬ (a2 ≠ 0) → ((x2 ≠ 1 → Q (some (.int ((2 : Int32) + 0))) σ3) ∧ (¬ (x2 ≠ 1) → Q (some (.int 0)) σ3))))) ∧ (¬ (a2 = 0) → ((x2 ≠ 1 → ((a2 ≠ 0 → Q (some (.int 0)) σ3) ∧ (¬ (a2 ≠ 0) → ((x2 ≠ 1 → Q (some (.int ((2 : Int32) + 0))) σ3) ∧ (¬ (x2 ≠ 1) → Q (some (.int 0)) σ3))))) ∧ (¬ (x2 ≠ 1) → Q (some (.int (-1))) σ3))))))))))))))) : xC xM j_M_rankOf [.ref 0, .int a1, .int a2, .int a3] σ Q := sm_wp_C (M := m_M_rankOf) rfl [] 37 h
set_option maxRecDepth 100000 in
set_option maxHeartbeats 4000000 in
theorem w_M_zoneOf (a1 : Int32) (σ : sm_S) (Q : Option Value → sm_S → Prop) (h : xC xM j_M_spanState [.ref 0, .int a1] σ (sm_ri False (fun x2 σ1 => ((x2 ≠ 0 → xC xM j_M_spanAt [.ref 0, .int a1] σ1 (sm_ri False (fun x4 σ3 => (vp_in (x4 + 1) 2662 ∧ Q (some (.int (σ3 1 ((x4 + 1)).toNatClampNeg))) σ3)))) ∧ (¬ (x2 ≠ 0) → Q (some (.int (-1))) σ1))))) : xC xM j_M_zoneOf [.ref 0, .int a1] σ Q := sm_wp_C (M := m_M_zoneOf) rfl [] 14 h
set_option maxRecDepth 100000 in
set_option maxHeartbeats 4000000 in
theorem w_M_spanState (a1 : Int32) (σ : sm_S) (Q : Option Value → sm_S → Prop) (h : xC xM j_M_spanAt [.ref 0, .int a1] σ (sm_ri False (fun x2 σ1 => (vp_in (x2 + 0) 2662 ∧ Q (some (.int (σ1 1 ((x2 + 0)).toNatClampNeg))) σ1)))) : xC xM j_M_spanState [.ref 0, .int a1] σ Q := sm_wp_C (M := m_M_spanState) rfl [] 10 h
set_option maxRecDepth 100000 in
set_option maxHeartbeats 4000000 in
theorem w_M_areFree (a1 a2 : Int32) (σ : sm_S) (Q : Option Value → sm_S → Prop) (h : xE xM m_M_areFree 9 [.ref 0, .int a1, .int a2, .int ((a1 >>> (a2 &&& 31)) <<< (a2 &&& 31)), .int ((a1 >>> (a2 &&& 31)) <<< (a2 &&& 31))] [] σ Q) : xC xM j_M_areFree [.ref 0, .int a1, .int a2] σ Q := sm_wp_C (M := m_M_areFree) rfl [9] 9 h
set_option maxRecDepth 100000 in
set_option maxHeartbeats 4000000 in
theorem w_M_areFree_9 (a1 a2 a3 a4 : Int32) (σ : sm_S) (Q : Option Value → sm_S → Prop) (h : (((a3 + ((1 : Int32) <<< (a2 &&& 31))) ≤ a4 → (((1 : Int32) = 0 ∨ (1 : Int32) = 1) ∧ Q (some (.int 1)) σ)) ∧ (¬ ((a3 + ((1 : Int32) <<< (a2 &&& 31))) ≤ a4) → xC xM j_M_isFree [.ref 0, .int a4] σ (sm_ri False (fun x2 σ1 => ((x2 ≠ 0 → xE xM m_M_areFree 9 [.ref 0, .int a1, .int a2, .int a3, .int (a4 + 1)] [] σ1 Q) ∧ (¬ (x2 ≠ 0) → (((0 : Int32) = 0 ∨ (0 : Int32) = 1) ∧ Q (some (.int 0)) σ1)))))))) : xE xM m_M_areFree 9 [.ref 0, .int a1, .int a2, .int a3, .int a4] [] σ Q := sm_wp_E (M := m_M_areFree) [9] 14 h
set_option maxRecDepth 100000 in
set_option maxHeartbeats 4000000 in
theorem w_M_isFree (a1 : Int32) (σ : sm_S) (Q : Option Value → sm_S → Prop) (h : xC xM j_M_stateOf [.ref 0, .int a1] σ (sm_ri False (fun x2 σ1 => ((x2 ≠ 1 → (((0 : Int32) = 0 ∨ (0 : Int32) = 1) ∧ Q (some (.int 0)) σ1)) ∧ (¬ (x2 ≠ 1) → (((1 : Int32) = 0 ∨ (1 : Int32) = 1) ∧ Q (some (.int 1)) σ1)))))) : xC xM j_M_isFree [.ref 0, .int a1] σ Q := sm_wp_C (M := m_M_isFree) rfl [] 9 h
set_option maxRecDepth 100000 in
set_option maxHeartbeats 4000000 in
theorem w_M_stateOf (a1 : Int32) (σ : sm_S) (Q : Option Value → sm_S → Prop) (h : xC xM j_M_frameAt [.ref 0, .int a1] σ (sm_ri False (fun x2 σ1 => (vp_in (x2 + 0) 2662 ∧ Q (some (.int (σ1 1 ((x2 + 0)).toNatClampNeg))) σ1)))) : xC xM j_M_stateOf [.ref 0, .int a1] σ Q := sm_wp_C (M := m_M_stateOf) rfl [] 10 h
set_option maxRecDepth 100000 in
set_option maxHeartbeats 4000000 in
theorem w_M_holeFrom (a1 a2 : Int32) (σ : sm_S) (Q : Option Value → sm_S → Prop) (h : xE xM m_M_holeFrom 2 [.ref 0, .int a1, .int a2, .int a2] [] σ Q) : xC xM j_M_holeFrom [.ref 0, .int a1, .int a2] σ Q := sm_wp_C (M := m_M_holeFrom) rfl [2] 3 h
set_option maxRecDepth 100000 in
set_option maxHeartbeats 4000000 in
theorem w_M_holeFrom_2 (a1 a2 a3 : Int32) (σ : sm_S) (Q : Option Value → sm_S → Prop) (h : ((5 ≤ a3 → Q (some (.int a3)) σ) ∧ (¬ (5 ≤ a3) → xC xM j_M_areFree [.ref 0, .int a1, .int (a3 + 1)] σ (sm_ri False (fun x2 σ1 => ((x2 = 0 → Q (some (.int a3)) σ1) ∧ (¬ (x2 = 0) → xE xM m_M_holeFrom 2 [.ref 0, .int a1, .int a2, .int (a3 + 1)] [] σ1 Q))))))) : xE xM m_M_holeFrom 2 [.ref 0, .int a1, .int a2, .int a3] [] σ Q := sm_wp_E (M := m_M_holeFrom) [2] 16 h
set_option maxRecDepth 100000 in
set_option maxHeartbeats 4000000 in
theorem w_M_leastUsed (σ : sm_S) (Q : Option Value → sm_S → Prop) (h : xE xM m_M_leastUsed 4 [.ref 0, .int (-1), .int 0] [] σ Q) : xC xM j_M_leastUsed [.ref 0] σ Q := sm_wp_C (M := m_M_leastUsed) rfl [4] 5 h
set_option maxRecDepth 100000 in
set_option maxHeartbeats 4000000 in
theorem w_M_leastUsed_4 (a1 a2 : Int32) (σ : sm_S) (Q : Option Value → sm_S → Prop) (h : ((96 ≤ a2 → Q (some (.int a1)) σ) ∧ (¬ (96 ≤ a2) → xC xM j_M_of [.ref 0, .int a2, .int 0] σ (sm_ri False (fun x2 σ1 => ((x2 ≠ 1 → xE xM m_M_leastUsed 4 [.ref 0, .int a1, .int (a2 + 1)] [] σ1 Q) ∧ (¬ (x2 ≠ 1) → xC xM j_M_of [.ref 0, .int a2, .int 3] σ1 (sm_ri False (fun x4 σ3 => ((x4 ≠ 2 → xE xM m_M_leastUsed 4 [.ref 0, .int a1, .int (a2 + 1)] [] σ3 Q) ∧ (¬ (x4 ≠ 2) → xC xM j_M_isPinned [.ref 0, .int a2] σ3 (sm_ri False (fun x6 σ5 => ((x6 ≠ 0 → xE xM m_M_leastUsed 4 [.ref 0, .int a1, .int (a2 + 1)] [] σ5 Q) ∧ (¬ (x6 ≠ 0) → xC xM j_M_isOnWay [.ref 0, .int a2] σ5 (sm_ri False (fun x8 σ7 => ((x8 ≠ 0 → xE xM m_M_leastUsed 4 [.ref 0, .int a1, .int (a2 + 1)] [] σ7 Q) ∧ (¬ (x8 ≠ 0) → ((a1 = (-1) → xE xM m_M_leastUsed 4 [.ref 0, .int a2, .int (a2 + 1)] [] σ7 Q) ∧ (¬ (a1 = (-1)) → xC xM j_M_of [.ref 0, .int a2, .int 8] σ7 (sm_ri False (fun x10 σ9 => xC xM j_M_of [.ref 0, .int a1, .int 8] σ9 (sm_ri False (fun x12 σ11 => ((x12 ≤ x10 → xE xM m_M_leastUsed 4 [.ref 0, .int a1, .int (a2 + 1)] [] σ11 Q) ∧ (¬ (x12 ≤ x10) → xE xM m_M_leastUsed 4 [.ref 0, .int a2, .int (a2 + 1)] [] σ11 Q))))))))))))))))))))))))))) : xE xM m_M_leastUsed 4 [.ref 0, .int a1, .int a2] [] σ Q := sm_wp_E (M := m_M_leastUsed) [4] 40 h
set_option maxRecDepth 100000 in
set_option maxHeartbeats 4000000 in
theorem w_M_of (a1 a2 : Int32) (σ : sm_S) (Q : Option Value → sm_S → Prop) (h : xC xM j_M_blockAt [.ref 0, .int a1] σ (sm_ri False (fun x2 σ1 => (vp_in (x2 + a2) 2662 ∧ Q (some (.int (σ1 1 ((x2 + a2)).toNatClampNeg))) σ1)))) : xC xM j_M_of [.ref 0, .int a1, .int a2] σ Q := sm_wp_C (M := m_M_of) rfl [] 10 h
set_option maxRecDepth 100000 in
set_option maxHeartbeats 4000000 in
theorem w_M_blockAt (a1 : Int32) (σ : sm_S) (Q : Option Value → sm_S → Prop) (h : Q (some (.int (786 + (16 * a1)))) σ) : xC xM j_M_blockAt [.ref 0, .int a1] σ Q := sm_wp_C (M := m_M_blockAt) rfl [] 7 h
set_option maxRecDepth 100000 in
set_option maxHeartbeats 4000000 in
theorem w_M_isPinned (a1 : Int32) (σ : sm_S) (Q : Option Value → sm_S → Prop) (h : xC xM j_M_of [.ref 0, .int a1, .int 5] σ (sm_ri False (fun x2 σ1 => ((x2 = 0 → (((0 : Int32) = 0 ∨ (0 : Int32) = 1) ∧ Q (some (.int 0)) σ1)) ∧ (¬ (x2 = 0) → (((1 : Int32) = 0 ∨ (1 : Int32) = 1) ∧ Q (some (.int 1)) σ1)))))) : xC xM j_M_isPinned [.ref 0, .int a1] σ Q := sm_wp_C (M := m_M_isPinned) rfl [] 9 h
set_option maxRecDepth 100000 in
set_option maxHeartbeats 4000000 in
theorem w_M_isOnWay (a1 : Int32) (σ : sm_S) (Q : Option Value → sm_S → Prop) (h : xC xM j_M_of [.ref 0, .int a1, .int 6] σ (sm_ri False (fun x2 σ1 => ((x2 ≤ 0 → (((0 : Int32) = 0 ∨ (0 : Int32) = 1) ∧ Q (some (.int 0)) σ1)) ∧ (¬ (x2 ≤ 0) → (((1 : Int32) = 0 ∨ (1 : Int32) = 1) ∧ Q (some (.int 1)) σ1)))))) : xC xM j_M_isOnWay [.ref 0, .int a1] σ Q := sm_wp_C (M := m_M_isOnWay) rfl [] 9 h
set_option maxRecDepth 100000 in
set_option maxHeartbeats 4000000 in
theorem w_M_drops (a1 : Int32) (σ : sm_S) (Q : Option Value → sm_S → Prop) (h : xC xM j_M_frameOf [.ref 0, .int a1] σ (sm_ri False (fun x2 σ1 => xC xM j_M_writes [.ref 0, .int 6, .int a1, .int x2] σ1 (sm_rv False (fun σ3 => xC xM j_M_counts [.ref 0, .int 5, .int 1] σ3 (sm_rv False (fun σ4 => xC xM j_M_goes [.ref 0, .int a1] σ4 (sm_rv False (fun σ5 => Q none σ5))))))))) : xC xM j_M_drops [.ref 0, .int a1] σ Q := sm_wp_C (M := m_M_drops) rfl [] 16 h
set_option maxRecDepth 100000 in
set_option maxHeartbeats 4000000 in
theorem w_M_frameOf (a1 : Int32) (σ : sm_S) (Q : Option Value → sm_S → Prop) (h : xC xM j_M_of [.ref 0, .int a1, .int 1] σ (sm_ri False (fun x2 σ1 => Q (some (.int x2)) σ1))) : xC xM j_M_frameOf [.ref 0, .int a1] σ Q := sm_wp_C (M := m_M_frameOf) rfl [] 6 h
set_option maxRecDepth 100000 in
set_option maxHeartbeats 4000000 in
theorem w_M_writes (a1 a2 a3 : Int32) (σ : sm_S) (Q : Option Value → sm_S → Prop) (h : (vp_in (5 : Int32) 2662 ∧ (¬ (60 : Int32) = 0 ∧ (vp_in (4 : Int32) 2662 ∧ (vp_in (2422 + (4 * ((σ 1 ((5 : Int32)).toNatClampNeg) - (σ 1 ((5 : Int32)).toNatClampNeg) / (60 : Int32) * (60 : Int32)))) 2662 ∧ ∀ σ1, σ1 = sm_set σ 1 (upd (σ 1) ((2422 + (4 * ((σ 1 ((5 : Int32)).toNatClampNeg) - (σ 1 ((5 : Int32)).toNatClampNeg) / (60 : Int32) * (60 : Int32))))).toNatClampNeg (σ 1 ((4 : Int32)).toNatClampNeg)) → (vp_in ((2422 + (4 * ((σ 1 ((5 : Int32)).toNatClampNeg) - (σ 1 ((5 : Int32)).toNatClampNeg) / (60 : Int32) * (60 : Int32)))) + 1) 2662 ∧ ∀ σ2, σ2 = sm_set σ1 1 (upd (σ1 1) (((2422 + (4 * ((σ 1 ((5 : Int32)).toNatClampNeg) - (σ 1 ((5 : Int32)).toNatClampNeg) / (60 : Int32) * (60 : Int32)))) + 1)).toNatClampNeg a1) → (vp_in ((2422 + (4 * ((σ 1 ((5 : Int32)).toNatClampNeg) - (σ 1 ((5 : Int32)).toNatClampNeg) / (60 : Int32) * (60 : Int32)))) + 2) 2662 ∧ ∀ σ3, σ3 = sm_set σ2 1 (upd (σ2 1) (((2422 + (4 * ((σ 1 ((5 : Int32)).toNatClampNeg) - (σ 1 ((5 : Int32)).toNatClampNeg) / (60 : Int32) * (60 : Int32)))) + 2)).toNatClampNeg a2) → (vp_in ((2422 + (4 * ((σ 1 ((5 : Int32)).toNatClampNeg) - (σ 1 ((5 : Int32)).toNatClampNeg) / (60 : Int32) * (60 : Int32)))) + 3) 2662 ∧ ∀ σ4, σ4 = sm_set σ3 1 (upd (σ3 1) (((2422 + (4 * ((σ 1 ((5 : Int32)).toNatClampNeg) - (σ 1 ((5 : Int32)).toNatClampNeg) / (60 : Int32) * (60 : Int32)))) + 3)).toNatClampNeg a3) → xC xM j_M_more [.ref 0, .int 5, .int 1] σ4 (sm_rv False (fun σ5 => Q none σ5)))))))))) : xC xM j_M_writes [.ref 0, .int a1, .int a2, .int a3] σ Q := sm_wp_C (M := m_M_writes) rfl [] 46 h
set_option maxRecDepth 100000 in
set_option maxHeartbeats 4000000 in
theorem w_M_more (a1 a2 : Int32) (σ : sm_S) (Q : Option Value → sm_S → Prop) (h : (vp_in a1 2662 ∧ (vp_in a1 2662 ∧ ∀ σ1, σ1 = sm_set σ 1 (upd (σ 1) (a1).toNatClampNeg ((σ 1 (a1).toNatClampNeg) + a2)) → Q none σ1))) : xC xM j_M_more [.ref 0, .int a1, .int a2] σ Q := sm_wp_C (M := m_M_more) rfl [] 12 h
set_option maxRecDepth 100000 in
set_option maxHeartbeats 4000000 in
theorem w_M_counts (a1 a2 : Int32) (σ : sm_S) (Q : Option Value → sm_S → Prop) (h : xC xM j_M_more [.ref 0, .int (7 + a1), .int a2] σ (sm_rv False (fun σ1 => Q none σ1))) : xC xM j_M_counts [.ref 0, .int a1, .int a2] σ Q := sm_wp_C (M := m_M_counts) rfl [] 8 h
set_option maxRecDepth 100000 in
set_option maxHeartbeats 4000000 in
theorem w_M_goes (a1 : Int32) (σ : sm_S) (Q : Option Value → sm_S → Prop) (h : xE xM m_M_goes 2 [.ref 0, .int a1, .int 0] [] σ Q) : xC xM j_M_goes [.ref 0, .int a1] σ Q := sm_wp_C (M := m_M_goes) rfl [2] 3 h
set_option maxRecDepth 100000 in
set_option maxHeartbeats 4000000 in
theorem w_M_goes_2 (a1 a2 : Int32) (σ : sm_S) (Q : Option Value → sm_S → Prop) (h : xC xM j_M_longOf [.ref 0, .int a1] σ (sm_ri False (fun x2 σ1 => ((x2 ≤ a2 → xC xM j_M_lay [.ref 0, .int a1, .int 0, .int 0] σ1 (sm_rv False (fun σ3 => Q none σ3))) ∧ (¬ (x2 ≤ a2) → xC xM j_M_frameOf [.ref 0, .int a1] σ1 (sm_ri False (fun x5 σ4 => xC xM j_M_leaves [.ref 0, .int (x5 + a2)] σ4 (sm_rv False (fun σ6 => xE xM m_M_goes 2 [.ref 0, .int a1, .int (a2 + 1)] [] σ6 Q))))))))) : xE xM m_M_goes 2 [.ref 0, .int a1, .int a2] [] σ Q := sm_wp_E (M := m_M_goes) [2] 15 h
set_option maxRecDepth 100000 in
set_option maxHeartbeats 4000000 in
theorem w_M_longOf (a1 : Int32) (σ : sm_S) (Q : Option Value → sm_S → Prop) (h : xC xM j_M_of [.ref 0, .int a1, .int 2] σ (sm_ri False (fun x2 σ1 => Q (some (.int ((1 : Int32) <<< (x2 &&& 31)))) σ1))) : xC xM j_M_longOf [.ref 0, .int a1] σ Q := sm_wp_C (M := m_M_longOf) rfl [] 8 h
set_option maxRecDepth 100000 in
set_option maxHeartbeats 4000000 in
theorem w_M_leaves (a1 : Int32) (σ : sm_S) (Q : Option Value → sm_S → Prop) (h : xC xM j_M_frameAt [.ref 0, .int a1] σ (sm_ri False (fun x2 σ1 => xC xM j_M_isShut [.ref 0, .int a1] σ1 (sm_ri False (fun x4 σ3 => ((x4 = 0 → (vp_in (x2 + 0) 2662 ∧ ∀ σ5, σ5 = sm_set σ3 1 (upd (σ3 1) ((x2 + 0)).toNatClampNeg 1) → (vp_in (x2 + 1) 2662 ∧ ∀ σ6, σ6 = sm_set σ5 1 (upd (σ5 1) ((x2 + 1)).toNatClampNeg 0) → (vp_in (x2 + 2) 2662 ∧ ∀ σ7, σ7 = sm_set σ6 1 (upd (σ6 1) ((x2 + 2)).toNatClampNeg 0) → Q none σ7)))) ∧ (¬ (x4 = 0) → (vp_in (x2 + 0) 2662 ∧ ∀ σ8, σ8 = sm_set σ3 1 (upd (σ3 1) ((x2 + 0)).toNatClampNeg 2) → (vp_in (x2 + 1) 2662 ∧ ∀ σ9, σ9 = sm_set σ8 1 (upd (σ8 1) ((x2 + 1)).toNatClampNeg 0) → (vp_in (x2 + 2) 2662 ∧ ∀ σ10, σ10 = sm_set σ9 1 (upd (σ9 1) ((x2 + 2)).toNatClampNeg 0) → Q none σ10)))))))))) : xC xM j_M_leaves [.ref 0, .int a1] σ Q := sm_wp_C (M := m_M_leaves) rfl [] 32 h
set_option maxRecDepth 100000 in
set_option maxHeartbeats 4000000 in
theorem w_M_isShut (a1 : Int32) (σ : sm_S) (Q : Option Value → sm_S → Prop) (h : (¬ (32 : Int32) = 0 ∧ (¬ (8 : Int32) = 0 ∧ xC xM j_M_spanOf [.ref 0, .int a1] σ (sm_ri False (fun x2 σ1 => xC xM j_M_spanAt [.ref 0, .int x2] σ1 (sm_ri False (fun x4 σ3 => (vp_in (x4 + 2) 2662 ∧ (((σ3 1 ((x4 + 2)).toNatClampNeg) ≤ ((a1 - a1 / (32 : Int32) * (32 : Int32)) / (8 : Int32)) → (((0 : Int32) = 0 ∨ (0 : Int32) = 1) ∧ Q (some (.int 0)) σ3)) ∧ (¬ ((σ3 1 ((x4 + 2)).toNatClampNeg) ≤ ((a1 - a1 / (32 : Int32) * (32 : Int32)) / (8 : Int32))) → (((1 : Int32) = 0 ∨ (1 : Int32) = 1) ∧ Q (some (.int 1)) σ3))))))))))) : xC xM j_M_isShut [.ref 0, .int a1] σ Q := sm_wp_C (M := m_M_isShut) rfl [] 20 h
set_option maxRecDepth 100000 in
set_option maxHeartbeats 4000000 in
theorem w_M_lay (a1 a2 a3 : Int32) (σ : sm_S) (Q : Option Value → sm_S → Prop) (h : xC xM j_M_blockAt [.ref 0, .int a1] σ (sm_ri False (fun x2 σ1 => (vp_in (x2 + a2) 2662 ∧ ∀ σ3, σ3 = sm_set σ1 1 (upd (σ1 1) ((x2 + a2)).toNatClampNeg a3) → Q none σ3)))) : xC xM j_M_lay [.ref 0, .int a1, .int a2, .int a3] σ Q := sm_wp_C (M := m_M_lay) rfl [] 11 h
set_option maxRecDepth 100000 in
set_option maxHeartbeats 4000000 in
theorem w_M_freeNumber (σ : sm_S) (Q : Option Value → sm_S → Prop) (h : xE xM m_M_freeNumber 2 [.ref 0, .int 0] [] σ Q) : xC xM j_M_freeNumber [.ref 0] σ Q := sm_wp_C (M := m_M_freeNumber) rfl [2] 3 h
set_option maxRecDepth 100000 in
set_option maxHeartbeats 4000000 in
theorem w_M_freeNumber_2 (a1 : Int32) (σ : sm_S) (Q : Option Value → sm_S → Prop) (h : ((96 ≤ a1 → Q (some (.int (-1))) σ) ∧ (¬ (96 ≤ a1) → xC xM j_M_of [.ref 0, .int a1, .int 0] σ (sm_ri False (fun x2 σ1 => ((x2 ≠ 0 → xE xM m_M_freeNumber 2 [.ref 0, .int (a1 + 1)] [] σ1 Q) ∧ (¬ (x2 ≠ 0) → Q (some (.int a1)) σ1))))))) : xE xM m_M_freeNumber 2 [.ref 0, .int a1] [] σ Q := sm_wp_E (M := m_M_freeNumber) [2] 11 h
set_option maxRecDepth 100000 in
set_option maxHeartbeats 4000000 in
theorem w_M_comes (a1 a2 a3 a4 a5 a6 : Int32) (σ : sm_S) (Q : Option Value → sm_S → Prop) (h : xE xM m_M_comes 3 [.ref 0, .int a1, .int a2, .int a3, .int a4, .int a5, .int a6, .int 0] [] σ Q) : xC xM j_M_comes [.ref 0, .int a1, .int a2, .int a3, .int a4, .int a5, .int a6] σ Q := sm_wp_C (M := m_M_comes) rfl [3, 73] 3 h
set_option maxRecDepth 100000 in
set_option maxHeartbeats 4000000 in
theorem w_M_comes_3 (a1 a2 a3 a4 a5 a6 a7 : Int32) (σ : sm_S) (Q : Option Value → sm_S → Prop) (h : ((16 ≤ a7 → xC xM j_M_lay [.ref 0, .int a1, .int 0, .int 1] σ (sm_rv False (fun σ1 => xC xM j_M_lay [.ref 0, .int a1, .int 1, .int a2] σ1 (sm_rv False (fun σ2 => xC xM j_M_lay [.ref 0, .int a1, .int 2, .int a3] σ2 (sm_rv False (fun σ3 => xC xM j_M_lay [.ref 0, .int a1, .int 3, .int a4] σ3 (sm_rv False (fun σ4 => xC xM j_M_lay [.ref 0, .int a1, .int 4, .int a5] σ4 (sm_rv False (fun σ5 => xC xM j_M_lay [.ref 0, .int a1, .int 8, .int a6] σ5 (sm_rv False (fun σ6 => xE xM m_M_comes 73 [.ref 0, .int a1, .int a2, .int a3, .int a4, .int a5, .int a6, .int 0] [] σ6 Q))))))))))))) ∧ (¬ (16 ≤ a7) → xC xM j_M_lay [.ref 0, .int a1, .int a7, .int 0] σ (sm_rv False (fun σ7 => xE xM m_M_comes 3 [.ref 0, .int a1, .int a2, .int a3, .int a4, .int a5, .int a6, .int (a7 + 1)] [] σ7 Q))))) : xE xM m_M_comes 3 [.ref 0, .int a1, .int a2, .int a3, .int a4, .int a5, .int a6, .int a7] [] σ Q := sm_wp_E (M := m_M_comes) [3, 73] 36 h
set_option maxRecDepth 100000 in
set_option maxHeartbeats 4000000 in
theorem w_M_comes_73 (a1 a2 a3 a4 a5 a6 a7 : Int32) (σ : sm_S) (Q : Option Value → sm_S → Prop) (h : ((((1 : Int32) <<< (a3 &&& 31)) ≤ a7 → Q none σ) ∧ (¬ (((1 : Int32) <<< (a3 &&& 31)) ≤ a7) → xC xM j_M_has [.ref 0, .int (a2 + a7), .int a1, .int 3] σ (sm_rv False (fun σ1 => xE xM m_M_comes 73 [.ref 0, .int a1, .int a2, .int a3, .int a4, .int a5, .int a6, .int (a7 + 1)] [] σ1 Q))))) : xE xM m_M_comes 73 [.ref 0, .int a1, .int a2, .int a3, .int a4, .int a5, .int a6, .int a7] [] σ Q := sm_wp_E (M := m_M_comes) [3, 73] 15 h
set_option maxRecDepth 100000 in
set_option maxHeartbeats 4000000 in
theorem w_M_has (a1 a2 a3 : Int32) (σ : sm_S) (Q : Option Value → sm_S → Prop) (h : xC xM j_M_frameAt [.ref 0, .int a1] σ (sm_ri False (fun x2 σ1 => (vp_in (x2 + 0) 2662 ∧ ∀ σ3, σ3 = sm_set σ1 1 (upd (σ1 1) ((x2 + 0)).toNatClampNeg a3) → xC xM j_M_frameAt [.ref 0, .int a1] σ3 (sm_ri False (fun x5 σ4 => (vp_in (x5 + 1) 2662 ∧ ∀ σ6, σ6 = sm_set σ4 1 (upd (σ4 1) ((x5 + 1)).toNatClampNeg (a2 + 1)) → Q none σ6))))))) : xC xM j_M_has [.ref 0, .int a1, .int a2, .int a3] σ Q := sm_wp_C (M := m_M_has) rfl [] 22 h
set_option maxRecDepth 100000 in
set_option maxHeartbeats 4000000 in
theorem w_M_lays (a1 a2 : Int32) (σ : sm_S) (Q : Option Value → sm_S → Prop) (h : xC xM j_M_frameAt [.ref 0, .int a1] σ (sm_ri False (fun x2 σ1 => (vp_in (x2 + 2) 2662 ∧ ∀ σ3, σ3 = sm_set σ1 1 (upd (σ1 1) ((x2 + 2)).toNatClampNeg a2) → Q none σ3)))) : xC xM j_M_lays [.ref 0, .int a1, .int a2] σ Q := sm_wp_C (M := m_M_lays) rfl [] 11 h
set_option maxRecDepth 100000 in
set_option maxHeartbeats 4000000 in
theorem w_M_free (a1 : Int32) (σ : sm_S) (Q : Option Value → sm_S → Prop) (h : (∀ σ1, σ1 = sm_set σ 0 (upd (σ 0) 0 0) → xC xM j_M_isBlock [.ref 0, .int a1] σ1 (sm_ri False (fun x3 σ2 => ((x3 = 0 → (((0 : Int32) = 0 ∨ (0 : Int32) = 1) ∧ Q (some (.int 0)) σ2)) ∧ (¬ (x3 = 0) → xC xM j_M_isPinned [.ref 0, .int a1] σ2 (sm_ri False (fun x5 σ4 => ((x5 ≠ 0 → (((0 : Int32) = 0 ∨ (0 : Int32) = 1) ∧ Q (some (.int 0)) σ4)) ∧ (¬ (x5 ≠ 0) → xC xM j_M_isOnWay [.ref 0, .int a1] σ4 (sm_ri False (fun x7 σ6 => ((x7 = 0 → xC xM j_M_goes [.ref 0, .int a1] σ6 (sm_rv False (fun σ8 => (((1 : Int32) = 0 ∨ (1 : Int32) = 1) ∧ Q (some (.int 1)) σ8)))) ∧ (¬ (x7 = 0) → (((0 : Int32) = 0 ∨ (0 : Int32) = 1) ∧ Q (some (.int 0)) σ6))))))))))))))) : xC xM j_M_free [.ref 0, .int a1] σ Q := sm_wp_C (M := m_M_free) rfl [] 21 h
set_option maxRecDepth 100000 in
set_option maxHeartbeats 4000000 in
theorem w_M_isBlock (a1 : Int32) (σ : sm_S) (Q : Option Value → sm_S → Prop) (h : ((a1 < 0 → (((0 : Int32) = 0 ∨ (0 : Int32) = 1) ∧ Q (some (.int 0)) σ)) ∧ (¬ (a1 < 0) → ((96 ≤ a1 → (((0 : Int32) = 0 ∨ (0 : Int32) = 1) ∧ Q (some (.int 0)) σ)) ∧ (¬ (96 ≤ a1) → xC xM j_M_blockAt [.ref 0, .int a1] σ (sm_ri False (fun x2 σ1 => (vp_in (x2 + 0) 2662 ∧ (((σ1 1 ((x2 + 0)).toNatClampNeg) ≠ 1 → (((0 : Int32) = 0 ∨ (0 : Int32) = 1) ∧ Q (some (.int 0)) σ1)) ∧ (¬ ((σ1 1 ((x2 + 0)).toNatClampNeg) ≠ 1) → (((1 : Int32) = 0 ∨ (1 : Int32) = 1) ∧ Q (some (.int 1)) σ1))))))))))) : xC xM j_M_isBlock [.ref 0, .int a1] σ Q := sm_wp_C (M := m_M_isBlock) rfl [] 19 h
set_option maxRecDepth 100000 in
set_option maxHeartbeats 4000000 in
theorem w_M_read (a1 a2 a3 : Int32) (σ : sm_S) (Q : Option Value → sm_S → Prop) (h : (∀ σ1, σ1 = sm_set σ 0 (upd (σ 0) 0 0) → xC xM j_M_canDo [.ref 0, .int a1, .int a2] σ1 (sm_ri False (fun x3 σ2 => ((x3 = 0 → Q (some (.int (-1))) σ2) ∧ (¬ (x3 = 0) → xC xM j_M_longOf [.ref 0, .int a2] σ2 (sm_ri False (fun x5 σ4 => xC xM j_M_isIn [.ref 0, .int a3, .int 0, .int (x5 - 1)] σ4 (sm_ri False (fun x7 σ6 => ((x7 = 0 → Q (some (.int (-1))) σ6) ∧ (¬ (x7 = 0) → xC xM j_M_wants [.ref 0, .int a1, .int a2, .int 0, .int a3, .int 0] σ6 (sm_ri False (fun x9 σ8 => Q (some (.int x9)) σ8)))))))))))))) : xC xM j_M_read [.ref 0, .int a1, .int a2, .int a3] σ Q := sm_wp_C (M := m_M_read) rfl [] 28 h
set_option maxRecDepth 100000 in
set_option maxHeartbeats 4000000 in
theorem w_M_canDo (a1 a2 : Int32) (σ : sm_S) (Q : Option Value → sm_S → Prop) (h : xC xM j_M_isTask [.ref 0, .int a1] σ (sm_ri False (fun x2 σ1 => ((x2 = 0 → (((0 : Int32) = 0 ∨ (0 : Int32) = 1) ∧ Q (some (.int 0)) σ1)) ∧ (¬ (x2 = 0) → xC xM j_M_taskAt [.ref 0, .int a1] σ1 (sm_ri False (fun x4 σ3 => (vp_in (x4 + 1) 2662 ∧ (((σ3 1 ((x4 + 1)).toNatClampNeg) ≠ 0 → (((0 : Int32) = 0 ∨ (0 : Int32) = 1) ∧ Q (some (.int 0)) σ3)) ∧ (¬ ((σ3 1 ((x4 + 1)).toNatClampNeg) ≠ 0) → xC xM j_M_isBlock [.ref 0, .int a2] σ3 (sm_ri False (fun x6 σ5 => ((x6 = 0 → (((0 : Int32) = 0 ∨ (0 : Int32) = 1) ∧ Q (some (.int 0)) σ5)) ∧ (¬ (x6 = 0) → (((1 : Int32) = 0 ∨ (1 : Int32) = 1) ∧ Q (some (.int 1)) σ5))))))))))))))) : xC xM j_M_canDo [.ref 0, .int a1, .int a2] σ Q := sm_wp_C (M := m_M_canDo) rfl [] 21 h
set_option maxRecDepth 100000 in
set_option maxHeartbeats 4000000 in
theorem w_M_wants (a1 a2 a3 a4 a5 : Int32) (σ : sm_S) (Q : Option Value → sm_S → Prop) (h : xC xM j_M_isOnWay [.ref 0, .int a2] σ (sm_ri False (fun x2 σ1 => ((x2 ≠ 0 → xC xM j_M_taskAt [.ref 0, .int a1] σ1 (sm_ri False (fun x4 σ3 => (vp_in (x4 + 1) 2662 ∧ ∀ σ5, σ5 = sm_set σ3 1 (upd (σ3 1) ((x4 + 1)).toNatClampNeg (a2 + 1)) → (vp_in (x4 + 2) 2662 ∧ ∀ σ6, σ6 = sm_set σ5 1 (upd (σ5 1) ((x4 + 2)).toNatClampNeg a3) → (vp_in (x4 + 3) 2662 ∧ ∀ σ7, σ7 = sm_set σ6 1 (upd (σ6 1) ((x4 + 3)).toNatClampNeg a4) → (vp_in (x4 + 4) 2662 ∧ ∀ σ8, σ8 = sm_set σ7 1 (upd (σ7 1) ((x4 + 4)).toNatClampNeg a5) → xC xM j_M_of [.ref 0, .int a2, .int 9] σ8 (sm_ri False (fun x10 σ9 => xC xM j_M_lay [.ref 0, .int a2, .int (10 + x10), .int a1] σ9 (sm_rv False (fun σ11 => xC xM j_M_of [.ref 0, .int a2, .int 9] σ11 (sm_ri False (fun x13 σ12 => xC xM j_M_lay [.ref 0, .int a2, .int 9, .int (x13 + 1)] σ12 (sm_rv False (fun σ14 => xC xM j_M_writes [.ref 0, .int 7, .int a1, .int a2] σ14 (sm_rv False (fun σ15 => xC xM j_M_counts [.ref 0, .int 8, .int 1] σ15 (sm_rv False (fun σ16 => Q (some (.int 1)) σ16))))))))))))))))))) ∧ (¬ (x2 ≠ 0) → xC xM j_M_does [.ref 0, .int a1, .int a2, .int a3, .int a4, .int a5] σ1 (sm_rv False (fun σ17 => Q (some (.int 0)) σ17))))))) : xC xM j_M_wants [.ref 0, .int a1, .int a2, .int a3, .int a4, .int a5] σ Q := sm_wp_C (M := m_M_wants) rfl [] 70 h
set_option maxRecDepth 100000 in
set_option maxHeartbeats 4000000 in
theorem w_M_does (a1 a2 a3 a4 a5 : Int32) (σ : sm_S) (Q : Option Value → sm_S → Prop) (h : ((a3 ≠ 2 → xC xM j_M_uses [.ref 0, .int a2] σ (sm_rv False (fun σ1 => ((a3 ≠ 0 → xC xM j_M_frameOf [.ref 0, .int a2] σ1 (sm_ri False (fun x3 σ2 => xC xM j_M_lays [.ref 0, .int (x3 + a4), .int a5] σ2 (sm_rv False (fun σ4 => Q none σ4))))) ∧ (¬ (a3 ≠ 0) → xC xM j_M_taskAt [.ref 0, .int a1] σ1 (sm_ri False (fun x6 σ5 => xC xM j_M_frameOf [.ref 0, .int a2] σ5 (sm_ri False (fun x8 σ7 => xC xM j_M_valueOf [.ref 0, .int (x8 + a4)] σ7 (sm_ri False (fun x10 σ9 => (vp_in (x6 + 5) 2662 ∧ ∀ σ11, σ11 = sm_set σ9 1 (upd (σ9 1) ((x6 + 5)).toNatClampNeg x10) → Q none σ11)))))))))))) ∧ (¬ (a3 ≠ 2) → xC xM j_M_of [.ref 0, .int a2, .int 5] σ (sm_ri False (fun x13 σ12 => xC xM j_M_lay [.ref 0, .int a2, .int 5, .int (x13 ||| ((1 : Int32) <<< (a1 &&& 31)))] σ12 (sm_rv False (fun σ14 => Q none σ14))))))) : xC xM j_M_does [.ref 0, .int a1, .int a2, .int a3, .int a4, .int a5] σ Q := sm_wp_C (M := m_M_does) rfl [] 26 h
set_option maxRecDepth 100000 in
set_option maxHeartbeats 4000000 in
theorem w_M_uses (a1 : Int32) (σ : sm_S) (Q : Option Value → sm_S → Prop) (h : xC xM j_M_more [.ref 0, .int 6, .int 1] σ (sm_rv False (fun σ1 => (vp_in (6 : Int32) 2662 ∧ xC xM j_M_lay [.ref 0, .int a1, .int 8, .int (σ1 1 ((6 : Int32)).toNatClampNeg)] σ1 (sm_rv False (fun σ2 => Q none σ2)))))) : xC xM j_M_uses [.ref 0, .int a1] σ Q := sm_wp_C (M := m_M_uses) rfl [] 14 h
set_option maxRecDepth 100000 in
set_option maxHeartbeats 4000000 in
theorem w_M_valueOf (a1 : Int32) (σ : sm_S) (Q : Option Value → sm_S → Prop) (h : xC xM j_M_frameAt [.ref 0, .int a1] σ (sm_ri False (fun x2 σ1 => (vp_in (x2 + 2) 2662 ∧ Q (some (.int (σ1 1 ((x2 + 2)).toNatClampNeg))) σ1)))) : xC xM j_M_valueOf [.ref 0, .int a1] σ Q := sm_wp_C (M := m_M_valueOf) rfl [] 10 h
set_option maxRecDepth 100000 in
set_option maxHeartbeats 4000000 in
theorem w_M_write (a1 a2 a3 a4 : Int32) (σ : sm_S) (Q : Option Value → sm_S → Prop) (h : (∀ σ1, σ1 = sm_set σ 0 (upd (σ 0) 0 0) → xC xM j_M_canDo [.ref 0, .int a1, .int a2] σ1 (sm_ri False (fun x3 σ2 => ((x3 = 0 → Q (some (.int (-1))) σ2) ∧ (¬ (x3 = 0) → xC xM j_M_longOf [.ref 0, .int a2] σ2 (sm_ri False (fun x5 σ4 => xC xM j_M_isIn [.ref 0, .int a3, .int 0, .int (x5 - 1)] σ4 (sm_ri False (fun x7 σ6 => ((x7 = 0 → Q (some (.int (-1))) σ6) ∧ (¬ (x7 = 0) → xC xM j_M_wants [.ref 0, .int a1, .int a2, .int 1, .int a3, .int a4] σ6 (sm_ri False (fun x9 σ8 => Q (some (.int x9)) σ8)))))))))))))) : xC xM j_M_write [.ref 0, .int a1, .int a2, .int a3, .int a4] σ Q := sm_wp_C (M := m_M_write) rfl [] 28 h
set_option maxRecDepth 100000 in
set_option maxHeartbeats 4000000 in
theorem w_M_pin (a1 a2 : Int32) (σ : sm_S) (Q : Option Value → sm_S → Prop) (h : (∀ σ1, σ1 = sm_set σ 0 (upd (σ 0) 0 0) → xC xM j_M_canDo [.ref 0, .int a1, .int a2] σ1 (sm_ri False (fun x3 σ2 => ((x3 = 0 → Q (some (.int (-1))) σ2) ∧ (¬ (x3 = 0) → xC xM j_M_hasPin [.ref 0, .int a1, .int a2] σ2 (sm_ri False (fun x5 σ4 => ((x5 ≠ 0 → Q (some (.int (-1))) σ4) ∧ (¬ (x5 ≠ 0) → xC xM j_M_wants [.ref 0, .int a1, .int a2, .int 2, .int 0, .int 0] σ4 (sm_ri False (fun x7 σ6 => Q (some (.int x7)) σ6)))))))))))) : xC xM j_M_pin [.ref 0, .int a1, .int a2] σ Q := sm_wp_C (M := m_M_pin) rfl [] 23 h
set_option maxRecDepth 100000 in
set_option maxHeartbeats 4000000 in
theorem w_M_hasPin (a1 a2 : Int32) (σ : sm_S) (Q : Option Value → sm_S → Prop) (h : xC xM j_M_of [.ref 0, .int a2, .int 5] σ (sm_ri False (fun x2 σ1 => ((((x2 >>> (a1 &&& 31)) &&& 1) ≠ 1 → (((0 : Int32) = 0 ∨ (0 : Int32) = 1) ∧ Q (some (.int 0)) σ1)) ∧ (¬ (((x2 >>> (a1 &&& 31)) &&& 1) ≠ 1) → (((1 : Int32) = 0 ∨ (1 : Int32) = 1) ∧ Q (some (.int 1)) σ1)))))) : xC xM j_M_hasPin [.ref 0, .int a1, .int a2] σ Q := sm_wp_C (M := m_M_hasPin) rfl [] 14 h
set_option maxRecDepth 100000 in
set_option maxHeartbeats 4000000 in
theorem w_M_unpin (a1 a2 : Int32) (σ : sm_S) (Q : Option Value → sm_S → Prop) (h : (∀ σ1, σ1 = sm_set σ 0 (upd (σ 0) 0 0) → xC xM j_M_isTask [.ref 0, .int a1] σ1 (sm_ri False (fun x3 σ2 => ((x3 = 0 → (((0 : Int32) = 0 ∨ (0 : Int32) = 1) ∧ Q (some (.int 0)) σ2)) ∧ (¬ (x3 = 0) → xC xM j_M_isBlock [.ref 0, .int a2] σ2 (sm_ri False (fun x5 σ4 => ((x5 = 0 → (((0 : Int32) = 0 ∨ (0 : Int32) = 1) ∧ Q (some (.int 0)) σ4)) ∧ (¬ (x5 = 0) → xC xM j_M_hasPin [.ref 0, .int a1, .int a2] σ4 (sm_ri False (fun x7 σ6 => ((x7 ≠ 0 → xC xM j_M_of [.ref 0, .int a2, .int 5] σ6 (sm_ri False (fun x9 σ8 => xC xM j_M_lay [.ref 0, .int a2, .int 5, .int (x9 &&& (((1 : Int32) <<< (a1 &&& 31)) ^^^ (-1)))] σ8 (sm_rv False (fun σ10 => (((1 : Int32) = 0 ∨ (1 : Int32) = 1) ∧ Q (some (.int 1)) σ10)))))) ∧ (¬ (x7 ≠ 0) → (((0 : Int32) = 0 ∨ (0 : Int32) = 1) ∧ Q (some (.int 0)) σ6))))))))))))))) : xC xM j_M_unpin [.ref 0, .int a1, .int a2] σ Q := sm_wp_C (M := m_M_unpin) rfl [] 33 h
set_option maxRecDepth 100000 in
set_option maxHeartbeats 4000000 in
theorem w_M_press (a1 : Int32) (σ : sm_S) (Q : Option Value → sm_S → Prop) (h : (∀ σ1, σ1 = sm_set σ 0 (upd (σ 0) 0 0) → xC xM j_M_isSpan [.ref 0, .int a1] σ1 (sm_ri False (fun x3 σ2 => ((x3 = 0 → Q (some (.int (-1))) σ2) ∧ (¬ (x3 = 0) → xC xM j_M_spanState [.ref 0, .int a1] σ2 (sm_ri False (fun x5 σ4 => ((x5 ≠ 1 → Q (some (.int (-1))) σ4) ∧ (¬ (x5 ≠ 1) → xC xM j_M_presses [.ref 0, .int a1] σ4 (sm_ri False (fun x7 σ6 => Q (some (.int x7)) σ6)))))))))))) : xC xM j_M_press [.ref 0, .int a1] σ Q := sm_wp_C (M := m_M_press) rfl [] 18 h
set_option maxRecDepth 100000 in
set_option maxHeartbeats 4000000 in
theorem w_M_isSpan (a1 : Int32) (σ : sm_S) (Q : Option Value → sm_S → Prop) (h : ((a1 < 0 → (((0 : Int32) = 0 ∨ (0 : Int32) = 1) ∧ Q (some (.int 0)) σ)) ∧ (¬ (a1 < 0) → ((8 ≤ a1 → (((0 : Int32) = 0 ∨ (0 : Int32) = 1) ∧ Q (some (.int 0)) σ)) ∧ (¬ (8 ≤ a1) → (((1 : Int32) = 0 ∨ (1 : Int32) = 1) ∧ Q (some (.int 1)) σ)))))) : xC xM j_M_isSpan [.ref 0, .int a1] σ Q := sm_wp_C (M := m_M_isSpan) rfl [] 9 h
set_option maxRecDepth 100000 in
set_option maxHeartbeats 4000000 in
theorem w_M_presses (a1 : Int32) (σ : sm_S) (Q : Option Value → sm_S → Prop) (h : xE xM m_M_presses 4 [.ref 0, .int a1, .int 0, .int 0, .null] [] σ Q) : xC xM j_M_presses [.ref 0, .int a1] σ Q := sm_wp_C (M := m_M_presses) rfl [4, 29, 47] 5 h
set_option maxRecDepth 100000 in
set_option maxHeartbeats 4000000 in
theorem w_M_presses_4 (a1 a2 a3 : Int32) (v4 : Value) (σ : sm_S) (Q : Option Value → sm_S → Prop) (h : ((96 ≤ a3 → xC xM j_M_nextToPress [.ref 0, .int a1] σ (sm_ri False (fun x2 σ1 => xE xM m_M_presses 29 [.ref 0, .int a1, .int a2, .int x2, v4] [] σ1 Q))) ∧ (¬ (96 ≤ a3) → (vp_in a3 96 ∧ (((0 : Int32) = 0 ∨ (0 : Int32) = 1) ∧ ∀ σ3, σ3 = sm_set σ 4 (upd (σ 4) (a3).toNatClampNeg 0) → xE xM m_M_presses 4 [.ref 0, .int a1, .int a2, .int (a3 + 1), v4] [] σ3 Q))))) : xE xM m_M_presses 4 [.ref 0, .int a1, .int a2, .int a3, v4] [] σ Q := sm_wp_E (M := m_M_presses) [4, 29, 47] 11 h
set_option maxRecDepth 100000 in
set_option maxHeartbeats 4000000 in
theorem w_M_presses_29 (a1 a2 a3 : Int32) (v4 : Value) (σ : sm_S) (Q : Option Value → sm_S → Prop) (h : ((a3 = (-1) → Q (some (.int a2)) σ) ∧ (¬ (a3 = (-1)) → (vp_in a3 96 ∧ (((1 : Int32) = 0 ∨ (1 : Int32) = 1) ∧ ∀ σ1, σ1 = sm_set σ 4 (upd (σ 4) (a3).toNatClampNeg 1) → xE xM m_M_presses 47 [.ref 0, .int a1, .int a2, .int a3, .int (32 * a1)] [] σ1 Q))))) : xE xM m_M_presses 29 [.ref 0, .int a1, .int a2, .int a3, v4] [] σ Q := sm_wp_E (M := m_M_presses) [4, 29, 47] 13 h
set_option maxRecDepth 100000 in
set_option maxHeartbeats 4000000 in
theorem w_M_presses_47 (a1 a2 a3 a4 : Int32) (σ : sm_S) (Q : Option Value → sm_S → Prop) (h : xC xM j_M_frameOf [.ref 0, .int a3] σ (sm_ri False (fun x2 σ1 => ((x2 ≤ a4 → xC xM j_M_frameOf [.ref 0, .int a3] σ1 (sm_ri False (fun x4 σ3 => ((a4 < x4 → xC xM j_M_movesTo [.ref 0, .int a3, .int a4] σ3 (sm_rv False (fun σ5 => xC xM j_M_nextToPress [.ref 0, .int a1] σ5 (sm_ri False (fun x7 σ6 => xE xM m_M_presses 29 [.ref 0, .int a1, .int (a2 + 1), .int x7, .int a4] [] σ6 Q))))) ∧ (¬ (a4 < x4) → xC xM j_M_nextToPress [.ref 0, .int a1] σ3 (sm_ri False (fun x9 σ8 => xE xM m_M_presses 29 [.ref 0, .int a1, .int a2, .int x9, .int a4] [] σ8 Q))))))) ∧ (¬ (x2 ≤ a4) → xC xM j_M_of [.ref 0, .int a3, .int 2] σ1 (sm_ri False (fun x11 σ10 => xC xM j_M_areFree [.ref 0, .int a4, .int x11] σ10 (sm_ri False (fun x13 σ12 => ((x13 ≠ 0 → xC xM j_M_frameOf [.ref 0, .int a3] σ12 (sm_ri False (fun x15 σ14 => ((a4 < x15 → xC xM j_M_movesTo [.ref 0, .int a3, .int a4] σ14 (sm_rv False (fun σ16 => xC xM j_M_nextToPress [.ref 0, .int a1] σ16 (sm_ri False (fun x18 σ17 => xE xM m_M_presses 29 [.ref 0, .int a1, .int (a2 + 1), .int x18, .int a4] [] σ17 Q))))) ∧ (¬ (a4 < x15) → xC xM j_M_nextToPress [.ref 0, .int a1] σ14 (sm_ri False (fun x20 σ19 => xE xM m_M_presses 29 [.ref 0, .int a1, .int a2, .int x20, .int a4] [] σ19 Q))))))) ∧ (¬ (x13 ≠ 0) → xC xM j_M_longOf [.ref 0, .int a3] σ12 (sm_ri False (fun x22 σ21 => xE xM m_M_presses 47 [.ref 0, .int a1, .int a2, .int a3, .int (a4 + x22)] [] σ21 Q))))))))))))) : xE xM m_M_presses 47 [.ref 0, .int a1, .int a2, .int a3, .int a4] [] σ Q := sm_wp_E (M := m_M_presses) [4, 29, 47] 32 h
set_option maxRecDepth 100000 in
set_option maxHeartbeats 4000000 in
theorem w_M_nextToPress (a1 : Int32) (σ : sm_S) (Q : Option Value → sm_S → Prop) (h : xE xM m_M_nextToPress 4 [.ref 0, .int a1, .int (-1), .int 0] [] σ Q) : xC xM j_M_nextToPress [.ref 0, .int a1] σ Q := sm_wp_C (M := m_M_nextToPress) rfl [4] 5 h
set_option maxRecDepth 100000 in
set_option maxHeartbeats 4000000 in
theorem w_M_nextToPress_4 (a1 a2 a3 : Int32) (σ : sm_S) (Q : Option Value → sm_S → Prop) (h : ((96 ≤ a3 → Q (some (.int a2)) σ) ∧ (¬ (96 ≤ a3) → xC xM j_M_isBlock [.ref 0, .int a3] σ (sm_ri False (fun x2 σ1 => ((x2 = 0 → xE xM m_M_nextToPress 4 [.ref 0, .int a1, .int a2, .int (a3 + 1)] [] σ1 Q) ∧ (¬ (x2 = 0) → (vp_in a3 96 ∧ (((σ1 4 (a3).toNatClampNeg) ≠ 0 → xE xM m_M_nextToPress 4 [.ref 0, .int a1, .int a2, .int (a3 + 1)] [] σ1 Q) ∧ (¬ ((σ1 4 (a3).toNatClampNeg) ≠ 0) → xC xM j_M_frameOf [.ref 0, .int a3] σ1 (sm_ri False (fun x4 σ3 => xC xM j_M_spanOf [.ref 0, .int x4] σ3 (sm_ri False (fun x6 σ5 => ((x6 ≠ a1 → xE xM m_M_nextToPress 4 [.ref 0, .int a1, .int a2, .int (a3 + 1)] [] σ5 Q) ∧ (¬ (x6 ≠ a1) → xC xM j_M_isLoose [.ref 0, .int a3] σ5 (sm_ri False (fun x8 σ7 => ((x8 = 0 → xE xM m_M_nextToPress 4 [.ref 0, .int a1, .int a2, .int (a3 + 1)] [] σ7 Q) ∧ (¬ (x8 = 0) → ((a2 = (-1) → xE xM m_M_nextToPress 4 [.ref 0, .int a1, .int a3, .int (a3 + 1)] [] σ7 Q) ∧ (¬ (a2 = (-1)) → xC xM j_M_frameOf [.ref 0, .int a3] σ7 (sm_ri False (fun x10 σ9 => xC xM j_M_frameOf [.ref 0, .int a2] σ9 (sm_ri False (fun x12 σ11 => ((x10 ≤ x12 → xE xM m_M_nextToPress 4 [.ref 0, .int a1, .int a2, .int (a3 + 1)] [] σ11 Q) ∧ (¬ (x10 ≤ x12) → xE xM m_M_nextToPress 4 [.ref 0, .int a1, .int a3, .int (a3 + 1)] [] σ11 Q)))))))))))))))))))))))))))) : xE xM m_M_nextToPress 4 [.ref 0, .int a1, .int a2, .int a3] [] σ Q := sm_wp_E (M := m_M_nextToPress) [4] 38 h
set_option maxRecDepth 100000 in
set_option maxHeartbeats 4000000 in
theorem w_M_isLoose (a1 : Int32) (σ : sm_S) (Q : Option Value → sm_S → Prop) (h : xC xM j_M_of [.ref 0, .int a1, .int 3] σ (sm_ri False (fun x2 σ1 => ((x2 ≠ 0 → (((0 : Int32) = 0 ∨ (0 : Int32) = 1) ∧ Q (some (.int 0)) σ1)) ∧ (¬ (x2 ≠ 0) → xC xM j_M_isPinned [.ref 0, .int a1] σ1 (sm_ri False (fun x4 σ3 => ((x4 ≠ 0 → (((0 : Int32) = 0 ∨ (0 : Int32) = 1) ∧ Q (some (.int 0)) σ3)) ∧ (¬ (x4 ≠ 0) → xC xM j_M_isOnWay [.ref 0, .int a1] σ3 (sm_ri False (fun x6 σ5 => ((x6 ≠ 0 → (((0 : Int32) = 0 ∨ (0 : Int32) = 1) ∧ Q (some (.int 0)) σ5)) ∧ (¬ (x6 ≠ 0) → (((1 : Int32) = 0 ∨ (1 : Int32) = 1) ∧ Q (some (.int 1)) σ5)))))))))))))) : xC xM j_M_isLoose [.ref 0, .int a1] σ Q := sm_wp_C (M := m_M_isLoose) rfl [] 17 h
set_option maxRecDepth 100000 in
set_option maxHeartbeats 4000000 in
theorem w_M_movesTo (a1 a2 : Int32) (σ : sm_S) (Q : Option Value → sm_S → Prop) (h : xC xM j_M_frameOf [.ref 0, .int a1] σ (sm_ri False (fun x2 σ1 => xE xM m_M_movesTo 9 [.ref 0, .int a1, .int a2, .int x2, .int 0] [] σ1 Q))) : xC xM j_M_movesTo [.ref 0, .int a1, .int a2] σ Q := sm_wp_C (M := m_M_movesTo) rfl [9] 7 h
set_option maxRecDepth 100000 in
set_option maxHeartbeats 4000000 in
theorem w_M_movesTo_9 (a1 a2 a3 a4 : Int32) (σ : sm_S) (Q : Option Value → sm_S → Prop) (h : xC xM j_M_longOf [.ref 0, .int a1] σ (sm_ri False (fun x2 σ1 => ((x2 ≤ a4 → xC xM j_M_lay [.ref 0, .int a1, .int 1, .int a2] σ1 (sm_rv False (fun σ3 => xC xM j_M_counts [.ref 0, .int 10, .int 1] σ3 (sm_rv False (fun σ4 => Q none σ4))))) ∧ (¬ (x2 ≤ a4) → xC xM j_M_has [.ref 0, .int (a2 + a4), .int a1, .int 3] σ1 (sm_rv False (fun σ5 => xC xM j_M_valueOf [.ref 0, .int (a3 + a4)] σ5 (sm_ri False (fun x7 σ6 => xC xM j_M_lays [.ref 0, .int (a2 + a4), .int x7] σ6 (sm_rv False (fun σ8 => xC xM j_M_leaves [.ref 0, .int (a3 + a4)] σ8 (sm_rv False (fun σ9 => xE xM m_M_movesTo 9 [.ref 0, .int a1, .int a2, .int a3, .int (a4 + 1)] [] σ9 Q))))))))))))) : xE xM m_M_movesTo 9 [.ref 0, .int a1, .int a2, .int a3, .int a4] [] σ Q := sm_wp_E (M := m_M_movesTo) [9] 30 h
set_option maxRecDepth 100000 in
set_option maxHeartbeats 4000000 in
theorem w_M_gather (a1 : Int32) (σ : sm_S) (Q : Option Value → sm_S → Prop) (h : (∀ σ1, σ1 = sm_set σ 0 (upd (σ 0) 0 0) → xC xM j_M_isTask [.ref 0, .int a1] σ1 (sm_ri False (fun x3 σ2 => ((x3 ≠ 0 → xE xM m_M_gather 19 [.ref 0, .int a1, .int 0, .int 0, .null] [] σ2 Q) ∧ (¬ (x3 ≠ 0) → Q (some (.int (-1))) σ2)))))) : xC xM j_M_gather [.ref 0, .int a1] σ Q := sm_wp_C (M := m_M_gather) rfl [19] 12 h
set_option maxRecDepth 100000 in
set_option maxHeartbeats 4000000 in
theorem w_M_gather_19 (a1 a2 a3 : Int32) (v4 : Value) (σ : sm_S) (Q : Option Value → sm_S → Prop) (h : ((96 ≤ a3 → Q (some (.int a2)) σ) ∧ (¬ (96 ≤ a3) → xC xM j_M_isBlock [.ref 0, .int a3] σ (sm_ri False (fun x2 σ1 => ((x2 = 0 → xE xM m_M_gather 19 [.ref 0, .int a1, .int a2, .int (a3 + 1), v4] [] σ1 Q) ∧ (¬ (x2 = 0) → xC xM j_M_of [.ref 0, .int a3, .int 4] σ1 (sm_ri False (fun x4 σ3 => ((x4 ≠ a1 → xE xM m_M_gather 19 [.ref 0, .int a1, .int a2, .int (a3 + 1), v4] [] σ3 Q) ∧ (¬ (x4 ≠ a1) → xC xM j_M_isLoose [.ref 0, .int a3] σ3 (sm_ri False (fun x6 σ5 => ((x6 = 0 → xE xM m_M_gather 19 [.ref 0, .int a1, .int a2, .int (a3 + 1), v4] [] σ5 Q) ∧ (¬ (x6 = 0) → xC xM j_M_frameOf [.ref 0, .int a3] σ5 (sm_ri False (fun x8 σ7 => xC xM j_M_spanOf [.ref 0, .int x8] σ7 (sm_ri False (fun x10 σ9 => xC xM j_M_spanState [.ref 0, .int x10] σ9 (sm_ri False (fun x12 σ11 => ((x12 = 1 → xC xM j_M_of [.ref 0, .int a3, .int 2] σ11 (sm_ri False (fun x14 σ13 => xC xM j_M_bestPlace [.ref 0, .int a1, .int 0, .int x14, .int 1] σ13 (sm_ri False (fun x16 σ15 => ((x16 = (-1) → xE xM m_M_gather 19 [.ref 0, .int a1, .int a2, .int (a3 + 1), .int x16] [] σ15 Q) ∧ (¬ (x16 = (-1)) → xC xM j_M_spanOf [.ref 0, .int x16] σ15 (sm_ri False (fun x18 σ17 => xC xM j_M_rankOf [.ref 0, .int x18, .int 0, .int a1] σ17 (sm_ri False (fun x20 σ19 => xC xM j_M_frameOf [.ref 0, .int a3] σ19 (sm_ri False (fun x22 σ21 => xC xM j_M_spanOf [.ref 0, .int x22] σ21 (sm_ri False (fun x24 σ23 => xC xM j_M_rankOf [.ref 0, .int x24, .int 0, .int a1] σ23 (sm_ri False (fun x26 σ25 => ((x20 < x26 → xC xM j_M_movesTo [.ref 0, .int a3, .int x16] σ25 (sm_rv False (fun σ27 => xE xM m_M_gather 19 [.ref 0, .int a1, .int (a2 + 1), .int (a3 + 1), .int x16] [] σ27 Q))) ∧ (¬ (x20 < x26) → xE xM m_M_gather 19 [.ref 0, .int a1, .int a2, .int (a3 + 1), .int x16] [] σ25 Q))))))))))))))))))) ∧ (¬ (x12 = 1) → xE xM m_M_gather 19 [.ref 0, .int a1, .int a2, .int (a3 + 1), v4] [] σ11 Q))))))))))))))))))))))) : xE xM m_M_gather 19 [.ref 0, .int a1, .int a2, .int a3, v4] [] σ Q := sm_wp_E (M := m_M_gather) [19] 67 h
set_option maxRecDepth 100000 in
set_option maxHeartbeats 4000000 in
theorem w_M_come (a1 a2 : Int32) (σ : sm_S) (Q : Option Value → sm_S → Prop) (h : (∀ σ1, σ1 = sm_set σ 0 (upd (σ 0) 0 0) → xC xM j_M_isSpan [.ref 0, .int a1] σ1 (sm_ri False (fun x3 σ2 => ((x3 = 0 → Q (some (.int (-1))) σ2) ∧ (¬ (x3 = 0) → xC xM j_M_spanState [.ref 0, .int a1] σ2 (sm_ri False (fun x5 σ4 => ((x5 ≠ 0 → Q (some (.int (-1))) σ4) ∧ (¬ (x5 ≠ 0) → xC xM j_M_isIn [.ref 0, .int a2, .int 0, .int 2] σ4 (sm_ri False (fun x7 σ6 => ((x7 ≠ 0 → ((a2 ≠ 2 → xC xM j_M_comesOn [.ref 0, .int a1, .int a2] σ6 (sm_ri False (fun x9 σ8 => Q (some (.int x9)) σ8))) ∧ (¬ (a2 ≠ 2) → xC xM j_M_zoneByRatio [.ref 0] σ6 (sm_ri False (fun x11 σ10 => xC xM j_M_comesOn [.ref 0, .int a1, .int x11] σ10 (sm_ri False (fun x13 σ12 => Q (some (.int x13)) σ12))))))) ∧ (¬ (x7 ≠ 0) → Q (some (.int (-1))) σ6)))))))))))))) : xC xM j_M_come [.ref 0, .int a1, .int a2] σ Q := sm_wp_C (M := m_M_come) rfl [] 28 h
set_option maxRecDepth 100000 in
set_option maxHeartbeats 4000000 in
theorem w_M_zoneByRatio (σ : sm_S) (Q : Option Value → sm_S → Prop) (h : xC xM j_M_framesOf [.ref 0, .int 1] σ (sm_ri False (fun x2 σ1 => xC xM j_M_settingOf [.ref 0, .int 2] σ1 (sm_ri False (fun x4 σ3 => xC xM j_M_framesOf [.ref 0, .int 0] σ3 (sm_ri False (fun x6 σ5 => (((x4 * x6) < (100 * (x2 + 32)) → Q (some (.int 0)) σ5) ∧ (¬ ((x4 * x6) < (100 * (x2 + 32))) → Q (some (.int 1)) σ5))))))))) : xC xM j_M_zoneByRatio [.ref 0] σ Q := sm_wp_C (M := m_M_zoneByRatio) rfl [] 19 h
set_option maxRecDepth 100000 in
set_option maxHeartbeats 4000000 in
theorem w_M_framesOf (a1 : Int32) (σ : sm_S) (Q : Option Value → sm_S → Prop) (h : xE xM m_M_framesOf 4 [.ref 0, .int a1, .int 0, .int 0] [] σ Q) : xC xM j_M_framesOf [.ref 0, .int a1] σ Q := sm_wp_C (M := m_M_framesOf) rfl [4] 5 h
set_option maxRecDepth 100000 in
set_option maxHeartbeats 4000000 in
theorem w_M_framesOf_4 (a1 a2 a3 : Int32) (σ : sm_S) (Q : Option Value → sm_S → Prop) (h : ((8 ≤ a3 → Q (some (.int a2)) σ) ∧ (¬ (8 ≤ a3) → xC xM j_M_zoneOf [.ref 0, .int a3] σ (sm_ri False (fun x2 σ1 => ((x2 ≠ a1 → xE xM m_M_framesOf 4 [.ref 0, .int a1, .int a2, .int (a3 + 1)] [] σ1 Q) ∧ (¬ (x2 ≠ a1) → xE xM m_M_framesOf 4 [.ref 0, .int a1, .int (a2 + 32), .int (a3 + 1)] [] σ1 Q))))))) : xE xM m_M_framesOf 4 [.ref 0, .int a1, .int a2, .int a3] [] σ Q := sm_wp_E (M := m_M_framesOf) [4] 15 h
set_option maxRecDepth 100000 in
set_option maxHeartbeats 4000000 in
theorem w_M_settingOf (a1 : Int32) (σ : sm_S) (Q : Option Value → sm_S → Prop) (h : (vp_in a1 2662 ∧ xC xM j_M_firstOf [.ref 0, .int a1] σ (sm_ri False (fun x2 σ1 => Q (some (.int ((σ 1 (a1).toNatClampNeg) + x2))) σ1)))) : xC xM j_M_settingOf [.ref 0, .int a1] σ Q := sm_wp_C (M := m_M_settingOf) rfl [] 10 h
set_option maxRecDepth 100000 in
set_option maxHeartbeats 4000000 in
theorem w_M_comesOn (a1 a2 : Int32) (σ : sm_S) (Q : Option Value → sm_S → Prop) (h : xC xM j_M_spanAt [.ref 0, .int a1] σ (sm_ri False (fun x2 σ1 => (vp_in (x2 + 0) 2662 ∧ ∀ σ3, σ3 = sm_set σ1 1 (upd (σ1 1) ((x2 + 0)).toNatClampNeg 1) → xC xM j_M_spanAt [.ref 0, .int a1] σ3 (sm_ri False (fun x5 σ4 => (vp_in (x5 + 1) 2662 ∧ ∀ σ6, σ6 = sm_set σ4 1 (upd (σ4 1) ((x5 + 1)).toNatClampNeg a2) → xE xM m_M_comesOn 31 [.ref 0, .int a1, .int a2, .int (32 * a1)] [] σ6 Q))))))) : xC xM j_M_comesOn [.ref 0, .int a1, .int a2] σ Q := sm_wp_C (M := m_M_comesOn) rfl [31] 23 h
set_option maxRecDepth 100000 in
set_option maxHeartbeats 4000000 in
theorem w_M_comesOn_31 (a1 a2 a3 : Int32) (σ : sm_S) (Q : Option Value → sm_S → Prop) (h : ((((32 * a1) + 32) ≤ a3 → xC xM j_M_writes [.ref 0, .int 3, .int a1, .int a2] σ (sm_rv False (fun σ1 => Q (some (.int a2)) σ1))) ∧ (¬ (((32 * a1) + 32) ≤ a3) → xC xM j_M_frameAt [.ref 0, .int a3] σ (sm_ri False (fun x3 σ2 => (vp_in (x3 + 0) 2662 ∧ ∀ σ4, σ4 = sm_set σ2 1 (upd (σ2 1) ((x3 + 0)).toNatClampNeg 1) → xE xM m_M_comesOn 31 [.ref 0, .int a1, .int a2, .int (a3 + 1)] [] σ4 Q)))))) : xE xM m_M_comesOn 31 [.ref 0, .int a1, .int a2, .int a3] [] σ Q := sm_wp_E (M := m_M_comesOn) [31] 19 h
set_option maxRecDepth 100000 in
set_option maxHeartbeats 4000000 in
theorem w_M_byTurns (a1 : Int32) (σ : sm_S) (Q : Option Value → sm_S → Prop) (h : (∀ σ1, σ1 = sm_set σ 0 (upd (σ 0) 0 0) → xC xM j_M_isIn [.ref 0, .int a1, .int 1, .int 8] σ1 (sm_ri False (fun x3 σ2 => ((x3 ≠ 0 → xE xM m_M_byTurns 20 [.ref 0, .int a1, .int 0] [] σ2 Q) ∧ (¬ (x3 ≠ 0) → Q (some (.int (-1))) σ2)))))) : xC xM j_M_byTurns [.ref 0, .int a1] σ Q := sm_wp_C (M := m_M_byTurns) rfl [20] 12 h
set_option maxRecDepth 100000 in
set_option maxHeartbeats 4000000 in
theorem w_M_byTurns_20 (a1 a2 : Int32) (σ : sm_S) (Q : Option Value → sm_S → Prop) (h : ((a1 ≤ a2 → Q (some (.int a2)) σ) ∧ (¬ (a1 ≤ a2) → xC xM j_M_turnOf [.ref 0] σ (sm_ri False (fun x2 σ1 => ((x2 = (-1) → Q (some (.int a2)) σ1) ∧ (¬ (x2 = (-1)) → xC xM j_M_turnOf [.ref 0] σ1 (sm_ri False (fun x4 σ3 => xC xM j_M_zoneByRatio [.ref 0] σ3 (sm_ri False (fun x6 σ5 => xC xM j_M_comesOn [.ref 0, .int x4, .int x6] σ5 (sm_ri False (fun x8 σ7 => xE xM m_M_byTurns 20 [.ref 0, .int a1, .int (a2 + 1)] [] σ7 Q))))))))))))) : xE xM m_M_byTurns 20 [.ref 0, .int a1, .int a2] [] σ Q := sm_wp_E (M := m_M_byTurns) [20] 20 h
set_option maxRecDepth 100000 in
set_option maxHeartbeats 4000000 in
theorem w_M_turnOf (σ : sm_S) (Q : Option Value → sm_S → Prop) (h : xC xM j_M_manyOfNode [.ref 0, .int 0, .int 1] σ (sm_ri False (fun x2 σ1 => ((x2 ≤ 0 → xE xM m_M_turnOf 41 [.ref 0, .int 1, .int 1] [] σ1 Q) ∧ (¬ (x2 ≤ 0) → xC xM j_M_manyOfNode [.ref 0, .int 1, .int 1] σ1 (sm_ri False (fun x4 σ3 => ((x4 = 0 → xE xM m_M_turnOf 41 [.ref 0, .int 0, .int 0] [] σ3 Q) ∧ (¬ (x4 = 0) → xC xM j_M_manyOfNode [.ref 0, .int 0, .int 0] σ3 (sm_ri False (fun x6 σ5 => xC xM j_M_manyOfNode [.ref 0, .int 1, .int 0] σ5 (sm_ri False (fun x8 σ7 => ((x8 < x6 → xE xM m_M_turnOf 41 [.ref 0, .int 1, .int 1] [] σ7 Q) ∧ (¬ (x8 < x6) → xE xM m_M_turnOf 41 [.ref 0, .int 0, .int 0] [] σ7 Q))))))))))))))) : xC xM j_M_turnOf [.ref 0] σ Q := sm_wp_C (M := m_M_turnOf) rfl [41] 25 h
set_option maxRecDepth 100000 in
set_option maxHeartbeats 4000000 in
theorem w_M_turnOf_41 (a1 a2 : Int32) (σ : sm_S) (Q : Option Value → sm_S → Prop) (h : ((8 ≤ a2 → Q (some (.int (-1))) σ) ∧ (¬ (8 ≤ a2) → xC xM j_M_spanState [.ref 0, .int a2] σ (sm_ri False (fun x2 σ1 => ((x2 ≠ 0 → xE xM m_M_turnOf 41 [.ref 0, .int a1, .int (a2 + 2)] [] σ1 Q) ∧ (¬ (x2 ≠ 0) → Q (some (.int a2)) σ1))))))) : xE xM m_M_turnOf 41 [.ref 0, .int a1, .int a2] [] σ Q := sm_wp_E (M := m_M_turnOf) [41] 13 h
set_option maxRecDepth 100000 in
set_option maxHeartbeats 4000000 in
theorem w_M_manyOfNode (a1 a2 : Int32) (σ : sm_S) (Q : Option Value → sm_S → Prop) (h : xE xM m_M_manyOfNode 5 [.ref 0, .int a1, .int a2, .int 0, .int a1] [] σ Q) : xC xM j_M_manyOfNode [.ref 0, .int a1, .int a2] σ Q := sm_wp_C (M := m_M_manyOfNode) rfl [5] 5 h
set_option maxRecDepth 100000 in
set_option maxHeartbeats 4000000 in
theorem w_M_manyOfNode_5 (a1 a2 a3 a4 : Int32) (σ : sm_S) (Q : Option Value → sm_S → Prop) (h : ((8 ≤ a4 → Q (some (.int a3)) σ) ∧ (¬ (8 ≤ a4) → xC xM j_M_spanState [.ref 0, .int a4] σ (sm_ri False (fun x2 σ1 => ((x2 ≠ 0 → ((0 ≠ a2 → xE xM m_M_manyOfNode 5 [.ref 0, .int a1, .int a2, .int a3, .int (a4 + 2)] [] σ1 Q) ∧ (¬ (0 ≠ a2) → xE xM m_M_manyOfNode 5 [.ref 0, .int a1, .int a2, .int (a3 + 1), .int (a4 + 2)] [] σ1 Q))) ∧ (¬ (x2 ≠ 0) → ((1 ≠ a2 → xE xM m_M_manyOfNode 5 [.ref 0, .int a1, .int a2, .int a3, .int (a4 + 2)] [] σ1 Q) ∧ (¬ (1 ≠ a2) → xE xM m_M_manyOfNode 5 [.ref 0, .int a1, .int a2, .int (a3 + 1), .int (a4 + 2)] [] σ1 Q))))))))) : xE xM m_M_manyOfNode 5 [.ref 0, .int a1, .int a2, .int a3, .int a4] [] σ Q := sm_wp_E (M := m_M_manyOfNode) [5] 21 h
set_option maxRecDepth 100000 in
set_option maxHeartbeats 4000000 in
theorem w_M_movable (σ : sm_S) (Q : Option Value → sm_S → Prop) (h : (∀ σ1, σ1 = sm_set σ 0 (upd (σ 0) 0 0) → xC xM j_M_thinks [.ref 0] σ1 (sm_rv False (fun σ2 => xE xM m_M_movable 11 [.ref 0, .int 0] [] σ2 Q)))) : xC xM j_M_movable [.ref 0] σ Q := sm_wp_C (M := m_M_movable) rfl [11] 8 h
set_option maxRecDepth 100000 in
set_option maxHeartbeats 4000000 in
theorem w_M_movable_11 (a1 : Int32) (σ : sm_S) (Q : Option Value → sm_S → Prop) (h : xC xM j_M_turnOf [.ref 0] σ (sm_ri False (fun x2 σ1 => ((x2 = (-1) → xC xM j_M_forgets [.ref 0] σ1 (sm_rv False (fun σ3 => Q (some (.int a1)) σ3))) ∧ (¬ (x2 = (-1)) → xC xM j_M_zoneByRatio [.ref 0] σ1 (sm_ri False (fun x5 σ4 => ((x5 ≠ 1 → xC xM j_M_forgets [.ref 0] σ4 (sm_rv False (fun σ6 => Q (some (.int a1)) σ6))) ∧ (¬ (x5 ≠ 1) → xC xM j_M_turnOf [.ref 0] σ4 (sm_ri False (fun x8 σ7 => xC xM j_M_comesOn [.ref 0, .int x8, .int 1] σ7 (sm_ri False (fun x10 σ9 => xE xM m_M_movable 11 [.ref 0, .int (a1 + 1)] [] σ9 Q))))))))))))) : xE xM m_M_movable 11 [.ref 0, .int a1] [] σ Q := sm_wp_E (M := m_M_movable) [11] 20 h
set_option maxRecDepth 100000 in
set_option maxHeartbeats 4000000 in
theorem w_M_thinks (σ : sm_S) (Q : Option Value → sm_S → Prop) (h : xE xM m_M_thinks 2 [.ref 0, .int 0] [] σ Q) : xC xM j_M_thinks [.ref 0] σ Q := sm_wp_C (M := m_M_thinks) rfl [2] 3 h
set_option maxRecDepth 100000 in
set_option maxHeartbeats 4000000 in
theorem w_M_thinks_2 (a1 : Int32) (σ : sm_S) (Q : Option Value → sm_S → Prop) (h : ((2662 ≤ a1 → Q none σ) ∧ (¬ (2662 ≤ a1) → (vp_in a1 2662 ∧ (vp_in a1 2662 ∧ ∀ σ1, σ1 = sm_set σ 2 (upd (σ 2) (a1).toNatClampNeg (σ 1 (a1).toNatClampNeg)) → xE xM m_M_thinks 2 [.ref 0, .int (a1 + 1)] [] σ1 Q))))) : xE xM m_M_thinks 2 [.ref 0, .int a1] [] σ Q := sm_wp_E (M := m_M_thinks) [2] 14 h
set_option maxRecDepth 100000 in
set_option maxHeartbeats 4000000 in
theorem w_M_forgets (σ : sm_S) (Q : Option Value → sm_S → Prop) (h : xE xM m_M_forgets 2 [.ref 0, .int 0] [] σ Q) : xC xM j_M_forgets [.ref 0] σ Q := sm_wp_C (M := m_M_forgets) rfl [2] 3 h
set_option maxRecDepth 100000 in
set_option maxHeartbeats 4000000 in
theorem w_M_forgets_2 (a1 : Int32) (σ : sm_S) (Q : Option Value → sm_S → Prop) (h : ((2662 ≤ a1 → Q none σ) ∧ (¬ (2662 ≤ a1) → (vp_in a1 2662 ∧ (vp_in a1 2662 ∧ ∀ σ1, σ1 = sm_set σ 1 (upd (σ 1) (a1).toNatClampNeg (σ 2 (a1).toNatClampNeg)) → xE xM m_M_forgets 2 [.ref 0, .int (a1 + 1)] [] σ1 Q))))) : xE xM m_M_forgets 2 [.ref 0, .int a1] [] σ Q := sm_wp_E (M := m_M_forgets) [2] 14 h
set_option maxRecDepth 100000 in
set_option maxHeartbeats 4000000 in
theorem w_M_go (a1 : Int32) (σ : sm_S) (Q : Option Value → sm_S → Prop) (h : (∀ σ1, σ1 = sm_set σ 0 (upd (σ 0) 0 0) → xC xM j_M_canGo [.ref 0, .int a1] σ1 (sm_ri False (fun x3 σ2 => ((x3 ≠ 0 → xC xM j_M_beginsToGo [.ref 0, .int a1] σ2 (sm_rv False (fun σ4 => (((1 : Int32) = 0 ∨ (1 : Int32) = 1) ∧ Q (some (.int 1)) σ4)))) ∧ (¬ (x3 ≠ 0) → (((0 : Int32) = 0 ∨ (0 : Int32) = 1) ∧ Q (some (.int 0)) σ2))))))) : xC xM j_M_go [.ref 0, .int a1] σ Q := sm_wp_C (M := m_M_go) rfl [] 13 h
set_option maxRecDepth 100000 in
set_option maxHeartbeats 4000000 in
theorem w_M_canGo (a1 : Int32) (σ : sm_S) (Q : Option Value → sm_S → Prop) (h : xC xM j_M_isSpan [.ref 0, .int a1] σ (sm_ri False (fun x2 σ1 => ((x2 = 0 → (((0 : Int32) = 0 ∨ (0 : Int32) = 1) ∧ Q (some (.int 0)) σ1)) ∧ (¬ (x2 = 0) → xC xM j_M_spanState [.ref 0, .int a1] σ1 (sm_ri False (fun x4 σ3 => ((x4 ≠ 1 → (((0 : Int32) = 0 ∨ (0 : Int32) = 1) ∧ Q (some (.int 0)) σ3)) ∧ (¬ (x4 ≠ 1) → xC xM j_M_onMany [.ref 0, .int 0, .int a1] σ3 (sm_ri False (fun x6 σ5 => ((x6 ≤ 0 → (((0 : Int32) = 0 ∨ (0 : Int32) = 1) ∧ Q (some (.int 0)) σ5)) ∧ (¬ (x6 ≤ 0) → (((1 : Int32) = 0 ∨ (1 : Int32) = 1) ∧ Q (some (.int 1)) σ5)))))))))))))) : xC xM j_M_canGo [.ref 0, .int a1] σ Q := sm_wp_C (M := m_M_canGo) rfl [] 18 h
set_option maxRecDepth 100000 in
set_option maxHeartbeats 4000000 in
theorem w_M_onMany (a1 a2 : Int32) (σ : sm_S) (Q : Option Value → sm_S → Prop) (h : xE xM m_M_onMany 5 [.ref 0, .int a1, .int a2, .int 0, .int 0] [] σ Q) : xC xM j_M_onMany [.ref 0, .int a1, .int a2] σ Q := sm_wp_C (M := m_M_onMany) rfl [5] 5 h
set_option maxRecDepth 100000 in
set_option maxHeartbeats 4000000 in
theorem w_M_onMany_5 (a1 a2 a3 a4 : Int32) (σ : sm_S) (Q : Option Value → sm_S → Prop) (h : ((8 ≤ a4 → Q (some (.int a3)) σ) ∧ (¬ (8 ≤ a4) → ((a4 = a2 → xE xM m_M_onMany 5 [.ref 0, .int a1, .int a2, .int a3, .int (a4 + 1)] [] σ Q) ∧ (¬ (a4 = a2) → xC xM j_M_spanState [.ref 0, .int a4] σ (sm_ri False (fun x2 σ1 => ((x2 ≠ 1 → xE xM m_M_onMany 5 [.ref 0, .int a1, .int a2, .int a3, .int (a4 + 1)] [] σ1 Q) ∧ (¬ (x2 ≠ 1) → xC xM j_M_zoneOf [.ref 0, .int a4] σ1 (sm_ri False (fun x4 σ3 => ((x4 ≠ a1 → xE xM m_M_onMany 5 [.ref 0, .int a1, .int a2, .int a3, .int (a4 + 1)] [] σ3 Q) ∧ (¬ (x4 ≠ a1) → xE xM m_M_onMany 5 [.ref 0, .int a1, .int a2, .int (a3 + 1), .int (a4 + 1)] [] σ3 Q))))))))))))) : xE xM m_M_onMany 5 [.ref 0, .int a1, .int a2, .int a3, .int a4] [] σ Q := sm_wp_E (M := m_M_onMany) [5] 23 h
set_option maxRecDepth 100000 in
set_option maxHeartbeats 4000000 in
theorem w_M_beginsToGo (a1 : Int32) (σ : sm_S) (Q : Option Value → sm_S → Prop) (h : xC xM j_M_spanAt [.ref 0, .int a1] σ (sm_ri False (fun x2 σ1 => (vp_in (x2 + 0) 2662 ∧ ∀ σ3, σ3 = sm_set σ1 1 (upd (σ1 1) ((x2 + 0)).toNatClampNeg 2) → (vp_in (x2 + 2) 2662 ∧ ∀ σ4, σ4 = sm_set σ3 1 (upd (σ3 1) ((x2 + 2)).toNatClampNeg 0) → (vp_in (x2 + 3) 2662 ∧ ∀ σ5, σ5 = sm_set σ4 1 (upd (σ4 1) ((x2 + 3)).toNatClampNeg 0) → (vp_in (x2 + 4) 2662 ∧ ∀ σ6, σ6 = sm_set σ5 1 (upd (σ5 1) ((x2 + 4)).toNatClampNeg 0) → (vp_in (x2 + 5) 2662 ∧ ∀ σ7, σ7 = sm_set σ6 1 (upd (σ6 1) ((x2 + 5)).toNatClampNeg 0) → (vp_in (x2 + 6) 2662 ∧ ∀ σ8, σ8 = sm_set σ7 1 (upd (σ7 1) ((x2 + 6)).toNatClampNeg 0) → (¬ (2 : Int32) = 0 ∧ xC xM j_M_writes [.ref 0, .int 0, .int a1, .int (a1 - a1 / (2 : Int32) * (2 : Int32))] σ8 (sm_rv False (fun σ9 => Q none σ9)))))))))))) : xC xM j_M_beginsToGo [.ref 0, .int a1] σ Q := sm_wp_C (M := m_M_beginsToGo) rfl [] 55 h
set_option maxRecDepth 100000 in
set_option maxHeartbeats 4000000 in
theorem w_M_giveUp (a1 : Int32) (σ : sm_S) (Q : Option Value → sm_S → Prop) (h : (∀ σ1, σ1 = sm_set σ 0 (upd (σ 0) 0 0) → xC xM j_M_isSpan [.ref 0, .int a1] σ1 (sm_ri False (fun x3 σ2 => ((x3 = 0 → (((0 : Int32) = 0 ∨ (0 : Int32) = 1) ∧ Q (some (.int 0)) σ2)) ∧ (¬ (x3 = 0) → xC xM j_M_isGoing [.ref 0, .int a1] σ2 (sm_ri False (fun x5 σ4 => ((x5 ≠ 0 → xC xM j_M_fails [.ref 0, .int a1, .int 3] σ4 (sm_rv False (fun σ6 => (((1 : Int32) = 0 ∨ (1 : Int32) = 1) ∧ Q (some (.int 1)) σ6)))) ∧ (¬ (x5 ≠ 0) → (((0 : Int32) = 0 ∨ (0 : Int32) = 1) ∧ Q (some (.int 0)) σ4))))))))))) : xC xM j_M_giveUp [.ref 0, .int a1] σ Q := sm_wp_C (M := m_M_giveUp) rfl [] 18 h
set_option maxRecDepth 100000 in
set_option maxHeartbeats 4000000 in
theorem w_M_isGoing (a1 : Int32) (σ : sm_S) (Q : Option Value → sm_S → Prop) (h : xC xM j_M_spanState [.ref 0, .int a1] σ (sm_ri False (fun x2 σ1 => ((x2 < 2 → (((0 : Int32) = 0 ∨ (0 : Int32) = 1) ∧ Q (some (.int 0)) σ1)) ∧ (¬ (x2 < 2) → (((1 : Int32) = 0 ∨ (1 : Int32) = 1) ∧ Q (some (.int 1)) σ1)))))) : xC xM j_M_isGoing [.ref 0, .int a1] σ Q := sm_wp_C (M := m_M_isGoing) rfl [] 9 h
set_option maxRecDepth 100000 in
set_option maxHeartbeats 4000000 in
theorem w_M_fails (a1 a2 : Int32) (σ : sm_S) (Q : Option Value → sm_S → Prop) (h : xC xM j_M_staysBack [.ref 0, .int a1] σ (sm_rv False (fun σ1 => xC xM j_M_opens [.ref 0, .int a1] σ1 (sm_rv False (fun σ2 => xC xM j_M_spanAt [.ref 0, .int a1] σ2 (sm_ri False (fun x4 σ3 => (vp_in (x4 + 7) 2662 ∧ ∀ σ5, σ5 = sm_set σ3 1 (upd (σ3 1) ((x4 + 7)).toNatClampNeg (a2 + 1)) → xC xM j_M_counts [.ref 0, .int 7, .int 1] σ5 (sm_rv False (fun σ6 => xC xM j_M_writes [.ref 0, .int 2, .int a1, .int a2] σ6 (sm_rv False (fun σ7 => Q none σ7)))))))))))) : xC xM j_M_fails [.ref 0, .int a1, .int a2] σ Q := sm_wp_C (M := m_M_fails) rfl [] 28 h
set_option maxRecDepth 100000 in
set_option maxHeartbeats 4000000 in
theorem w_M_staysBack (a1 : Int32) (σ : sm_S) (Q : Option Value → sm_S → Prop) (h : xC xM j_M_spanAt [.ref 0, .int a1] σ (sm_ri False (fun x2 σ1 => (vp_in (x2 + 6) 2662 ∧ ((((σ1 1 ((x2 + 6)).toNatClampNeg) - 1) ≠ (-1) → xC xM j_M_of [.ref 0, .int ((σ1 1 ((x2 + 6)).toNatClampNeg) - 1), .int 6] σ1 (sm_ri False (fun x4 σ3 => xE xM m_M_staysBack 35 [.ref 0, .int a1, .int ((σ1 1 ((x2 + 6)).toNatClampNeg) - 1), .int (x4 - 1), .int 0] [] σ3 Q))) ∧ (¬ (((σ1 1 ((x2 + 6)).toNatClampNeg) - 1) ≠ (-1)) → Q none σ1)))))) : xC xM j_M_staysBack [.ref 0, .int a1] σ Q := sm_wp_C (M := m_M_staysBack) rfl [35] 24 h
set_option maxRecDepth 100000 in
set_option maxHeartbeats 4000000 in
theorem w_M_staysBack_35 (a1 a2 a3 a4 : Int32) (σ : sm_S) (Q : Option Value → sm_S → Prop) (h : xC xM j_M_longOf [.ref 0, .int a2] σ (sm_ri False (fun x2 σ1 => ((x2 ≤ a4 → xC xM j_M_lay [.ref 0, .int a2, .int 6, .int 0] σ1 (sm_rv False (fun σ3 => xC xM j_M_lay [.ref 0, .int a2, .int 7, .int 0] σ3 (sm_rv False (fun σ4 => xC xM j_M_spanAt [.ref 0, .int a1] σ4 (sm_ri False (fun x6 σ5 => (vp_in (x6 + 6) 2662 ∧ ∀ σ7, σ7 = sm_set σ5 1 (upd (σ5 1) ((x6 + 6)).toNatClampNeg 0) → xC xM j_M_wakes [.ref 0, .int a2] σ7 (sm_rv False (fun σ8 => Q none σ8)))))))))) ∧ (¬ (x2 ≤ a4) → xC xM j_M_leaves [.ref 0, .int (a3 + a4)] σ1 (sm_rv False (fun σ9 => xE xM m_M_staysBack 35 [.ref 0, .int a1, .int a2, .int a3, .int (a4 + 1)] [] σ9 Q))))))) : xE xM m_M_staysBack 35 [.ref 0, .int a1, .int a2, .int a3, .int a4] [] σ Q := sm_wp_E (M := m_M_staysBack) [35] 29 h
set_option maxRecDepth 100000 in
set_option maxHeartbeats 4000000 in
theorem w_M_wakes (a1 : Int32) (σ : sm_S) (Q : Option Value → sm_S → Prop) (h : xC xM j_M_of [.ref 0, .int a1, .int 9] σ (sm_ri False (fun x2 σ1 => xC xM j_M_lay [.ref 0, .int a1, .int 9, .int 0] σ1 (sm_rv False (fun σ3 => xE xM m_M_wakes 18 [.ref 0, .int a1, .int x2, .int 0, .null, .null] [] σ3 Q))))) : xC xM j_M_wakes [.ref 0, .int a1] σ Q := sm_wp_C (M := m_M_wakes) rfl [18] 13 h
set_option maxRecDepth 100000 in
set_option maxHeartbeats 4000000 in
theorem w_M_wakes_18 (a1 a2 a3 : Int32) (v4 v5 : Value) (σ : sm_S) (Q : Option Value → sm_S → Prop) (h : ((a2 ≤ a3 → Q none σ) ∧ (¬ (a2 ≤ a3) → xC xM j_M_of [.ref 0, .int a1, .int (10 + a3)] σ (sm_ri False (fun x2 σ1 => xC xM j_M_taskAt [.ref 0, .int x2] σ1 (sm_ri False (fun x4 σ3 => (vp_in (x4 + 1) 2662 ∧ ∀ σ5, σ5 = sm_set σ3 1 (upd (σ3 1) ((x4 + 1)).toNatClampNeg 0) → (vp_in (x4 + 2) 2662 ∧ (vp_in (x4 + 3) 2662 ∧ (vp_in (x4 + 4) 2662 ∧ xC xM j_M_does [.ref 0, .int x2, .int a1, .int (σ5 1 ((x4 + 2)).toNatClampNeg), .int (σ5 1 ((x4 + 3)).toNatClampNeg), .int (σ5 1 ((x4 + 4)).toNatClampNeg)] σ5 (sm_rv False (fun σ6 => xC xM j_M_writes [.ref 0, .int 8, .int x2, .int a1] σ6 (sm_rv False (fun σ7 => xE xM m_M_wakes 18 [.ref 0, .int a1, .int a2, .int (a3 + 1), .int x2, .int x4] [] σ7 Q))))))))))))))) : xE xM m_M_wakes 18 [.ref 0, .int a1, .int a2, .int a3, v4, v5] [] σ Q := sm_wp_E (M := m_M_wakes) [18] 51 h
set_option maxRecDepth 100000 in
set_option maxHeartbeats 4000000 in
theorem w_M_opens (a1 : Int32) (σ : sm_S) (Q : Option Value → sm_S → Prop) (h : xC xM j_M_spanAt [.ref 0, .int a1] σ (sm_ri False (fun x2 σ1 => (vp_in (x2 + 0) 2662 ∧ ∀ σ3, σ3 = sm_set σ1 1 (upd (σ1 1) ((x2 + 0)).toNatClampNeg 1) → (vp_in (x2 + 2) 2662 ∧ ∀ σ4, σ4 = sm_set σ3 1 (upd (σ3 1) ((x2 + 2)).toNatClampNeg 0) → (vp_in (x2 + 3) 2662 ∧ ∀ σ5, σ5 = sm_set σ4 1 (upd (σ4 1) ((x2 + 3)).toNatClampNeg 0) → (vp_in (x2 + 4) 2662 ∧ ∀ σ6, σ6 = sm_set σ5 1 (upd (σ5 1) ((x2 + 4)).toNatClampNeg 0) → xE xM m_M_opens 47 [.ref 0, .int a1, .int x2, .int (32 * a1)] [] σ6 Q))))))) : xC xM j_M_opens [.ref 0, .int a1] σ Q := sm_wp_C (M := m_M_opens) rfl [47] 37 h
set_option maxRecDepth 100000 in
set_option maxHeartbeats 4000000 in
theorem w_M_opens_47 (a1 a2 a3 : Int32) (σ : sm_S) (Q : Option Value → sm_S → Prop) (h : ((((32 * a1) + 32) ≤ a3 → Q none σ) ∧ (¬ (((32 * a1) + 32) ≤ a3) → xC xM j_M_stateOf [.ref 0, .int a3] σ (sm_ri False (fun x2 σ1 => ((x2 ≠ 2 → xE xM m_M_opens 47 [.ref 0, .int a1, .int a2, .int (a3 + 1)] [] σ1 Q) ∧ (¬ (x2 ≠ 2) → xC xM j_M_frameAt [.ref 0, .int a3] σ1 (sm_ri False (fun x4 σ3 => (vp_in (x4 + 0) 2662 ∧ ∀ σ5, σ5 = sm_set σ3 1 (upd (σ3 1) ((x4 + 0)).toNatClampNeg 1) → xE xM m_M_opens 47 [.ref 0, .int a1, .int a2, .int (a3 + 1)] [] σ5 Q)))))))))) : xE xM m_M_opens 47 [.ref 0, .int a1, .int a2, .int a3] [] σ Q := sm_wp_E (M := m_M_opens) [47] 24 h
set_option maxRecDepth 100000 in
set_option maxHeartbeats 4000000 in
theorem w_M_tick (a1 : Int32) (σ : sm_S) (Q : Option Value → sm_S → Prop) (h : (∀ σ1, σ1 = sm_set σ 0 (upd (σ 0) 0 0) → xC xM j_M_isIn [.ref 0, .int a1, .int 1, .int 60] σ1 (sm_ri False (fun x3 σ2 => ((x3 = 0 → Q (some (.int (-1))) σ2) ∧ (¬ (x3 = 0) → (vp_in (4 : Int32) 2662 ∧ ((((σ2 1 ((4 : Int32)).toNatClampNeg) + a1) ≤ 9999 → xE xM m_M_tick 34 [.ref 0, .int a1, .int 0] [] σ2 Q) ∧ (¬ (((σ2 1 ((4 : Int32)).toNatClampNeg) + a1) ≤ 9999) → Q (some (.int (-1))) σ2))))))))) : xC xM j_M_tick [.ref 0, .int a1] σ Q := sm_wp_C (M := m_M_tick) rfl [34] 20 h
set_option maxRecDepth 100000 in
set_option maxHeartbeats 4000000 in
theorem w_M_tick_34 (a1 a2 : Int32) (σ : sm_S) (Q : Option Value → sm_S → Prop) (h : ((a1 ≤ a2 → (vp_in (4 : Int32) 2662 ∧ Q (some (.int (σ 1 ((4 : Int32)).toNatClampNeg))) σ)) ∧ (¬ (a1 ≤ a2) → xC xM j_M_ticks [.ref 0] σ (sm_rv False (fun σ1 => xE xM m_M_tick 34 [.ref 0, .int a1, .int (a2 + 1)] [] σ1 Q))))) : xE xM m_M_tick 34 [.ref 0, .int a1, .int a2] [] σ Q := sm_wp_E (M := m_M_tick) [34] 9 h
set_option maxRecDepth 100000 in
set_option maxHeartbeats 4000000 in
theorem w_M_ticks (σ : sm_S) (Q : Option Value → sm_S → Prop) (h : xC xM j_M_more [.ref 0, .int 4, .int 1] σ (sm_rv False (fun σ1 => xE xM m_M_ticks 8 [.ref 0, .int 0] [] σ1 Q))) : xC xM j_M_ticks [.ref 0] σ Q := sm_wp_C (M := m_M_ticks) rfl [8] 7 h
set_option maxRecDepth 100000 in
set_option maxHeartbeats 4000000 in
theorem w_M_ticks_8 (a1 : Int32) (σ : sm_S) (Q : Option Value → sm_S → Prop) (h : ((8 ≤ a1 → Q none σ) ∧ (¬ (8 ≤ a1) → xC xM j_M_spanState [.ref 0, .int a1] σ (sm_ri False (fun x2 σ1 => ((x2 ≠ 2 → xC xM j_M_spanState [.ref 0, .int a1] σ1 (sm_ri False (fun x4 σ3 => ((x4 ≠ 3 → xE xM m_M_ticks 8 [.ref 0, .int (a1 + 1)] [] σ3 Q) ∧ (¬ (x4 ≠ 3) → xC xM j_M_moves [.ref 0, .int a1] σ3 (sm_rv False (fun σ5 => xE xM m_M_ticks 8 [.ref 0, .int (a1 + 1)] [] σ5 Q))))))) ∧ (¬ (x2 ≠ 2) → xC xM j_M_shuts [.ref 0, .int a1] σ1 (sm_rv False (fun σ6 => xE xM m_M_ticks 8 [.ref 0, .int (a1 + 1)] [] σ6 Q))))))))) : xE xM m_M_ticks 8 [.ref 0, .int a1] [] σ Q := sm_wp_E (M := m_M_ticks) [8] 19 h
set_option maxRecDepth 100000 in
set_option maxHeartbeats 4000000 in
theorem w_M_shuts (a1 : Int32) (σ : sm_S) (Q : Option Value → sm_S → Prop) (h : xC xM j_M_spanAt [.ref 0, .int a1] σ (sm_ri False (fun x2 σ1 => (vp_in (x2 + 2) 2662 ∧ xE xM m_M_shuts 26 [.ref 0, .int a1, .int x2, .int ((32 * a1) + (8 * (σ1 1 ((x2 + 2)).toNatClampNeg))), .int ((32 * a1) + (8 * (σ1 1 ((x2 + 2)).toNatClampNeg)))] [] σ1 Q)))) : xC xM j_M_shuts [.ref 0, .int a1] σ Q := sm_wp_C (M := m_M_shuts) rfl [26, 88] 20 h
set_option maxRecDepth 100000 in
set_option maxHeartbeats 4000000 in
theorem w_M_shuts_26 (a1 a2 a3 a4 : Int32) (σ : sm_S) (Q : Option Value → sm_S → Prop) (h : (((a3 + 8) ≤ a4 → xE xM m_M_shuts 88 [.ref 0, .int a1, .int a2, .int a3, .int a3] [] σ Q) ∧ (¬ ((a3 + 8) ≤ a4) → xC xM j_M_stateOf [.ref 0, .int a4] σ (sm_ri False (fun x2 σ1 => ((x2 ≠ 3 → xE xM m_M_shuts 26 [.ref 0, .int a1, .int a2, .int a3, .int (a4 + 1)] [] σ1 Q) ∧ (¬ (x2 ≠ 3) → xC xM j_M_frameAt [.ref 0, .int a4] σ1 (sm_ri False (fun x4 σ3 => (vp_in (x4 + 1) 2662 ∧ xC xM j_M_of [.ref 0, .int ((σ3 1 ((x4 + 1)).toNatClampNeg) - 1), .int 3] σ3 (sm_ri False (fun x6 σ5 => ((x6 = 1 → xC xM j_M_fails [.ref 0, .int a1, .int 0] σ5 (sm_rv False (fun σ7 => Q none σ7))) ∧ (¬ (x6 = 1) → xE xM m_M_shuts 26 [.ref 0, .int a1, .int a2, .int a3, .int (a4 + 1)] [] σ5 Q)))))))))))))) : xE xM m_M_shuts 26 [.ref 0, .int a1, .int a2, .int a3, .int a4] [] σ Q := sm_wp_E (M := m_M_shuts) [26, 88] 31 h
set_option maxRecDepth 100000 in
set_option maxHeartbeats 4000000 in
theorem w_M_shuts_88 (a1 a2 a3 a4 : Int32) (σ : sm_S) (Q : Option Value → sm_S → Prop) (h : (((a3 + 8) ≤ a4 → xC xM j_M_more [.ref 0, .int (a2 + 2), .int 1] σ (sm_rv False (fun σ1 => (vp_in (a2 + 2) 2662 ∧ ((4 ≤ (σ1 1 ((a2 + 2)).toNatClampNeg) → (vp_in (a2 + 0) 2662 ∧ ∀ σ2, σ2 = sm_set σ1 1 (upd (σ1 1) ((a2 + 0)).toNatClampNeg 3) → (vp_in (a2 + 3) 2662 ∧ ∀ σ3, σ3 = sm_set σ2 1 (upd (σ2 1) ((a2 + 3)).toNatClampNeg 1) → (vp_in (a2 + 5) 2662 ∧ ∀ σ4, σ4 = sm_set σ3 1 (upd (σ3 1) ((a2 + 5)).toNatClampNeg 0) → Q none σ4)))) ∧ (¬ (4 ≤ (σ1 1 ((a2 + 2)).toNatClampNeg)) → Q none σ1)))))) ∧ (¬ ((a3 + 8) ≤ a4) → xC xM j_M_isFree [.ref 0, .int a4] σ (sm_ri False (fun x6 σ5 => ((x6 = 0 → xE xM m_M_shuts 88 [.ref 0, .int a1, .int a2, .int a3, .int (a4 + 1)] [] σ5 Q) ∧ (¬ (x6 = 0) → xC xM j_M_frameAt [.ref 0, .int a4] σ5 (sm_ri False (fun x8 σ7 => (vp_in (x8 + 0) 2662 ∧ ∀ σ9, σ9 = sm_set σ7 1 (upd (σ7 1) ((x8 + 0)).toNatClampNeg 2) → xE xM m_M_shuts 88 [.ref 0, .int a1, .int a2, .int a3, .int (a4 + 1)] [] σ9 Q)))))))))) : xE xM m_M_shuts 88 [.ref 0, .int a1, .int a2, .int a3, .int a4] [] σ Q := sm_wp_E (M := m_M_shuts) [26, 88] 42 h
set_option maxRecDepth 100000 in
set_option maxHeartbeats 4000000 in
theorem w_M_moves (a1 : Int32) (σ : sm_S) (Q : Option Value → sm_S → Prop) (h : xC xM j_M_spanAt [.ref 0, .int a1] σ (sm_ri False (fun x2 σ1 => (vp_in (x2 + 4) 2662 ∧ (((σ1 1 ((x2 + 4)).toNatClampNeg) ≤ 0 → xC xM j_M_settingOf [.ref 0, .int 0] σ1 (sm_ri False (fun x4 σ3 => xE xM m_M_moves 32 [.ref 0, .int a1, .int x2, .int x4] [] σ3 Q))) ∧ (¬ ((σ1 1 ((x2 + 4)).toNatClampNeg) ≤ 0) → xC xM j_M_more [.ref 0, .int (x2 + 4), .int (-1)] σ1 (sm_rv False (fun σ5 => Q none σ5)))))))) : xC xM j_M_moves [.ref 0, .int a1] σ Q := sm_wp_C (M := m_M_moves) rfl [32] 19 h
set_option maxRecDepth 100000 in
set_option maxHeartbeats 4000000 in
theorem w_M_moves_32 (a1 a2 a3 : Int32) (σ : sm_S) (Q : Option Value → sm_S → Prop) (h : (vp_in (a2 + 6) 2662 ∧ ((0 < (σ 1 ((a2 + 6)).toNatClampNeg) → xC xM j_M_copies [.ref 0, .int a1, .int a3] σ (sm_ri False (fun x2 σ1 => (vp_in (a2 + 6) 2662 ∧ (((σ1 1 ((a2 + 6)).toNatClampNeg) ≤ 0 → xE xM m_M_moves 32 [.ref 0, .int a1, .int a2, .int x2] [] σ1 Q) ∧ (¬ ((σ1 1 ((a2 + 6)).toNatClampNeg) ≤ 0) → Q none σ1)))))) ∧ (¬ (0 < (σ 1 ((a2 + 6)).toNatClampNeg)) → xC xM j_M_looks [.ref 0, .int a1] σ (sm_ri False (fun x4 σ3 => ((x4 = 0 → xC xM j_M_isOver [.ref 0, .int a1] σ3 (sm_rv False (fun σ5 => Q none σ5))) ∧ (¬ (x4 = 0) → xC xM j_M_copies [.ref 0, .int a1, .int a3] σ3 (sm_ri False (fun x7 σ6 => (vp_in (a2 + 6) 2662 ∧ (((σ6 1 ((a2 + 6)).toNatClampNeg) ≤ 0 → xE xM m_M_moves 32 [.ref 0, .int a1, .int a2, .int x7] [] σ6 Q) ∧ (¬ ((σ6 1 ((a2 + 6)).toNatClampNeg) ≤ 0) → Q none σ6))))))))))))) : xE xM m_M_moves 32 [.ref 0, .int a1, .int a2, .int a3] [] σ Q := sm_wp_E (M := m_M_moves) [32] 25 h
set_option maxRecDepth 100000 in
set_option maxHeartbeats 4000000 in
theorem w_M_looks (a1 : Int32) (σ : sm_S) (Q : Option Value → sm_S → Prop) (h : xC xM j_M_spanAt [.ref 0, .int a1] σ (sm_ri False (fun x2 σ1 => (vp_in (x2 + 5) 2662 ∧ xC xM j_M_firstBlock [.ref 0, .int a1, .int (σ1 1 ((x2 + 5)).toNatClampNeg)] σ1 (sm_ri False (fun x4 σ3 => xE xM m_M_looks 20 [.ref 0, .int a1, .int x2, .int x4, .null, .null] [] σ3 Q)))))) : xC xM j_M_looks [.ref 0, .int a1] σ Q := sm_wp_C (M := m_M_looks) rfl [20, 123] 15 h
set_option maxRecDepth 100000 in
set_option maxHeartbeats 4000000 in
theorem w_M_looks_20 (a1 a2 a3 : Int32) (v4 v5 : Value) (σ : sm_S) (Q : Option Value → sm_S → Prop) (h : ((a3 = (-1) → (((0 : Int32) = 0 ∨ (0 : Int32) = 1) ∧ Q (some (.int 0)) σ)) ∧ (¬ (a3 = (-1)) → xC xM j_M_of [.ref 0, .int a3, .int 3] σ (sm_ri False (fun x2 σ1 => ((x2 = 1 → xC xM j_M_isPassed [.ref 0, .int a1, .int a3] σ1 (sm_rv False (fun σ3 => (vp_in (a2 + 5) 2662 ∧ xC xM j_M_firstBlock [.ref 0, .int a1, .int (σ3 1 ((a2 + 5)).toNatClampNeg)] σ3 (sm_ri False (fun x5 σ4 => xE xM m_M_looks 20 [.ref 0, .int a1, .int a2, .int x5, v4, v5] [] σ4 Q)))))) ∧ (¬ (x2 = 1) → xC xM j_M_isPinned [.ref 0, .int a3] σ1 (sm_ri False (fun x7 σ6 => ((x7 = 0 → xC xM j_M_of [.ref 0, .int a3, .int 3] σ6 (sm_ri False (fun x9 σ8 => ((x9 ≠ 2 → xC xM j_M_of [.ref 0, .int a3, .int 4] σ8 (sm_ri False (fun x11 σ10 => xC xM j_M_of [.ref 0, .int a3, .int 3] σ10 (sm_ri False (fun x13 σ12 => xC xM j_M_of [.ref 0, .int a3, .int 2] σ12 (sm_ri False (fun x15 σ14 => xC xM j_M_bestPlace [.ref 0, .int x11, .int x13, .int x15, .int 1] σ14 (sm_ri False (fun x17 σ16 => ((x17 = (-1) → xC xM j_M_of [.ref 0, .int a3, .int 2] σ16 (sm_ri False (fun x19 σ18 => ((x19 ≤ 0 → xC xM j_M_isPassed [.ref 0, .int a1, .int a3] σ18 (sm_rv False (fun σ20 => (vp_in (a2 + 5) 2662 ∧ xC xM j_M_firstBlock [.ref 0, .int a1, .int (σ20 1 ((a2 + 5)).toNatClampNeg)] σ20 (sm_ri False (fun x22 σ21 => xE xM m_M_looks 20 [.ref 0, .int a1, .int a2, .int x22, .int x17, v5] [] σ21 Q)))))) ∧ (¬ (x19 ≤ 0) → xC xM j_M_freeNumber [.ref 0] σ18 (sm_ri False (fun x24 σ23 => ((x24 = (-1) → xC xM j_M_isPassed [.ref 0, .int a1, .int a3] σ23 (sm_rv False (fun σ25 => (vp_in (a2 + 5) 2662 ∧ xC xM j_M_firstBlock [.ref 0, .int a1, .int (σ25 1 ((a2 + 5)).toNatClampNeg)] σ25 (sm_ri False (fun x27 σ26 => xE xM m_M_looks 20 [.ref 0, .int a1, .int a2, .int x27, .int x17, v5] [] σ26 Q)))))) ∧ (¬ (x24 = (-1)) → xC xM j_M_splits [.ref 0, .int a3] σ23 (sm_rv False (fun σ28 => (vp_in (a2 + 5) 2662 ∧ xC xM j_M_firstBlock [.ref 0, .int a1, .int (σ28 1 ((a2 + 5)).toNatClampNeg)] σ28 (sm_ri False (fun x30 σ29 => xE xM m_M_looks 20 [.ref 0, .int a1, .int a2, .int x30, .int x17, v5] [] σ29 Q)))))))))))))) ∧ (¬ (x17 = (-1)) → xC xM j_M_lay [.ref 0, .int a3, .int 6, .int (x17 + 1)] σ16 (sm_rv False (fun σ31 => xC xM j_M_lay [.ref 0, .int a3, .int 7, .int 0] σ31 (sm_rv False (fun σ32 => xE xM m_M_looks 123 [.ref 0, .int a1, .int a2, .int a3, .int x17, .int 0] [] σ32 Q))))))))))))))) ∧ (¬ (x9 ≠ 2) → xC xM j_M_drops [.ref 0, .int a3] σ8 (sm_rv False (fun σ33 => (vp_in (a2 + 5) 2662 ∧ xC xM j_M_firstBlock [.ref 0, .int a1, .int (σ33 1 ((a2 + 5)).toNatClampNeg)] σ33 (sm_ri False (fun x35 σ34 => xE xM m_M_looks 20 [.ref 0, .int a1, .int a2, .int x35, v4, v5] [] σ34 Q)))))))))) ∧ (¬ (x7 = 0) → xC xM j_M_isPassed [.ref 0, .int a1, .int a3] σ6 (sm_rv False (fun σ36 => (vp_in (a2 + 5) 2662 ∧ xC xM j_M_firstBlock [.ref 0, .int a1, .int (σ36 1 ((a2 + 5)).toNatClampNeg)] σ36 (sm_ri False (fun x38 σ37 => xE xM m_M_looks 20 [.ref 0, .int a1, .int a2, .int x38, v4, v5] [] σ37 Q)))))))))))))))) : xE xM m_M_looks 20 [.ref 0, .int a1, .int a2, .int a3, v4, v5] [] σ Q := sm_wp_E (M := m_M_looks) [20, 123] 63 h
set_option maxRecDepth 100000 in
set_option maxHeartbeats 4000000 in
theorem w_M_looks_123 (a1 a2 a3 a4 a5 : Int32) (σ : sm_S) (Q : Option Value → sm_S → Prop) (h : xC xM j_M_longOf [.ref 0, .int a3] σ (sm_ri False (fun x2 σ1 => ((x2 ≤ a5 → (vp_in (a2 + 6) 2662 ∧ ∀ σ3, σ3 = sm_set σ1 1 (upd (σ1 1) ((a2 + 6)).toNatClampNeg (a3 + 1)) → xC xM j_M_isPassed [.ref 0, .int a1, .int a3] σ3 (sm_rv False (fun σ4 => (((1 : Int32) = 0 ∨ (1 : Int32) = 1) ∧ Q (some (.int 1)) σ4))))) ∧ (¬ (x2 ≤ a5) → xC xM j_M_has [.ref 0, .int (a4 + a5), .int a3, .int 4] σ1 (sm_rv False (fun σ5 => xE xM m_M_looks 123 [.ref 0, .int a1, .int a2, .int a3, .int a4, .int (a5 + 1)] [] σ5 Q))))))) : xE xM m_M_looks 123 [.ref 0, .int a1, .int a2, .int a3, .int a4, .int a5] [] σ Q := sm_wp_E (M := m_M_looks) [20, 123] 21 h
set_option maxRecDepth 100000 in
set_option maxHeartbeats 4000000 in
theorem w_M_firstBlock (a1 a2 : Int32) (σ : sm_S) (Q : Option Value → sm_S → Prop) (h : xE xM m_M_firstBlock 2 [.ref 0, .int a1, .int a2, .int a2, .null, .null] [] σ Q) : xC xM j_M_firstBlock [.ref 0, .int a1, .int a2] σ Q := sm_wp_C (M := m_M_firstBlock) rfl [2] 3 h
set_option maxRecDepth 100000 in
set_option maxHeartbeats 4000000 in
theorem w_M_firstBlock_2 (a1 a2 a3 : Int32) (v4 v5 : Value) (σ : sm_S) (Q : Option Value → sm_S → Prop) (h : ((32 ≤ a3 → Q (some (.int (-1))) σ) ∧ (¬ (32 ≤ a3) → xC xM j_M_frameAt [.ref 0, .int ((32 * a1) + a3)] σ (sm_ri False (fun x2 σ1 => (vp_in (x2 + 1) 2662 ∧ xC xM j_M_stateOf [.ref 0, .int ((32 * a1) + a3)] σ1 (sm_ri False (fun x4 σ3 => ((x4 ≠ 3 → xE xM m_M_firstBlock 2 [.ref 0, .int a1, .int a2, .int (a3 + 1), .int ((32 * a1) + a3), .int ((σ1 1 ((x2 + 1)).toNatClampNeg) - 1)] [] σ3 Q) ∧ (¬ (x4 ≠ 3) → xC xM j_M_frameOf [.ref 0, .int ((σ1 1 ((x2 + 1)).toNatClampNeg) - 1)] σ3 (sm_ri False (fun x6 σ5 => ((x6 ≠ ((32 * a1) + a3) → xE xM m_M_firstBlock 2 [.ref 0, .int a1, .int a2, .int (a3 + 1), .int ((32 * a1) + a3), .int ((σ1 1 ((x2 + 1)).toNatClampNeg) - 1)] [] σ5 Q) ∧ (¬ (x6 ≠ ((32 * a1) + a3)) → Q (some (.int ((σ1 1 ((x2 + 1)).toNatClampNeg) - 1))) σ5)))))))))))))) : xE xM m_M_firstBlock 2 [.ref 0, .int a1, .int a2, .int a3, v4, v5] [] σ Q := sm_wp_E (M := m_M_firstBlock) [2] 33 h
set_option maxRecDepth 100000 in
set_option maxHeartbeats 4000000 in
theorem w_M_isPassed (a1 a2 : Int32) (σ : sm_S) (Q : Option Value → sm_S → Prop) (h : xC xM j_M_spanAt [.ref 0, .int a1] σ (sm_ri False (fun x2 σ1 => xC xM j_M_frameOf [.ref 0, .int a2] σ1 (sm_ri False (fun x4 σ3 => (¬ (32 : Int32) = 0 ∧ xC xM j_M_longOf [.ref 0, .int a2] σ3 (sm_ri False (fun x6 σ5 => (vp_in (x2 + 5) 2662 ∧ ∀ σ7, σ7 = sm_set σ5 1 (upd (σ5 1) ((x2 + 5)).toNatClampNeg ((x4 - x4 / (32 : Int32) * (32 : Int32)) + x6)) → Q none σ7))))))))) : xC xM j_M_isPassed [.ref 0, .int a1, .int a2] σ Q := sm_wp_C (M := m_M_isPassed) rfl [] 19 h
set_option maxRecDepth 100000 in
set_option maxHeartbeats 4000000 in
theorem w_M_splits (a1 : Int32) (σ : sm_S) (Q : Option Value → sm_S → Prop) (h : xC xM j_M_freeNumber [.ref 0] σ (sm_ri False (fun x2 σ1 => xC xM j_M_of [.ref 0, .int a1, .int 2] σ1 (sm_ri False (fun x4 σ3 => xC xM j_M_lay [.ref 0, .int a1, .int 2, .int (x4 - 1)] σ3 (sm_rv False (fun σ5 => xC xM j_M_frameOf [.ref 0, .int a1] σ5 (sm_ri False (fun x7 σ6 => xC xM j_M_of [.ref 0, .int a1, .int 3] σ6 (sm_ri False (fun x9 σ8 => xC xM j_M_of [.ref 0, .int a1, .int 4] σ8 (sm_ri False (fun x11 σ10 => xC xM j_M_of [.ref 0, .int a1, .int 8] σ10 (sm_ri False (fun x13 σ12 => xC xM j_M_comes [.ref 0, .int x2, .int (x7 + ((1 : Int32) <<< ((x4 - 1) &&& 31))), .int (x4 - 1), .int x9, .int x11, .int x13] σ12 (sm_rv False (fun σ14 => xC xM j_M_counts [.ref 0, .int 4, .int 1] σ14 (sm_rv False (fun σ15 => xC xM j_M_writes [.ref 0, .int 5, .int a1, .int x2] σ15 (sm_rv False (fun σ16 => Q none σ16))))))))))))))))))))) : xC xM j_M_splits [.ref 0, .int a1] σ Q := sm_wp_C (M := m_M_splits) rfl [] 49 h
set_option maxRecDepth 100000 in
set_option maxHeartbeats 4000000 in
theorem w_M_copies (a1 a2 : Int32) (σ : sm_S) (Q : Option Value → sm_S → Prop) (h : xC xM j_M_spanAt [.ref 0, .int a1] σ (sm_ri False (fun x2 σ1 => (vp_in (x2 + 6) 2662 ∧ xE xM m_M_copies 19 [.ref 0, .int a1, .int a2, .int ((σ1 1 ((x2 + 6)).toNatClampNeg) - 1), .int a2, .null] [] σ1 Q)))) : xC xM j_M_copies [.ref 0, .int a1, .int a2] σ Q := sm_wp_C (M := m_M_copies) rfl [19] 14 h
set_option maxRecDepth 100000 in
set_option maxHeartbeats 4000000 in
theorem w_M_copies_19 (a1 a2 a3 a4 : Int32) (v5 : Value) (σ : sm_S) (Q : Option Value → sm_S → Prop) (h : ((a4 ≤ 0 → xC xM j_M_of [.ref 0, .int a3, .int 7] σ (sm_ri False (fun x2 σ1 => xC xM j_M_longOf [.ref 0, .int a3] σ1 (sm_ri False (fun x4 σ3 => ((x2 ≠ x4 → Q (some (.int a4)) σ3) ∧ (¬ (x2 ≠ x4) → xC xM j_M_arrives [.ref 0, .int a1, .int a3] σ3 (sm_rv False (fun σ5 => Q (some (.int a4)) σ5))))))))) ∧ (¬ (a4 ≤ 0) → xC xM j_M_of [.ref 0, .int a3, .int 7] σ (sm_ri False (fun x7 σ6 => xC xM j_M_longOf [.ref 0, .int a3] σ6 (sm_ri False (fun x9 σ8 => ((x9 ≤ x7 → xC xM j_M_of [.ref 0, .int a3, .int 7] σ8 (sm_ri False (fun x11 σ10 => xC xM j_M_longOf [.ref 0, .int a3] σ10 (sm_ri False (fun x13 σ12 => ((x11 ≠ x13 → Q (some (.int a4)) σ12) ∧ (¬ (x11 ≠ x13) → xC xM j_M_arrives [.ref 0, .int a1, .int a3] σ12 (sm_rv False (fun σ14 => Q (some (.int a4)) σ14))))))))) ∧ (¬ (x9 ≤ x7) → xC xM j_M_of [.ref 0, .int a3, .int 7] σ8 (sm_ri False (fun x16 σ15 => xC xM j_M_of [.ref 0, .int a3, .int 6] σ15 (sm_ri False (fun x18 σ17 => xC xM j_M_frameOf [.ref 0, .int a3] σ17 (sm_ri False (fun x20 σ19 => xC xM j_M_valueOf [.ref 0, .int (x20 + x16)] σ19 (sm_ri False (fun x22 σ21 => xC xM j_M_lays [.ref 0, .int ((x18 - 1) + x16), .int x22] σ21 (sm_rv False (fun σ23 => xC xM j_M_lay [.ref 0, .int a3, .int 7, .int (x16 + 1)] σ23 (sm_rv False (fun σ24 => xC xM j_M_counts [.ref 0, .int 3, .int 1] σ24 (sm_rv False (fun σ25 => xE xM m_M_copies 19 [.ref 0, .int a1, .int a2, .int a3, .int (a4 - 1), .int x16] [] σ25 Q))))))))))))))))))))))) : xE xM m_M_copies 19 [.ref 0, .int a1, .int a2, .int a3, .int a4, v5] [] σ Q := sm_wp_E (M := m_M_copies) [19] 49 h
set_option maxRecDepth 100000 in
set_option maxHeartbeats 4000000 in
theorem w_M_arrives (a1 a2 : Int32) (σ : sm_S) (Q : Option Value → sm_S → Prop) (h : xC xM j_M_of [.ref 0, .int a2, .int 6] σ (sm_ri False (fun x2 σ1 => xE xM m_M_arrives 13 [.ref 0, .int a1, .int a2, .int (x2 - 1), .int 0] [] σ1 Q))) : xC xM j_M_arrives [.ref 0, .int a1, .int a2] σ Q := sm_wp_C (M := m_M_arrives) rfl [13] 10 h
set_option maxRecDepth 100000 in
set_option maxHeartbeats 4000000 in
theorem w_M_arrives_13 (a1 a2 a3 a4 : Int32) (σ : sm_S) (Q : Option Value → sm_S → Prop) (h : xC xM j_M_longOf [.ref 0, .int a2] σ (sm_ri False (fun x2 σ1 => ((x2 ≤ a4 → xC xM j_M_lay [.ref 0, .int a2, .int 1, .int a3] σ1 (sm_rv False (fun σ3 => xC xM j_M_lay [.ref 0, .int a2, .int 6, .int 0] σ3 (sm_rv False (fun σ4 => xC xM j_M_lay [.ref 0, .int a2, .int 7, .int 0] σ4 (sm_rv False (fun σ5 => xC xM j_M_spanAt [.ref 0, .int a1] σ5 (sm_ri False (fun x7 σ6 => (vp_in (x7 + 6) 2662 ∧ ∀ σ8, σ8 = sm_set σ6 1 (upd (σ6 1) ((x7 + 6)).toNatClampNeg 0) → xC xM j_M_counts [.ref 0, .int 2, .int 1] σ8 (sm_rv False (fun σ9 => xC xM j_M_writes [.ref 0, .int 4, .int a2, .int a3] σ9 (sm_rv False (fun σ10 => xC xM j_M_wakes [.ref 0, .int a2] σ10 (sm_rv False (fun σ11 => Q none σ11)))))))))))))))) ∧ (¬ (x2 ≤ a4) → xC xM j_M_frameOf [.ref 0, .int a2] σ1 (sm_ri False (fun x13 σ12 => xC xM j_M_leaves [.ref 0, .int (x13 + a4)] σ12 (sm_rv False (fun σ14 => xC xM j_M_has [.ref 0, .int (a3 + a4), .int a2, .int 3] σ14 (sm_rv False (fun σ15 => xE xM m_M_arrives 13 [.ref 0, .int a1, .int a2, .int a3, .int (a4 + 1)] [] σ15 Q))))))))))) : xE xM m_M_arrives 13 [.ref 0, .int a1, .int a2, .int a3, .int a4] [] σ Q := sm_wp_E (M := m_M_arrives) [13] 43 h
set_option maxRecDepth 100000 in
set_option maxHeartbeats 4000000 in
theorem w_M_isOver (a1 : Int32) (σ : sm_S) (Q : Option Value → sm_S → Prop) (h : xC xM j_M_spanAt [.ref 0, .int a1] σ (sm_ri False (fun x2 σ1 => xC xM j_M_counts [.ref 0, .int 9, .int 1] σ1 (sm_rv False (fun σ3 => xC xM j_M_manyIn [.ref 0, .int a1, .int 3] σ3 (sm_ri False (fun x5 σ4 => xC xM j_M_manyIn [.ref 0, .int a1, .int 4] σ4 (sm_ri False (fun x7 σ6 => (((x5 + x7) ≠ 0 → (vp_in (x2 + 3) 2662 ∧ xC xM j_M_settingOf [.ref 0, .int 1] σ6 (sm_ri False (fun x9 σ8 => (((σ6 1 ((x2 + 3)).toNatClampNeg) < x9 → xC xM j_M_more [.ref 0, .int (x2 + 3), .int 1] σ8 (sm_rv False (fun σ10 => xC xM j_M_settingOf [.ref 0, .int 3] σ10 (sm_ri False (fun x12 σ11 => (vp_in (x2 + 4) 2662 ∧ ∀ σ13, σ13 = sm_set σ11 1 (upd (σ11 1) ((x2 + 4)).toNatClampNeg x12) → (vp_in (x2 + 5) 2662 ∧ ∀ σ14, σ14 = sm_set σ13 1 (upd (σ13 1) ((x2 + 5)).toNatClampNeg 0) → Q none σ14))))))) ∧ (¬ ((σ6 1 ((x2 + 3)).toNatClampNeg) < x9) → xC xM j_M_whyOf [.ref 0, .int a1] σ8 (sm_ri False (fun x16 σ15 => xC xM j_M_fails [.ref 0, .int a1, .int x16] σ15 (sm_rv False (fun σ17 => Q none σ17)))))))))) ∧ (¬ ((x5 + x7) ≠ 0) → (vp_in (x2 + 3) 2662 ∧ xC xM j_M_writes [.ref 0, .int 1, .int a1, .int (σ6 1 ((x2 + 3)).toNatClampNeg)] σ6 (sm_rv False (fun σ18 => (vp_in (x2 + 0) 2662 ∧ ∀ σ19, σ19 = sm_set σ18 1 (upd (σ18 1) ((x2 + 0)).toNatClampNeg 0) → (vp_in (x2 + 1) 2662 ∧ ∀ σ20, σ20 = sm_set σ19 1 (upd (σ19 1) ((x2 + 1)).toNatClampNeg 0) → (vp_in (x2 + 2) 2662 ∧ ∀ σ21, σ21 = sm_set σ20 1 (upd (σ20 1) ((x2 + 2)).toNatClampNeg 0) → (vp_in (x2 + 3) 2662 ∧ ∀ σ22, σ22 = sm_set σ21 1 (upd (σ21 1) ((x2 + 3)).toNatClampNeg 0) → xE xM m_M_isOver 84 [.ref 0, .int a1, .int x2, .int (32 * a1)] [] σ22 Q)))))))))))))))))) : xC xM j_M_isOver [.ref 0, .int a1] σ Q := sm_wp_C (M := m_M_isOver) rfl [84] 61 h
set_option maxRecDepth 100000 in
set_option maxHeartbeats 4000000 in
theorem w_M_isOver_84 (a1 a2 a3 : Int32) (σ : sm_S) (Q : Option Value → sm_S → Prop) (h : ((((32 * a1) + 32) ≤ a3 → xC xM j_M_counts [.ref 0, .int 6, .int 1] σ (sm_rv False (fun σ1 => Q none σ1))) ∧ (¬ (((32 * a1) + 32) ≤ a3) → xC xM j_M_frameAt [.ref 0, .int a3] σ (sm_ri False (fun x3 σ2 => (vp_in (x3 + 0) 2662 ∧ ∀ σ4, σ4 = sm_set σ2 1 (upd (σ2 1) ((x3 + 0)).toNatClampNeg 0) → xE xM m_M_isOver 84 [.ref 0, .int a1, .int a2, .int (a3 + 1)] [] σ4 Q)))))) : xE xM m_M_isOver 84 [.ref 0, .int a1, .int a2, .int a3] [] σ Q := sm_wp_E (M := m_M_isOver) [84] 19 h
set_option maxRecDepth 100000 in
set_option maxHeartbeats 4000000 in
theorem w_M_manyIn (a1 a2 : Int32) (σ : sm_S) (Q : Option Value → sm_S → Prop) (h : xE xM m_M_manyIn 8 [.ref 0, .int a1, .int a2, .int 0, .int (32 * a1)] [] σ Q) : xC xM j_M_manyIn [.ref 0, .int a1, .int a2] σ Q := sm_wp_C (M := m_M_manyIn) rfl [8] 7 h
set_option maxRecDepth 100000 in
set_option maxHeartbeats 4000000 in
theorem w_M_manyIn_8 (a1 a2 a3 a4 : Int32) (σ : sm_S) (Q : Option Value → sm_S → Prop) (h : ((((32 * a1) + 32) ≤ a4 → Q (some (.int a3)) σ) ∧ (¬ (((32 * a1) + 32) ≤ a4) → xC xM j_M_stateOf [.ref 0, .int a4] σ (sm_ri False (fun x2 σ1 => ((x2 ≠ a2 → xE xM m_M_manyIn 8 [.ref 0, .int a1, .int a2, .int a3, .int (a4 + 1)] [] σ1 Q) ∧ (¬ (x2 ≠ a2) → xE xM m_M_manyIn 8 [.ref 0, .int a1, .int a2, .int (a3 + 1), .int (a4 + 1)] [] σ1 Q))))))) : xE xM m_M_manyIn 8 [.ref 0, .int a1, .int a2, .int a3, .int a4] [] σ Q := sm_wp_E (M := m_M_manyIn) [8] 19 h
set_option maxRecDepth 100000 in
set_option maxHeartbeats 4000000 in
theorem w_M_whyOf (a1 : Int32) (σ : sm_S) (Q : Option Value → sm_S → Prop) (h : xC xM j_M_firstBlock [.ref 0, .int a1, .int 0] σ (sm_ri False (fun x2 σ1 => ((x2 ≠ (-1) → xC xM j_M_of [.ref 0, .int x2, .int 3] σ1 (sm_ri False (fun x4 σ3 => ((x4 ≠ 1 → xC xM j_M_isPinned [.ref 0, .int x2] σ3 (sm_ri False (fun x6 σ5 => ((x6 = 0 → Q (some (.int 2)) σ5) ∧ (¬ (x6 = 0) → Q (some (.int 1)) σ5))))) ∧ (¬ (x4 ≠ 1) → Q (some (.int 0)) σ3))))) ∧ (¬ (x2 ≠ (-1)) → Q (some (.int 2)) σ1))))) : xC xM j_M_whyOf [.ref 0, .int a1] σ Q := sm_wp_C (M := m_M_whyOf) rfl [] 22 h
set_option maxRecDepth 100000 in
set_option maxHeartbeats 4000000 in
theorem w_M_keeps (a1 a2 a3 : Int32) (σ : sm_S) (Q : Option Value → sm_S → Prop) (h : (∀ σ1, σ1 = sm_set σ 0 (upd (σ 0) 0 0) → xC xM j_M_isSpan [.ref 0, .int a1] σ1 (sm_ri False (fun x3 σ2 => ((x3 ≠ 0 → ((a2 ≠ (-1) → ((0 ≤ a2 → xC xM j_M_keeperAt [.ref 0, .int a1, .int a2] σ2 (sm_ri False (fun x5 σ4 => ((x5 ≠ (-1) → ((a3 ≠ 0 → ((a3 ≠ 1 → ((a3 ≠ 2 → ((a3 ≠ 3 → Q (some (.int (-1))) σ4) ∧ (¬ (a3 ≠ 3) → xC xM j_M_of [.ref 0, .int x5, .int 5] σ4 (sm_ri False (fun x7 σ6 => Q (some (.int x7)) σ6))))) ∧ (¬ (a3 ≠ 2) → xC xM j_M_of [.ref 0, .int x5, .int 4] σ4 (sm_ri False (fun x9 σ8 => Q (some (.int x9)) σ8))))) ∧ (¬ (a3 ≠ 1) → xC xM j_M_keepsWhy [.ref 0, .int x5, .int a1] σ4 (sm_ri False (fun x11 σ10 => Q (some (.int x11)) σ10))))) ∧ (¬ (a3 ≠ 0) → Q (some (.int x5)) σ4))) ∧ (¬ (x5 ≠ (-1)) → Q (some (.int (-1))) σ4))))) ∧ (¬ (0 ≤ a2) → ((((-1) : Int32) ≠ (-1) → ((a3 ≠ 0 → ((a3 ≠ 1 → ((a3 ≠ 2 → ((a3 ≠ 3 → Q (some (.int (-1))) σ2) ∧ (¬ (a3 ≠ 3) → xC xM j_M_of [.ref 0, .int (-1), .int 5] σ2 (sm_ri False (fun x13 σ12 => Q (some (.int x13)) σ12))))) ∧ (¬ (a3 ≠ 2) → xC xM j_M_of [.ref 0, .int (-1), .int 4] σ2 (sm_ri False (fun x15 σ14 => Q (some (.int x15)) σ14))))) ∧ (¬ (a3 ≠ 1) → xC xM j_M_keepsWhy [.ref 0, .int (-1), .int a1] σ2 (sm_ri False (fun x17 σ16 => Q (some (.int x17)) σ16))))) ∧ (¬ (a3 ≠ 0) → Q (some (.int (-1))) σ2))) ∧ (¬ (((-1) : Int32) ≠ (-1)) → Q (some (.int (-1))) σ2))))) ∧ (¬ (a2 ≠ (-1)) → xC xM j_M_keeperAt [.ref 0, .int a1, .int (-1)] σ2 (sm_ri False (fun x19 σ18 => Q (some (.int x19)) σ18))))) ∧ (¬ (x3 ≠ 0) → Q (some (.int (-1))) σ2)))))) : xC xM j_M_keeps [.ref 0, .int a1, .int a2, .int a3] σ Q := sm_wp_C (M := m_M_keeps) rfl [] 38 h
set_option maxRecDepth 100000 in
set_option maxHeartbeats 4000000 in
theorem w_M_keeperAt (a1 a2 : Int32) (σ : sm_S) (Q : Option Value → sm_S → Prop) (h : xC xM j_M_firstBlock [.ref 0, .int a1, .int 0] σ (sm_ri False (fun x2 σ1 => xE xM m_M_keeperAt 10 [.ref 0, .int a1, .int a2, .int 0, .int x2] [] σ1 Q))) : xC xM j_M_keeperAt [.ref 0, .int a1, .int a2] σ Q := sm_wp_C (M := m_M_keeperAt) rfl [10] 8 h
set_option maxRecDepth 100000 in
set_option maxHeartbeats 4000000 in
theorem w_M_keeperAt_10 (a1 a2 a3 a4 : Int32) (σ : sm_S) (Q : Option Value → sm_S → Prop) (h : ((a4 = (-1) → ((a2 ≠ (-1) → Q (some (.int (-1))) σ) ∧ (¬ (a2 ≠ (-1)) → Q (some (.int a3)) σ))) ∧ (¬ (a4 = (-1)) → xC xM j_M_keepsWhy [.ref 0, .int a4, .int a1] σ (sm_ri False (fun x2 σ1 => ((x2 ≠ (-1) → ((a3 ≠ a2 → xC xM j_M_frameOf [.ref 0, .int a4] σ1 (sm_ri False (fun x4 σ3 => (¬ (32 : Int32) = 0 ∧ xC xM j_M_firstBlock [.ref 0, .int a1, .int ((x4 - x4 / (32 : Int32) * (32 : Int32)) + 1)] σ3 (sm_ri False (fun x6 σ5 => xE xM m_M_keeperAt 10 [.ref 0, .int a1, .int a2, .int (a3 + 1), .int x6] [] σ5 Q)))))) ∧ (¬ (a3 ≠ a2) → Q (some (.int a4)) σ1))) ∧ (¬ (x2 ≠ (-1)) → xC xM j_M_frameOf [.ref 0, .int a4] σ1 (sm_ri False (fun x8 σ7 => (¬ (32 : Int32) = 0 ∧ xC xM j_M_firstBlock [.ref 0, .int a1, .int ((x8 - x8 / (32 : Int32) * (32 : Int32)) + 1)] σ7 (sm_ri False (fun x10 σ9 => xE xM m_M_keeperAt 10 [.ref 0, .int a1, .int a2, .int a3, .int x10] [] σ9 Q)))))))))))) : xE xM m_M_keeperAt 10 [.ref 0, .int a1, .int a2, .int a3, .int a4] [] σ Q := sm_wp_E (M := m_M_keeperAt) [10] 29 h
set_option maxRecDepth 100000 in
set_option maxHeartbeats 4000000 in
theorem w_M_keepsWhy (a1 a2 : Int32) (σ : sm_S) (Q : Option Value → sm_S → Prop) (h : xC xM j_M_of [.ref 0, .int a1, .int 3] σ (sm_ri False (fun x2 σ1 => ((x2 ≠ 1 → xC xM j_M_isPinned [.ref 0, .int a1] σ1 (sm_ri False (fun x4 σ3 => ((x4 = 0 → xC xM j_M_of [.ref 0, .int a1, .int 3] σ3 (sm_ri False (fun x6 σ5 => ((x6 ≠ 2 → xE xM m_M_keepsWhy 36 [.ref 0, .int a1, .int a2, .int 0] [] σ5 Q) ∧ (¬ (x6 ≠ 2) → Q (some (.int (-1))) σ5))))) ∧ (¬ (x4 = 0) → Q (some (.int 1)) σ3))))) ∧ (¬ (x2 ≠ 1) → Q (some (.int 0)) σ1))))) : xC xM j_M_keepsWhy [.ref 0, .int a1, .int a2] σ Q := sm_wp_C (M := m_M_keepsWhy) rfl [36] 19 h
set_option maxRecDepth 100000 in
set_option maxHeartbeats 4000000 in
theorem w_M_keepsWhy_36 (a1 a2 a3 : Int32) (σ : sm_S) (Q : Option Value → sm_S → Prop) (h : ((256 ≤ a3 → Q (some (.int 2)) σ) ∧ (¬ (256 ≤ a3) → xC xM j_M_spanOf [.ref 0, .int a3] σ (sm_ri False (fun x2 σ1 => ((x2 = a2 → xC xM j_M_longOf [.ref 0, .int a1] σ1 (sm_ri False (fun x4 σ3 => xE xM m_M_keepsWhy 36 [.ref 0, .int a1, .int a2, .int (a3 + x4)] [] σ3 Q))) ∧ (¬ (x2 = a2) → xC xM j_M_spanOf [.ref 0, .int a3] σ1 (sm_ri False (fun x6 σ5 => xC xM j_M_spanState [.ref 0, .int x6] σ5 (sm_ri False (fun x8 σ7 => ((x8 ≠ 1 → xC xM j_M_longOf [.ref 0, .int a1] σ7 (sm_ri False (fun x10 σ9 => xE xM m_M_keepsWhy 36 [.ref 0, .int a1, .int a2, .int (a3 + x10)] [] σ9 Q))) ∧ (¬ (x8 ≠ 1) → xC xM j_M_spanOf [.ref 0, .int a3] σ7 (sm_ri False (fun x12 σ11 => xC xM j_M_of [.ref 0, .int a1, .int 3] σ11 (sm_ri False (fun x14 σ13 => xC xM j_M_of [.ref 0, .int a1, .int 4] σ13 (sm_ri False (fun x16 σ15 => xC xM j_M_rankOf [.ref 0, .int x12, .int x14, .int x16] σ15 (sm_ri False (fun x18 σ17 => ((x18 = (-1) → xC xM j_M_longOf [.ref 0, .int a1] σ17 (sm_ri False (fun x20 σ19 => xE xM m_M_keepsWhy 36 [.ref 0, .int a1, .int a2, .int (a3 + x20)] [] σ19 Q))) ∧ (¬ (x18 = (-1)) → xC xM j_M_of [.ref 0, .int a1, .int 2] σ17 (sm_ri False (fun x22 σ21 => xC xM j_M_areFree [.ref 0, .int a3, .int x22] σ21 (sm_ri False (fun x24 σ23 => ((x24 = 0 → xC xM j_M_longOf [.ref 0, .int a1] σ23 (sm_ri False (fun x26 σ25 => xE xM m_M_keepsWhy 36 [.ref 0, .int a1, .int a2, .int (a3 + x26)] [] σ25 Q))) ∧ (¬ (x24 = 0) → Q (some (.int (-1))) σ23))))))))))))))))))))))))))))) : xE xM m_M_keepsWhy 36 [.ref 0, .int a1, .int a2, .int a3] [] σ Q := sm_wp_E (M := m_M_keepsWhy) [36] 46 h
set_option maxRecDepth 100000 in
set_option maxHeartbeats 4000000 in
theorem w_M_holders (a1 : Int32) (σ : sm_S) (Q : Option Value → sm_S → Prop) (h : (∀ σ1, σ1 = sm_set σ 0 (upd (σ 0) 0 0) → xC xM j_M_isSpan [.ref 0, .int a1] σ1 (sm_ri False (fun x3 σ2 => ((x3 ≠ 0 → xE xM m_M_holders 19 [.ref 0, .int a1, .int 0, .int 0, .null] [] σ2 Q) ∧ (¬ (x3 ≠ 0) → Q (some (.int (-1))) σ2)))))) : xC xM j_M_holders [.ref 0, .int a1] σ Q := sm_wp_C (M := m_M_holders) rfl [19] 12 h
set_option maxRecDepth 100000 in
set_option maxHeartbeats 4000000 in
theorem w_M_holders_19 (a1 a2 a3 : Int32) (v4 : Value) (σ : sm_S) (Q : Option Value → sm_S → Prop) (h : xC xM j_M_keeperAt [.ref 0, .int a1, .int (-1)] σ (sm_ri False (fun x2 σ1 => ((x2 ≤ a3 → Q (some (.int a2)) σ1) ∧ (¬ (x2 ≤ a3) → xC xM j_M_keeperAt [.ref 0, .int a1, .int a3] σ1 (sm_ri False (fun x4 σ3 => xC xM j_M_of [.ref 0, .int x4, .int 3] σ3 (sm_ri False (fun x6 σ5 => ((x6 ≠ 1 → xC xM j_M_of [.ref 0, .int x4, .int 5] σ5 (sm_ri False (fun x8 σ7 => xE xM m_M_holders 19 [.ref 0, .int a1, .int (a2 ||| x8), .int (a3 + 1), .int x4] [] σ7 Q))) ∧ (¬ (x6 ≠ 1) → xC xM j_M_of [.ref 0, .int x4, .int 4] σ5 (sm_ri False (fun x10 σ9 => xC xM j_M_of [.ref 0, .int x4, .int 5] σ9 (sm_ri False (fun x12 σ11 => xE xM m_M_holders 19 [.ref 0, .int a1, .int ((a2 ||| ((1 : Int32) <<< (x10 &&& 31))) ||| x12), .int (a3 + 1), .int x4] [] σ11 Q))))))))))))))) : xE xM m_M_holders 19 [.ref 0, .int a1, .int a2, .int a3, v4] [] σ Q := sm_wp_E (M := m_M_holders) [19] 36 h
set_option maxRecDepth 100000 in
set_option maxHeartbeats 4000000 in
theorem w_M_would (a1 a2 : Int32) (σ : sm_S) (Q : Option Value → sm_S → Prop) (h : (∀ σ1, σ1 = sm_set σ 0 (upd (σ 0) 0 0) → xC xM j_M_canGo [.ref 0, .int a1] σ1 (sm_ri False (fun x3 σ2 => ((x3 = 0 → Q (some (.int (-1))) σ2) ∧ (¬ (x3 = 0) → xC xM j_M_isIn [.ref 0, .int a2, .int 0, .int 4] σ2 (sm_ri False (fun x5 σ4 => ((x5 ≠ 0 → xC xM j_M_thinks [.ref 0] σ4 (sm_rv False (fun σ6 => (vp_in (10 : Int32) 2662 ∧ (vp_in (11 : Int32) 2662 ∧ (vp_in (12 : Int32) 2662 ∧ xC xM j_M_goesAway [.ref 0, .int a1] σ6 (sm_ri False (fun x8 σ7 => ((a2 ≠ 0 → ((a2 ≠ 2 → ((a2 ≠ 3 → ((a2 ≠ 4 → xC xM j_M_forgets [.ref 0] σ7 (sm_rv False (fun σ9 => Q (some (.int x8)) σ9))) ∧ (¬ (a2 ≠ 4) → (vp_in (12 : Int32) 2662 ∧ xC xM j_M_forgets [.ref 0] σ7 (sm_rv False (fun σ10 => Q (some (.int ((σ7 1 ((12 : Int32)).toNatClampNeg) - (σ6 1 ((12 : Int32)).toNatClampNeg)))) σ10)))))) ∧ (¬ (a2 ≠ 3) → (vp_in (11 : Int32) 2662 ∧ ((a2 ≠ 4 → xC xM j_M_forgets [.ref 0] σ7 (sm_rv False (fun σ11 => Q (some (.int ((σ7 1 ((11 : Int32)).toNatClampNeg) - (σ6 1 ((11 : Int32)).toNatClampNeg)))) σ11))) ∧ (¬ (a2 ≠ 4) → (vp_in (12 : Int32) 2662 ∧ xC xM j_M_forgets [.ref 0] σ7 (sm_rv False (fun σ12 => Q (some (.int ((σ7 1 ((12 : Int32)).toNatClampNeg) - (σ6 1 ((12 : Int32)).toNatClampNeg)))) σ12))))))))) ∧ (¬ (a2 ≠ 2) → (vp_in (10 : Int32) 2662 ∧ ((a2 ≠ 3 → ((a2 ≠ 4 → xC xM j_M_forgets [.ref 0] σ7 (sm_rv False (fun σ13 => Q (some (.int ((σ7 1 ((10 : Int32)).toNatClampNeg) - (σ6 1 ((10 : Int32)).toNatClampNeg)))) σ13))) ∧ (¬ (a2 ≠ 4) → (vp_in (12 : Int32) 2662 ∧ xC xM j_M_forgets [.ref 0] σ7 (sm_rv False (fun σ14 => Q (some (.int ((σ7 1 ((12 : Int32)).toNatClampNeg) - (σ6 1 ((12 : Int32)).toNatClampNeg)))) σ14)))))) ∧ (¬ (a2 ≠ 3) → (vp_in (11 : Int32) 2662 ∧ ((a2 ≠ 4 → xC xM j_M_forgets [.ref 0] σ7 (sm_rv False (fun σ15 => Q (some (.int ((σ7 1 ((11 : Int32)).toNatClampNeg) - (σ6 1 ((11 : Int32)).toNatClampNeg)))) σ15))) ∧ (¬ (a2 ≠ 4) → (vp_in (12 : Int32) 2662 ∧ xC xM j_M_forgets [.ref 0] σ7 (sm_rv False (fun σ16 => Q (some (.int ((σ7 1 ((12 : Int32)).toNatClampNeg) - (σ6 1 ((12 : Int32)).toNatClampNeg)))) σ16)))))))))))) ∧ (¬ (a2 ≠ 0) → xC xM j_M_spanState [.ref 0, .int a1] σ7 (sm_ri False (fun x18 σ17 => ((x18 ≠ 0 → ((a2 ≠ 2 → ((a2 ≠ 3 → ((a2 ≠ 4 → xC xM j_M_forgets [.ref 0] σ17 (sm_rv False (fun σ19 => Q (some (.int 0)) σ19))) ∧ (¬ (a2 ≠ 4) → (vp_in (12 : Int32) 2662 ∧ xC xM j_M_forgets [.ref 0] σ17 (sm_rv False (fun σ20 => Q (some (.int ((σ17 1 ((12 : Int32)).toNatClampNeg) - (σ6 1 ((12 : Int32)).toNatClampNeg)))) σ20)))))) ∧ (¬ (a2 ≠ 3) → (vp_in (11 : Int32) 2662 ∧ ((a2 ≠ 4 → xC xM j_M_forgets [.ref 0] σ17 (sm_rv False (fun σ21 => Q (some (.int ((σ17 1 ((11 : Int32)).toNatClampNeg) - (σ6 1 ((11 : Int32)).toNatClampNeg)))) σ21))) ∧ (¬ (a2 ≠ 4) → (vp_in (12 : Int32) 2662 ∧ xC xM j_M_forgets [.ref 0] σ17 (sm_rv False (fun σ22 => Q (some (.int ((σ17 1 ((12 : Int32)).toNatClampNeg) - (σ6 1 ((12 : Int32)).toNatClampNeg)))) σ22))))))))) ∧ (¬ (a2 ≠ 2) → (vp_in (10 : Int32) 2662 ∧ ((a2 ≠ 3 → ((a2 ≠ 4 → xC xM j_M_forgets [.ref 0] σ17 (sm_rv False (fun σ23 => Q (some (.int ((σ17 1 ((10 : Int32)).toNatClampNeg) - (σ6 1 ((10 : Int32)).toNatClampNeg)))) σ23))) ∧ (¬ (a2 ≠ 4) → (vp_in (12 : Int32) 2662 ∧ xC xM j_M_forgets [.ref 0] σ17 (sm_rv False (fun σ24 => Q (some (.int ((σ17 1 ((12 : Int32)).toNatClampNeg) - (σ6 1 ((12 : Int32)).toNatClampNeg)))) σ24)))))) ∧ (¬ (a2 ≠ 3) → (vp_in (11 : Int32) 2662 ∧ ((a2 ≠ 4 → xC xM j_M_forgets [.ref 0] σ17 (sm_rv False (fun σ25 => Q (some (.int ((σ17 1 ((11 : Int32)).toNatClampNeg) - (σ6 1 ((11 : Int32)).toNatClampNeg)))) σ25))) ∧ (¬ (a2 ≠ 4) → (vp_in (12 : Int32) 2662 ∧ xC xM j_M_forgets [.ref 0] σ17 (sm_rv False (fun σ26 => Q (some (.int ((σ17 1 ((12 : Int32)).toNatClampNeg) - (σ6 1 ((12 : Int32)).toNatClampNeg)))) σ26)))))))))))) ∧ (¬ (x18 ≠ 0) → ((a2 ≠ 2 → ((a2 ≠ 3 → ((a2 ≠ 4 → xC xM j_M_forgets [.ref 0] σ17 (sm_rv False (fun σ27 => Q (some (.int 1)) σ27))) ∧ (¬ (a2 ≠ 4) → (vp_in (12 : Int32) 2662 ∧ xC xM j_M_forgets [.ref 0] σ17 (sm_rv False (fun σ28 => Q (some (.int ((σ17 1 ((12 : Int32)).toNatClampNeg) - (σ6 1 ((12 : Int32)).toNatClampNeg)))) σ28)))))) ∧ (¬ (a2 ≠ 3) → (vp_in (11 : Int32) 2662 ∧ ((a2 ≠ 4 → xC xM j_M_forgets [.ref 0] σ17 (sm_rv False (fun σ29 => Q (some (.int ((σ17 1 ((11 : Int32)).toNatClampNeg) - (σ6 1 ((11 : Int32)).toNatClampNeg)))) σ29))) ∧ (¬ (a2 ≠ 4) → (vp_in (12 : Int32) 2662 ∧ xC xM j_M_forgets [.ref 0] σ17 (sm_rv False (fun σ30 => Q (some (.int ((σ17 1 ((12 : Int32)).toNatClampNeg) - (σ6 1 ((12 : Int32)).toNatClampNeg)))) σ30))))))))) ∧ (¬ (a2 ≠ 2) → (vp_in (10 : Int32) 2662 ∧ ((a2 ≠ 3 → ((a2 ≠ 4 → xC xM j_M_forgets [.ref 0] σ17 (sm_rv False (fun σ31 => Q (some (.int ((σ17 1 ((10 : Int32)).toNatClampNeg) - (σ6 1 ((10 : Int32)).toNatClampNeg)))) σ31))) ∧ (¬ (a2 ≠ 4) → (vp_in (12 : Int32) 2662 ∧ xC xM j_M_forgets [.ref 0] σ17 (sm_rv False (fun σ32 => Q (some (.int ((σ17 1 ((12 : Int32)).toNatClampNeg) - (σ6 1 ((12 : Int32)).toNatClampNeg)))) σ32)))))) ∧ (¬ (a2 ≠ 3) → (vp_in (11 : Int32) 2662 ∧ ((a2 ≠ 4 → xC xM j_M_forgets [.ref 0] σ17 (sm_rv False (fun σ33 => Q (some (.int ((σ17 1 ((11 : Int32)).toNatClampNeg) - (σ6 1 ((11 : Int32)).toNatClampNeg)))) σ33))) ∧ (¬ (a2 ≠ 4) → (vp_in (12 : Int32) 2662 ∧ xC xM j_M_forgets [.ref 0] σ17 (sm_rv False (fun σ34 => Q (some (.int ((σ17 1 ((12 : Int32)).toNatClampNeg) - (σ6 1 ((12 : Int32)).toNatClampNeg)))) σ34))))))))))))))))))))))))) ∧ (¬ (x5 ≠ 0) → Q (some (.int (-1))) σ4)))))))))) : xC xM j_M_would [.ref 0, .int a1, .int a2] σ Q := sm_wp_C (M := m_M_would) rfl [] 78 h
set_option maxRecDepth 100000 in
set_option maxHeartbeats 4000000 in
theorem w_M_goesAway (a1 : Int32) (σ : sm_S) (Q : Option Value → sm_S → Prop) (h : xC xM j_M_beginsToGo [.ref 0, .int a1] σ (sm_rv False (fun σ1 => xE xM m_M_goesAway 7 [.ref 0, .int a1, .int 0] [] σ1 Q))) : xC xM j_M_goesAway [.ref 0, .int a1] σ Q := sm_wp_C (M := m_M_goesAway) rfl [7] 6 h
set_option maxRecDepth 100000 in
set_option maxHeartbeats 4000000 in
theorem w_M_goesAway_7 (a1 a2 : Int32) (σ : sm_S) (Q : Option Value → sm_S → Prop) (h : ((500 ≤ a2 → Q (some (.int a2)) σ) ∧ (¬ (500 ≤ a2) → xC xM j_M_isGoing [.ref 0, .int a1] σ (sm_ri False (fun x2 σ1 => ((x2 = 0 → Q (some (.int a2)) σ1) ∧ (¬ (x2 = 0) → xC xM j_M_ticks [.ref 0] σ1 (sm_rv False (fun σ3 => xE xM m_M_goesAway 7 [.ref 0, .int a1, .int (a2 + 1)] [] σ3 Q))))))))) : xE xM m_M_goesAway 7 [.ref 0, .int a1, .int a2] [] σ Q := sm_wp_E (M := m_M_goesAway) [7] 15 h
set_option maxRecDepth 100000 in
set_option maxHeartbeats 4000000 in
theorem w_M_pressed (a1 : Int32) (σ : sm_S) (Q : Option Value → sm_S → Prop) (h : (∀ σ1, σ1 = sm_set σ 0 (upd (σ 0) 0 0) → xC xM j_M_isSpan [.ref 0, .int a1] σ1 (sm_ri False (fun x3 σ2 => ((x3 = 0 → Q (some (.int (-1))) σ2) ∧ (¬ (x3 = 0) → xC xM j_M_spanState [.ref 0, .int a1] σ2 (sm_ri False (fun x5 σ4 => ((x5 = 1 → xC xM j_M_thinks [.ref 0] σ4 (sm_rv False (fun σ6 => xC xM j_M_presses [.ref 0, .int a1] σ6 (sm_ri False (fun x8 σ7 => xC xM j_M_greatestIn [.ref 0, .int a1] σ7 (sm_ri False (fun x10 σ9 => xC xM j_M_forgets [.ref 0] σ9 (sm_rv False (fun σ11 => Q (some (.int x10)) σ11))))))))) ∧ (¬ (x5 = 1) → Q (some (.int (-1))) σ4)))))))))) : xC xM j_M_pressed [.ref 0, .int a1] σ Q := sm_wp_C (M := m_M_pressed) rfl [] 27 h
set_option maxRecDepth 100000 in
set_option maxHeartbeats 4000000 in
theorem w_M_greatestIn (a1 : Int32) (σ : sm_S) (Q : Option Value → sm_S → Prop) (h : xE xM m_M_greatestIn 4 [.ref 0, .int a1, .int (-1), .int 0, .null] [] σ Q) : xC xM j_M_greatestIn [.ref 0, .int a1] σ Q := sm_wp_C (M := m_M_greatestIn) rfl [4, 15] 5 h
set_option maxRecDepth 100000 in
set_option maxHeartbeats 4000000 in
theorem w_M_greatestIn_4 (a1 a2 a3 : Int32) (v4 : Value) (σ : sm_S) (Q : Option Value → sm_S → Prop) (h : ((5 < a3 → Q (some (.int a2)) σ) ∧ (¬ (5 < a3) → xE xM m_M_greatestIn 15 [.ref 0, .int a1, .int a2, .int a3, .int (32 * a1)] [] σ Q))) : xE xM m_M_greatestIn 4 [.ref 0, .int a1, .int a2, .int a3, v4] [] σ Q := sm_wp_E (M := m_M_greatestIn) [4, 15] 8 h
set_option maxRecDepth 100000 in
set_option maxHeartbeats 4000000 in
theorem w_M_greatestIn_15 (a1 a2 a3 a4 : Int32) (σ : sm_S) (Q : Option Value → sm_S → Prop) (h : ((((32 * a1) + 32) ≤ a4 → xE xM m_M_greatestIn 4 [.ref 0, .int a1, .int a2, .int (a3 + 1), .int a4] [] σ Q) ∧ (¬ (((32 * a1) + 32) ≤ a4) → xC xM j_M_areFree [.ref 0, .int a4, .int a3] σ (sm_ri False (fun x2 σ1 => ((x2 = 0 → xE xM m_M_greatestIn 15 [.ref 0, .int a1, .int a2, .int a3, .int (a4 + ((1 : Int32) <<< (a3 &&& 31)))] [] σ1 Q) ∧ (¬ (x2 = 0) → xE xM m_M_greatestIn 15 [.ref 0, .int a1, .int a3, .int a3, .int (a4 + ((1 : Int32) <<< (a3 &&& 31)))] [] σ1 Q))))))) : xE xM m_M_greatestIn 15 [.ref 0, .int a1, .int a2, .int a3, .int a4] [] σ Q := sm_wp_E (M := m_M_greatestIn) [4, 15] 22 h
set_option maxRecDepth 100000 in
set_option maxHeartbeats 4000000 in
theorem w_M_frame (a1 a2 : Int32) (σ : sm_S) (Q : Option Value → sm_S → Prop) (h : (∀ σ1, σ1 = sm_set σ 0 (upd (σ 0) 0 0) → xC xM j_M_isIn [.ref 0, .int a1, .int 0, .int 255] σ1 (sm_ri False (fun x3 σ2 => ((x3 = 0 → Q (some (.int (-1))) σ2) ∧ (¬ (x3 = 0) → xC xM j_M_isIn [.ref 0, .int a2, .int 0, .int 2] σ2 (sm_ri False (fun x5 σ4 => ((x5 ≠ 0 → xC xM j_M_frameAt [.ref 0, .int a1] σ4 (sm_ri False (fun x7 σ6 => (vp_in (x7 + a2) 2662 ∧ ((a2 ≠ 1 → Q (some (.int (σ6 1 ((x7 + a2)).toNatClampNeg))) σ6) ∧ (¬ (a2 ≠ 1) → Q (some (.int ((σ6 1 ((x7 + a2)).toNatClampNeg) - 1))) σ6)))))) ∧ (¬ (x5 ≠ 0) → Q (some (.int (-1))) σ4)))))))))) : xC xM j_M_frame [.ref 0, .int a1, .int a2] σ Q := sm_wp_C (M := m_M_frame) rfl [] 33 h
set_option maxRecDepth 100000 in
set_option maxHeartbeats 4000000 in
theorem w_M_block (a1 a2 : Int32) (σ : sm_S) (Q : Option Value → sm_S → Prop) (h : (∀ σ1, σ1 = sm_set σ 0 (upd (σ 0) 0 0) → xC xM j_M_isBlock [.ref 0, .int a1] σ1 (sm_ri False (fun x3 σ2 => ((x3 = 0 → Q (some (.int (-1))) σ2) ∧ (¬ (x3 = 0) → xC xM j_M_isIn [.ref 0, .int a2, .int 0, .int 8] σ2 (sm_ri False (fun x5 σ4 => ((x5 ≠ 0 → xC xM j_M_of [.ref 0, .int a1, .int (a2 + 1)] σ4 (sm_ri False (fun x7 σ6 => (((a2 + 1) ≠ 6 → Q (some (.int x7)) σ6) ∧ (¬ ((a2 + 1) ≠ 6) → Q (some (.int (x7 - 1))) σ6))))) ∧ (¬ (x5 ≠ 0) → Q (some (.int (-1))) σ4)))))))))) : xC xM j_M_block [.ref 0, .int a1, .int a2] σ Q := sm_wp_C (M := m_M_block) rfl [] 31 h
set_option maxRecDepth 100000 in
set_option maxHeartbeats 4000000 in
theorem w_M_span (a1 a2 : Int32) (σ : sm_S) (Q : Option Value → sm_S → Prop) (h : (∀ σ1, σ1 = sm_set σ 0 (upd (σ 0) 0 0) → xC xM j_M_isSpan [.ref 0, .int a1] σ1 (sm_ri False (fun x3 σ2 => ((x3 = 0 → Q (some (.int (-1))) σ2) ∧ (¬ (x3 = 0) → xC xM j_M_isIn [.ref 0, .int a2, .int 0, .int 10] σ2 (sm_ri False (fun x5 σ4 => ((x5 ≠ 0 → xC xM j_M_spanAt [.ref 0, .int a1] σ4 (sm_ri False (fun x7 σ6 => ((a2 ≠ 0 → ((a2 ≠ 1 → ((6 ≤ a2 → ((a2 ≠ 6 → ((a2 ≠ 7 → ((a2 ≠ 8 → ((a2 ≠ 9 → (vp_in (x7 + 7) 2662 ∧ Q (some (.int ((σ6 1 ((x7 + 7)).toNatClampNeg) - 1))) σ6)) ∧ (¬ (a2 ≠ 9) → (vp_in (x7 + 6) 2662 ∧ Q (some (.int ((σ6 1 ((x7 + 6)).toNatClampNeg) - 1))) σ6)))) ∧ (¬ (a2 ≠ 8) → (vp_in (x7 + 4) 2662 ∧ Q (some (.int (σ6 1 ((x7 + 4)).toNatClampNeg))) σ6)))) ∧ (¬ (a2 ≠ 7) → (vp_in (x7 + 3) 2662 ∧ Q (some (.int (σ6 1 ((x7 + 3)).toNatClampNeg))) σ6)))) ∧ (¬ (a2 ≠ 6) → (vp_in (x7 + 2) 2662 ∧ Q (some (.int (σ6 1 ((x7 + 2)).toNatClampNeg))) σ6)))) ∧ (¬ (6 ≤ a2) → xC xM j_M_manyIn [.ref 0, .int a1, .int (a2 - 1)] σ6 (sm_ri False (fun x9 σ8 => Q (some (.int x9)) σ8))))) ∧ (¬ (a2 ≠ 1) → xC xM j_M_zoneOf [.ref 0, .int a1] σ6 (sm_ri False (fun x11 σ10 => Q (some (.int x11)) σ10))))) ∧ (¬ (a2 ≠ 0) → (vp_in (x7 + 0) 2662 ∧ Q (some (.int (σ6 1 ((x7 + 0)).toNatClampNeg))) σ6)))))) ∧ (¬ (x5 ≠ 0) → Q (some (.int (-1))) σ4)))))))))) : xC xM j_M_span [.ref 0, .int a1, .int a2] σ Q := sm_wp_C (M := m_M_span) rfl [] 48 h
set_option maxRecDepth 100000 in
set_option maxHeartbeats 4000000 in
theorem w_M_task (a1 a2 : Int32) (σ : sm_S) (Q : Option Value → sm_S → Prop) (h : (∀ σ1, σ1 = sm_set σ 0 (upd (σ 0) 0 0) → xC xM j_M_isTask [.ref 0, .int a1] σ1 (sm_ri False (fun x3 σ2 => ((x3 = 0 → Q (some (.int (-1))) σ2) ∧ (¬ (x3 = 0) → xC xM j_M_isIn [.ref 0, .int a2, .int 0, .int 5] σ2 (sm_ri False (fun x5 σ4 => ((x5 ≠ 0 → xC xM j_M_taskAt [.ref 0, .int a1] σ4 (sm_ri False (fun x7 σ6 => ((a2 ≠ 0 → ((a2 ≠ 1 → ((a2 ≠ 2 → ((a2 ≠ 3 → ((a2 ≠ 4 → xC xM j_M_ownsMany [.ref 0, .int a1, .int 0] σ6 (sm_ri False (fun x9 σ8 => Q (some (.int x9)) σ8))) ∧ (¬ (a2 ≠ 4) → xC xM j_M_ownsMany [.ref 0, .int a1, .int 1] σ6 (sm_ri False (fun x11 σ10 => Q (some (.int x11)) σ10))))) ∧ (¬ (a2 ≠ 3) → (vp_in (x7 + 5) 2662 ∧ Q (some (.int (σ6 1 ((x7 + 5)).toNatClampNeg))) σ6)))) ∧ (¬ (a2 ≠ 2) → (vp_in (x7 + 1) 2662 ∧ Q (some (.int ((σ6 1 ((x7 + 1)).toNatClampNeg) - 1))) σ6)))) ∧ (¬ (a2 ≠ 1) → (vp_in (x7 + 1) 2662 ∧ (((σ6 1 ((x7 + 1)).toNatClampNeg) ≤ 0 → Q (some (.int 0)) σ6) ∧ (¬ ((σ6 1 ((x7 + 1)).toNatClampNeg) ≤ 0) → Q (some (.int 1)) σ6)))))) ∧ (¬ (a2 ≠ 0) → (vp_in (x7 + 0) 2662 ∧ Q (some (.int (σ6 1 ((x7 + 0)).toNatClampNeg))) σ6)))))) ∧ (¬ (x5 ≠ 0) → Q (some (.int (-1))) σ4)))))))))) : xC xM j_M_task [.ref 0, .int a1, .int a2] σ Q := sm_wp_C (M := m_M_task) rfl [] 38 h
set_option maxRecDepth 100000 in
set_option maxHeartbeats 4000000 in
theorem w_M_ownsMany (a1 a2 : Int32) (σ : sm_S) (Q : Option Value → sm_S → Prop) (h : xE xM m_M_ownsMany 5 [.ref 0, .int a1, .int a2, .int 0, .int 0] [] σ Q) : xC xM j_M_ownsMany [.ref 0, .int a1, .int a2] σ Q := sm_wp_C (M := m_M_ownsMany) rfl [5] 5 h
set_option maxRecDepth 100000 in
set_option maxHeartbeats 4000000 in
theorem w_M_ownsMany_5 (a1 a2 a3 a4 : Int32) (σ : sm_S) (Q : Option Value → sm_S → Prop) (h : ((96 ≤ a4 → Q (some (.int a3)) σ) ∧ (¬ (96 ≤ a4) → xC xM j_M_isBlock [.ref 0, .int a4] σ (sm_ri False (fun x2 σ1 => ((x2 = 0 → xE xM m_M_ownsMany 5 [.ref 0, .int a1, .int a2, .int a3, .int (a4 + 1)] [] σ1 Q) ∧ (¬ (x2 = 0) → ((a2 = 0 → xC xM j_M_hasPin [.ref 0, .int a1, .int a4] σ1 (sm_ri False (fun x4 σ3 => ((x4 = 0 → xE xM m_M_ownsMany 5 [.ref 0, .int a1, .int a2, .int a3, .int (a4 + 1)] [] σ3 Q) ∧ (¬ (x4 = 0) → xE xM m_M_ownsMany 5 [.ref 0, .int a1, .int a2, .int (a3 + 1), .int (a4 + 1)] [] σ3 Q))))) ∧ (¬ (a2 = 0) → xC xM j_M_of [.ref 0, .int a4, .int 4] σ1 (sm_ri False (fun x6 σ5 => ((x6 ≠ a1 → xE xM m_M_ownsMany 5 [.ref 0, .int a1, .int a2, .int a3, .int (a4 + 1)] [] σ5 Q) ∧ (¬ (x6 ≠ a1) → xE xM m_M_ownsMany 5 [.ref 0, .int a1, .int a2, .int (a3 + 1), .int (a4 + 1)] [] σ5 Q))))))))))))) : xE xM m_M_ownsMany 5 [.ref 0, .int a1, .int a2, .int a3, .int a4] [] σ Q := sm_wp_E (M := m_M_ownsMany) [5] 23 h
set_option maxRecDepth 100000 in
set_option maxHeartbeats 4000000 in
theorem w_M_zone (a1 a2 : Int32) (σ : sm_S) (Q : Option Value → sm_S → Prop) (h : (∀ σ1, σ1 = sm_set σ 0 (upd (σ 0) 0 0) → xC xM j_M_isIn [.ref 0, .int a1, .int 0, .int 1] σ1 (sm_ri False (fun x3 σ2 => ((x3 = 0 → Q (some (.int (-1))) σ2) ∧ (¬ (x3 = 0) → xC xM j_M_isIn [.ref 0, .int a2, .int 0, .int 2] σ2 (sm_ri False (fun x5 σ4 => ((x5 ≠ 0 → ((a2 ≠ 0 → ((a2 ≠ 1 → xE xM m_M_zone 56 [.ref 0, .int a1, .int a2, .int (-1), .int 0] [] σ4 Q) ∧ (¬ (a2 ≠ 1) → xC xM j_M_freeIn [.ref 0, .int a1] σ4 (sm_ri False (fun x7 σ6 => Q (some (.int x7)) σ6))))) ∧ (¬ (a2 ≠ 0) → xC xM j_M_framesOf [.ref 0, .int a1] σ4 (sm_ri False (fun x9 σ8 => (¬ (32 : Int32) = 0 ∧ Q (some (.int (x9 / (32 : Int32)))) σ8)))))) ∧ (¬ (x5 ≠ 0) → Q (some (.int (-1))) σ4)))))))))) : xC xM j_M_zone [.ref 0, .int a1, .int a2] σ Q := sm_wp_C (M := m_M_zone) rfl [56] 25 h
set_option maxRecDepth 100000 in
set_option maxHeartbeats 4000000 in
theorem w_M_zone_56 (a1 a2 a3 a4 : Int32) (σ : sm_S) (Q : Option Value → sm_S → Prop) (h : ((8 ≤ a4 → Q (some (.int a3)) σ) ∧ (¬ (8 ≤ a4) → xC xM j_M_zoneOf [.ref 0, .int a4] σ (sm_ri False (fun x2 σ1 => ((x2 ≠ a1 → xE xM m_M_zone 56 [.ref 0, .int a1, .int a2, .int a3, .int (a4 + 1)] [] σ1 Q) ∧ (¬ (x2 ≠ a1) → xC xM j_M_greatestIn [.ref 0, .int a4] σ1 (sm_ri False (fun x4 σ3 => ((x4 ≤ a3 → xE xM m_M_zone 56 [.ref 0, .int a1, .int a2, .int a3, .int (a4 + 1)] [] σ3 Q) ∧ (¬ (x4 ≤ a3) → xC xM j_M_greatestIn [.ref 0, .int a4] σ3 (sm_ri False (fun x6 σ5 => xE xM m_M_zone 56 [.ref 0, .int a1, .int a2, .int x6, .int (a4 + 1)] [] σ5 Q))))))))))))) : xE xM m_M_zone 56 [.ref 0, .int a1, .int a2, .int a3, .int a4] [] σ Q := sm_wp_E (M := m_M_zone) [56] 20 h
set_option maxRecDepth 100000 in
set_option maxHeartbeats 4000000 in
theorem w_M_freeIn (a1 : Int32) (σ : sm_S) (Q : Option Value → sm_S → Prop) (h : xE xM m_M_freeIn 4 [.ref 0, .int a1, .int 0, .int 0] [] σ Q) : xC xM j_M_freeIn [.ref 0, .int a1] σ Q := sm_wp_C (M := m_M_freeIn) rfl [4] 5 h
set_option maxRecDepth 100000 in
set_option maxHeartbeats 4000000 in
theorem w_M_freeIn_4 (a1 a2 a3 : Int32) (σ : sm_S) (Q : Option Value → sm_S → Prop) (h : ((256 ≤ a3 → Q (some (.int a2)) σ) ∧ (¬ (256 ≤ a3) → xC xM j_M_isFree [.ref 0, .int a3] σ (sm_ri False (fun x2 σ1 => ((x2 = 0 → xE xM m_M_freeIn 4 [.ref 0, .int a1, .int a2, .int (a3 + 1)] [] σ1 Q) ∧ (¬ (x2 = 0) → xC xM j_M_spanOf [.ref 0, .int a3] σ1 (sm_ri False (fun x4 σ3 => xC xM j_M_zoneOf [.ref 0, .int x4] σ3 (sm_ri False (fun x6 σ5 => ((x6 ≠ a1 → xE xM m_M_freeIn 4 [.ref 0, .int a1, .int a2, .int (a3 + 1)] [] σ5 Q) ∧ (¬ (x6 ≠ a1) → xE xM m_M_freeIn 4 [.ref 0, .int a1, .int (a2 + 1), .int (a3 + 1)] [] σ5 Q))))))))))))) : xE xM m_M_freeIn 4 [.ref 0, .int a1, .int a2, .int a3] [] σ Q := sm_wp_E (M := m_M_freeIn) [4] 21 h
set_option maxRecDepth 100000 in
set_option maxHeartbeats 4000000 in
theorem w_M_loose (a1 a2 : Int32) (σ : sm_S) (Q : Option Value → sm_S → Prop) (h : (∀ σ1, σ1 = sm_set σ 0 (upd (σ 0) 0 0) → xC xM j_M_isIn [.ref 0, .int a1, .int 0, .int 1] σ1 (sm_ri False (fun x3 σ2 => ((x3 = 0 → Q (some (.int (-1))) σ2) ∧ (¬ (x3 = 0) → xC xM j_M_isIn [.ref 0, .int a2, .int 0, .int 5] σ2 (sm_ri False (fun x5 σ4 => ((x5 ≠ 0 → xE xM m_M_loose 32 [.ref 0, .int a1, .int a2, .int 0, .int 0] [] σ4 Q) ∧ (¬ (x5 ≠ 0) → Q (some (.int (-1))) σ4)))))))))) : xC xM j_M_loose [.ref 0, .int a1, .int a2] σ Q := sm_wp_C (M := m_M_loose) rfl [32] 20 h
set_option maxRecDepth 100000 in
set_option maxHeartbeats 4000000 in
theorem w_M_loose_32 (a1 a2 a3 a4 : Int32) (σ : sm_S) (Q : Option Value → sm_S → Prop) (h : ((256 ≤ a4 → Q (some (.int a3)) σ) ∧ (¬ (256 ≤ a4) → xC xM j_M_isFree [.ref 0, .int a4] σ (sm_ri False (fun x2 σ1 => ((x2 = 0 → xE xM m_M_loose 32 [.ref 0, .int a1, .int a2, .int a3, .int (a4 + 1)] [] σ1 Q) ∧ (¬ (x2 = 0) → xC xM j_M_spanOf [.ref 0, .int a4] σ1 (sm_ri False (fun x4 σ3 => xC xM j_M_zoneOf [.ref 0, .int x4] σ3 (sm_ri False (fun x6 σ5 => ((x6 ≠ a1 → xE xM m_M_loose 32 [.ref 0, .int a1, .int a2, .int a3, .int (a4 + 1)] [] σ5 Q) ∧ (¬ (x6 ≠ a1) → xC xM j_M_areFree [.ref 0, .int a4, .int a2] σ5 (sm_ri False (fun x8 σ7 => ((x8 ≠ 0 → xE xM m_M_loose 32 [.ref 0, .int a1, .int a2, .int a3, .int (a4 + 1)] [] σ7 Q) ∧ (¬ (x8 ≠ 0) → xE xM m_M_loose 32 [.ref 0, .int a1, .int a2, .int (a3 + 1), .int (a4 + 1)] [] σ7 Q))))))))))))))))) : xE xM m_M_loose 32 [.ref 0, .int a1, .int a2, .int a3, .int a4] [] σ Q := sm_wp_E (M := m_M_loose) [32] 26 h
set_option maxRecDepth 100000 in
set_option maxHeartbeats 4000000 in
theorem w_M_place (a1 a2 a3 : Int32) (σ : sm_S) (Q : Option Value → sm_S → Prop) (h : (∀ σ1, σ1 = sm_set σ 0 (upd (σ 0) 0 0) → xC xM j_M_isTask [.ref 0, .int a1] σ1 (sm_ri False (fun x3 σ2 => ((x3 = 0 → Q (some (.int (-1))) σ2) ∧ (¬ (x3 = 0) → xC xM j_M_isIn [.ref 0, .int a2, .int 0, .int 2] σ2 (sm_ri False (fun x5 σ4 => ((x5 = 0 → Q (some (.int (-1))) σ4) ∧ (¬ (x5 = 0) → xC xM j_M_isIn [.ref 0, .int a3, .int 0, .int 4] σ4 (sm_ri False (fun x7 σ6 => ((x7 = 0 → Q (some (.int (-1))) σ6) ∧ (¬ (x7 = 0) → xC xM j_M_bestPlace [.ref 0, .int a1, .int a2, .int a3, .int 0] σ6 (sm_ri False (fun x9 σ8 => Q (some (.int x9)) σ8)))))))))))))))) : xC xM j_M_place [.ref 0, .int a1, .int a2, .int a3] σ Q := sm_wp_C (M := m_M_place) rfl [] 28 h
set_option maxRecDepth 100000 in
set_option maxHeartbeats 4000000 in
theorem w_M_hole (a1 : Int32) (σ : sm_S) (Q : Option Value → sm_S → Prop) (h : (∀ σ1, σ1 = sm_set σ 0 (upd (σ 0) 0 0) → xC xM j_M_isIn [.ref 0, .int a1, .int 0, .int 255] σ1 (sm_ri False (fun x3 σ2 => ((x3 = 0 → Q (some (.int (-1))) σ2) ∧ (¬ (x3 = 0) → xC xM j_M_isFree [.ref 0, .int a1] σ2 (sm_ri False (fun x5 σ4 => ((x5 = 0 → Q (some (.int (-1))) σ4) ∧ (¬ (x5 = 0) → xC xM j_M_holeOf [.ref 0, .int a1] σ4 (sm_ri False (fun x7 σ6 => Q (some (.int x7)) σ6)))))))))))) : xC xM j_M_hole [.ref 0, .int a1] σ Q := sm_wp_C (M := m_M_hole) rfl [] 19 h
set_option maxRecDepth 100000 in
set_option maxHeartbeats 4000000 in
theorem w_M_holeOf (a1 : Int32) (σ : sm_S) (Q : Option Value → sm_S → Prop) (h : xE xM m_M_holeOf 2 [.ref 0, .int a1, .int 0] [] σ Q) : xC xM j_M_holeOf [.ref 0, .int a1] σ Q := sm_wp_C (M := m_M_holeOf) rfl [2] 3 h
set_option maxRecDepth 100000 in
set_option maxHeartbeats 4000000 in
theorem w_M_holeOf_2 (a1 a2 : Int32) (σ : sm_S) (Q : Option Value → sm_S → Prop) (h : ((5 ≤ a2 → Q (some (.int a2)) σ) ∧ (¬ (5 ≤ a2) → xC xM j_M_areFree [.ref 0, .int a1, .int (a2 + 1)] σ (sm_ri False (fun x2 σ1 => ((x2 = 0 → Q (some (.int a2)) σ1) ∧ (¬ (x2 = 0) → xE xM m_M_holeOf 2 [.ref 0, .int a1, .int (a2 + 1)] [] σ1 Q))))))) : xE xM m_M_holeOf 2 [.ref 0, .int a1, .int a2] [] σ Q := sm_wp_E (M := m_M_holeOf) [2] 16 h
set_option maxRecDepth 100000 in
set_option maxHeartbeats 4000000 in
theorem w_M_at (a1 a2 : Int32) (σ : sm_S) (Q : Option Value → sm_S → Prop) (h : (∀ σ1, σ1 = sm_set σ 0 (upd (σ 0) 0 0) → xC xM j_M_isTask [.ref 0, .int a1] σ1 (sm_ri False (fun x3 σ2 => ((x3 = 0 → Q (some (.int (-1))) σ2) ∧ (¬ (x3 = 0) → xC xM j_M_isIn [.ref 0, .int a2, .int 0, .int 1] σ2 (sm_ri False (fun x5 σ4 => ((x5 ≠ 0 → xE xM m_M_at 30 [.ref 0, .int a1, .int a2, .int 0, .int 0] [] σ4 Q) ∧ (¬ (x5 ≠ 0) → Q (some (.int (-1))) σ4)))))))))) : xC xM j_M_at [.ref 0, .int a1, .int a2] σ Q := sm_wp_C (M := m_M_at) rfl [30] 18 h
set_option maxRecDepth 100000 in
set_option maxHeartbeats 4000000 in
theorem w_M_at_30 (a1 a2 a3 a4 : Int32) (σ : sm_S) (Q : Option Value → sm_S → Prop) (h : ((256 ≤ a4 → Q (some (.int a3)) σ) ∧ (¬ (256 ≤ a4) → xC xM j_M_spanOf [.ref 0, .int a4] σ (sm_ri False (fun x2 σ1 => (¬ (2 : Int32) = 0 ∧ (((x2 - x2 / (2 : Int32) * (2 : Int32)) ≠ a2 → xE xM m_M_at 30 [.ref 0, .int a1, .int a2, .int a3, .int (a4 + 1)] [] σ1 Q) ∧ (¬ ((x2 - x2 / (2 : Int32) * (2 : Int32)) ≠ a2) → xC xM j_M_stateOf [.ref 0, .int a4] σ1 (sm_ri False (fun x4 σ3 => ((x4 ≠ 3 → xE xM m_M_at 30 [.ref 0, .int a1, .int a2, .int a3, .int (a4 + 1)] [] σ3 Q) ∧ (¬ (x4 ≠ 3) → xC xM j_M_frameAt [.ref 0, .int a4] σ3 (sm_ri False (fun x6 σ5 => (vp_in (x6 + 1) 2662 ∧ xC xM j_M_of [.ref 0, .int ((σ5 1 ((x6 + 1)).toNatClampNeg) - 1), .int 4] σ5 (sm_ri False (fun x8 σ7 => ((x8 ≠ a1 → xE xM m_M_at 30 [.ref 0, .int a1, .int a2, .int a3, .int (a4 + 1)] [] σ7 Q) ∧ (¬ (x8 ≠ a1) → xE xM m_M_at 30 [.ref 0, .int a1, .int a2, .int (a3 + 1), .int (a4 + 1)] [] σ7 Q))))))))))))))))))) : xE xM m_M_at 30 [.ref 0, .int a1, .int a2, .int a3, .int a4] [] σ Q := sm_wp_E (M := m_M_at) [30] 37 h
set_option maxRecDepth 100000 in
set_option maxHeartbeats 4000000 in
theorem w_M_log (a1 a2 : Int32) (σ : sm_S) (Q : Option Value → sm_S → Prop) (h : (∀ σ1, σ1 = sm_set σ 0 (upd (σ 0) 0 0) → ((a1 < 0 → Q (some (.int (-1))) σ1) ∧ (¬ (a1 < 0) → ((60 ≤ a1 → Q (some (.int (-1))) σ1) ∧ (¬ (60 ≤ a1) → (vp_in (5 : Int32) 2662 ∧ (((σ1 1 ((5 : Int32)).toNatClampNeg) ≤ a1 → Q (some (.int (-1))) σ1) ∧ (¬ ((σ1 1 ((5 : Int32)).toNatClampNeg) ≤ a1) → xC xM j_M_isIn [.ref 0, .int a2, .int 0, .int 3] σ1 (sm_ri False (fun x3 σ2 => ((x3 ≠ 0 → (vp_in (5 : Int32) 2662 ∧ (¬ (60 : Int32) = 0 ∧ (vp_in ((2422 + (4 * ((((σ2 1 ((5 : Int32)).toNatClampNeg) - 1) - a1) - (((σ2 1 ((5 : Int32)).toNatClampNeg) - 1) - a1) / (60 : Int32) * (60 : Int32)))) + a2) 2662 ∧ Q (some (.int (σ2 1 (((2422 + (4 * ((((σ2 1 ((5 : Int32)).toNatClampNeg) - 1) - a1) - (((σ2 1 ((5 : Int32)).toNatClampNeg) - 1) - a1) / (60 : Int32) * (60 : Int32)))) + a2)).toNatClampNeg))) σ2)))) ∧ (¬ (x3 ≠ 0) → Q (some (.int (-1))) σ2))))))))))))) : xC xM j_M_log [.ref 0, .int a1, .int a2] σ Q := sm_wp_C (M := m_M_log) rfl [] 41 h
set_option maxRecDepth 100000 in
set_option maxHeartbeats 4000000 in
theorem w_M_count (a1 : Int32) (σ : sm_S) (Q : Option Value → sm_S → Prop) (h : (∀ σ1, σ1 = sm_set σ 0 (upd (σ 0) 0 0) → xC xM j_M_isIn [.ref 0, .int a1, .int 0, .int 10] σ1 (sm_ri False (fun x3 σ2 => ((x3 = 0 → Q (some (.int (-1))) σ2) ∧ (¬ (x3 = 0) → (vp_in (7 + a1) 2662 ∧ Q (some (.int (σ2 1 ((7 + a1)).toNatClampNeg))) σ2))))))) : xC xM j_M_count [.ref 0, .int a1] σ Q := sm_wp_C (M := m_M_count) rfl [] 18 h
set_option maxRecDepth 100000 in
set_option maxHeartbeats 4000000 in
theorem w_M_look (a1 : Int32) (σ : sm_S) (Q : Option Value → sm_S → Prop) (h : (∀ σ1, σ1 = sm_set σ 0 (upd (σ 0) 0 0) → xC xM j_M_isIn [.ref 0, .int a1, .int 0, .int 3] σ1 (sm_ri False (fun x3 σ2 => ((x3 = 0 → ((a1 ≠ 4 → ((a1 ≠ 5 → ((a1 ≠ 6 → xC xM j_M_isIn [.ref 0, .int a1, .int 7, .int 10] σ2 (sm_ri False (fun x5 σ4 => ((x5 = 0 → ((a1 ≠ 11 → ((a1 ≠ 12 → ((a1 ≠ 13 → ((a1 ≠ 14 → Q (some (.int (-1))) σ4) ∧ (¬ (a1 ≠ 14) → xC xM j_M_framesOf [.ref 0, .int 1] σ4 (sm_ri False (fun x7 σ6 => xC xM j_M_framesOf [.ref 0, .int 0] σ6 (sm_ri False (fun x9 σ8 => (¬ x9 = 0 ∧ Q (some (.int ((100 * x7) / x9))) σ8)))))))) ∧ (¬ (a1 ≠ 13) → (vp_in (5 : Int32) 2662 ∧ Q (some (.int (σ4 1 ((5 : Int32)).toNatClampNeg))) σ4)))) ∧ (¬ (a1 ≠ 12) → xC xM j_M_goers [.ref 0] σ4 (sm_ri False (fun x11 σ10 => Q (some (.int x11)) σ10))))) ∧ (¬ (a1 ≠ 11) → xC xM j_M_waiters [.ref 0] σ4 (sm_ri False (fun x13 σ12 => Q (some (.int x13)) σ12))))) ∧ (¬ (x5 = 0) → xC xM j_M_framesIn [.ref 0, .int (a1 - 6)] σ4 (sm_ri False (fun x15 σ14 => Q (some (.int x15)) σ14))))))) ∧ (¬ (a1 ≠ 6) → xC xM j_M_framesOf [.ref 0, .int 0] σ2 (sm_ri False (fun x17 σ16 => xC xM j_M_framesOf [.ref 0, .int 1] σ16 (sm_ri False (fun x19 σ18 => (¬ (32 : Int32) = 0 ∧ Q (some (.int ((x17 + x19) / (32 : Int32)))) σ18)))))))) ∧ (¬ (a1 ≠ 5) → xC xM j_M_blocks [.ref 0] σ2 (sm_ri False (fun x21 σ20 => Q (some (.int x21)) σ20))))) ∧ (¬ (a1 ≠ 4) → (vp_in (4 : Int32) 2662 ∧ Q (some (.int (σ2 1 ((4 : Int32)).toNatClampNeg))) σ2)))) ∧ (¬ (x3 = 0) → xC xM j_M_settingOf [.ref 0, .int a1] σ2 (sm_ri False (fun x23 σ22 => Q (some (.int x23)) σ22)))))))) : xC xM j_M_look [.ref 0, .int a1] σ Q := sm_wp_C (M := m_M_look) rfl [] 48 h
set_option maxRecDepth 100000 in
set_option maxHeartbeats 4000000 in
theorem w_M_blocks (σ : sm_S) (Q : Option Value → sm_S → Prop) (h : xE xM m_M_blocks 4 [.ref 0, .int 0, .int 0] [] σ Q) : xC xM j_M_blocks [.ref 0] σ Q := sm_wp_C (M := m_M_blocks) rfl [4] 5 h
set_option maxRecDepth 100000 in
set_option maxHeartbeats 4000000 in
theorem w_M_blocks_4 (a1 a2 : Int32) (σ : sm_S) (Q : Option Value → sm_S → Prop) (h : ((96 ≤ a2 → Q (some (.int a1)) σ) ∧ (¬ (96 ≤ a2) → xC xM j_M_of [.ref 0, .int a2, .int 0] σ (sm_ri False (fun x2 σ1 => xE xM m_M_blocks 4 [.ref 0, .int (a1 + x2), .int (a2 + 1)] [] σ1 Q))))) : xE xM m_M_blocks 4 [.ref 0, .int a1, .int a2] [] σ Q := sm_wp_E (M := m_M_blocks) [4] 13 h
set_option maxRecDepth 100000 in
set_option maxHeartbeats 4000000 in
theorem w_M_framesIn (a1 : Int32) (σ : sm_S) (Q : Option Value → sm_S → Prop) (h : xE xM m_M_framesIn 4 [.ref 0, .int a1, .int 0, .int 0] [] σ Q) : xC xM j_M_framesIn [.ref 0, .int a1] σ Q := sm_wp_C (M := m_M_framesIn) rfl [4] 5 h
set_option maxRecDepth 100000 in
set_option maxHeartbeats 4000000 in
theorem w_M_framesIn_4 (a1 a2 a3 : Int32) (σ : sm_S) (Q : Option Value → sm_S → Prop) (h : ((8 ≤ a3 → Q (some (.int a2)) σ) ∧ (¬ (8 ≤ a3) → xC xM j_M_manyIn [.ref 0, .int a3, .int a1] σ (sm_ri False (fun x2 σ1 => xE xM m_M_framesIn 4 [.ref 0, .int a1, .int (a2 + x2), .int (a3 + 1)] [] σ1 Q))))) : xE xM m_M_framesIn 4 [.ref 0, .int a1, .int a2, .int a3] [] σ Q := sm_wp_E (M := m_M_framesIn) [4] 13 h
set_option maxRecDepth 100000 in
set_option maxHeartbeats 4000000 in
theorem w_M_waiters (σ : sm_S) (Q : Option Value → sm_S → Prop) (h : xE xM m_M_waiters 4 [.ref 0, .int 0, .int 0] [] σ Q) : xC xM j_M_waiters [.ref 0] σ Q := sm_wp_C (M := m_M_waiters) rfl [4] 5 h
set_option maxRecDepth 100000 in
set_option maxHeartbeats 4000000 in
theorem w_M_waiters_4 (a1 a2 : Int32) (σ : sm_S) (Q : Option Value → sm_S → Prop) (h : ((6 ≤ a2 → Q (some (.int a1)) σ) ∧ (¬ (6 ≤ a2) → xC xM j_M_taskAt [.ref 0, .int a2] σ (sm_ri False (fun x2 σ1 => (vp_in (x2 + 1) 2662 ∧ (((σ1 1 ((x2 + 1)).toNatClampNeg) ≤ 0 → xE xM m_M_waiters 4 [.ref 0, .int a1, .int (a2 + 1)] [] σ1 Q) ∧ (¬ ((σ1 1 ((x2 + 1)).toNatClampNeg) ≤ 0) → xE xM m_M_waiters 4 [.ref 0, .int (a1 ||| ((1 : Int32) <<< (a2 &&& 31))), .int (a2 + 1)] [] σ1 Q)))))))) : xE xM m_M_waiters 4 [.ref 0, .int a1, .int a2] [] σ Q := sm_wp_E (M := m_M_waiters) [4] 21 h
set_option maxRecDepth 100000 in
set_option maxHeartbeats 4000000 in
theorem w_M_goers (σ : sm_S) (Q : Option Value → sm_S → Prop) (h : xE xM m_M_goers 4 [.ref 0, .int 0, .int 0] [] σ Q) : xC xM j_M_goers [.ref 0] σ Q := sm_wp_C (M := m_M_goers) rfl [4] 5 h
set_option maxRecDepth 100000 in
set_option maxHeartbeats 4000000 in
theorem w_M_goers_4 (a1 a2 : Int32) (σ : sm_S) (Q : Option Value → sm_S → Prop) (h : ((8 ≤ a2 → Q (some (.int a1)) σ) ∧ (¬ (8 ≤ a2) → xC xM j_M_isGoing [.ref 0, .int a2] σ (sm_ri False (fun x2 σ1 => ((x2 = 0 → xE xM m_M_goers 4 [.ref 0, .int a1, .int (a2 + 1)] [] σ1 Q) ∧ (¬ (x2 = 0) → xE xM m_M_goers 4 [.ref 0, .int (a1 ||| ((1 : Int32) <<< (a2 &&& 31))), .int (a2 + 1)] [] σ1 Q))))))) : xE xM m_M_goers 4 [.ref 0, .int a1, .int a2] [] σ Q := sm_wp_E (M := m_M_goers) [4] 16 h
set_option maxRecDepth 100000 in
set_option maxHeartbeats 4000000 in
theorem w_M_image (a1 : Int32) (σ : sm_S) (Q : Option Value → sm_S → Prop) (h : (∀ σ1, σ1 = sm_set σ 0 (upd (σ 0) 0 0) → ((a1 ≠ 0 → (((1 : Int32) = 0 ∨ (1 : Int32) = 1) ∧ ∀ σ2, σ2 = sm_set σ1 0 (upd (σ1 0) 6 1) → xE xM m_M_image 25 [.ref 0, .int a1, .int 0] [] σ2 Q)) ∧ (¬ (a1 ≠ 0) → (((σ1 0 6) ≠ 0 → (((1 : Int32) = 0 ∨ (1 : Int32) = 1) ∧ ∀ σ3, σ3 = sm_set σ1 0 (upd (σ1 0) 6 1) → xE xM m_M_image 25 [.ref 0, .int a1, .int 0] [] σ3 Q)) ∧ (¬ ((σ1 0 6) ≠ 0) → (((0 : Int32) = 0 ∨ (0 : Int32) = 1) ∧ Q (some (.int 0)) σ1))))))) : xC xM j_M_image [.ref 0, .int a1] σ Q := sm_wp_C (M := m_M_image) rfl [25] 14 h
set_option maxRecDepth 100000 in
set_option maxHeartbeats 4000000 in
theorem w_M_image_25 (a1 a2 : Int32) (σ : sm_S) (Q : Option Value → sm_S → Prop) (h : ((2662 ≤ a2 → (((1 : Int32) = 0 ∨ (1 : Int32) = 1) ∧ Q (some (.int 1)) σ)) ∧ (¬ (2662 ≤ a2) → ((a1 = 0 → (vp_in a2 2662 ∧ (vp_in a2 2662 ∧ ∀ σ1, σ1 = sm_set σ 1 (upd (σ 1) (a2).toNatClampNeg (σ 5 (a2).toNatClampNeg)) → xE xM m_M_image 25 [.ref 0, .int a1, .int (a2 + 1)] [] σ1 Q))) ∧ (¬ (a1 = 0) → (vp_in a2 2662 ∧ (vp_in a2 2662 ∧ ∀ σ2, σ2 = sm_set σ 5 (upd (σ 5) (a2).toNatClampNeg (σ 1 (a2).toNatClampNeg)) → xE xM m_M_image 25 [.ref 0, .int a1, .int (a2 + 1)] [] σ2 Q))))))) : xE xM m_M_image 25 [.ref 0, .int a1, .int a2] [] σ Q := sm_wp_E (M := m_M_image) [25] 17 h
end
section
/-! ===== numbers and stores ===== -/
theorem bm {x : Int} (h : -2147483648 ≤ x) (h2 : x < 2147483648) : x.bmod 4294967296 = x := by
  simp only [Int.bmod]
  split <;> omega
theorem t_add {a b : Int32} {x y : Int} (ha : a.toInt = x) (hb : b.toInt = y) (h : -2147483648 ≤ x + y) (h2 : x + y < 2147483648) : (a + b).toInt = x + y := by
  rw [Int32.toInt_add, ha, hb]
  exact bm h h2
theorem t_sub {a b : Int32} {x y : Int} (ha : a.toInt = x) (hb : b.toInt = y) (h : -2147483648 ≤ x - y) (h2 : x - y < 2147483648) : (a - b).toInt = x - y := by
  rw [Int32.toInt_sub, ha, hb]
  exact bm h h2
theorem t_mul {a b : Int32} {x y : Int} (ha : a.toInt = x) (hb : b.toInt = y) (h : -2147483648 ≤ x * y) (h2 : x * y < 2147483648) : (a * b).toInt = x * y := by
  rw [Int32.toInt_mul, ha, hb]
  exact bm h h2
theorem t_inj {a b : Int32} (h : a.toInt = b.toInt) : a = b := Int32.toInt_inj.mp h
theorem t_lt {a b : Int32} : a < b ↔ a.toInt < b.toInt := Int32.lt_iff_toInt_lt
theorem t_le {a b : Int32} : a ≤ b ↔ a.toInt ≤ b.toInt := Int32.le_iff_toInt_le
theorem t_nat {x : Int32} {n : Nat} (h : x.toInt = n) : x.toNatClampNeg = n := by
  show x.toInt.toNat = n
  omega
theorem t_vp {x : Int32} {n N : Nat} (h : x.toInt = n) (hn : n < N) : vp_in x N := by
  rw [vp_in_iff]
  omega
theorem t_nI {x : Int32} {n : Nat} (h : x.toInt = n) : x = nI n := by
  apply t_inj
  have := x.toInt_lt
  rw [h, nI_toInt (by omega)]
theorem t_of {x : Int32} (h : 0 ≤ x.toInt) : ∃ n : Nat, x.toInt = n := ⟨x.toInt.toNat, by omega⟩
theorem t_bd (x : Int32) : -2147483648 ≤ x.toInt ∧ x.toInt < 2147483648 := ⟨x.le_toInt, x.toInt_lt⟩
theorem t_div {a : Int32} {n d : Nat} {b : Int32} (ha : a.toInt = n) (hb : b.toInt = d) (hd : 0 < d) : (a / b).toInt = ((n / d : Nat) : Int) := by
  have h1 := t_bd a
  have h2 := t_bd b
  rw [t_nI ha, t_nI hb, pk_div (by omega) hd (by omega), nI_toInt]
  have := Nat.div_le_self n d
  omega
theorem t_rem {a : Int32} {n d : Nat} {b : Int32} (ha : a.toInt = n) (hb : b.toInt = d) (hd : 0 < d) : (a - a / b * b).toInt = ((n % d : Nat) : Int) := by
  have h1 := t_bd a
  have h2 := t_bd b
  rw [t_nI ha, t_nI hb, pk_rem (by omega) hd (by omega), nI_toInt]
  have := Nat.mod_lt n hd
  omega
theorem t_sh : ∀ k, k < 31 → (1 : Int32) <<< (nI k &&& 31) = nI (2 ^ k) := by decide
theorem t_pow {o : Int32} {k : Nat} (h : o.toInt = k) (hk : k < 31) : ((1 : Int32) <<< (o &&& 31)).toInt = ((2 ^ k : Nat) : Int) := by
  rw [t_nI h, t_sh k hk, nI_toInt]
  exact Nat.pow_lt_pow_right (by decide) hk
theorem t_al {f k : Nat} (hk : k ≤ 5) (h : f % 2 ^ k = 0) : f % 32 + 2 ^ k ≤ 32 := by
  rcases (show k = 0 ∨ k = 1 ∨ k = 2 ∨ k = 3 ∨ k = 4 ∨ k = 5 by omega) with rfl | rfl | rfl | rfl | rfl | rfl <;> simp only [Nat.reducePow] at h ⊢ <;> omega
theorem t_pw {k : Nat} (hk : k ≤ 5) : 1 ≤ 2 ^ k ∧ 2 ^ k ≤ 32 := by
  rcases (show k = 0 ∨ k = 1 ∨ k = 2 ∨ k = 3 ∨ k = 4 ∨ k = 5 by omega) with rfl | rfl | rfl | rfl | rfl | rfl <;> decide
/-- the place c + m * f + k of a row -/
theorem t_ix {c m f k : Int32} {C M n j : Nat} (hc : c.toInt = C) (hm : m.toInt = M) (hf : f.toInt = n) (hk : k.toInt = j) (h : C + M * n + j < 2662) : (c + m * f + k).toInt = ((C + M * n + j : Nat) : Int) := by
  have h0 : (m * f).toInt = ((M * n : Nat) : Int) := by
    rw [t_mul hm hf (by rw [← Int.natCast_mul]; omega) (by rw [← Int.natCast_mul]; omega), Int.natCast_mul]
  have h1 := t_add hc h0 (by omega) (by omega)
  rw [t_add h1 hk (by omega) (by omega)]
  omega
theorem s_at {σ : sm_S} {k : Nat} {f : Nat → Int32} : (sm_set σ k f) k = f := if_pos rfl
theorem s_ne {σ : sm_S} {k j : Nat} {f : Nat → Int32} (h : j ≠ k) : (sm_set σ k f) j = σ j := if_neg h
theorem s_ss {σ : sm_S} {k : Nat} {f g : Nat → Int32} : sm_set (sm_set σ k f) k g = sm_set σ k g := by
  funext a
  by_cases h : a = k <;> simp [sm_set, h]
theorem s_id {σ : sm_S} {k : Nat} : sm_set σ k (σ k) = σ := by
  funext a
  by_cases h : a = k <;> simp [sm_set, h]
theorem u_at {f : Nat → Int32} {k : Nat} {x : Int32} : upd f k x k = x := if_pos rfl
theorem u_ne {f : Nat → Int32} {k j : Nat} {x : Int32} (h : j ≠ k) : upd f k x j = f j := if_neg h
end
section
/-! ===== the model: places and reads ===== -/
theorem c_frameAt (f : Int32) (σ : sm_S) : xC xM j_M_frameAt [.ref 0, .int f] σ (sm_I (fun x σ' => x = 18 + 3 * f ∧ σ' = σ)) := w_M_frameAt f σ _ ⟨_, rfl, rfl, rfl⟩
theorem c_blockAt (f : Int32) (σ : sm_S) : xC xM j_M_blockAt [.ref 0, .int f] σ (sm_I (fun x σ' => x = 786 + 16 * f ∧ σ' = σ)) := w_M_blockAt f σ _ ⟨_, rfl, rfl, rfl⟩
theorem c_taskAt (f : Int32) (σ : sm_S) : xC xM j_M_taskAt [.ref 0, .int f] σ (sm_I (fun x σ' => x = 2322 + 6 * f ∧ σ' = σ)) := w_M_taskAt f σ _ ⟨_, rfl, rfl, rfl⟩
theorem c_spanAt (f : Int32) (σ : sm_S) : xC xM j_M_spanAt [.ref 0, .int f] σ (sm_I (fun x σ' => x = 2358 + 8 * f ∧ σ' = σ)) := w_M_spanAt f σ _ ⟨_, rfl, rfl, rfl⟩
theorem ixF {f k : Int32} {n j : Nat} (hf : f.toInt = n) (hk : k.toInt = j) (h : 18 + 3 * n + j < 2662) : vp_in (18 + 3 * f + k) 2662 ∧ (18 + 3 * f + k).toNatClampNeg = 18 + 3 * n + j := by
  have h1 := t_ix (c := 18) (m := 3) (C := 18) (M := 3) rfl rfl hf hk h
  exact ⟨t_vp h1 h, t_nat h1⟩
theorem ixB {f k : Int32} {n j : Nat} (hf : f.toInt = n) (hk : k.toInt = j) (h : 786 + 16 * n + j < 2662) : vp_in (786 + 16 * f + k) 2662 ∧ (786 + 16 * f + k).toNatClampNeg = 786 + 16 * n + j := by
  have h1 := t_ix (c := 786) (m := 16) (C := 786) (M := 16) rfl rfl hf hk h
  exact ⟨t_vp h1 h, t_nat h1⟩
theorem ixT {f k : Int32} {n j : Nat} (hf : f.toInt = n) (hk : k.toInt = j) (h : 2322 + 6 * n + j < 2662) : vp_in (2322 + 6 * f + k) 2662 ∧ (2322 + 6 * f + k).toNatClampNeg = 2322 + 6 * n + j := by
  have h1 := t_ix (c := 2322) (m := 6) (C := 2322) (M := 6) rfl rfl hf hk h
  exact ⟨t_vp h1 h, t_nat h1⟩
theorem ixS {f k : Int32} {n j : Nat} (hf : f.toInt = n) (hk : k.toInt = j) (h : 2358 + 8 * n + j < 2662) : vp_in (2358 + 8 * f + k) 2662 ∧ (2358 + 8 * f + k).toNatClampNeg = 2358 + 8 * n + j := by
  have h1 := t_ix (c := 2358) (m := 8) (C := 2358) (M := 8) rfl rfl hf hk h
  exact ⟨t_vp h1 h, t_nat h1⟩
theorem c_isIn (a b c : Int32) (σ : sm_S) : xC xM j_M_isIn [.ref 0, .int a, .int b, .int c] σ (sm_I (fun x σ' => ((x = 1 ∧ b.toInt ≤ a.toInt ∧ a.toInt ≤ c.toInt) ∨ (x = 0 ∧ (a.toInt < b.toInt ∨ c.toInt < a.toInt))) ∧ σ' = σ)) := by
  refine w_M_isIn a b c σ _ ⟨fun h => ⟨Or.inl rfl, _, rfl, ?_, rfl⟩, fun h => ⟨fun h2 => ⟨Or.inl rfl, _, rfl, ?_, rfl⟩, fun h2 => ⟨Or.inr rfl, _, rfl, ?_, rfl⟩⟩⟩
  · exact Or.inr ⟨rfl, Or.inl (t_lt.mp h)⟩
  · exact Or.inr ⟨rfl, Or.inr (t_lt.mp h2)⟩
  · rw [t_lt] at h h2
    exact Or.inl ⟨rfl, by omega, by omega⟩
theorem c_isTask (a : Int32) (σ : sm_S) : xC xM j_M_isTask [.ref 0, .int a] σ (sm_I (fun x σ' => ((x = 1 ∧ ∃ n : Nat, n < 6 ∧ a.toInt = n) ∨ (x = 0 ∧ (a.toInt < 0 ∨ 6 ≤ a.toInt))) ∧ σ' = σ)) := by
  refine w_M_isTask a σ _ ⟨fun h => ⟨Or.inl rfl, _, rfl, ?_, rfl⟩, fun h => ⟨fun h2 => ⟨Or.inl rfl, _, rfl, ?_, rfl⟩, fun h2 => ⟨Or.inr rfl, _, rfl, ?_, rfl⟩⟩⟩
  · exact Or.inr ⟨rfl, Or.inl (t_lt.mp h)⟩
  · exact Or.inr ⟨rfl, Or.inr (t_le.mp h2)⟩
  · rw [t_lt] at h
    rw [t_le] at h2
    have h : ¬ a.toInt < 0 := h
    have h2 : ¬ 6 ≤ a.toInt := h2
    exact Or.inl ⟨rfl, a.toInt.toNat, by omega, by omega⟩
theorem c_isSpan (a : Int32) (σ : sm_S) : xC xM j_M_isSpan [.ref 0, .int a] σ (sm_I (fun x σ' => ((x = 1 ∧ ∃ n : Nat, n < 8 ∧ a.toInt = n) ∨ (x = 0 ∧ (a.toInt < 0 ∨ 8 ≤ a.toInt))) ∧ σ' = σ)) := by
  refine w_M_isSpan a σ _ ⟨fun h => ⟨Or.inl rfl, _, rfl, ?_, rfl⟩, fun h => ⟨fun h2 => ⟨Or.inl rfl, _, rfl, ?_, rfl⟩, fun h2 => ⟨Or.inr rfl, _, rfl, ?_, rfl⟩⟩⟩
  · exact Or.inr ⟨rfl, Or.inl (t_lt.mp h)⟩
  · exact Or.inr ⟨rfl, Or.inr (t_le.mp h2)⟩
  · rw [t_lt] at h
    rw [t_le] at h2
    have h : ¬ a.toInt < 0 := h
    have h2 : ¬ 8 ≤ a.toInt := h2
    exact Or.inl ⟨rfl, a.toInt.toNat, by omega, by omega⟩
theorem c_isBlock (a : Int32) (σ : sm_S) : xC xM j_M_isBlock [.ref 0, .int a] σ (sm_I (fun x σ' => ((x = 1 ∧ ∃ n : Nat, n < 96 ∧ a.toInt = n ∧ σ 1 (786 + 16 * n) = 1) ∨ (x = 0 ∧ ((a.toInt < 0 ∨ 96 ≤ a.toInt) ∨ ∃ n : Nat, n < 96 ∧ a.toInt = n ∧ σ 1 (786 + 16 * n) ≠ 1))) ∧ σ' = σ)) := by
  refine w_M_isBlock a σ _ ⟨fun h => ⟨Or.inl rfl, _, rfl, Or.inr ⟨rfl, Or.inl (Or.inl (t_lt.mp h))⟩, rfl⟩, fun h => ⟨fun h2 => ⟨Or.inl rfl, _, rfl, Or.inr ⟨rfl, Or.inl (Or.inr (t_le.mp h2))⟩, rfl⟩, fun h2 => (c_blockAt a σ).int ?_⟩⟩
  rintro _ _ ⟨rfl, rfl⟩
  rw [t_lt] at h
  rw [t_le] at h2
  have h : ¬ a.toInt < 0 := h
  have h2 : ¬ 96 ≤ a.toInt := h2
  obtain ⟨n, hn⟩ := t_of (x := a) (by omega)
  obtain ⟨h3, h4⟩ := ixB (k := 0) (j := 0) hn rfl (by omega)
  rw [h4]
  exact ⟨h3, fun h5 => ⟨Or.inl rfl, _, rfl, Or.inr ⟨rfl, Or.inr ⟨n, by omega, hn, h5⟩⟩, rfl⟩, fun h5 => ⟨Or.inr rfl, _, rfl, Or.inl ⟨rfl, n, by omega, hn, Classical.not_not.mp h5⟩, rfl⟩⟩
theorem c_stateOf {f : Int32} {n : Nat} (hf : f.toInt = n) (hn : n < 800) (σ : sm_S) : xC xM j_M_stateOf [.ref 0, .int f] σ (sm_I (fun x σ' => x = σ 1 (18 + 3 * n) ∧ σ' = σ)) := by
  refine w_M_stateOf f σ _ ((c_frameAt f σ).int ?_)
  rintro _ _ ⟨rfl, rfl⟩
  obtain ⟨h1, h2⟩ := ixF (k := 0) (j := 0) hf rfl (by omega)
  rw [h2]
  exact ⟨h1, _, rfl, rfl, rfl⟩
theorem c_valueOf {f : Int32} {n : Nat} (hf : f.toInt = n) (hn : n < 800) (σ : sm_S) : xC xM j_M_valueOf [.ref 0, .int f] σ (sm_I (fun x σ' => x = σ 1 (18 + 3 * n + 2) ∧ σ' = σ)) := by
  refine w_M_valueOf f σ _ ((c_frameAt f σ).int ?_)
  rintro _ _ ⟨rfl, rfl⟩
  obtain ⟨h1, h2⟩ := ixF (k := 2) (j := 2) hf rfl (by omega)
  rw [h2]
  exact ⟨h1, _, rfl, rfl, rfl⟩
theorem c_isFree {f : Int32} {n : Nat} (hf : f.toInt = n) (hn : n < 800) (σ : sm_S) : xC xM j_M_isFree [.ref 0, .int f] σ (sm_I (fun x σ' => ((x = 1 ∧ σ 1 (18 + 3 * n) = 1) ∨ (x = 0 ∧ σ 1 (18 + 3 * n) ≠ 1)) ∧ σ' = σ)) := by
  refine w_M_isFree f σ _ ((c_stateOf hf hn σ).int ?_)
  rintro _ _ ⟨rfl, rfl⟩
  exact ⟨fun h => ⟨Or.inl rfl, _, rfl, Or.inr ⟨rfl, h⟩, rfl⟩, fun h => ⟨Or.inr rfl, _, rfl, Or.inl ⟨rfl, Classical.not_not.mp h⟩, rfl⟩⟩
theorem c_spanOf {f : Int32} {n : Nat} (hf : f.toInt = n) (σ : sm_S) : xC xM j_M_spanOf [.ref 0, .int f] σ (sm_I (fun x σ' => x.toInt = ((n / 32 : Nat) : Int) ∧ σ' = σ)) :=
  w_M_spanOf f σ _ ⟨by decide, _, rfl, t_div (d := 32) hf rfl (by decide), rfl⟩
theorem c_spanState {s : Int32} {n : Nat} (hs : s.toInt = n) (hn : n < 8) (σ : sm_S) : xC xM j_M_spanState [.ref 0, .int s] σ (sm_I (fun x σ' => x = σ 1 (2358 + 8 * n) ∧ σ' = σ)) := by
  refine w_M_spanState s σ _ ((c_spanAt s σ).int ?_)
  rintro _ _ ⟨rfl, rfl⟩
  obtain ⟨h1, h2⟩ := ixS (k := 0) (j := 0) hs rfl (by omega)
  rw [h2]
  exact ⟨h1, _, rfl, rfl, rfl⟩
theorem c_zoneOf {s : Int32} {n : Nat} (hs : s.toInt = n) (hn : n < 8) (σ : sm_S) : xC xM j_M_zoneOf [.ref 0, .int s] σ (sm_I (fun x σ' => ((σ 1 (2358 + 8 * n) = 0 ∧ x = -1) ∨ (σ 1 (2358 + 8 * n) ≠ 0 ∧ x = σ 1 (2358 + 8 * n + 1))) ∧ σ' = σ)) := by
  refine w_M_zoneOf s σ _ ((c_spanState hs hn σ).int ?_)
  rintro _ _ ⟨rfl, rfl⟩
  refine ⟨fun h => (c_spanAt s _).int ?_, fun h => ⟨_, rfl, Or.inl ⟨Classical.not_not.mp h, rfl⟩, rfl⟩⟩
  rintro _ _ ⟨rfl, rfl⟩
  obtain ⟨h1, h2⟩ := ixS (k := 1) (j := 1) hs rfl (by omega)
  rw [h2]
  exact ⟨h1, _, rfl, Or.inr ⟨h, rfl⟩, rfl⟩
theorem c_of {b k : Int32} {n j : Nat} (hb : b.toInt = n) (hk : k.toInt = j) (h : 786 + 16 * n + j < 2662) (σ : sm_S) : xC xM j_M_of [.ref 0, .int b, .int k] σ (sm_I (fun x σ' => x = σ 1 (786 + 16 * n + j) ∧ σ' = σ)) := by
  refine w_M_of b k σ _ ((c_blockAt b σ).int ?_)
  rintro _ _ ⟨rfl, rfl⟩
  obtain ⟨h1, h2⟩ := ixB hb hk h
  rw [h2]
  exact ⟨h1, _, rfl, rfl, rfl⟩
theorem c_frameOf {b : Int32} {n : Nat} (hb : b.toInt = n) (hn : n < 96) (σ : sm_S) : xC xM j_M_frameOf [.ref 0, .int b] σ (sm_I (fun x σ' => x = σ 1 (786 + 16 * n + 1) ∧ σ' = σ)) := by
  refine w_M_frameOf b σ _ ((c_of (k := 1) (j := 1) hb rfl (by omega) σ).int ?_)
  rintro _ _ ⟨rfl, rfl⟩
  exact ⟨_, rfl, rfl, rfl⟩
theorem c_longOf {b : Int32} {n : Nat} (hb : b.toInt = n) (hn : n < 96) (σ : sm_S) : xC xM j_M_longOf [.ref 0, .int b] σ (sm_I (fun x σ' => x = (1 : Int32) <<< (σ 1 (786 + 16 * n + 2) &&& 31) ∧ σ' = σ)) := by
  refine w_M_longOf b σ _ ((c_of (k := 2) (j := 2) hb rfl (by omega) σ).int ?_)
  rintro _ _ ⟨rfl, rfl⟩
  exact ⟨_, rfl, rfl, rfl⟩
theorem c_isOnWay {b : Int32} {n : Nat} (hb : b.toInt = n) (hn : n < 96) (σ : sm_S) : xC xM j_M_isOnWay [.ref 0, .int b] σ (sm_I (fun x σ' => ((x = 0 ∧ σ 1 (786 + 16 * n + 6) ≤ 0) ∨ (x = 1 ∧ ¬ σ 1 (786 + 16 * n + 6) ≤ 0)) ∧ σ' = σ)) := by
  refine w_M_isOnWay b σ _ ((c_of (k := 6) (j := 6) hb rfl (by omega) σ).int ?_)
  rintro _ _ ⟨rfl, rfl⟩
  exact ⟨fun h => ⟨Or.inl rfl, _, rfl, Or.inl ⟨rfl, h⟩, rfl⟩, fun h => ⟨Or.inr rfl, _, rfl, Or.inr ⟨rfl, h⟩, rfl⟩⟩
theorem c_isPinned {b : Int32} {n : Nat} (hb : b.toInt = n) (hn : n < 96) (σ : sm_S) : xC xM j_M_isPinned [.ref 0, .int b] σ (sm_I (fun x σ' => ((x = 0 ∧ σ 1 (786 + 16 * n + 5) = 0) ∨ (x = 1 ∧ ¬ σ 1 (786 + 16 * n + 5) = 0)) ∧ σ' = σ)) := by
  refine w_M_isPinned b σ _ ((c_of (k := 5) (j := 5) hb rfl (by omega) σ).int ?_)
  rintro _ _ ⟨rfl, rfl⟩
  exact ⟨fun h => ⟨Or.inl rfl, _, rfl, Or.inl ⟨rfl, h⟩, rfl⟩, fun h => ⟨Or.inr rfl, _, rfl, Or.inr ⟨rfl, h⟩, rfl⟩⟩
theorem c_isShut {f : Int32} {n : Nat} (hf : f.toInt = n) (hn : n < 256) (σ : sm_S) : xC xM j_M_isShut [.ref 0, .int f] σ (sm_I (fun x σ' => (x = 0 ∨ x = 1) ∧ σ' = σ)) := by
  refine w_M_isShut f σ _ ⟨by decide, by decide, (c_spanOf hf σ).int ?_⟩
  rintro x _ ⟨hx, rfl⟩
  refine (c_spanAt x _).int ?_
  rintro _ _ ⟨rfl, rfl⟩
  obtain ⟨h1, h2⟩ := ixS (k := 2) (j := 2) hx rfl (by omega)
  exact ⟨h1, fun h => ⟨Or.inl rfl, _, rfl, Or.inl rfl, rfl⟩, fun h => ⟨Or.inr rfl, _, rfl, Or.inr rfl, rfl⟩⟩
end
section
/-! ===== the model: stores, and what looks for places ===== -/
theorem c_lay {b k : Int32} {n j : Nat} (hb : b.toInt = n) (hk : k.toInt = j) (h : 786 + 16 * n + j < 2662) (x : Int32) (σ : sm_S) : xC xM j_M_lay [.ref 0, .int b, .int k, .int x] σ (sm_V (fun σ' => σ' = sm_set σ 1 (upd (σ 1) (786 + 16 * n + j) x))) := by
  refine w_M_lay b k x σ _ ((c_blockAt b σ).int ?_)
  rintro _ _ ⟨rfl, rfl⟩
  obtain ⟨h1, h2⟩ := ixB hb hk h
  rw [h2]
  exact ⟨h1, fun σ' h => ⟨rfl, h⟩⟩
theorem c_lays {f : Int32} {n : Nat} (hf : f.toInt = n) (hn : n < 800) (x : Int32) (σ : sm_S) : xC xM j_M_lays [.ref 0, .int f, .int x] σ (sm_V (fun σ' => σ' = sm_set σ 1 (upd (σ 1) (18 + 3 * n + 2) x))) := by
  refine w_M_lays f x σ _ ((c_frameAt f σ).int ?_)
  rintro _ _ ⟨rfl, rfl⟩
  obtain ⟨h1, h2⟩ := ixF (k := 2) (j := 2) hf rfl (by omega)
  rw [h2]
  exact ⟨h1, fun σ' h => ⟨rfl, h⟩⟩
theorem c_has {f : Int32} {n : Nat} (hf : f.toInt = n) (hn : n < 800) (b s : Int32) (σ : sm_S) : xC xM j_M_has [.ref 0, .int f, .int b, .int s] σ (sm_V (fun σ' => σ' = sm_set σ 1 (upd (upd (σ 1) (18 + 3 * n) s) (18 + 3 * n + 1) (b + 1)))) := by
  refine w_M_has f b s σ _ ((c_frameAt f σ).int ?_)
  rintro _ _ ⟨rfl, rfl⟩
  obtain ⟨h1, h2⟩ := ixF (k := 0) (j := 0) hf rfl (by omega)
  rw [h2]
  refine ⟨h1, fun σ1 e1 => (c_frameAt f σ1).int ?_⟩
  rintro _ _ ⟨rfl, rfl⟩
  obtain ⟨h3, h4⟩ := ixF (k := 1) (j := 1) hf rfl (by omega)
  rw [h4]
  refine ⟨h3, fun σ2 e2 => ⟨rfl, ?_⟩⟩
  rw [e2, e1, s_at, s_ss]
  rfl
theorem c_leaves {f : Int32} {n : Nat} (hf : f.toInt = n) (hn : n < 256) (σ : sm_S) : xC xM j_M_leaves [.ref 0, .int f] σ (sm_V (fun σ' => ∃ s : Int32, (s = 1 ∨ s = 2) ∧ σ' = sm_set σ 1 (upd (upd (upd (σ 1) (18 + 3 * n) s) (18 + 3 * n + 1) 0) (18 + 3 * n + 2) 0))) := by
  refine w_M_leaves f σ _ ((c_frameAt f σ).int ?_)
  rintro _ _ ⟨rfl, rfl⟩
  refine (c_isShut hf hn _).int ?_
  rintro x _ ⟨hx, rfl⟩
  obtain ⟨h1, h2⟩ := ixF (k := 0) (j := 0) hf rfl (by omega)
  obtain ⟨h3, h4⟩ := ixF (k := 1) (j := 1) hf rfl (by omega)
  obtain ⟨h5, h6⟩ := ixF (k := 2) (j := 2) hf rfl (by omega)
  rw [h2, h4, h6]
  refine ⟨fun _ => ⟨h1, fun σ1 e1 => ⟨h3, fun σ2 e2 => ⟨h5, fun σ3 e3 => ⟨rfl, 1, Or.inl rfl, ?_⟩⟩⟩⟩, fun _ => ⟨h1, fun σ1 e1 => ⟨h3, fun σ2 e2 => ⟨h5, fun σ3 e3 => ⟨rfl, 2, Or.inr rfl, ?_⟩⟩⟩⟩⟩ <;>
  · rw [e3, e2, e1]
    simp only [s_at, s_ss, Nat.add_zero]
theorem c_more {k : Int32} {j : Nat} (hk : k.toInt = j) (hj : j < 2662) (x : Int32) (σ : sm_S) : xC xM j_M_more [.ref 0, .int k, .int x] σ (sm_V (fun σ' => σ' = sm_set σ 1 (upd (σ 1) j (σ 1 j + x)))) := by
  refine w_M_more k x σ _ ⟨t_vp hk hj, t_vp hk hj, fun σ' h => ⟨rfl, ?_⟩⟩
  rw [h, t_nat hk]
theorem c_counts {k : Int32} {j : Nat} (hk : k.toInt = j) (hj : j < 11) (x : Int32) (σ : sm_S) : xC xM j_M_counts [.ref 0, .int k, .int x] σ (sm_V (fun σ' => σ' = sm_set σ 1 (upd (σ 1) (7 + j) (σ 1 (7 + j) + x)))) := by
  have h1 : (7 + k).toInt = ((7 + j : Nat) : Int) := by
    rw [t_add (x := 7) rfl hk (by omega) (by omega)]
    omega
  refine w_M_counts k x σ _ ((c_more h1 (by omega) x σ).void ?_)
  rintro _ rfl
  exact ⟨rfl, rfl⟩
theorem c_writes {n : Nat} (a b c : Int32) (σ : sm_S) (h5 : (σ 1 5).toInt = n) : xC xM j_M_writes [.ref 0, .int a, .int b, .int c] σ (sm_V (fun σ' => ∃ v, σ' = sm_set σ 1 v ∧ v 5 = σ 1 5 + 1 ∧ ∀ i, i < 2422 → i ≠ 5 → v i = σ 1 i)) := by
  have hr : (σ 1 ((5 : Int32)).toNatClampNeg - σ 1 ((5 : Int32)).toNatClampNeg / (60 : Int32) * (60 : Int32)).toInt = ((n % 60 : Nat) : Int) := t_rem (d := 60) h5 rfl (by decide)
  have hm : n % 60 < 60 := Nat.mod_lt _ (by decide)
  have hx : ∀ (k : Int32) (j : Nat), k.toInt = j → j < 4 → vp_in (2422 + 4 * (σ 1 ((5 : Int32)).toNatClampNeg - σ 1 ((5 : Int32)).toNatClampNeg / (60 : Int32) * (60 : Int32)) + k) 2662 ∧ (2422 + 4 * (σ 1 ((5 : Int32)).toNatClampNeg - σ 1 ((5 : Int32)).toNatClampNeg / (60 : Int32) * (60 : Int32)) + k).toNatClampNeg = 2422 + 4 * (n % 60) + j := by
    intro k j hk hj
    have h1 := t_ix (c := 2422) (m := 4) (C := 2422) (M := 4) rfl rfl hr hk (by omega)
    exact ⟨t_vp h1 (by omega), t_nat h1⟩
  obtain ⟨p0, q0⟩ := hx 0 0 rfl (by omega)
  obtain ⟨p1, q1⟩ := hx 1 1 rfl (by omega)
  obtain ⟨p2, q2⟩ := hx 2 2 rfl (by omega)
  obtain ⟨p3, q3⟩ := hx 3 3 rfl (by omega)
  rw [Int32.add_zero] at p0 q0
  refine w_M_writes a b c σ _ ⟨t_vp (n := 5) rfl (by omega), by decide, t_vp (n := 4) rfl (by omega), p0, fun σ1 e1 => ⟨p1, fun σ2 e2 => ⟨p2, fun σ3 e3 => ⟨p3, fun σ4 e4 => ?_⟩⟩⟩⟩
  refine (c_more (k := 5) (j := 5) rfl (by omega) 1 σ4).void ?_
  rintro _ rfl
  rw [q0] at e1
  rw [q1] at e2
  rw [q2] at e3
  rw [q3] at e4
  have hv : ∀ i, i < 2422 → σ4 1 i = σ 1 i := by
    intro i hi
    rw [e4, s_at, u_ne (by omega), e3, s_at, u_ne (by omega), e2, s_at, u_ne (by omega), e1, s_at, u_ne (by omega)]
  refine ⟨rfl, upd (σ4 1) 5 (σ4 1 5 + 1), ?_, ?_, fun i hi h5 => ?_⟩
  · rw [e4, e3, e2, e1]
    simp only [s_at, s_ss]
  · rw [u_at, hv 5 (by omega)]
  · rw [u_ne h5, hv i hi]
end
section
/-! ===== the model: free places ===== -/
theorem t_smod : ∀ k, k < 6 → ((nI k &&& 31).toBitVec.smod 32).toNat = k := by decide
theorem t_fl {f o : Int32} {n k : Nat} (hf : f.toInt = n) (hn : n < 1000) (ho : o.toInt = k) (hk : k ≤ 5) : ((f >>> (o &&& 31)) <<< (o &&& 31)).toInt = ((n / 2 ^ k * 2 ^ k : Nat) : Int) := by
  have h0 := Nat.div_mul_le_self n (2 ^ k)
  rw [t_nI hf, t_nI ho, pk_shrN (by omega) _ k (t_smod k (by omega)), pk_shlN _ k (t_smod k (by omega)) (by omega), nI_toInt (by omega)]
/-- are the 2^o frames from fr on free? -/
theorem l_areFree {a1 a2 a3 : Int32} {fr o : Nat} (h3 : a3.toInt = fr) (ho : a2.toInt = o) (ho5 : o ≤ 5) (hfr : fr < 700) (σ : sm_S) : ∀ (d k : Nat) (a4 : Int32), a4.toInt = ((fr + k : Nat) : Int) → k + d = 2 ^ o → (∀ j, j < k → σ 1 (18 + 3 * (fr + j)) = 1) →
    xE xM m_M_areFree 9 [.ref 0, .int a1, .int a2, .int a3, .int a4] [] σ (sm_I (fun x σ' => ((x = 1 ∧ ∀ j, j < 2 ^ o → σ 1 (18 + 3 * (fr + j)) = 1) ∨ (x = 0 ∧ ∃ j, j < 2 ^ o ∧ σ 1 (18 + 3 * (fr + j)) ≠ 1)) ∧ σ' = σ)) := by
  have hp := t_pw ho5
  have hb : (a3 + ((1 : Int32) <<< (a2 &&& 31))).toInt = ((fr + 2 ^ o : Nat) : Int) := by
    rw [t_add h3 (t_pow ho (by omega)) (by omega) (by omega)]
    omega
  intro d
  induction d with
  | zero =>
    intro k a4 h4 hk hall
    refine w_M_areFree_9 a1 a2 a3 a4 σ _ ⟨fun _ => ⟨Or.inr rfl, _, rfl, Or.inl ⟨rfl, fun j hj => hall j (by omega)⟩, rfl⟩, fun h => absurd ?_ h⟩
    rw [t_le, hb, h4]
    omega
  | succ d ih =>
    intro k a4 h4 hk hall
    refine w_M_areFree_9 a1 a2 a3 a4 σ _ ⟨fun h => ?_, fun h => (c_isFree h4 (by omega) σ).int ?_⟩
    · rw [t_le, hb, h4] at h
      omega
    · rintro x _ ⟨hx, rfl⟩
      rcases hx with ⟨rfl, hx⟩ | ⟨rfl, hx⟩
      · refine ⟨fun _ => ih (k + 1) (a4 + 1) ?_ (by omega) (fun j hj => ?_), fun h => absurd (by decide) h⟩
        · rw [t_add h4 (y := 1) rfl (by omega) (by omega)]
          omega
        · rcases Nat.lt_succ_iff_lt_or_eq.mp hj with h1 | rfl
          · exact hall j h1
          · exact hx
      · exact ⟨fun h => absurd rfl h, fun _ => ⟨Or.inl rfl, _, rfl, Or.inr ⟨rfl, k, by omega, hx⟩, rfl⟩⟩
theorem c_areFree {f o : Int32} {n k : Nat} (hf : f.toInt = n) (hn : n < 700) (ho : o.toInt = k) (hk : k ≤ 5) (σ : sm_S) : xC xM j_M_areFree [.ref 0, .int f, .int o] σ (sm_I (fun x σ' => ((x = 1 ∧ ∀ j, j < 2 ^ k → σ 1 (18 + 3 * (n / 2 ^ k * 2 ^ k + j)) = 1) ∨ (x = 0 ∧ ∃ j, j < 2 ^ k ∧ σ 1 (18 + 3 * (n / 2 ^ k * 2 ^ k + j)) ≠ 1)) ∧ σ' = σ)) := by
  have h1 := t_fl hf (by omega) ho hk
  have h0 := Nat.div_mul_le_self n (2 ^ k)
  exact w_M_areFree f o σ _ (l_areFree h1 ho hk (by omega) σ (2 ^ k) 0 _ (by rw [h1]; rfl) (by omega) (fun j hj => absurd hj (Nat.not_lt_zero j)))
theorem l_hole {a1 : Int32} {n : Nat} (h1 : a1.toInt = n) (hn : n < 700) (σ : sm_S) : ∀ (d k : Nat) (a2 : Int32), a2.toInt = k → k + d = 5 → xE xM m_M_holeOf 2 [.ref 0, .int a1, .int a2] [] σ (sm_I (fun x σ' => (∃ j : Nat, x.toInt = j ∧ j ≤ 5) ∧ σ' = σ)) := by
  intro d
  induction d with
  | zero =>
    intro k a2 h2 hk
    refine w_M_holeOf_2 a1 a2 σ _ ⟨fun _ => ⟨_, rfl, ⟨k, h2, by omega⟩, rfl⟩, fun h => absurd ?_ h⟩
    rw [t_le, h2]
    show (5 : Int) ≤ _
    omega
  | succ d ih =>
    intro k a2 h2 hk
    have h3 : (a2 + 1).toInt = ((k + 1 : Nat) : Int) := by
      rw [t_add h2 (y := 1) rfl (by omega) (by omega)]
      omega
    refine w_M_holeOf_2 a1 a2 σ _ ⟨fun _ => ⟨_, rfl, ⟨k, h2, by omega⟩, rfl⟩, fun h => (c_areFree h1 hn h3 (by omega) σ).int ?_⟩
    rintro x _ ⟨hx, rfl⟩
    exact ⟨fun _ => ⟨_, rfl, ⟨k, h2, by omega⟩, rfl⟩, fun _ => ih (k + 1) _ h3 (by omega)⟩
theorem c_holeOf {a1 : Int32} {n : Nat} (h1 : a1.toInt = n) (hn : n < 700) (σ : sm_S) : xC xM j_M_holeOf [.ref 0, .int a1] σ (sm_I (fun x σ' => (∃ j : Nat, x.toInt = j ∧ j ≤ 5) ∧ σ' = σ)) :=
  w_M_holeOf a1 σ _ (l_hole h1 hn σ 5 0 0 rfl rfl)
theorem l_holeFrom {a1 a2 : Int32} {n : Nat} (h1 : a1.toInt = n) (hn : n < 700) (σ : sm_S) : ∀ (d k : Nat) (a3 : Int32), a3.toInt = k → k + d = 5 → xE xM m_M_holeFrom 2 [.ref 0, .int a1, .int a2, .int a3] [] σ (sm_I (fun x σ' => (∃ j : Nat, x.toInt = j ∧ j ≤ 5) ∧ σ' = σ)) := by
  intro d
  induction d with
  | zero =>
    intro k a3 h2 hk
    refine w_M_holeFrom_2 a1 a2 a3 σ _ ⟨fun _ => ⟨_, rfl, ⟨k, h2, by omega⟩, rfl⟩, fun h => absurd ?_ h⟩
    rw [t_le, h2]
    show (5 : Int) ≤ _
    omega
  | succ d ih =>
    intro k a3 h2 hk
    have h3 : (a3 + 1).toInt = ((k + 1 : Nat) : Int) := by
      rw [t_add h2 (y := 1) rfl (by omega) (by omega)]
      omega
    refine w_M_holeFrom_2 a1 a2 a3 σ _ ⟨fun _ => ⟨_, rfl, ⟨k, h2, by omega⟩, rfl⟩, fun h => (c_areFree h1 hn h3 (by omega) σ).int ?_⟩
    rintro x _ ⟨hx, rfl⟩
    exact ⟨fun _ => ⟨_, rfl, ⟨k, h2, by omega⟩, rfl⟩, fun _ => ih (k + 1) _ h3 (by omega)⟩
theorem c_holeFrom {a1 a2 : Int32} {n k : Nat} (h1 : a1.toInt = n) (hn : n < 700) (h2 : a2.toInt = k) (hk : k ≤ 5) (σ : sm_S) : xC xM j_M_holeFrom [.ref 0, .int a1, .int a2] σ (sm_I (fun x σ' => (∃ j : Nat, x.toInt = j ∧ j ≤ 5) ∧ σ' = σ)) :=
  w_M_holeFrom a1 a2 σ _ (l_holeFrom h1 hn σ (5 - k) k _ h2 (by omega))
/-- the least number that no block has -/
theorem l_freeNumber (σ : sm_S) : ∀ (d k : Nat) (a1 : Int32), a1.toInt = k → k + d = 96 → (∀ j, j < k → σ 1 (786 + 16 * j) ≠ 0) → xE xM m_M_freeNumber 2 [.ref 0, .int a1] [] σ (sm_I (fun x σ' => ((x = -1 ∧ ∀ j, j < 96 → σ 1 (786 + 16 * j) ≠ 0) ∨ ∃ j : Nat, x.toInt = j ∧ j < 96 ∧ σ 1 (786 + 16 * j) = 0 ∧ ∀ i, i < j → σ 1 (786 + 16 * i) ≠ 0) ∧ σ' = σ)) := by
  intro d
  induction d with
  | zero =>
    intro k a1 h1 hk hall
    refine w_M_freeNumber_2 a1 σ _ ⟨fun _ => ⟨_, rfl, Or.inl ⟨rfl, fun j hj => hall j (by omega)⟩, rfl⟩, fun h => absurd ?_ h⟩
    rw [t_le, h1]
    show (96 : Int) ≤ _
    omega
  | succ d ih =>
    intro k a1 h1 hk hall
    refine w_M_freeNumber_2 a1 σ _ ⟨fun h => ?_, fun h => (c_of (k := 0) (j := 0) h1 rfl (by omega) σ).int ?_⟩
    · rw [t_le, h1] at h
      have h : (96 : Int) ≤ k := h
      omega
    · rintro _ _ ⟨rfl, rfl⟩
      refine ⟨fun hx => ih (k + 1) (a1 + 1) ?_ (by omega) (fun j hj => ?_), fun hx => ⟨_, rfl, Or.inr ⟨k, h1, by omega, Classical.not_not.mp hx, hall⟩, rfl⟩⟩
      · rw [t_add h1 (y := 1) rfl (by omega) (by omega)]
        omega
      · rcases Nat.lt_succ_iff_lt_or_eq.mp hj with h2 | rfl
        · exact hall j h2
        · exact hx
theorem c_freeNumber (σ : sm_S) : xC xM j_M_freeNumber [.ref 0] σ (sm_I (fun x σ' => ((x = -1 ∧ ∀ j, j < 96 → σ 1 (786 + 16 * j) ≠ 0) ∨ ∃ j : Nat, x.toInt = j ∧ j < 96 ∧ σ 1 (786 + 16 * j) = 0 ∧ ∀ i, i < j → σ 1 (786 + 16 * i) ≠ 0) ∧ σ' = σ)) :=
  w_M_freeNumber σ _ (l_freeNumber σ 96 0 0 rfl rfl (fun j hj => absurd hj (Nat.not_lt_zero j)))
theorem c_rankOf {s t k : Int32} {n m : Nat} (hs : s.toInt = n) (hn : n < 8) (ht : t.toInt = m) (hm : m < 6) (σ : sm_S) : xC xM j_M_rankOf [.ref 0, .int s, .int k, .int t] σ (sm_I (fun x σ' => -1 ≤ x.toInt ∧ x.toInt ≤ 3 ∧ σ' = σ)) := by
  refine w_M_rankOf s k t σ _ ((c_zoneOf hs hn σ).int ?_)
  rintro x _ ⟨hx, rfl⟩
  refine ⟨by decide, (c_taskAt t _).int ?_⟩
  rintro _ _ ⟨rfl, rfl⟩
  obtain ⟨h1, h2⟩ := ixT (k := 0) (j := 0) ht rfl (by omega)
  refine ⟨h1, ?_⟩
  repeat' first
    | apply And.intro
    | intro _
  all_goals exact ⟨_, rfl, by decide, by decide, rfl⟩
/-- the best place: none, or a multiple of its size -/
theorem l_bestPlace {a1 a2 a3 a4 : Int32} {m o : Nat} (h1 : a1.toInt = m) (hm : m < 6) (h3 : a3.toInt = o) (ho : o ≤ 4) (σ : sm_S) : ∀ (d i : Nat) (a5 a6 a7 a8 : Int32) (v9 v10 : Value), a8.toInt = ((i * 2 ^ o : Nat) : Int) → (i + d) * 2 ^ o = 256 → (a5 = -1 ∨ ∃ p : Nat, a5.toInt = p ∧ p < 256 ∧ p % 2 ^ o = 0) →
    xE xM m_M_bestPlace 12 [.ref 0, .int a1, .int a2, .int a3, .int a4, .int a5, .int a6, .int a7, .int a8, v9, v10] [] σ (sm_I (fun x σ' => (x = -1 ∨ ∃ p : Nat, x.toInt = p ∧ p < 256 ∧ p % 2 ^ o = 0) ∧ σ' = σ)) := by
  have hp := t_pw (k := o) (by omega)
  intro d
  induction d with
  | zero =>
    intro i a5 a6 a7 a8 v9 v10 h8 hi h5
    refine w_M_bestPlace_12 a1 a2 a3 a4 a5 a6 a7 a8 v9 v10 σ _ ⟨fun _ => ⟨_, rfl, h5, rfl⟩, fun h => absurd ?_ h⟩
    rw [t_le, h8]
    show (256 : Int) ≤ _
    rw [Nat.add_zero] at hi
    omega
  | succ d ih =>
    intro i a5 a6 a7 a8 v9 v10 h8 hi h5
    have hi2 : (i + (d + 1)) * 2 ^ o = i * 2 ^ o + (d * 2 ^ o + 2 ^ o) := by rw [Nat.add_mul, Nat.succ_mul]
    have hlt : i * 2 ^ o < 256 := by omega
    have hs8 : (a8 + ((1 : Int32) <<< (a3 &&& 31))).toInt = (((i + 1) * 2 ^ o : Nat) : Int) := by
      rw [t_add h8 (t_pow h3 (by omega)) (by omega) (by omega), Nat.succ_mul]
      omega
    have go : ∀ (b5 b6 b7 : Int32) (w9 w10 : Value), (b5 = -1 ∨ ∃ p : Nat, b5.toInt = p ∧ p < 256 ∧ p % 2 ^ o = 0) → xE xM m_M_bestPlace 12 [.ref 0, .int a1, .int a2, .int a3, .int a4, .int b5, .int b6, .int b7, .int (a8 + ((1 : Int32) <<< (a3 &&& 31))), w9, w10] [] σ (sm_I (fun x σ' => (x = -1 ∨ ∃ p : Nat, x.toInt = p ∧ p < 256 ∧ p % 2 ^ o = 0) ∧ σ' = σ)) :=
      fun b5 b6 b7 w9 w10 hb => ih (i + 1) b5 b6 b7 _ w9 w10 hs8 (by rw [← hi]; congr 1; omega) hb
    have h8g : a8 = -1 ∨ ∃ p : Nat, a8.toInt = p ∧ p < 256 ∧ p % 2 ^ o = 0 := Or.inr ⟨i * 2 ^ o, h8, hlt, Nat.mul_mod_left _ _⟩
    refine w_M_bestPlace_12 a1 a2 a3 a4 a5 a6 a7 a8 v9 v10 σ _ ⟨fun h => ?_, fun h => (c_spanOf h8 σ).int ?_⟩
    · rw [t_le, h8] at h
      have h : (256 : Int) ≤ _ := h
      omega
    · rintro sp _ ⟨hsp, rfl⟩
      have hsp8 : i * 2 ^ o / 32 < 8 := by omega
      refine (c_rankOf hsp hsp8 h1 hm _).int ?_
      rintro rk _ ⟨-, -, rfl⟩
      have h8n : i * 2 ^ o < 700 := by omega
      refine ⟨fun _ => go _ _ _ _ _ h5, fun _ => ⟨fun _ => (c_areFree h8 h8n h3 (by omega) _).int ?_, fun _ => (c_spanOf h8 _).int ?_⟩⟩
      · rintro x6 _ ⟨-, rfl⟩
        refine ⟨fun _ => (c_holeFrom h8 h8n h3 (by omega) _).int ?_, fun _ => go _ _ _ _ _ h5⟩
        rintro x8 _ ⟨-, rfl⟩
        exact ⟨fun _ => go _ _ _ _ _ h8g, fun _ => ⟨fun _ => go _ _ _ _ _ h5, fun _ => ⟨fun _ => go _ _ _ _ _ h8g, fun _ => ⟨fun _ => go _ _ _ _ _ h8g, fun _ => go _ _ _ _ _ h5⟩⟩⟩⟩
      · rintro sp2 _ ⟨hsp2, rfl⟩
        refine (c_spanState hsp2 hsp8 _).int ?_
        rintro st _ ⟨-, rfl⟩
        refine ⟨fun _ => go _ _ _ _ _ h5, fun _ => (c_areFree h8 h8n h3 (by omega) _).int ?_⟩
        rintro x6 _ ⟨-, rfl⟩
        refine ⟨fun _ => (c_holeFrom h8 h8n h3 (by omega) _).int ?_, fun _ => go _ _ _ _ _ h5⟩
        rintro x8 _ ⟨-, rfl⟩
        exact ⟨fun _ => go _ _ _ _ _ h8g, fun _ => ⟨fun _ => go _ _ _ _ _ h5, fun _ => ⟨fun _ => go _ _ _ _ _ h8g, fun _ => ⟨fun _ => go _ _ _ _ _ h8g, fun _ => go _ _ _ _ _ h5⟩⟩⟩⟩
theorem t_256 {o : Nat} (ho : o ≤ 4) : (0 + 256 / 2 ^ o) * 2 ^ o = 256 := by
  rcases (show o = 0 ∨ o = 1 ∨ o = 2 ∨ o = 3 ∨ o = 4 by omega) with rfl | rfl | rfl | rfl | rfl <;> decide
theorem c_bestPlace {a1 a2 a3 a4 : Int32} {m o : Nat} (h1 : a1.toInt = m) (hm : m < 6) (h3 : a3.toInt = o) (ho : o ≤ 4) (σ : sm_S) : xC xM j_M_bestPlace [.ref 0, .int a1, .int a2, .int a3, .int a4] σ (sm_I (fun x σ' => (x = -1 ∨ ∃ p : Nat, x.toInt = p ∧ p < 256 ∧ p % 2 ^ o = 0) ∧ σ' = σ)) :=
  w_M_bestPlace a1 a2 a3 a4 σ _ (l_bestPlace h1 hm h3 ho σ (256 / 2 ^ o) 0 _ _ _ _ _ _ (by rw [Nat.zero_mul]; rfl) (t_256 ho) (Or.inl rfl))
end
section
/-! ===== the model: what a block is, and how it comes and goes ===== -/
/-- a block's row: order, first frame, owner, where to, how much is copied -/
def bk_ok (v : Nat → Int32) (b : Nat) : Prop := ∃ o fr : Nat, (v (786 + 16 * b + 2)).toInt = o ∧ o ≤ 4 ∧ (v (786 + 16 * b + 1)).toInt = fr ∧ fr < 256 ∧ fr % 2 ^ o = 0 ∧ (∃ w : Nat, (v (786 + 16 * b + 4)).toInt = w ∧ w < 6) ∧
  (∃ q : Nat, (v (786 + 16 * b + 6)).toInt = q ∧ (q = 0 ∨ (1 ≤ q ∧ q ≤ 256 ∧ (q - 1) % 2 ^ o = 0))) ∧ 0 ≤ (v (786 + 16 * b + 7)).toInt
/-- a block that is none has not its first frame -/
def dn_ok (v : Nat → Int32) (n : Nat) : Prop := v (786 + 16 * n + 0) = 1 ∨ ∀ fr : Nat, fr < 256 → (v (786 + 16 * n + 1)).toInt = fr → v (18 + 3 * fr) = 3 → (v (18 + 3 * fr + 1)).toInt ≠ ((n + 1 : Nat) : Int)
/-- frames: F_BLOCK in 0 .. 96, and dn_ok -/
def fr_ok (v : Nat → Int32) : Prop := (∀ f, f < 256 → 0 ≤ (v (18 + 3 * f + 1)).toInt ∧ (v (18 + 3 * f + 1)).toInt ≤ 96) ∧ ∀ n, n < 96 → dn_ok v n
theorem dn_cong {v v' : Nat → Int32} {n : Nat} (h1 : ∀ i, 18 ≤ i → i < 786 → v' i = v i) (h2 : v' (786 + 16 * n + 0) = v (786 + 16 * n + 0)) (h3 : v' (786 + 16 * n + 1) = v (786 + 16 * n + 1)) (h : dn_ok v n) : dn_ok v' n := by
  rcases h with h | h
  · exact Or.inl (h2.trans h)
  · refine Or.inr (fun fr hf a b => ?_)
    rw [h3] at a
    rw [h1 _ (by omega) (by omega)] at b ⊢
    exact h fr hf a b
theorem fr_cong {v v' : Nat → Int32} (h1 : ∀ i, 18 ≤ i → i < 786 → v' i = v i) (h2 : ∀ n k, n < 96 → k < 2 → v' (786 + 16 * n + k) = v (786 + 16 * n + k)) (h : fr_ok v) : fr_ok v' := by
  refine ⟨fun f hf => ?_, fun n hn => dn_cong h1 (h2 n 0 hn (by omega)) (h2 n 1 hn (by omega)) (h.2 n hn)⟩
  rw [h1 _ (by omega) (by omega)]
  exact h.1 f hf
theorem fr_mono {v v' : Nat → Int32} (h1 : ∀ f, f < 256 → 0 ≤ (v' (18 + 3 * f + 1)).toInt ∧ (v' (18 + 3 * f + 1)).toInt ≤ 96) (h2 : ∀ n k, n < 96 → k < 2 → v' (786 + 16 * n + k) = v (786 + 16 * n + k)) (h3 : ∀ f, f < 256 → v' (18 + 3 * f) = 3 → v (18 + 3 * f) = 3 ∧ v' (18 + 3 * f + 1) = v (18 + 3 * f + 1)) (h : fr_ok v) : fr_ok v' := by
  refine ⟨h1, fun n hn => ?_⟩
  rcases h.2 n hn with g | g
  · exact Or.inl ((h2 n 0 hn (by omega)).trans g)
  · refine Or.inr (fun fr hf a b => ?_)
    rw [h2 n 1 hn (by omega)] at a
    obtain ⟨c1, c2⟩ := h3 fr hf b
    rw [c2]
    exact g fr hf a c1
/-- a frame's state, but to TAKEN -/
theorem fr_st1 {v : Nat → Int32} {i f : Nat} {x : Int32} (hi : i = 18 + 3 * f) (hx : x ≠ 3) (hf : f < 256) (h : fr_ok v) : fr_ok (upd v i x) := by
  subst hi
  refine fr_mono (fun g hg => ?_) (fun n k hn hk => u_ne (by omega)) (fun g hg e => ?_) h
  · rw [u_ne (by omega)]; exact h.1 g hg
  · by_cases hgf : g = f
    · subst hgf
      rw [u_at] at e
      exact absurd e hx
    · rw [u_ne (by omega)] at e
      exact ⟨e, u_ne (by omega)⟩
/-- the block n is none any more -/
theorem fr_gone {v : Nat → Int32} {n fr : Nat} {x : Int32} (hn : n < 96) (h1 : (v (786 + 16 * n + 1)).toInt = fr) (h2 : v (18 + 3 * fr) = 1 ∨ v (18 + 3 * fr) = 2) (h : fr_ok v) : fr_ok (upd v (786 + 16 * n + 0) x) := by
  refine ⟨fun g hg => ?_, fun m hm => ?_⟩
  · rw [u_ne (by omega)]; exact h.1 g hg
  · by_cases hmn : m = n
    · subst hmn
      refine Or.inr (fun fr' hf a b => ?_)
      rw [u_ne (by omega)] at a b
      rw [h1] at a
      have hff : fr = fr' := by omega
      subst hff
      rcases h2 with h2 | h2 <;> (rw [h2] at b; exact absurd b (by decide))
    · rcases h.2 m hm with g | g
      · refine Or.inl ?_
        rw [u_ne (by omega)]; exact g
      · refine Or.inr (fun fr' hf a b => ?_)
        rw [u_ne (by omega)] at a b ⊢
        exact g fr' hf a b
/-- a block that is one, elsewhere -/
theorem fr_frame {v : Nat → Int32} {n : Nat} {x : Int32} (hI : v (786 + 16 * n + 0) = 1) (h : fr_ok v) : fr_ok (upd v (786 + 16 * n + 1) x) := by
  refine ⟨fun g hg => ?_, fun m hm => ?_⟩
  · rw [u_ne (by omega)]; exact h.1 g hg
  · by_cases hmn : m = n
    · subst hmn
      refine Or.inl ?_
      rw [u_ne (by omega)]; exact hI
    · exact dn_cong (fun i h1 h2 => u_ne (by omega)) (u_ne (by omega)) (u_ne (by omega)) (h.2 m hm)
def fr_eq (v v' : Nat → Int32) : Prop := ∀ i, (i < 18 ∨ 786 ≤ i) → v' i = v i
theorem fr_eq.rf {v : Nat → Int32} : fr_eq v v := fun _ _ => rfl
theorem fr_eq.tr {a b c : Nat → Int32} (h1 : fr_eq a b) (h2 : fr_eq b c) : fr_eq a c := fun i hi => (h2 i hi).trans (h1 i hi)
theorem fr_upd {v : Nat → Int32} {i : Nat} {x : Int32} (h : 18 ≤ i) (h2 : i < 786) : fr_eq v (upd v i x) := fun j hj => u_ne (by omega)
/-- leaves: as a change of frames -/
theorem c_leaves' {f : Int32} {n : Nat} (hf : f.toInt = n) (hn : n < 256) (σ : sm_S) (hF : fr_ok (σ 1)) : xC xM j_M_leaves [.ref 0, .int f] σ (sm_V (fun σ' => ∃ v, σ' = sm_set σ 1 v ∧ fr_ok v ∧ fr_eq (σ 1) v ∧ (v (18 + 3 * n) = 1 ∨ v (18 + 3 * n) = 2) ∧ ∀ i, i < 18 + 3 * n ∨ 18 + 3 * n + 3 ≤ i → v i = σ 1 i)) := by
  refine (c_leaves hf hn σ).mono ?_
  rintro r σ' ⟨rfl, s, hs, rfl⟩
  refine ⟨rfl, _, rfl, fr_mono (fun g hg => ?_) (fun m k hm hk => ?_) (fun g hg e => ?_) hF, ?_, ?_, fun i hi => ?_⟩
  · by_cases hgn : g = n
    · subst hgn
      rw [u_ne (by omega), u_at]
      decide
    · rw [u_ne (by omega), u_ne (by omega), u_ne (by omega)]
      exact hF.1 g hg
  · rw [u_ne (by omega), u_ne (by omega), u_ne (by omega)]
  · by_cases hgn : g = n
    · subst hgn
      rw [u_ne (by omega), u_ne (by omega), u_at] at e
      rcases hs with hs | hs <;> (rw [hs] at e; exact absurd e (by decide))
    · rw [u_ne (by omega), u_ne (by omega), u_ne (by omega)] at e ⊢
      exact ⟨e, rfl⟩
  · exact ((fr_upd (by omega) (by omega)).tr (fr_upd (by omega) (by omega))).tr (fr_upd (by omega) (by omega))
  · rw [u_ne (by omega), u_ne (by omega), u_at]
    exact hs
  · rw [u_ne (by omega), u_ne (by omega), u_ne (by omega)]
theorem c_has' {f b s : Int32} {n m : Nat} (hf : f.toInt = n) (hn : n < 256) (hb : b.toInt = m) (hm : m < 96) (σ : sm_S) (hF : fr_ok (σ 1)) (h3 : s = 3 → σ 1 (786 + 16 * m + 0) = 1) : xC xM j_M_has [.ref 0, .int f, .int b, .int s] σ (sm_V (fun σ' => ∃ v, σ' = sm_set σ 1 v ∧ fr_ok v ∧ fr_eq (σ 1) v ∧ v (18 + 3 * n) = s ∧ (v (18 + 3 * n + 1)).toInt = ((m + 1 : Nat) : Int) ∧ ∀ i, i < 18 + 3 * n ∨ 18 + 3 * n + 2 ≤ i → v i = σ 1 i)) := by
  have hb1 : (b + 1).toInt = ((m + 1 : Nat) : Int) := by
    rw [t_add hb (y := 1) rfl (by omega) (by omega)]
    omega
  refine (c_has hf (by omega) b s σ).mono ?_
  rintro r σ' ⟨rfl, rfl⟩
  refine ⟨rfl, _, rfl, ⟨fun g hg => ?_, fun l hl => ?_⟩, ?_, ?_, ?_, fun i hi => ?_⟩
  · by_cases hgn : g = n
    · subst hgn
      rw [u_at, hb1]
      omega
    · rw [u_ne (by omega), u_ne (by omega)]
      exact hF.1 g hg
  · rcases Classical.em (σ 1 (786 + 16 * l + 0) = 1) with e | e
    · refine Or.inl ?_
      rw [u_ne (by omega), u_ne (by omega)]; exact e
    · have e2 := (hF.2 l hl).resolve_left e
      refine Or.inr (fun fr hf a c => ?_)
      rw [u_ne (by omega), u_ne (by omega)] at a
      by_cases hgn : fr = n
      · subst hgn
        rw [u_ne (by omega), u_at] at c
        rw [u_at, hb1]
        intro z
        have hml : m = l := by omega
        subst hml
        exact e (h3 c)
      · rw [u_ne (by omega), u_ne (by omega)] at c ⊢
        exact e2 fr hf a c
  · exact (fr_upd (by omega) (by omega)).tr (fr_upd (by omega) (by omega))
  · rw [u_ne (by omega), u_at]
  · rw [u_at]; exact hb1
  · rw [u_ne (by omega), u_ne (by omega)]
theorem c_lays' {f x : Int32} {n : Nat} (hf : f.toInt = n) (hn : n < 256) (σ : sm_S) (hF : fr_ok (σ 1)) : xC xM j_M_lays [.ref 0, .int f, .int x] σ (sm_V (fun σ' => ∃ v, σ' = sm_set σ 1 v ∧ fr_ok v ∧ fr_eq (σ 1) v ∧ ∀ i, i ≠ 18 + 3 * n + 2 → v i = σ 1 i)) := by
  refine (c_lays hf (by omega) x σ).mono ?_
  rintro r σ' ⟨rfl, rfl⟩
  refine ⟨rfl, _, rfl, fr_mono (fun g hg => ?_) (fun m k hm hk => u_ne (by omega)) (fun g hg e => ?_) hF, fr_upd (by omega) (by omega), fun i hi => u_ne hi⟩
  · rw [u_ne (by omega)]
    exact hF.1 g hg
  · rw [u_ne (by omega)] at e ⊢
    exact ⟨e, rfl⟩
end
section
/-! ===== the model: what holds between its calls ===== -/
/-- who waits for block b -/
def ln_ok (w : Nat → Int32) (b : Nat) : Prop := ∃ L o : Nat, (w (786 + 16 * b + 9)).toInt = L ∧ L ≤ 6 ∧ (w (786 + 16 * b + 2)).toInt = o ∧ (0 < L → w (786 + 16 * b + 6) ≠ 0) ∧
  (∀ n, n < L → ∃ t a : Nat, t < 6 ∧ (w (786 + 16 * b + (10 + n))).toInt = t ∧ (w (2322 + 6 * t + 1)).toInt = ((b + 1 : Nat) : Int) ∧ (w (2322 + 6 * t + 3)).toInt = a ∧ a < 2 ^ o) ∧
  ∀ n m, n < m → m < L → w (786 + 16 * b + (10 + n)) ≠ w (786 + 16 * b + (10 + m))
/-- a span: state, shut parts, how far, which block is on its way -/
def sp_ok (w : Nat → Int32) (s : Nat) : Prop := ∃ st pt at' q : Nat, (w (2358 + 8 * s + 0)).toInt = st ∧ st ≤ 3 ∧ (w (2358 + 8 * s + 2)).toInt = pt ∧ pt ≤ 4 ∧ (st = 2 → pt ≤ 3) ∧ (w (2358 + 8 * s + 5)).toInt = at' ∧ at' ≤ 32 ∧ (w (2358 + 8 * s + 6)).toInt = q ∧
  (q = 0 ∨ ∃ b, b < 96 ∧ q = b + 1 ∧ st = 3 ∧ w (786 + 16 * b + 6) ≠ 0 ∧ ∃ fr : Nat, (w (786 + 16 * b + 1)).toInt = fr ∧ fr / 32 = s)
/-- a block on its way is one, and its span knows it -/
def wy_ok (w : Nat → Int32) (b : Nat) : Prop := w (786 + 16 * b + 6) ≠ 0 → w (786 + 16 * b + 0) = 1 ∧ ∃ fr : Nat, (w (786 + 16 * b + 1)).toInt = fr ∧ fr < 256 ∧ (w (2358 + 8 * (fr / 32) + 6)).toInt = ((b + 1 : Nat) : Int)
def z0_ok (w : Nat → Int32) : Prop := ∃ s, s < 8 ∧ w (2358 + 8 * s + 0) = 1 ∧ w (2358 + 8 * s + 1) = 0
def jr (w : Nat → Int32) : Prop := (∀ b, b < 96 → bk_ok w b) ∧ (∀ b, b < 96 → ln_ok w b) ∧ (∀ s, s < 8 → sp_ok w s) ∧ (∀ b, b < 96 → wy_ok w b) ∧ z0_ok w
/-- the cells of which jr speaks -/
def ceq (v v' : Nat → Int32) : Prop := (∀ b k, b < 96 → k < 16 → k ≠ 3 → k ≠ 5 → k ≠ 8 → v' (786 + 16 * b + k) = v (786 + 16 * b + k)) ∧ (∀ t k, t < 6 → (k = 1 ∨ k = 3) → v' (2322 + 6 * t + k) = v (2322 + 6 * t + k)) ∧ ∀ s k, s < 8 → (k = 0 ∨ k = 1 ∨ k = 2 ∨ k = 5 ∨ k = 6) → v' (2358 + 8 * s + k) = v (2358 + 8 * s + k)
theorem ceq.rf {v : Nat → Int32} : ceq v v := ⟨fun _ _ _ _ _ _ _ => rfl, fun _ _ _ _ => rfl, fun _ _ _ _ => rfl⟩
theorem ceq.tr {a b c : Nat → Int32} (h1 : ceq a b) (h2 : ceq b c) : ceq a c :=
  ⟨fun x k g1 g2 g3 g4 g5 => (h2.1 x k g1 g2 g3 g4 g5).trans (h1.1 x k g1 g2 g3 g4 g5), fun x k g1 g2 => (h2.2.1 x k g1 g2).trans (h1.2.1 x k g1 g2), fun x k g1 g2 => (h2.2.2 x k g1 g2).trans (h1.2.2 x k g1 g2)⟩
theorem ceq.of {v v' : Nat → Int32} (h : ∀ i, 786 ≤ i → i < 2422 → v' i = v i) : ceq v v' := ⟨fun b k _ _ _ _ _ => h _ (by omega) (by omega), fun t k _ hk => h _ (by omega) (by omega), fun s k _ hk => h _ (by omega) (by omega)⟩
theorem ceq.fr {v v' : Nat → Int32} (h : fr_eq v v') : ceq v v' := ceq.of (fun i h1 _ => h i (Or.inr h1))
theorem bk_cong {v v' : Nat → Int32} {b : Nat} (h : ∀ k, k < 16 → k ≠ 3 → k ≠ 5 → k ≠ 8 → v' (786 + 16 * b + k) = v (786 + 16 * b + k)) (hb : bk_ok v b) : bk_ok v' b := by
  obtain ⟨o, fr, h1, h2, h3, h4, h5, h6, h7, h8⟩ := hb
  refine ⟨o, fr, ?_, h2, ?_, h4, h5, ?_, ?_, ?_⟩
  · rw [h 2 (by decide) (by decide) (by decide) (by decide)]; exact h1
  · rw [h 1 (by decide) (by decide) (by decide) (by decide)]; exact h3
  · rw [h 4 (by decide) (by decide) (by decide) (by decide)]; exact h6
  · rw [h 6 (by decide) (by decide) (by decide) (by decide)]; exact h7
  · rw [h 7 (by decide) (by decide) (by decide) (by decide)]; exact h8
theorem ln_cong {v v' : Nat → Int32} {b : Nat} (h : ∀ k, k < 16 → k ≠ 3 → k ≠ 5 → k ≠ 8 → v' (786 + 16 * b + k) = v (786 + 16 * b + k)) (ht : ∀ t k, t < 6 → (k = 1 ∨ k = 3) → v' (2322 + 6 * t + k) = v (2322 + 6 * t + k)) (hb : ln_ok v b) : ln_ok v' b := by
  obtain ⟨L, o, h1, h2, h3, h4, h5, h6⟩ := hb
  refine ⟨L, o, ?_, h2, ?_, ?_, fun n hn => ?_, fun n m hnm hm => ?_⟩
  · rw [h 9 (by decide) (by decide) (by decide) (by decide)]; exact h1
  · rw [h 2 (by decide) (by decide) (by decide) (by decide)]; exact h3
  · rw [h 6 (by decide) (by decide) (by decide) (by decide)]; exact h4
  · obtain ⟨t, a, g1, g2, g3, g4, g5⟩ := h5 n hn
    refine ⟨t, a, g1, ?_, ?_, ?_, g5⟩
    · rw [h (10 + n) (by omega) (by omega) (by omega) (by omega)]; exact g2
    · rw [ht t 1 g1 (Or.inl rfl)]; exact g3
    · rw [ht t 3 g1 (Or.inr rfl)]; exact g4
  · rw [h (10 + n) (by omega) (by omega) (by omega) (by omega), h (10 + m) (by omega) (by omega) (by omega) (by omega)]
    exact h6 n m hnm hm
theorem sp_cong {v v' : Nat → Int32} {s : Nat} (hs : s < 8) (h : ceq v v') (hb : sp_ok v s) : sp_ok v' s := by
  obtain ⟨st, pt, at', q, h1, h2, h3, h4, h5, h6, h7, h8, h9⟩ := hb
  refine ⟨st, pt, at', q, ?_, h2, ?_, h4, h5, ?_, h7, ?_, ?_⟩
  · rw [h.2.2 s 0 hs (by omega)]; exact h1
  · rw [h.2.2 s 2 hs (by omega)]; exact h3
  · rw [h.2.2 s 5 hs (by omega)]; exact h6
  · rw [h.2.2 s 6 hs (by omega)]; exact h8
  · rcases h9 with h9 | ⟨b, g1, g2, g3, g4, fr, g5, g6⟩
    · exact Or.inl h9
    · refine Or.inr ⟨b, g1, g2, g3, ?_, fr, ?_, g6⟩
      · rw [h.1 b 6 g1 (by decide) (by decide) (by decide) (by decide)]; exact g4
      · rw [h.1 b 1 g1 (by decide) (by decide) (by decide) (by decide)]; exact g5
theorem wy_cong {v v' : Nat → Int32} {b : Nat} (hb : b < 96) (h : ceq v v') (hw : wy_ok v b) : wy_ok v' b := by
  intro h6
  rw [h.1 b 6 hb (by decide) (by decide) (by decide) (by decide)] at h6
  obtain ⟨h1, fr, h2, h3, h4⟩ := hw h6
  refine ⟨?_, fr, ?_, h3, ?_⟩
  · rw [h.1 b 0 hb (by decide) (by decide) (by decide) (by decide)]; exact h1
  · rw [h.1 b 1 hb (by decide) (by decide) (by decide) (by decide)]; exact h2
  · rw [h.2.2 (fr / 32) 6 (by omega) (by omega)]; exact h4
theorem jr_cong {v v' : Nat → Int32} (h : ceq v v') (hj : jr v) : jr v' := by
  obtain ⟨j1, j2, j3, j4, s, hs, z1, z2⟩ := hj
  refine ⟨fun b hb => bk_cong (fun k g1 g2 g3 g4 => h.1 b k hb g1 g2 g3 g4) (j1 b hb), fun b hb => ln_cong (fun k g1 g2 g3 g4 => h.1 b k hb g1 g2 g3 g4) h.2.1 (j2 b hb), fun s hs => sp_cong hs h (j3 s hs), fun b hb => wy_cong hb h (j4 b hb), s, hs, ?_, ?_⟩
  · rw [h.2.2 s 0 hs (by omega)]; exact z1
  · rw [h.2.2 s 1 hs (by omega)]; exact z2
/-- a change of one cell that jr doesn't speak of -/
theorem ceq_upd {v : Nat → Int32} {i : Nat} {x : Int32} (h : i < 786 ∨ 2422 ≤ i ∨ (∃ b, b < 96 ∧ (i = 786 + 16 * b + 3 ∨ i = 786 + 16 * b + 5 ∨ i = 786 + 16 * b + 8)) ∨ (∃ t, t < 6 ∧ (i = 2322 + 6 * t ∨ i = 2322 + 6 * t + 2 ∨ i = 2322 + 6 * t + 4 ∨ i = 2322 + 6 * t + 5)) ∨ ∃ s, s < 8 ∧ (i = 2358 + 8 * s + 3 ∨ i = 2358 + 8 * s + 4 ∨ i = 2358 + 8 * s + 7)) : ceq v (upd v i x) := by
  refine ⟨fun b k hb hk h3 h5 h8 => u_ne ?_, fun t k ht hk => u_ne ?_, fun s k hs hk => u_ne ?_⟩
  · rcases h with h | h | ⟨c, hc, h⟩ | ⟨c, hc, h⟩ | ⟨c, hc, h⟩ <;> omega
  · rcases h with h | h | ⟨c, hc, h⟩ | ⟨c, hc, h⟩ | ⟨c, hc, h⟩ <;> omega
  · rcases h with h | h | ⟨c, hc, h⟩ | ⟨c, hc, h⟩ | ⟨c, hc, h⟩ <;> omega
/-- the whole of it; n: the lines of the log -/
def jj (n : Nat) (v : Nat → Int32) : Prop := fr_ok v ∧ jr v ∧ (v 5).toInt = n
end
section
/-! ===== the model: blocks go ===== -/
/-- frames are left, or are as they were -/
def fr_lv (v v' : Nat → Int32) : Prop := ∀ g, g < 256 → (v' (18 + 3 * g) = 1 ∨ v' (18 + 3 * g) = 2) ∨ (v' (18 + 3 * g) = v (18 + 3 * g) ∧ v' (18 + 3 * g + 1) = v (18 + 3 * g + 1))
theorem fr_lv.rf {v : Nat → Int32} : fr_lv v v := fun _ _ => Or.inr ⟨rfl, rfl⟩
theorem fr_lv.tr {a b c : Nat → Int32} (h1 : fr_lv a b) (h2 : fr_lv b c) : fr_lv a c := by
  intro g hg
  rcases h2 g hg with h | ⟨h3, h4⟩
  · exact Or.inl h
  · rcases h1 g hg with h5 | ⟨h5, h6⟩
    · rw [h3]; exact Or.inl h5
    · exact Or.inr ⟨h3.trans h5, h4.trans h6⟩
theorem fr_lv.of {v v' : Nat → Int32} {n : Nat} (h1 : v' (18 + 3 * n) = 1 ∨ v' (18 + 3 * n) = 2) (h2 : ∀ i, i < 18 + 3 * n ∨ 18 + 3 * n + 3 ≤ i → v' i = v i) : fr_lv v v' := by
  intro g hg
  by_cases hgn : g = n
  · subst hgn; exact Or.inl h1
  · exact Or.inr ⟨h2 _ (by omega), h2 _ (by omega)⟩
theorem l_goes {a1 : Int32} {n o fr : Nat} (h1 : a1.toInt = n) (hn : n < 96) (ho : o ≤ 4) (hfr : fr < 256) (hal : fr % 2 ^ o = 0) : ∀ (d k : Nat) (a2 : Int32) (σ : sm_S), a2.toInt = k → k + d = 2 ^ o → (σ 1 (786 + 16 * n + 2)).toInt = o → (σ 1 (786 + 16 * n + 1)).toInt = fr → fr_ok (σ 1) →
    xE xM m_M_goes 2 [.ref 0, .int a1, .int a2] [] σ (sm_V (fun σ' => ∃ v, σ' = sm_set σ 1 (upd v (786 + 16 * n + 0) 0) ∧ fr_ok v ∧ fr_eq (σ 1) v ∧ fr_lv (σ 1) v ∧ ∀ j, k ≤ j → j < 2 ^ o → v (18 + 3 * (fr + j)) = 1 ∨ v (18 + 3 * (fr + j)) = 2)) := by
  have hp := t_pw (k := o) (by omega)
  have hsp := t_al (k := o) (by omega) hal
  intro d
  induction d with
  | zero =>
    intro k a2 σ h2 hk ho2 hf2 hF
    refine w_M_goes_2 a1 a2 σ _ ((c_longOf h1 hn σ).int ?_)
    rintro _ _ ⟨rfl, rfl⟩
    refine ⟨fun _ => (c_lay (k := 0) (j := 0) h1 rfl (by omega) 0 _).void ?_, fun h => absurd ?_ h⟩
    · rintro _ rfl
      exact ⟨rfl, _, rfl, hF, fr_eq.rf, fr_lv.rf, fun j h3 h4 => by omega⟩
    · rw [t_le, t_pow ho2 (by omega), h2]
      omega
  | succ d ih =>
    intro k a2 σ h2 hk ho2 hf2 hF
    refine w_M_goes_2 a1 a2 σ _ ((c_longOf h1 hn σ).int ?_)
    rintro _ _ ⟨rfl, rfl⟩
    refine ⟨fun h => ?_, fun _ => (c_frameOf h1 hn _).int ?_⟩
    · rw [t_le, t_pow ho2 (by omega), h2] at h
      omega
    · rintro _ _ ⟨rfl, rfl⟩
      have hf3 := t_add hf2 h2 (by omega) (by omega)
      rw [← Int.natCast_add] at hf3
      refine (c_leaves' hf3 (by omega) _ hF).void ?_
      rintro _ ⟨v, rfl, g1, g2, g3, g4⟩
      have h2' : (a2 + 1).toInt = ((k + 1 : Nat) : Int) := by
        rw [t_add h2 (y := 1) rfl (by omega) (by omega)]
        omega
      refine (ih (k + 1) (a2 + 1) _ h2' (by omega) ?_ ?_ ?_).mono ?_
      · rw [s_at, g2 _ (by omega)]; exact ho2
      · rw [s_at, g2 _ (by omega)]; exact hf2
      · rw [s_at]; exact g1
      · rintro r σ' ⟨rfl, w, rfl, e1, e2, e3, e4⟩
        rw [s_at] at e2 e3
        refine ⟨rfl, w, s_ss, e1, g2.tr e2, (fr_lv.of g3 g4).tr e3, fun j hj1 hj2 => ?_⟩
        rcases Nat.lt_or_ge k j with hlt | hge
        · exact e4 j hlt hj2
        · have hjk : j = k := by omega
          subst hjk
          rcases e3 (fr + j) (by omega) with h | ⟨h, -⟩
          · exact h
          · rw [h]; exact g3
theorem c_goes {b : Int32} {n : Nat} (hb : b.toInt = n) (hn : n < 96) (σ : sm_S) (hB : bk_ok (σ 1) n) (hF : fr_ok (σ 1)) : xC xM j_M_goes [.ref 0, .int b] σ (sm_V (fun σ' => ∃ v fr, σ' = sm_set σ 1 (upd v (786 + 16 * n + 0) 0) ∧ fr_ok v ∧ fr_eq (σ 1) v ∧ fr_lv (σ 1) v ∧ (σ 1 (786 + 16 * n + 1)).toInt = ((fr : Nat) : Int) ∧ fr < 256 ∧ (v (18 + 3 * fr) = 1 ∨ v (18 + 3 * fr) = 2))) := by
  obtain ⟨o, fr, h1, h2, h3, h4, h5, -⟩ := hB
  have hp := t_pw (k := o) (by omega)
  refine w_M_goes b σ _ ((l_goes hb hn h2 h4 h5 (2 ^ o) 0 0 σ rfl (by omega) h1 h3 hF).mono ?_)
  rintro r σ' ⟨rfl, v, rfl, e1, e2, e3, e4⟩
  exact ⟨rfl, v, fr, rfl, e1, e2, e3, h3, h4, e4 0 (Nat.le_refl 0) (by omega)⟩
theorem jr_gone {v : Nat → Int32} {n : Nat} (hn : n < 96) (hj : jr v) (h6 : v (786 + 16 * n + 6) = 0) : jr (upd v (786 + 16 * n + 0) 0) := by
  obtain ⟨j1, j2, j3, j4, s, hs, z1, z2⟩ := hj
  have e : ∀ i, i ≠ 786 + 16 * n + 0 → upd v (786 + 16 * n + 0) 0 i = v i := fun i hi => u_ne hi
  refine ⟨fun b hb => ?_, fun b hb => ?_, fun s hs => ?_, fun b hb => ?_, s, hs, ?_, ?_⟩
  · obtain ⟨o, fr, h1, h2, h3, h4, h5, h6, h7, h8⟩ := j1 b hb
    refine ⟨o, fr, ?_, h2, ?_, h4, h5, ?_, ?_, ?_⟩ <;> rw [e _ (by omega)] <;> assumption
  · obtain ⟨L, o, h1, h2, h3, h4, h5, h6⟩ := j2 b hb
    refine ⟨L, o, ?_, h2, ?_, ?_, fun k hk => ?_, fun k m hkm hm => ?_⟩
    · rw [e _ (by omega)]; exact h1
    · rw [e _ (by omega)]; exact h3
    · rw [e _ (by omega)]; exact h4
    · obtain ⟨t, a, g1, g2, g3, g4, g5⟩ := h5 k hk
      refine ⟨t, a, g1, ?_, ?_, ?_, g5⟩ <;> rw [e _ (by omega)] <;> assumption
    · rw [e _ (by omega), e _ (by omega)]; exact h6 k m hkm hm
  · obtain ⟨st, pt, at', q, h1, h2, h3, h4, h5, h6, h7, h8, h9⟩ := j3 s hs
    refine ⟨st, pt, at', q, ?_, h2, ?_, h4, h5, ?_, h7, ?_, ?_⟩
    · rw [e _ (by omega)]; exact h1
    · rw [e _ (by omega)]; exact h3
    · rw [e _ (by omega)]; exact h6
    · rw [e _ (by omega)]; exact h8
    · rcases h9 with h9 | ⟨b, g1, g2, g3, g4, fr, g5, g6⟩
      · exact Or.inl h9
      · refine Or.inr ⟨b, g1, g2, g3, ?_, fr, ?_, g6⟩ <;> rw [e _ (by omega)] <;> assumption
  · intro hb6
    rw [e _ (by omega)] at hb6
    have hbn : b ≠ n := fun z => by subst z; exact hb6 h6
    obtain ⟨h1, fr, h2, h3, h4⟩ := j4 b hb hb6
    refine ⟨?_, fr, ?_, h3, ?_⟩
    · rw [e _ (by omega)]; exact h1
    · rw [e _ (by omega)]; exact h2
    · rw [e _ (by omega)]; exact h4
  · rw [e _ (by omega)]; exact z1
  · rw [e _ (by omega)]; exact z2
/-- drops: the block goes, a line more in the log -/
theorem c_drops {b : Int32} {n N : Nat} (hb : b.toInt = n) (hn : n < 96) (hN : N < 2000000000) (σ : sm_S) (hj : jj N (σ 1)) (h6 : σ 1 (786 + 16 * n + 6) = 0) : xC xM j_M_drops [.ref 0, .int b] σ (sm_V (fun σ' => ∃ v fr, σ' = sm_set σ 1 v ∧ jj (N + 1) v ∧ fr_lv (σ 1) v ∧ v (786 + 16 * n + 0) = 0 ∧ (∀ i, 786 ≤ i → i < 2422 → i ≠ 786 + 16 * n + 0 → v i = σ 1 i) ∧ (σ 1 (786 + 16 * n + 1)).toInt = ((fr : Nat) : Int) ∧ fr < 256 ∧ (v (18 + 3 * fr) = 1 ∨ v (18 + 3 * fr) = 2))) := by
  obtain ⟨jF, jR, jN⟩ := hj
  refine w_M_drops b σ _ ((c_frameOf hb hn σ).int ?_)
  rintro _ σ ⟨rfl, rfl⟩
  refine (c_writes _ _ _ _ jN).void ?_
  rintro _ ⟨v1, rfl, w1, w2⟩
  refine (c_counts (k := 5) (j := 5) rfl (by omega) 1 _).void ?_
  rintro _ rfl
  rw [s_at, s_ss]
  have hv2 : ∀ i, 18 ≤ i → i < 2422 → upd v1 12 (v1 12 + 1) i = σ 1 i := fun i h1 h2 => by rw [u_ne (by omega), w2 i h2 (by omega)]
  have hF2 : fr_ok (upd v1 12 (v1 12 + 1)) := fr_cong (fun i h1 h2 => hv2 i h1 (by omega)) (fun n k hn hk => hv2 _ (by omega) (by omega)) jF
  have hB2 : bk_ok (upd v1 12 (v1 12 + 1)) n := bk_cong (fun k hk _ _ _ => hv2 _ (by omega) (by omega)) (jR.1 n hn)
  refine (c_goes hb hn _ (by rw [s_at]; exact hB2) (by rw [s_at]; exact hF2)).void ?_
  rintro _ ⟨v, fr, rfl, e1, e2, e3, e4, e5, e6⟩
  rw [s_at] at e2 e3 e4
  have hv3 : ∀ i, 786 ≤ i → i < 2422 → v i = σ 1 i := fun i h1 h2 => (e2 i (Or.inr h1)).trans (hv2 i (by omega) h2)
  have hjr : jr v := jr_cong (ceq.of hv3) jR
  refine ⟨rfl, upd v (786 + 16 * n + 0) 0, fr, s_ss, ⟨fr_gone hn (by rw [e2 _ (Or.inr (by omega))]; exact e4) e6 e1, jr_gone hn hjr (by rw [hv3 _ (by omega) (by omega)]; exact h6), ?_⟩, ?_, u_at, fun i h1 h2 h3 => ?_, ?_, e5, ?_⟩
  · rw [u_ne (by omega), e2 5 (by omega), u_ne (by omega), w1]
    rw [t_add jN (y := 1) rfl (by omega) (by omega)]
    omega
  · intro g hg
    rw [u_ne (by omega), u_ne (by omega)]
    rcases e3 g hg with h | ⟨h, h'⟩
    · exact Or.inl h
    · exact Or.inr ⟨h.trans (hv2 _ (by omega) (by omega)), h'.trans (hv2 _ (by omega) (by omega))⟩
  · rw [u_ne h3, hv3 i h1 h2]
  · rw [← hv2 _ (by omega) (by omega)]; exact e4
  · rw [u_ne (by omega)]; exact e6
end
section
/-! ===== the model: blocks come ===== -/
def cn (P : Nat → Bool) : Nat → Nat
  | 0 => 0
  | n + 1 => cn P n + (if P n = true then 1 else 0)
theorem cn_le {P P' : Nat → Bool} : ∀ {N : Nat}, (∀ i, i < N → P' i = true → P i = true) → cn P' N ≤ cn P N
  | 0, _ => Nat.le_refl 0
  | n + 1, h => by
    have h1 := cn_le (N := n) (fun i hi => h i (by omega))
    have h2 := h n (by omega)
    simp only [cn]
    by_cases hp : P' n = true
    · rw [if_pos hp, if_pos (h2 hp)]; omega
    · rw [if_neg hp]; omega
theorem cn_lt {P P' : Nat → Bool} {j : Nat} (h1 : P j = true) (h2 : P' j = false) : ∀ {N : Nat}, j < N → (∀ i, i < N → P' i = true → P i = true) → cn P' N < cn P N
  | 0, hj, _ => absurd hj (Nat.not_lt_zero j)
  | n + 1, hj, h => by
    simp only [cn]
    by_cases hjn : j = n
    · subst hjn
      have h3 := cn_le (N := j) (P := P) (P' := P') (fun i hi => h i (by omega))
      rw [if_pos h1, if_neg (by rw [h2]; decide)]
      omega
    · have h3 := cn_lt h1 h2 (N := n) (by omega) (fun i hi => h i (by omega))
      have h4 := h n (by omega)
      by_cases hp : P' n = true
      · rw [if_pos hp, if_pos (h4 hp)]; omega
      · rw [if_neg hp]; omega
theorem cn_bd {P : Nat → Bool} : ∀ {N : Nat}, cn P N ≤ N
  | 0 => Nat.le_refl 0
  | n + 1 => by
    have := cn_bd (P := P) (N := n)
    simp only [cn]
    split <;> omega
theorem l_leastUsed (σ : sm_S) : ∀ (d k : Nat) (a1 a2 : Int32), a2.toInt = k → k + d = 96 → (a1 = -1 ∨ ∃ n : Nat, a1.toInt = n ∧ n < 96 ∧ σ 1 (786 + 16 * n + 0) = 1 ∧ σ 1 (786 + 16 * n + 3) = 2 ∧ σ 1 (786 + 16 * n + 6) ≤ 0) →
    xE xM m_M_leastUsed 4 [.ref 0, .int a1, .int a2] [] σ (sm_I (fun x σ' => (x = -1 ∨ ∃ n : Nat, x.toInt = n ∧ n < 96 ∧ σ 1 (786 + 16 * n + 0) = 1 ∧ σ 1 (786 + 16 * n + 3) = 2 ∧ σ 1 (786 + 16 * n + 6) ≤ 0) ∧ σ' = σ)) := by
  intro d
  induction d with
  | zero =>
    intro k a1 a2 h2 hk h1
    refine w_M_leastUsed_4 a1 a2 σ _ ⟨fun _ => ⟨_, rfl, h1, rfl⟩, fun h => absurd ?_ h⟩
    rw [t_le, h2]
    show (96 : Int) ≤ _
    omega
  | succ d ih =>
    intro k a1 a2 h2 hk h1
    have h2' : (a2 + 1).toInt = ((k + 1 : Nat) : Int) := by
      rw [t_add h2 (y := 1) rfl (by omega) (by omega)]
      omega
    have go := fun b1 hb => ih (k + 1) b1 (a2 + 1) h2' (by omega) hb
    refine w_M_leastUsed_4 a1 a2 σ _ ⟨fun h => ?_, fun _ => (c_of (k := 0) (j := 0) h2 rfl (by omega) σ).int ?_⟩
    · rw [t_le, h2] at h
      have h : (96 : Int) ≤ k := h
      omega
    · rintro _ _ ⟨rfl, rfl⟩
      refine ⟨fun _ => go _ h1, fun e0 => (c_of (k := 3) (j := 3) h2 rfl (by omega) _).int ?_⟩
      rintro _ _ ⟨rfl, rfl⟩
      refine ⟨fun _ => go _ h1, fun e3 => (c_isPinned h2 (by omega) _).int ?_⟩
      rintro x5 _ ⟨-, rfl⟩
      refine ⟨fun _ => go _ h1, fun _ => (c_isOnWay h2 (by omega) _).int ?_⟩
      rintro x6 _ ⟨hx6, rfl⟩
      refine ⟨fun _ => go _ h1, fun e6 => ?_⟩
      have h60 := hx6.resolve_right (fun z => e6 (by rw [z.1]; decide))
      have hgo := go a2 (Or.inr ⟨k, h2, by omega, Classical.not_not.mp e0, Classical.not_not.mp e3, h60.2⟩)
      refine ⟨fun _ => hgo, fun ha => (c_of (k := 8) (j := 8) h2 rfl (by omega) _).int ?_⟩
      rintro _ _ ⟨rfl, rfl⟩
      obtain ⟨n, hn1, hn2, -⟩ := h1.resolve_left ha
      refine (c_of (k := 8) (j := 8) hn1 rfl (by omega) _).int ?_
      rintro _ _ ⟨rfl, rfl⟩
      exact ⟨fun _ => go _ h1, fun _ => hgo⟩
theorem c_leastUsed (σ : sm_S) : xC xM j_M_leastUsed [.ref 0] σ (sm_I (fun x σ' => (x = -1 ∨ ∃ n : Nat, x.toInt = n ∧ n < 96 ∧ σ 1 (786 + 16 * n + 0) = 1 ∧ σ 1 (786 + 16 * n + 3) = 2 ∧ σ 1 (786 + 16 * n + 6) ≤ 0) ∧ σ' = σ)) :=
  w_M_leastUsed σ _ (l_leastUsed σ 96 0 (-1) 0 rfl rfl (Or.inl rfl))
/-- the frames of a block that comes -/
theorem l_comes73 {a1 a2 a3 a4 a5 a6 : Int32} {n o fr : Nat} (h1 : a1.toInt = n) (hn : n < 96) (h2 : a2.toInt = fr) (hfr : fr < 256) (h3 : a3.toInt = o) (ho : o ≤ 4) (hal : fr % 2 ^ o = 0) : ∀ (d k : Nat) (a7 : Int32) (σ : sm_S), a7.toInt = k → k + d = 2 ^ o → fr_ok (σ 1) → σ 1 (786 + 16 * n + 0) = 1 →
    xE xM m_M_comes 73 [.ref 0, .int a1, .int a2, .int a3, .int a4, .int a5, .int a6, .int a7] [] σ (sm_V (fun σ' => ∃ v, σ' = sm_set σ 1 v ∧ fr_ok v ∧ fr_eq (σ 1) v ∧ (∀ j, k ≤ j → j < 2 ^ o → v (18 + 3 * (fr + j)) = 3 ∧ (v (18 + 3 * (fr + j) + 1)).toInt = ((n + 1 : Nat) : Int)) ∧ ∀ i, (i < 18 + 3 * (fr + k) ∨ 18 + 3 * (fr + 2 ^ o) ≤ i) → v i = σ 1 i)) := by
  have hp := t_pw (k := o) (by omega)
  have hsp := t_al (k := o) (by omega) hal
  intro d
  induction d with
  | zero =>
    intro k a7 σ h7 hk hF hI
    refine w_M_comes_73 a1 a2 a3 a4 a5 a6 a7 σ _ ⟨fun _ => ⟨rfl, σ 1, s_id.symm, hF, fr_eq.rf, fun j h4 h5 => by omega, fun _ _ => rfl⟩, fun h => absurd ?_ h⟩
    rw [t_le, t_pow h3 (by omega), h7]
    omega
  | succ d ih =>
    intro k a7 σ h7 hk hF hI
    have h7' : (a7 + 1).toInt = ((k + 1 : Nat) : Int) := by
      rw [t_add h7 (y := 1) rfl (by omega) (by omega)]
      omega
    have hf3 := t_add h2 h7 (by omega) (by omega)
    rw [← Int.natCast_add] at hf3
    refine w_M_comes_73 a1 a2 a3 a4 a5 a6 a7 σ _ ⟨fun h => ?_, fun _ => (c_has' hf3 (by omega) h1 hn σ hF (fun _ => hI)).void ?_⟩
    · rw [t_le, t_pow h3 (by omega), h7] at h
      omega
    · rintro _ ⟨v, rfl, g1, g2, g3, g4, g5⟩
      refine (ih (k + 1) (a7 + 1) _ h7' (by omega) (by rw [s_at]; exact g1) (by rw [s_at, g5 _ (by omega)]; exact hI)).mono ?_
      rintro r σ' ⟨rfl, w, rfl, e1, e2, e3, e4⟩
      rw [s_at] at e2 e4
      refine ⟨rfl, w, s_ss, e1, g2.tr e2, fun j hj1 hj2 => ?_, fun i hi => ?_⟩
      · rcases Nat.lt_or_ge k j with hlt | hge
        · exact e3 j hlt hj2
        · have hjk : j = k := by omega
          subst hjk
          rw [e4 _ (by omega), e4 _ (by omega)]
          exact ⟨g3, g4⟩
      · rw [e4 i (by omega), g5 i (by omega)]
/-- fr_ok but for the block n -/
def fx_ok (v : Nat → Int32) (n : Nat) : Prop := (∀ f, f < 256 → 0 ≤ (v (18 + 3 * f + 1)).toInt ∧ (v (18 + 3 * f + 1)).toInt ≤ 96) ∧ ∀ m, m < 96 → m ≠ n → dn_ok v m
theorem fx_cong {v v' : Nat → Int32} {n : Nat} (h1 : ∀ i, 18 ≤ i → i < 786 + 16 * n ∨ 786 + 16 * n + 16 ≤ i → v' i = v i) (h : fx_ok v n) : fx_ok v' n := by
  refine ⟨fun f hf => ?_, fun m hm hmn => dn_cong (fun i g1 g2 => h1 i g1 (by omega)) (h1 _ (by omega) (by omega)) (h1 _ (by omega) (by omega)) (h.2 m hm hmn)⟩
  rw [h1 _ (by omega) (by omega)]
  exact h.1 f hf
theorem fx_fr {v : Nat → Int32} {n : Nat} (h : fx_ok v n) (h1 : v (786 + 16 * n + 0) = 1) : fr_ok v := by
  refine ⟨h.1, fun m hm => ?_⟩
  by_cases hmn : m = n
  · rw [hmn]; exact Or.inl h1
  · exact h.2 m hm hmn
theorem fr_fx {v : Nat → Int32} {n : Nat} (h : fr_ok v) : fx_ok v n := ⟨h.1, fun m hm _ => h.2 m hm⟩
/-- a block comes: its row, its frames -/
theorem l_comes3 {a1 a2 a3 a4 a5 a6 : Int32} {n o fr : Nat} (h1 : a1.toInt = n) (hn : n < 96) (h2 : a2.toInt = fr) (hfr : fr < 256) (h3 : a3.toInt = o) (ho : o ≤ 4) (hal : fr % 2 ^ o = 0) : ∀ (d k : Nat) (a7 : Int32) (σ : sm_S), a7.toInt = k → k + d = 16 → fx_ok (σ 1) n → (∀ j, j < k → σ 1 (786 + 16 * n + j) = 0) →
    xE xM m_M_comes 3 [.ref 0, .int a1, .int a2, .int a3, .int a4, .int a5, .int a6, .int a7] [] σ (sm_V (fun σ' => ∃ v, σ' = sm_set σ 1 v ∧ fr_ok v ∧ (∀ i, (i < 18 ∨ 786 ≤ i) → (i < 786 + 16 * n ∨ 786 + 16 * n + 16 ≤ i) → v i = σ 1 i) ∧
      (v (786 + 16 * n + 0) = 1 ∧ v (786 + 16 * n + 1) = a2 ∧ v (786 + 16 * n + 2) = a3 ∧ v (786 + 16 * n + 3) = a4 ∧ v (786 + 16 * n + 4) = a5 ∧ v (786 + 16 * n + 8) = a6 ∧ ∀ j, j < 16 → j ≠ 0 → j ≠ 1 → j ≠ 2 → j ≠ 3 → j ≠ 4 → j ≠ 8 → v (786 + 16 * n + j) = 0) ∧
      (∀ j, j < 2 ^ o → v (18 + 3 * (fr + j)) = 3 ∧ (v (18 + 3 * (fr + j) + 1)).toInt = ((n + 1 : Nat) : Int)) ∧ ∀ i, 18 ≤ i → i < 786 → (i < 18 + 3 * fr ∨ 18 + 3 * (fr + 2 ^ o) ≤ i) → v i = σ 1 i)) := by
  have hp := t_pw (k := o) (by omega)
  intro d
  induction d with
  | zero =>
    intro k a7 σ h7 hk hF h0
    refine w_M_comes_3 a1 a2 a3 a4 a5 a6 a7 σ _ ⟨fun _ => (c_lay (k := 0) (j := 0) h1 rfl (by omega) 1 σ).void ?_, fun h => absurd ?_ h⟩
    · rintro _ rfl
      refine (c_lay (k := 1) (j := 1) h1 rfl (by omega) a2 _).void ?_
      rintro _ rfl
      refine (c_lay (k := 2) (j := 2) h1 rfl (by omega) a3 _).void ?_
      rintro _ rfl
      refine (c_lay (k := 3) (j := 3) h1 rfl (by omega) a4 _).void ?_
      rintro _ rfl
      refine (c_lay (k := 4) (j := 4) h1 rfl (by omega) a5 _).void ?_
      rintro _ rfl
      refine (c_lay (k := 8) (j := 8) h1 rfl (by omega) a6 _).void ?_
      rintro _ rfl
      simp only [s_at, s_ss]
      refine (l_comes73 h1 hn h2 hfr h3 ho hal (2 ^ o) 0 0 _ rfl (by omega) ?_ ?_).mono ?_
      · rw [s_at]
        refine fx_fr (fx_cong (fun i g1 g2 => ?_) hF) ?_
        · rw [u_ne (by omega), u_ne (by omega), u_ne (by omega), u_ne (by omega), u_ne (by omega), u_ne (by omega)]
        · rw [u_ne (by omega), u_ne (by omega), u_ne (by omega), u_ne (by omega), u_ne (by omega), u_at]
      · rw [s_at, u_ne (by omega), u_ne (by omega), u_ne (by omega), u_ne (by omega), u_ne (by omega), u_at]
      · rintro r σ' ⟨rfl, v, rfl, e1, e2, e3, e4⟩
        rw [s_at] at e2 e4
        refine ⟨rfl, v, s_ss, e1, fun i hi hi2 => ?_, ⟨?_, ?_, ?_, ?_, ?_, ?_, fun j hj n0 n1 n2 n3 n4 n8 => ?_⟩, fun j hj => e3 j (Nat.zero_le j) hj, fun i hi1 hi2 hi3 => ?_⟩
        · rw [e2 i hi, u_ne (by omega), u_ne (by omega), u_ne (by omega), u_ne (by omega), u_ne (by omega), u_ne (by omega)]
        · rw [e2 _ (by omega), u_ne (by omega), u_ne (by omega), u_ne (by omega), u_ne (by omega), u_ne (by omega), u_at]
        · rw [e2 _ (by omega), u_ne (by omega), u_ne (by omega), u_ne (by omega), u_ne (by omega), u_at]
        · rw [e2 _ (by omega), u_ne (by omega), u_ne (by omega), u_ne (by omega), u_at]
        · rw [e2 _ (by omega), u_ne (by omega), u_ne (by omega), u_at]
        · rw [e2 _ (by omega), u_ne (by omega), u_at]
        · rw [e2 _ (by omega), u_at]
        · rw [e2 _ (by omega), u_ne (by omega), u_ne (by omega), u_ne (by omega), u_ne (by omega), u_ne (by omega), u_ne (by omega)]
          exact h0 j (by omega)
        · rw [e4 i (by omega), u_ne (by omega), u_ne (by omega), u_ne (by omega), u_ne (by omega), u_ne (by omega), u_ne (by omega)]
    · rw [t_le, h7]
      show (16 : Int) ≤ _
      omega
  | succ d ih =>
    intro k a7 σ h7 hk hF h0
    have h7' : (a7 + 1).toInt = ((k + 1 : Nat) : Int) := by
      rw [t_add h7 (y := 1) rfl (by omega) (by omega)]
      omega
    refine w_M_comes_3 a1 a2 a3 a4 a5 a6 a7 σ _ ⟨fun h => ?_, fun _ => (c_lay h1 h7 (by omega) 0 σ).void ?_⟩
    · rw [t_le, h7] at h
      have h : (16 : Int) ≤ k := h
      omega
    · rintro _ rfl
      refine (ih (k + 1) (a7 + 1) _ h7' (by omega) ?_ ?_).mono ?_
      · rw [s_at]
        exact fx_cong (fun i g1 g2 => u_ne (by omega)) hF
      · intro j hj
        rw [s_at]
        by_cases hjk : j = k
        · rw [hjk, u_at]
        · rw [u_ne (by omega)]
          exact h0 j (by omega)
      · rintro r σ' ⟨rfl, v, rfl, e1, e2, e3, e4, e5⟩
        rw [s_at] at e2 e5
        refine ⟨rfl, v, s_ss, e1, fun i hi hi2 => ?_, e3, e4, fun i hi1 hi2 hi3 => ?_⟩
        · rw [e2 i hi hi2, u_ne (by omega)]
        · rw [e5 i hi1 hi2 hi3, u_ne (by omega)]
/-- the block n has come, with order o, at frame fr, for task t -/
theorem jr_came {v v' : Nat → Int32} {n o fr t : Nat} (hn : n < 96) (hj : jr v) (h0 : v (786 + 16 * n + 0) = 0) (hoth : ∀ i, 786 ≤ i → i < 2422 → (i < 786 + 16 * n ∨ 786 + 16 * n + 16 ≤ i) → v' i = v i)
    (hfr : (v' (786 + 16 * n + 1)).toInt = fr) (hfr2 : fr < 256) (ho : (v' (786 + 16 * n + 2)).toInt = o) (ho2 : o ≤ 4) (hal : fr % 2 ^ o = 0) (ht : (v' (786 + 16 * n + 4)).toInt = t) (ht2 : t < 6) (hz : ∀ j, j < 16 → j ≠ 0 → j ≠ 1 → j ≠ 2 → j ≠ 3 → j ≠ 4 → j ≠ 8 → v' (786 + 16 * n + j) = 0) : jr v' := by
  obtain ⟨j1, j2, j3, j4, s, hs, z1, z2⟩ := hj
  have hn6 : v (786 + 16 * n + 6) = 0 := by
    rcases Classical.em (v (786 + 16 * n + 6) = 0) with h | h
    · exact h
    · have := (j4 n hn h).1
      rw [h0] at this
      exact absurd this (by decide)
  have eb : ∀ b k, b < 96 → b ≠ n → k < 16 → v' (786 + 16 * b + k) = v (786 + 16 * b + k) := fun b k hb hbn hk => hoth _ (by omega) (by omega) (by omega)
  have es : ∀ s k, s < 8 → k < 8 → v' (2358 + 8 * s + k) = v (2358 + 8 * s + k) := fun s k hs hk => hoth _ (by omega) (by omega) (by omega)
  have et : ∀ t k, t < 6 → k < 6 → v' (2322 + 6 * t + k) = v (2322 + 6 * t + k) := fun s k hs hk => hoth _ (by omega) (by omega) (by omega)
  have h6' : v' (786 + 16 * n + 6) = 0 := hz 6 (by decide) (by decide) (by decide) (by decide) (by decide) (by decide) (by decide)
  have h7' : v' (786 + 16 * n + 7) = 0 := hz 7 (by decide) (by decide) (by decide) (by decide) (by decide) (by decide) (by decide)
  have h9' : v' (786 + 16 * n + 9) = 0 := hz 9 (by decide) (by decide) (by decide) (by decide) (by decide) (by decide) (by decide)
  refine ⟨fun b hb => ?_, fun b hb => ?_, fun s hs => ?_, fun b hb => ?_, s, hs, ?_, ?_⟩
  · by_cases hbn : b = n
    · subst hbn
      exact ⟨o, fr, ho, ho2, hfr, hfr2, hal, ⟨t, ht, ht2⟩, ⟨0, by rw [h6']; rfl, Or.inl rfl⟩, by rw [h7']; decide⟩
    · exact bk_cong (fun k hk _ _ _ => eb b k hb hbn hk) (j1 b hb)
  · by_cases hbn : b = n
    · subst hbn
      exact ⟨0, o, by rw [h9']; rfl, by omega, ho, fun h => by omega, fun k hk => by omega, fun k m _ hm => by omega⟩
    · exact ln_cong (fun k hk _ _ _ => eb b k hb hbn hk) (fun t k ht hk => et t k ht (by omega)) (j2 b hb)
  · obtain ⟨st, pt, at', q, h1, h2, h3, h4, h5, h6, h7, h8, h9⟩ := j3 s hs
    refine ⟨st, pt, at', q, ?_, h2, ?_, h4, h5, ?_, h7, ?_, ?_⟩
    · rw [es s 0 hs (by omega)]; exact h1
    · rw [es s 2 hs (by omega)]; exact h3
    · rw [es s 5 hs (by omega)]; exact h6
    · rw [es s 6 hs (by omega)]; exact h8
    · rcases h9 with h9 | ⟨b, g1, g2, g3, g4, fr2, g5, g6⟩
      · exact Or.inl h9
      · have hbn : b ≠ n := fun z => by subst z; exact g4 hn6
        refine Or.inr ⟨b, g1, g2, g3, ?_, fr2, ?_, g6⟩
        · rw [eb b 6 g1 hbn (by omega)]; exact g4
        · rw [eb b 1 g1 hbn (by omega)]; exact g5
  · by_cases hbn : b = n
    · subst hbn
      exact fun z => absurd h6' z
    · intro hb6
      rw [eb b 6 hb hbn (by omega)] at hb6
      obtain ⟨h1, fr2, h2, h3, h4⟩ := j4 b hb hb6
      refine ⟨?_, fr2, ?_, h3, ?_⟩
      · rw [eb b 0 hb hbn (by omega)]; exact h1
      · rw [eb b 1 hb hbn (by omega)]; exact h2
      · rw [es _ 6 (by omega) (by omega)]; exact h4
  · rw [es s 0 hs (by omega)]; exact z1
  · rw [es s 1 hs (by omega)]; exact z2
theorem c_comes {a1 a2 a3 a4 a5 a6 : Int32} {n o fr t N : Nat} (h1 : a1.toInt = n) (hn : n < 96) (h2 : a2.toInt = fr) (hfr : fr < 256) (h3 : a3.toInt = o) (ho : o ≤ 4) (hal : fr % 2 ^ o = 0) (h5 : a5.toInt = t) (ht : t < 6) (σ : sm_S) (hj : jj N (σ 1)) (h0 : σ 1 (786 + 16 * n + 0) = 0) :
    xC xM j_M_comes [.ref 0, .int a1, .int a2, .int a3, .int a4, .int a5, .int a6] σ (sm_V (fun σ' => ∃ v, σ' = sm_set σ 1 v ∧ jj N v ∧ (∀ i, (i < 18 ∨ 786 ≤ i) → (i < 786 + 16 * n ∨ 786 + 16 * n + 16 ≤ i) → v i = σ 1 i) ∧
      (v (786 + 16 * n + 0) = 1 ∧ v (786 + 16 * n + 1) = a2 ∧ v (786 + 16 * n + 2) = a3 ∧ v (786 + 16 * n + 3) = a4) ∧
      (∀ j, j < 2 ^ o → v (18 + 3 * (fr + j)) = 3 ∧ (v (18 + 3 * (fr + j) + 1)).toInt = ((n + 1 : Nat) : Int)) ∧ ∀ i, 18 ≤ i → i < 786 → (i < 18 + 3 * fr ∨ 18 + 3 * (fr + 2 ^ o) ≤ i) → v i = σ 1 i)) := by
  obtain ⟨jF, jR, jN⟩ := hj
  refine w_M_comes a1 a2 a3 a4 a5 a6 σ _ ((l_comes3 h1 hn h2 hfr h3 ho hal 16 0 0 σ rfl rfl (fr_fx jF) (fun j hj => absurd hj (Nat.not_lt_zero j))).mono ?_)
  rintro r σ' ⟨rfl, v, rfl, e1, e2, ⟨r0, r1, r2, r3, r4, r8, rz⟩, e4, e5⟩
  refine ⟨rfl, v, rfl, ⟨e1, ?_, ?_⟩, e2, ⟨r0, r1, r2, r3⟩, e4, e5⟩
  · exact jr_came hn jR h0 (fun i hi1 _ hi2 => e2 i (Or.inr hi1) hi2) (by rw [r1]; exact h2) hfr (by rw [r2]; exact h3) ho hal (by rw [r4]; exact h5) ht rz
  · rw [e2 5 (by omega) (by omega)]; exact jN
end
section
/-! ===== the model: take, free ===== -/
theorem sm_C.det {TB : List (List Int32)} {MS : List sm_M} {SH : List sm_Sh} {j : Nat} {as : List Value} {σ : sm_S} {P : Int32 → sm_S → Prop} (h : sm_C TB MS SH j as σ (sm_I P)) : ∃ x0, sm_C TB MS SH j as σ (sm_I (fun x σ' => x = x0 ∧ P x σ')) := by
  obtain ⟨M, h1, n, r, σ', h2, x, rfl, hx⟩ := h
  exact ⟨x, M, h1, n, _, σ', h2, x, rfl, rfl, hx⟩
def isB (v : Nat → Int32) (b : Nat) : Bool := decide (v (786 + 16 * b + 0) = 1)
/-- counts and the log's number aside, nothing of jj lies below 18 -/
theorem jj_low {v : Nat → Int32} {N i : Nat} {x : Int32} (hi : i < 18) (h5 : i ≠ 5) (hj : jj N v) : jj N (upd v i x) :=
  ⟨fr_cong (fun i h1 h2 => u_ne (by omega)) (fun n k hn hk => u_ne (by omega)) hj.1, jr_cong (ceq_upd (Or.inl (by omega))) hj.2.1, by rw [u_ne (by omega)]; exact hj.2.2⟩
theorem jj_fr {v v' : Nat → Int32} {N : Nat} (hF : fr_ok v') (he : fr_eq v v') (hj : jj N v) : jj N v' :=
  ⟨hF, jr_cong (ceq.fr he) hj.2.1, by rw [he 5 (by omega)]; exact hj.2.2⟩
theorem l_take135 {a1 a2 a3 a4 a5 a6 : Int32} {o fr N : Nat} (h5 : a5.toInt = fr) (hfr : fr < 256) (h3 : a3.toInt = o) (ho : o ≤ 4) (hal : fr % 2 ^ o = 0) : ∀ (d k : Nat) (a7 : Int32) (σ : sm_S), a7.toInt = k → k + d = 2 ^ o → jj N (σ 1) →
    xE xM m_M_take 135 [.ref 0, .int a1, .int a2, .int a3, .int a4, .int a5, .int a6, .int a7] [] σ (sm_I (fun x σ' => ∃ v, σ' = sm_set σ 1 v ∧ jj N v)) := by
  have hp := t_pw (k := o) (by omega)
  have hsp := t_al (k := o) (by omega) hal
  intro d
  induction d with
  | zero =>
    intro k a7 σ h7 hk hj
    refine w_M_take_135 a1 a2 a3 a4 a5 a6 a7 σ _ ⟨fun _ => (c_counts (k := 0) (j := 0) rfl (by omega) 1 σ).void ?_, fun h => absurd ?_ h⟩
    · rintro _ rfl
      exact ⟨_, rfl, _, rfl, jj_low (by omega) (by omega) hj⟩
    · rw [t_le, t_pow h3 (by omega), h7]
      omega
  | succ d ih =>
    intro k a7 σ h7 hk hj
    have h7' : (a7 + 1).toInt = ((k + 1 : Nat) : Int) := by
      rw [t_add h7 (y := 1) rfl (by omega) (by omega)]
      omega
    have hf3 := t_add h5 h7 (by omega) (by omega)
    rw [← Int.natCast_add] at hf3
    refine w_M_take_135 a1 a2 a3 a4 a5 a6 a7 σ _ ⟨fun h => ?_, fun _ => (c_lays' hf3 (by omega) σ hj.1).void ?_⟩
    · rw [t_le, t_pow h3 (by omega), h7] at h
      omega
    · rintro _ ⟨v, rfl, g1, g2, -⟩
      refine (ih (k + 1) (a7 + 1) _ h7' (by omega) (by rw [s_at]; exact jj_fr g1 g2 hj)).mono ?_
      rintro r σ' ⟨x, rfl, w, rfl, hw⟩
      exact ⟨x, rfl, w, s_ss, hw⟩
theorem l_take46 {a1 a2 a3 a4 : Int32} {m o : Nat} (h1 : a1.toInt = m) (hm : m < 6) (h3 : a3.toInt = o) (ho : o ≤ 4) : ∀ (c : Nat) (a5 : Int32) (v6 v7 : Value) (σ : sm_S) (N : Nat), cn (isB (σ 1)) 96 ≤ c → jj N (σ 1) → N + c < 2000000000 → (a5 = -1 ∨ ∃ p : Nat, a5.toInt = p ∧ p < 256 ∧ p % 2 ^ o = 0) →
    xE xM m_M_take 46 [.ref 0, .int a1, .int a2, .int a3, .int a4, .int a5, v6, v7] [] σ (sm_I (fun x σ' => ∃ v N', σ' = sm_set σ 1 v ∧ jj N' v ∧ N ≤ N' ∧ N' ≤ N + c)) := by
  intro c
  induction c with
  | zero =>
    intro a5 v6 v7 σ N hc hj hN h5
    have hcnt : xC xM j_M_counts [.ref 0, .int 1, .int 1] σ (sm_rv False (fun σ' => sm_I (fun x σ' => ∃ v N', σ' = sm_set σ 1 v ∧ jj N' v ∧ N ≤ N' ∧ N' ≤ N + 0) (some (.int (-1))) σ')) := by
      refine (c_counts (k := 1) (j := 1) rfl (by omega) 1 σ).void ?_
      rintro _ rfl
      exact ⟨_, rfl, _, N, rfl, jj_low (by omega) (by omega) hj, Nat.le_refl N, by omega⟩
    have hcome : ∀ (b : Int32) (n p : Nat), b.toInt = n → n < 96 → σ 1 (786 + 16 * n) = 0 → a5.toInt = p → p < 256 → p % 2 ^ o = 0 → xC xM j_M_more [.ref 0, .int 6, .int 1] σ (sm_rv False (fun σ4 => (vp_in (6 : Int32) 2662 ∧ xC xM j_M_comes [.ref 0, .int b, .int a5, .int a3, .int a2, .int a1, .int (σ4 1 ((6 : Int32)).toNatClampNeg)] σ4 (sm_rv False (fun σ5 => xE xM m_M_take 135 [.ref 0, .int a1, .int a2, .int a3, .int a4, .int a5, .int b, .int 0] [] σ5 (sm_I (fun x σ' => ∃ v N', σ' = sm_set σ 1 v ∧ jj N' v ∧ N ≤ N' ∧ N' ≤ N + 0))))))) := by
      intro b n p hb hn h0 hp hp2 hp3
      refine (c_more (k := 6) (j := 6) rfl (by omega) 1 σ).void ?_
      rintro _ rfl
      refine ⟨t_vp (n := 6) rfl (by omega), ?_⟩
      have hj2 : jj N (upd (σ 1) 6 (σ 1 6 + 1)) := jj_low (by omega) (by omega) hj
      refine (c_comes hb hn hp hp2 h3 ho hp3 h1 hm _ (by rw [s_at]; exact hj2) (by rw [s_at, u_ne (by omega)]; exact h0)).void ?_
      rintro _ ⟨v, rfl, hv, -⟩
      rw [s_ss]
      have hpo := t_pw (k := o) (by omega)
      refine (l_take135 hp hp2 h3 ho hp3 (2 ^ o) 0 0 _ rfl (by omega) (by rw [s_at]; exact hv)).mono ?_
      rintro r σ' ⟨x, rfl, w, rfl, hw⟩
      exact ⟨x, rfl, w, N, s_ss, hw, Nat.le_refl N, by omega⟩
    have hend : ∀ (y : Int32), ((y = -1 ∧ ∀ j, j < 96 → σ 1 (786 + 16 * j) ≠ 0) ∨ ∃ j : Nat, y.toInt = j ∧ j < 96 ∧ σ 1 (786 + 16 * j) = 0 ∧ ∀ i, i < j → σ 1 (786 + 16 * i) ≠ 0) → ¬ a5 = -1 → y ≠ -1 → ∃ n p : Nat, y.toInt = n ∧ n < 96 ∧ σ 1 (786 + 16 * n) = 0 ∧ a5.toInt = p ∧ p < 256 ∧ p % 2 ^ o = 0 := by
      intro y hy ha hy1
      obtain ⟨p, g1, g2, g3⟩ := h5.resolve_left ha
      obtain ⟨n, e1, e2, e3, -⟩ := hy.resolve_left (fun z => hy1 z.1)
      exact ⟨n, p, e1, e2, e3, g1, g2, g3⟩
    obtain ⟨x0, hLU⟩ := sm_C.det (c_leastUsed σ)
    refine w_M_take_46 a1 a2 a3 a4 a5 v6 v7 σ _ ⟨fun ha => (c_freeNumber σ).int ?_, fun ha => hLU.int ?_⟩
    · rintro y _ ⟨hy, rfl⟩
      refine ⟨fun z => absurd z ha, fun _ => ⟨fun hy1 => ?_, fun _ => hcnt⟩⟩
      obtain ⟨n, p, g1, g2, g3, g4, g5, g6⟩ := hend y hy ha hy1
      exact hcome y n p g1 g2 g3 g4 g5 g6
    · rintro y σ ⟨rfl, hy, rfl⟩
      refine ⟨fun _ => (c_freeNumber _).int ?_, fun hy1 => hLU.int ?_⟩
      · rintro z _ ⟨hz, rfl⟩
        exact ⟨fun _ => hcnt, fun z => absurd (Classical.not_not.mp ha) z⟩
      · exfalso
        obtain ⟨n, g1, g2, g3, -⟩ := hy.resolve_left hy1
        have := cn_lt (P := isB (σ 1)) (P' := fun _ => false) (j := n) (by simpa [isB] using g3) rfl (N := 96) g2 (fun i _ h => by cases h)
        omega
  | succ c ih =>
    intro a5 v6 v7 σ N hc hj hN h5
    have hcnt : xC xM j_M_counts [.ref 0, .int 1, .int 1] σ (sm_rv False (fun σ' => sm_I (fun x σ' => ∃ v N', σ' = sm_set σ 1 v ∧ jj N' v ∧ N ≤ N' ∧ N' ≤ N + (c + 1)) (some (.int (-1))) σ')) := by
      refine (c_counts (k := 1) (j := 1) rfl (by omega) 1 σ).void ?_
      rintro _ rfl
      exact ⟨_, rfl, _, N, rfl, jj_low (by omega) (by omega) hj, Nat.le_refl N, by omega⟩
    have hcome : ∀ (b : Int32) (n p : Nat), b.toInt = n → n < 96 → σ 1 (786 + 16 * n) = 0 → a5.toInt = p → p < 256 → p % 2 ^ o = 0 → xC xM j_M_more [.ref 0, .int 6, .int 1] σ (sm_rv False (fun σ4 => (vp_in (6 : Int32) 2662 ∧ xC xM j_M_comes [.ref 0, .int b, .int a5, .int a3, .int a2, .int a1, .int (σ4 1 ((6 : Int32)).toNatClampNeg)] σ4 (sm_rv False (fun σ5 => xE xM m_M_take 135 [.ref 0, .int a1, .int a2, .int a3, .int a4, .int a5, .int b, .int 0] [] σ5 (sm_I (fun x σ' => ∃ v N', σ' = sm_set σ 1 v ∧ jj N' v ∧ N ≤ N' ∧ N' ≤ N + (c + 1)))))))) := by
      intro b n p hb hn h0 hp hp2 hp3
      refine (c_more (k := 6) (j := 6) rfl (by omega) 1 σ).void ?_
      rintro _ rfl
      refine ⟨t_vp (n := 6) rfl (by omega), ?_⟩
      have hj2 : jj N (upd (σ 1) 6 (σ 1 6 + 1)) := jj_low (by omega) (by omega) hj
      refine (c_comes hb hn hp hp2 h3 ho hp3 h1 hm _ (by rw [s_at]; exact hj2) (by rw [s_at, u_ne (by omega)]; exact h0)).void ?_
      rintro _ ⟨v, rfl, hv, -⟩
      rw [s_ss]
      have hpo := t_pw (k := o) (by omega)
      refine (l_take135 hp hp2 h3 ho hp3 (2 ^ o) 0 0 _ rfl (by omega) (by rw [s_at]; exact hv)).mono ?_
      rintro r σ' ⟨x, rfl, w, rfl, hw⟩
      exact ⟨x, rfl, w, N, s_ss, hw, Nat.le_refl N, by omega⟩
    have hend : ∀ (y : Int32), ((y = -1 ∧ ∀ j, j < 96 → σ 1 (786 + 16 * j) ≠ 0) ∨ ∃ j : Nat, y.toInt = j ∧ j < 96 ∧ σ 1 (786 + 16 * j) = 0 ∧ ∀ i, i < j → σ 1 (786 + 16 * i) ≠ 0) → ¬ a5 = -1 → y ≠ -1 → ∃ n p : Nat, y.toInt = n ∧ n < 96 ∧ σ 1 (786 + 16 * n) = 0 ∧ a5.toInt = p ∧ p < 256 ∧ p % 2 ^ o = 0 := by
      intro y hy ha hy1
      obtain ⟨p, g1, g2, g3⟩ := h5.resolve_left ha
      obtain ⟨n, e1, e2, e3, -⟩ := hy.resolve_left (fun z => hy1 z.1)
      exact ⟨n, p, e1, e2, e3, g1, g2, g3⟩
    obtain ⟨x0, hLU⟩ := sm_C.det (c_leastUsed σ)
    refine w_M_take_46 a1 a2 a3 a4 a5 v6 v7 σ _ ⟨fun ha => (c_freeNumber σ).int ?_, fun ha => hLU.int ?_⟩
    · rintro y _ ⟨hy, rfl⟩
      refine ⟨fun z => absurd z ha, fun _ => ⟨fun hy1 => ?_, fun _ => hcnt⟩⟩
      obtain ⟨n, p, g1, g2, g3, g4, g5, g6⟩ := hend y hy ha hy1
      exact hcome y n p g1 g2 g3 g4 g5 g6
    · rintro y σ ⟨rfl, hy, rfl⟩
      refine ⟨fun _ => (c_freeNumber _).int ?_, fun hy1 => hLU.int ?_⟩
      · rintro z _ ⟨hz, rfl⟩
        exact ⟨fun _ => hcnt, fun z => absurd (Classical.not_not.mp ha) z⟩
      · rintro z σ ⟨rfl, hz, rfl⟩
        obtain ⟨n, g1, g2, g3, g4, g5⟩ := hz.resolve_left hy1
        obtain ⟨o2, fr2, b1, b2, b3, b4, b5, b6, ⟨q, b7, b8⟩, b9⟩ := hj.2.1.1 n g2
        have h60 : σ 1 (786 + 16 * n + 6) = 0 := by
          apply t_inj
          rw [t_le, b7] at g5
          have g5 : (q : Int) ≤ 0 := g5
          rw [b7]
          show (q : Int) = 0
          omega
        refine (c_drops g1 g2 (by omega) _ hj h60).void ?_
        rintro _ ⟨v, fr, rfl, k1, k2, k3, k4, -⟩
        refine (c_bestPlace h1 hm h3 ho _).int ?_
        rintro y2 _ ⟨hy2, rfl⟩
        have hlt : cn (isB v) 96 < cn (isB (σ 1)) 96 := by
          refine cn_lt (j := n) (by simpa [isB] using g3) (by simp only [isB, k3]; decide) g2 (fun i hi h => ?_)
          by_cases hin : i = n
          · subst hin; simpa [isB] using g3
          · simp only [isB, decide_eq_true_eq] at h ⊢
            rw [← k4 _ (by omega) (by omega) (by omega)]
            exact h
        refine (ih y2 v6 v7 _ (N + 1) (by rw [s_at]; omega) (by rw [s_at]; exact k1) (by omega) hy2).mono ?_
        rintro r σ' ⟨x, rfl, w, N', rfl, hw, l1, l2⟩
        exact ⟨x, rfl, w, N', s_ss, hw, by omega, by omega⟩
theorem c_take {N : Nat} (a1 a2 a3 a4 : Int32) (σ : sm_S) (hj : jj N (σ 1)) (hN : N < 1900000000) : xC xM j_M_take [.ref 0, .int a1, .int a2, .int a3, .int a4] σ (sm_I (fun x σ' => ∃ v N', σ' = sm_set (sm_set σ 0 (upd (σ 0) 0 0)) 1 v ∧ jj N' v ∧ N ≤ N' ∧ N' ≤ N + 96)) := by
  have keep : ∀ σ1 : sm_S, σ1 = sm_set σ 0 (upd (σ 0) 0 0) → ∃ v N', σ1 = sm_set (sm_set σ 0 (upd (σ 0) 0 0)) 1 v ∧ jj N' v ∧ N ≤ N' ∧ N' ≤ N + 96 := by
    rintro _ rfl
    exact ⟨σ 1, N, by rw [show σ 1 = (sm_set σ 0 (upd (σ 0) 0 0)) 1 from (s_ne (by decide)).symm, s_id], hj, Nat.le_refl N, by omega⟩
  refine w_M_take a1 a2 a3 a4 σ _ (fun σ1 e1 => (c_isTask a1 σ1).int ?_)
  have hj1 : jj N (σ1 1) := by rw [e1, s_ne (by decide)]; exact hj
  rintro x1 _ ⟨hx1, rfl⟩
  refine ⟨fun _ => ⟨_, rfl, keep _ e1⟩, fun n1 => (c_isIn a2 0 2 _).int ?_⟩
  rintro x2 _ ⟨hx2, rfl⟩
  refine ⟨fun _ => ⟨_, rfl, keep _ e1⟩, fun n2 => (c_isIn a3 0 4 _).int ?_⟩
  rintro x3 _ ⟨hx3, rfl⟩
  refine ⟨fun n3 => ?_, fun _ => ⟨_, rfl, keep _ e1⟩⟩
  obtain ⟨-, m, hm, h1⟩ := hx1.resolve_right (fun z => n1 z.1)
  obtain ⟨-, h31, h32⟩ := hx3.resolve_right (fun z => n3 z.1)
  have h31 : 0 ≤ a3.toInt := h31
  have h32 : a3.toInt ≤ 4 := h32
  obtain ⟨o, ho⟩ := t_of h31
  refine (c_bestPlace h1 hm ho (by omega) _).int ?_
  rintro y _ ⟨hy, rfl⟩
  refine (l_take46 h1 hm ho (by omega) 96 y _ _ _ N cn_bd hj1 (by omega) hy).mono ?_
  rintro r σ' ⟨x, rfl, w, N', rfl, hw, l1, l2⟩
  exact ⟨x, rfl, w, N', by rw [e1], hw, l1, l2⟩
end
section
/-! ===== the model: free; what a task does ===== -/
/-- behind a public call: told is 0, now is well, the log has at most D lines more -/
def pub (N D : Nat) (σ : sm_S) (_ : Int32) (σ' : sm_S) : Prop := ∃ v N', σ' = sm_set (sm_set σ 0 (upd (σ 0) 0 0)) 1 v ∧ jj N' v ∧ N ≤ N' ∧ N' ≤ N + D
theorem pub_keep {N D : Nat} {σ σ1 : sm_S} {x : Int32} (hj : jj N (σ 1)) (e1 : σ1 = sm_set σ 0 (upd (σ 0) 0 0)) : pub N D σ x σ1 := by
  subst e1
  exact ⟨σ 1, N, by rw [show σ 1 = (sm_set σ 0 (upd (σ 0) 0 0)) 1 from (s_ne (by decide)).symm, s_id], hj, Nat.le_refl N, by omega⟩
theorem pub_set {N D N' : Nat} {σ σ1 : sm_S} {x : Int32} {v : Nat → Int32} (e1 : σ1 = sm_set σ 0 (upd (σ 0) 0 0)) (hv : jj N' v) (h1 : N ≤ N') (h2 : N' ≤ N + D) : pub N D σ x (sm_set σ1 1 v) := ⟨v, N', by rw [e1], hv, h1, h2⟩
theorem t_to0 {v : Nat → Int32} {n : Nat} (hB : bk_ok v n) (h : v (786 + 16 * n + 6) ≤ 0) : v (786 + 16 * n + 6) = 0 := by
  obtain ⟨o2, fr2, b1, b2, b3, b4, b5, b6, ⟨q, b7, b8⟩, b9⟩ := hB
  apply t_inj
  rw [t_le, b7] at h
  have h : (q : Int) ≤ 0 := h
  rw [b7]
  show (q : Int) = 0
  omega
theorem jj_gone {v w : Nat → Int32} {n N fr : Nat} (hn : n < 96) (hj : jj N v) (h6 : v (786 + 16 * n + 6) = 0) (hF : fr_ok w) (he : fr_eq v w) (hfr : (v (786 + 16 * n + 1)).toInt = fr) (hlv : w (18 + 3 * fr) = 1 ∨ w (18 + 3 * fr) = 2) : jj N (upd w (786 + 16 * n + 0) 0) := by
  have hw := jj_fr hF he hj
  refine ⟨fr_gone hn (by rw [he _ (by omega)]; exact hfr) hlv hF, jr_gone hn hw.2.1 (by rw [he _ (by omega)]; exact h6), by rw [u_ne (by omega)]; exact hw.2.2⟩
theorem c_free {N : Nat} (a1 : Int32) (σ : sm_S) (hj : jj N (σ 1)) : xC xM j_M_free [.ref 0, .int a1] σ (sm_I (pub N 0 σ)) := by
  refine w_M_free a1 σ _ (fun σ1 e1 => (c_isBlock a1 σ1).int ?_)
  have hj1 : jj N (σ1 1) := by rw [e1, s_ne (by decide)]; exact hj
  rintro x1 σ1 ⟨hx1, rfl⟩
  refine ⟨fun _ => ⟨Or.inl rfl, _, rfl, pub_keep hj e1⟩, fun n1 => ?_⟩
  obtain ⟨-, n, hn, h1, hi⟩ := hx1.resolve_right (fun z => n1 z.1)
  refine (c_isPinned h1 hn _).int ?_
  rintro x2 σ1 ⟨hx2, rfl⟩
  refine ⟨fun _ => ⟨Or.inl rfl, _, rfl, pub_keep hj e1⟩, fun n2 => (c_isOnWay h1 hn _).int ?_⟩
  rintro x3 σ1 ⟨hx3, rfl⟩
  refine ⟨fun n3 => ?_, fun _ => ⟨Or.inl rfl, _, rfl, pub_keep hj e1⟩⟩
  have h6 := hx3.resolve_right (fun z => by rw [z.1] at n3; exact absurd n3 (by decide))
  refine (c_goes h1 hn _ (hj1.2.1.1 n hn) hj1.1).void ?_
  rintro _ ⟨v, fr, rfl, e2, e3, -, e5, -, e6⟩
  exact ⟨Or.inr rfl, _, rfl, pub_set e1 (jj_gone hn hj1 (t_to0 (hj1.2.1.1 n hn) h6.2) e2 e3 e5 e6) (Nat.le_refl N) (Nat.le_refl N)⟩
theorem jj_cell {v : Nat → Int32} {N i : Nat} {x : Int32} (hi : 786 ≤ i) (h : (∃ b, b < 96 ∧ (i = 786 + 16 * b + 3 ∨ i = 786 + 16 * b + 5 ∨ i = 786 + 16 * b + 8)) ∨ (∃ t, t < 6 ∧ (i = 2322 + 6 * t ∨ i = 2322 + 6 * t + 2 ∨ i = 2322 + 6 * t + 4 ∨ i = 2322 + 6 * t + 5)) ∨ ∃ s, s < 8 ∧ (i = 2358 + 8 * s + 3 ∨ i = 2358 + 8 * s + 4 ∨ i = 2358 + 8 * s + 7)) (hj : jj N v) : jj N (upd v i x) :=
  ⟨fr_cong (fun k h1 h2 => u_ne (by omega)) (fun n k hn hk => u_ne (by rcases h with ⟨c, hc, h⟩ | ⟨c, hc, h⟩ | ⟨c, hc, h⟩ <;> omega)) hj.1, jr_cong (ceq_upd (Or.inr (Or.inr h))) hj.2.1, by rw [u_ne (by omega)]; exact hj.2.2⟩
/-- frames have what they had -/
def fr_st (v v' : Nat → Int32) : Prop := ∀ g, g < 256 → v' (18 + 3 * g) = v (18 + 3 * g) ∧ v' (18 + 3 * g + 1) = v (18 + 3 * g + 1)
theorem fr_st.tr {a b c : Nat → Int32} (h1 : fr_st a b) (h2 : fr_st b c) : fr_st a c := fun g hg => ⟨(h2 g hg).1.trans (h1 g hg).1, (h2 g hg).2.trans (h1 g hg).2⟩
theorem c_uses {b : Int32} {n N : Nat} (hb : b.toInt = n) (hn : n < 96) (σ : sm_S) (hj : jj N (σ 1)) : xC xM j_M_uses [.ref 0, .int b] σ (sm_V (fun σ' => ∃ w, σ' = sm_set σ 1 w ∧ jj N w ∧ ∀ i, i ≠ 6 → i ≠ 786 + 16 * n + 8 → w i = σ 1 i)) := by
  refine w_M_uses b σ _ ((c_more (k := 6) (j := 6) rfl (by omega) 1 σ).void ?_)
  rintro _ rfl
  refine ⟨t_vp (n := 6) rfl (by omega), (c_lay (k := 8) (j := 8) hb rfl (by omega) _ _).void ?_⟩
  rintro _ rfl
  refine ⟨rfl, _, s_ss, ?_, fun i h1 h2 => ?_⟩
  · rw [s_at]
    exact jj_cell (by omega) (Or.inl ⟨n, hn, Or.inr (Or.inr rfl)⟩) (jj_low (by omega) (by omega) hj)
  · rw [s_at, u_ne h2, u_ne h1]
theorem c_does {t b i : Int32} {n m a fr N : Nat} (ht : t.toInt = m) (hm : m < 6) (hb : b.toInt = n) (hn : n < 96) (hi : i.toInt = a) (what x : Int32) (σ : sm_S) (hfr : (σ 1 (786 + 16 * n + 1)).toInt = fr) (h : fr + a < 256) (hj : jj N (σ 1)) :
    xC xM j_M_does [.ref 0, .int t, .int b, .int what, .int i, .int x] σ (sm_V (fun σ' => ∃ w, σ' = sm_set σ 1 w ∧ jj N w ∧ (∀ i, 786 ≤ i → i ≠ 786 + 16 * n + 5 → i ≠ 786 + 16 * n + 8 → i ≠ 2322 + 6 * m + 5 → w i = σ 1 i) ∧ fr_st (σ 1) w)) := by
  refine w_M_does t b what i x σ _ ⟨fun _ => (c_uses hb hn σ hj).void ?_, fun _ => (c_of (k := 5) (j := 5) hb rfl (by omega) σ).int ?_⟩
  · rintro _ ⟨w, rfl, hw, ew⟩
    have hf3 : ∀ y : Int32, y = w (786 + 16 * n + 1) → (y + i).toInt = ((fr + a : Nat) : Int) := by
      rintro _ rfl
      rw [ew _ (by omega) (by omega)]
      have := t_add hfr hi (by omega) (by omega)
      rw [this]
      omega
    refine ⟨fun _ => (c_frameOf hb hn _).int ?_, fun _ => (c_taskAt t _).int ?_⟩
    · rintro y _ ⟨hy, rfl⟩
      rw [s_at] at hy
      refine (c_lays' (hf3 y hy) h _ (by rw [s_at]; exact hw.1)).void ?_
      rintro _ ⟨z, rfl, g1, g2, g3⟩
      rw [s_at] at g2 g3
      refine ⟨rfl, z, s_ss, jj_fr g1 g2 hw, fun k h1 h2 h3 h4 => ?_, fun g hg => ⟨?_, ?_⟩⟩
      · rw [g3 _ (by omega), ew _ (by omega) h3]
      · rw [g3 _ (by omega), ew _ (by omega) (by omega)]
      · rw [g3 _ (by omega), ew _ (by omega) (by omega)]
    · rintro _ _ ⟨rfl, rfl⟩
      refine (c_frameOf hb hn _).int ?_
      rintro y _ ⟨hy, rfl⟩
      rw [s_at] at hy
      refine (c_valueOf (hf3 y hy) (by omega) _).int ?_
      rintro z _ ⟨-, rfl⟩
      obtain ⟨p1, p2⟩ := ixT (k := 5) (j := 5) ht rfl (by omega)
      rw [p2]
      refine ⟨p1, fun σ2 e2 => ⟨rfl, upd w (2322 + 6 * m + 5) z, ?_, ?_, fun k h1 h2 h3 h4 => ?_, fun g hg => ⟨?_, ?_⟩⟩⟩
      · rw [e2, s_at, s_ss]
      · exact jj_cell (by omega) (Or.inr (Or.inl ⟨m, hm, by omega⟩)) hw
      · rw [u_ne h4, ew _ (by omega) h3]
      · rw [u_ne (by omega), ew _ (by omega) (by omega)]
      · rw [u_ne (by omega), ew _ (by omega) (by omega)]
  · rintro y _ ⟨-, rfl⟩
    refine (c_lay (k := 5) (j := 5) hb rfl (by omega) _ _).void ?_
    rintro _ rfl
    exact ⟨rfl, _, rfl, jj_cell (by omega) (Or.inl ⟨n, hn, Or.inr (Or.inl rfl)⟩) hj, fun k h1 h2 h3 h4 => u_ne h2, fun g hg => ⟨u_ne (by omega), u_ne (by omega)⟩⟩
/-- L different ones below k are at most k -/
theorem php : ∀ (k L : Nat) (f : Nat → Nat), (∀ n, n < L → f n < k) → (∀ n m, n < m → m < L → f n ≠ f m) → L ≤ k
  | 0, L, f, h1, _ => by
    rcases Nat.eq_zero_or_pos L with h | h
    · omega
    · exact absurd (h1 0 h) (Nat.not_lt_zero _)
  | k + 1, L, f, h1, h2 => by
    by_cases hex : ∃ n0, n0 < L ∧ f n0 = k
    · obtain ⟨n0, hn0, hf0⟩ := hex
      have := php k (L - 1) (fun n => if n < n0 then f n else f (n + 1)) (fun n hn => by
        show (if n < n0 then f n else f (n + 1)) < k
        split
        · next hlt =>
          have a1 := h1 n (by omega)
          have a2 := h2 n n0 hlt hn0
          omega
        · next hge =>
          have a1 := h1 (n + 1) (by omega)
          have a2 := h2 n0 (n + 1) (by omega) (by omega)
          omega) (fun n m hnm hm => by
        show (if n < n0 then f n else f (n + 1)) ≠ (if m < n0 then f m else f (m + 1))
        split <;> split
        · exact h2 n m hnm (by omega)
        · exact h2 n (m + 1) (by omega) (by omega)
        · omega
        · exact h2 (n + 1) (m + 1) (by omega) (by omega))
      omega
    · have := php k L f (fun n hn => by
        have a1 := h1 n hn
        have a2 : f n ≠ k := fun z => hex ⟨n, hn, z⟩
        omega) h2
      omega
end
section
/-! ===== the model: who wants something waits, or does it ===== -/
theorem jr_wait {v v' : Nat → Int32} {n m a o L : Nat} (hn : n < 96) (hm : m < 6) (hj : jr v) (h6 : v (786 + 16 * n + 6) ≠ 0) (hw : v (2322 + 6 * m + 1) = 0) (ho : (v (786 + 16 * n + 2)).toInt = o) (ha : a < 2 ^ o) (hL : (v (786 + 16 * n + 9)).toInt = L)
    (e1 : (v' (2322 + 6 * m + 1)).toInt = ((n + 1 : Nat) : Int)) (e3 : (v' (2322 + 6 * m + 3)).toInt = a) (e9 : (v' (786 + 16 * n + 9)).toInt = ((L + 1 : Nat) : Int)) (e10 : (v' (786 + 16 * n + (10 + L))).toInt = m)
    (e : ∀ i, 786 ≤ i → i < 2422 → (i < 2322 + 6 * m + 1 ∨ 2322 + 6 * m + 5 ≤ i) → i ≠ 786 + 16 * n + 9 → i ≠ 786 + 16 * n + (10 + L) → v' i = v i) : jr v' ∧ L < 6 := by
  obtain ⟨j1, j2, j3, j4, s, hs, z1, z2⟩ := hj
  have hL6 : L < 6 := by
    obtain ⟨L2, o2, h1, h2, h3, h4, h5, h6'⟩ := j2 n hn
    have : L2 = L := by rw [hL] at h1; omega
    subst this
    have hp := php 6 (L2 + 1) (fun k => if k < L2 then (v (786 + 16 * n + (10 + k))).toNatClampNeg else m) (fun k hk => by
      show (if k < L2 then (v (786 + 16 * n + (10 + k))).toNatClampNeg else m) < 6
      split
      · next hlt =>
        obtain ⟨t, a2, g1, g2, -⟩ := h5 k hlt
        rw [t_nat g2]
        exact g1
      · exact hm) (fun k k2 hkk hk2 => by
      show (if k < L2 then (v (786 + 16 * n + (10 + k))).toNatClampNeg else m) ≠ (if k2 < L2 then (v (786 + 16 * n + (10 + k2))).toNatClampNeg else m)
      rw [if_pos (by omega)]
      obtain ⟨t, a2, g1, g2, g3, -⟩ := h5 k (by omega)
      rw [t_nat g2]
      split
      · next hlt =>
        obtain ⟨t2, a3, f1, f2, f3, -⟩ := h5 k2 hlt
        rw [t_nat f2]
        intro z
        exact h6' k k2 hkk hlt (t_inj (by rw [g2, f2, z]))
      · intro z
        rw [z, hw] at g3
        have g3 : (0 : Int) = ((n + 1 : Nat) : Int) := g3
        omega)
    omega
  refine ⟨⟨fun b hb => ?_, fun b hb => ?_, fun s hs => ?_, fun b hb => ?_, s, hs, ?_, ?_⟩, hL6⟩
  · obtain ⟨o2, fr, h1, h2, h3, h4, h5, h6', h7, h8⟩ := j1 b hb
    refine ⟨o2, fr, ?_, h2, ?_, h4, h5, ?_, ?_, ?_⟩ <;> rw [e _ (by omega) (by omega) (by omega) (by omega) (by omega)] <;> assumption
  · obtain ⟨L2, o2, h1, h2, h3, h4, h5, h6'⟩ := j2 b hb
    by_cases hbn : b = n
    · subst hbn
      have hLL : L2 = L := by rw [hL] at h1; omega
      have hoo : o2 = o := by rw [ho] at h3; omega
      subst hLL hoo
      refine ⟨L2 + 1, o2, e9, by omega, ?_, fun _ => ?_, fun k hk => ?_, fun k k2 hkk hk2 => ?_⟩
      · rw [e _ (by omega) (by omega) (by omega) (by omega) (by omega)]; exact h3
      · rw [e _ (by omega) (by omega) (by omega) (by omega) (by omega)]; exact h6
      · by_cases hkL : k = L2
        · subst hkL
          exact ⟨m, a, hm, e10, e1, e3, ha⟩
        · obtain ⟨t, a2, g1, g2, g3, g4, g5⟩ := h5 k (by omega)
          have htm : t ≠ m := fun z => by
            rw [z, hw] at g3
            have g3 : (0 : Int) = ((b + 1 : Nat) : Int) := g3
            omega
          refine ⟨t, a2, g1, ?_, ?_, ?_, g5⟩ <;> rw [e _ (by omega) (by omega) (by omega) (by omega) (by omega)] <;> assumption
      · by_cases hkL : k2 = L2
        · subst hkL
          obtain ⟨t, a2, g1, g2, g3, g4, g5⟩ := h5 k (by omega)
          rw [e (786 + 16 * b + (10 + k)) (by omega) (by omega) (by omega) (by omega) (by omega)]
          intro z
          rw [z, e10] at g2
          have htm : t = m := by omega
          rw [htm, hw] at g3
          have g3 : (0 : Int) = ((b + 1 : Nat) : Int) := g3
          omega
        · rw [e _ (by omega) (by omega) (by omega) (by omega) (by omega), e _ (by omega) (by omega) (by omega) (by omega) (by omega)]
          exact h6' k k2 hkk (by omega)
    · refine ⟨L2, o2, ?_, h2, ?_, ?_, fun k hk => ?_, fun k k2 hkk hk2 => ?_⟩
      · rw [e _ (by omega) (by omega) (by omega) (by omega) (by omega)]; exact h1
      · rw [e _ (by omega) (by omega) (by omega) (by omega) (by omega)]; exact h3
      · rw [e _ (by omega) (by omega) (by omega) (by omega) (by omega)]; exact h4
      · obtain ⟨t, a2, g1, g2, g3, g4, g5⟩ := h5 k hk
        have htm : t ≠ m := fun z => by
          rw [z, hw] at g3
          have g3 : (0 : Int) = ((b + 1 : Nat) : Int) := g3
          omega
        refine ⟨t, a2, g1, ?_, ?_, ?_, g5⟩ <;> rw [e _ (by omega) (by omega) (by omega) (by omega) (by omega)] <;> assumption
      · rw [e _ (by omega) (by omega) (by omega) (by omega) (by omega), e _ (by omega) (by omega) (by omega) (by omega) (by omega)]
        exact h6' k k2 hkk hk2
  · obtain ⟨st, pt, at', q, h1, h2, h3, h4, h5, h6', h7, h8, h9⟩ := j3 s hs
    refine ⟨st, pt, at', q, ?_, h2, ?_, h4, h5, ?_, h7, ?_, ?_⟩
    · rw [e _ (by omega) (by omega) (by omega) (by omega) (by omega)]; exact h1
    · rw [e _ (by omega) (by omega) (by omega) (by omega) (by omega)]; exact h3
    · rw [e _ (by omega) (by omega) (by omega) (by omega) (by omega)]; exact h6'
    · rw [e _ (by omega) (by omega) (by omega) (by omega) (by omega)]; exact h8
    · rcases h9 with h9 | ⟨b, g1, g2, g3, g4, fr, g5, g6⟩
      · exact Or.inl h9
      · refine Or.inr ⟨b, g1, g2, g3, ?_, fr, ?_, g6⟩ <;> rw [e _ (by omega) (by omega) (by omega) (by omega) (by omega)] <;> assumption
  · intro hb6
    rw [e _ (by omega) (by omega) (by omega) (by omega) (by omega)] at hb6
    obtain ⟨h1, fr, h2, h3, h4⟩ := j4 b hb hb6
    refine ⟨?_, fr, ?_, h3, ?_⟩ <;> rw [e _ (by omega) (by omega) (by omega) (by omega) (by omega)] <;> assumption
  · rw [e _ (by omega) (by omega) (by omega) (by omega) (by omega)]; exact z1
  · rw [e _ (by omega) (by omega) (by omega) (by omega) (by omega)]; exact z2
theorem c_wants {t b i : Int32} {n m a o N : Nat} (ht : t.toInt = m) (hm : m < 6) (hb : b.toInt = n) (hn : n < 96) (hi : i.toInt = a) (what x : Int32) (σ : sm_S) (ho : (σ 1 (786 + 16 * n + 2)).toInt = o) (ha : a < 2 ^ o) (hw0 : σ 1 (2322 + 6 * m + 1) = 0) (hj : jj N (σ 1)) (hN : N < 2000000000) :
    xC xM j_M_wants [.ref 0, .int t, .int b, .int what, .int i, .int x] σ (sm_I (fun _ σ' => ∃ w N', σ' = sm_set σ 1 w ∧ jj N' w ∧ N ≤ N' ∧ N' ≤ N + 1)) := by
  obtain ⟨o2, fr, b1, b2, b3, b4, b5, b6, ⟨q, b7, b8⟩, b9⟩ := hj.2.1.1 n hn
  have hoo : o2 = o := by rw [ho] at b1; omega
  subst hoo
  have hal := t_al (k := o2) (by omega) b5
  have hpw := t_pw (k := o2) (by omega)
  obtain ⟨L, oL, l1, l2, -⟩ := hj.2.1.2.1 n hn
  refine w_M_wants t b what i x σ _ ((c_isOnWay hb hn σ).int ?_)
  rintro y σ ⟨hy, rfl⟩
  refine ⟨fun hy1 => (c_taskAt t _).int ?_, fun _ => (c_does ht hm hb hn hi what x _ b3 (by omega) hj).void ?_⟩
  · have h6 : σ 1 (786 + 16 * n + 6) ≠ 0 := fun z => by
      rcases hy with ⟨rfl, -⟩ | ⟨-, h⟩
      · exact hy1 rfl
      · rw [z] at h; exact h (by decide)
    rintro _ σ ⟨rfl, rfl⟩
    obtain ⟨p1, q1⟩ := ixT (k := 1) (j := 1) ht rfl (by omega)
    obtain ⟨p2, q2⟩ := ixT (k := 2) (j := 2) ht rfl (by omega)
    obtain ⟨p3, q3⟩ := ixT (k := 3) (j := 3) ht rfl (by omega)
    obtain ⟨p4, q4⟩ := ixT (k := 4) (j := 4) ht rfl (by omega)
    rw [q1, q2, q3, q4]
    refine ⟨p1, fun σ5 e5 => ⟨p2, fun σ6 e6 => ⟨p3, fun σ7 e7 => ⟨p4, fun σ8 e8 => ?_⟩⟩⟩⟩
    have hv8 : ∃ v8, σ8 = sm_set σ 1 v8 ∧ v8 = upd (upd (upd (upd (σ 1) (2322 + 6 * m + 1) (b + 1)) (2322 + 6 * m + 2) what) (2322 + 6 * m + 3) i) (2322 + 6 * m + 4) x := by
      refine ⟨_, ?_, rfl⟩
      rw [e8, e7, e6, e5]
      simp only [s_at, s_ss]
    obtain ⟨v8, rfl, hv8⟩ := hv8
    have hb1 : (b + 1).toInt = ((n + 1 : Nat) : Int) := by
      rw [t_add hb (y := 1) rfl (by omega) (by omega)]
      omega
    have w1 : v8 (2322 + 6 * m + 1) = b + 1 := by rw [hv8, u_ne (by omega), u_ne (by omega), u_ne (by omega), u_at]
    have w3 : v8 (2322 + 6 * m + 3) = i := by rw [hv8, u_ne (by omega), u_at]
    have we : ∀ k, (k < 2322 + 6 * m + 1 ∨ 2322 + 6 * m + 5 ≤ k) → v8 k = σ 1 k := fun k hk => by rw [hv8, u_ne (by omega), u_ne (by omega), u_ne (by omega), u_ne (by omega)]
    clear hv8 e5 e6 e7 e8
    refine (c_of (k := 9) (j := 9) hb rfl (by omega) _).int ?_
    rintro y9 _ ⟨hy9, rfl⟩
    rw [s_at, we _ (by omega)] at hy9
    have hy9L : y9.toInt = L := by rw [hy9]; exact l1
    have hk : (10 + y9).toInt = ((10 + L : Nat) : Int) := by
      rw [t_add (x := 10) rfl hy9L (by omega) (by omega)]
      omega
    refine (c_lay hb hk (by omega) t _).void ?_
    rintro _ rfl
    refine (c_of (k := 9) (j := 9) hb rfl (by omega) _).int ?_
    rintro y9b _ ⟨hy9b, rfl⟩
    rw [s_at, s_at, u_ne (by omega), we _ (by omega)] at hy9b
    refine (c_lay (k := 9) (j := 9) hb rfl (by omega) _ _).void ?_
    rintro _ rfl
    simp only [s_at, s_ss]
    have hv9 : ∃ v9, v9 = upd (upd v8 (786 + 16 * n + (10 + L)) t) (786 + 16 * n + 9) (y9b + 1) := ⟨_, rfl⟩
    obtain ⟨v9, hv9⟩ := hv9
    rw [← hv9]
    have hjr := jr_wait (v := σ 1) (v' := v9) hn hm hj.2.1 h6 hw0 b1 ha l1 (by rw [hv9, u_ne (by omega), u_ne (by omega), w1]; exact hb1) (by rw [hv9, u_ne (by omega), u_ne (by omega), w3]; exact hi) (by
      rw [hv9, u_at, hy9b, t_add l1 (y := 1) rfl (by omega) (by omega)]
      omega) (by rw [hv9, u_ne (by omega), u_at]; exact ht) (fun k h1 h2 h3 h4 h5 => by rw [hv9, u_ne h4, u_ne h5, we k h3])
    have hj9 : jj N v9 := ⟨fr_cong (fun i h1 h2 => by rw [hv9, u_ne (by omega), u_ne (by omega), we _ (by omega)]) (fun b k hb hk => by rw [hv9, u_ne (by omega), u_ne (by omega), we _ (by omega)]) hj.1, hjr.1, by rw [hv9, u_ne (by omega), u_ne (by omega), we _ (by omega)]; exact hj.2.2⟩
    refine (c_writes _ _ _ _ (n := N) (by rw [s_at]; exact hj9.2.2)).void ?_
    rintro _ ⟨v10, rfl, f1, f2⟩
    rw [s_at] at f1 f2
    refine (c_counts (k := 8) (j := 8) rfl (by omega) 1 _).void ?_
    rintro _ rfl
    simp only [s_at, s_ss]
    refine ⟨_, rfl, _, N + 1, rfl, jj_low (by omega) (by omega) ⟨fr_cong (fun i h1 h2 => f2 _ (by omega) (by omega)) (fun b k hb hk => f2 _ (by omega) (by omega)) hj9.1, jr_cong (ceq.of (fun k h1 h2 => f2 k h2 (by omega))) hj9.2.1, ?_⟩, by omega, by omega⟩
    rw [f1, t_add hj9.2.2 (y := 1) rfl (by omega) (by omega)]
    omega
  · rintro _ ⟨w, rfl, hw, -⟩
    exact ⟨_, rfl, w, N, rfl, hw, Nat.le_refl N, by omega⟩
end
section
/-! ===== the model: read, write, pin, unpin, set, home ===== -/
theorem c_canDo (t b : Int32) (σ : sm_S) : xC xM j_M_canDo [.ref 0, .int t, .int b] σ (sm_I (fun x σ' => (x = 0 ∨ (x = 1 ∧ ∃ m n : Nat, m < 6 ∧ t.toInt = m ∧ n < 96 ∧ b.toInt = n ∧ σ 1 (2322 + 6 * m + 1) = 0)) ∧ σ' = σ)) := by
  refine w_M_canDo t b σ _ ((c_isTask t σ).int ?_)
  rintro x1 σ ⟨hx1, rfl⟩
  refine ⟨fun _ => ⟨Or.inl rfl, _, rfl, Or.inl rfl, rfl⟩, fun n1 => (c_taskAt t _).int ?_⟩
  obtain ⟨-, m, hm, ht⟩ := hx1.resolve_right (fun z => n1 z.1)
  rintro _ σ ⟨rfl, rfl⟩
  obtain ⟨p1, q1⟩ := ixT (k := 1) (j := 1) ht rfl (by omega)
  rw [q1]
  refine ⟨p1, fun _ => ⟨Or.inl rfl, _, rfl, Or.inl rfl, rfl⟩, fun hw => (c_isBlock b _).int ?_⟩
  rintro x2 σ ⟨hx2, rfl⟩
  refine ⟨fun _ => ⟨Or.inl rfl, _, rfl, Or.inl rfl, rfl⟩, fun n2 => ?_⟩
  obtain ⟨-, n, hn, hb, -⟩ := hx2.resolve_right (fun z => n2 z.1)
  exact ⟨Or.inr rfl, _, rfl, Or.inr ⟨rfl, m, n, hm, ht, hn, hb, Classical.not_not.mp hw⟩, rfl⟩
theorem c_hasPin {t b : Int32} {n : Nat} (hb : b.toInt = n) (hn : n < 96) (σ : sm_S) : xC xM j_M_hasPin [.ref 0, .int t, .int b] σ (sm_I (fun x σ' => (x = 0 ∨ x = 1) ∧ σ' = σ)) := by
  refine w_M_hasPin t b σ _ ((c_of (k := 5) (j := 5) hb rfl (by omega) σ).int ?_)
  rintro _ σ ⟨rfl, rfl⟩
  exact ⟨fun _ => ⟨Or.inl rfl, _, rfl, Or.inl rfl, rfl⟩, fun _ => ⟨Or.inr rfl, _, rfl, Or.inr rfl, rfl⟩⟩
theorem pub_wants {N : Nat} {σ σ1 : sm_S} (hj : jj N (σ 1)) (hN : N < 2000000000) (e1 : σ1 = sm_set σ 0 (upd (σ 0) 0 0)) {t b i : Int32} {n m a o : Nat} (ht : t.toInt = m) (hm : m < 6) (hb : b.toInt = n) (hn : n < 96) (hi : i.toInt = a) (what x : Int32) (ho : (σ1 1 (786 + 16 * n + 2)).toInt = o) (ha : a < 2 ^ o) (hw0 : σ1 1 (2322 + 6 * m + 1) = 0) :
    xC xM j_M_wants [.ref 0, .int t, .int b, .int what, .int i, .int x] σ1 (sm_ri False (fun y σ' => sm_I (pub N 1 σ) (some (.int y)) σ')) := by
  have hj1 : jj N (σ1 1) := by rw [e1, s_ne (by decide)]; exact hj
  refine (c_wants ht hm hb hn hi what x σ1 ho ha hw0 hj1 hN).int ?_
  rintro y _ ⟨w, N', rfl, hw, h1, h2⟩
  exact ⟨_, rfl, pub_set e1 hw h1 h2⟩
theorem c_read {N : Nat} (a1 a2 a3 : Int32) (σ : sm_S) (hj : jj N (σ 1)) (hN : N < 2000000000) : xC xM j_M_read [.ref 0, .int a1, .int a2, .int a3] σ (sm_I (pub N 1 σ)) := by
  refine w_M_read a1 a2 a3 σ _ (fun σ1 e1 => (c_canDo a1 a2 σ1).int ?_)
  rintro x1 σ1 ⟨hx1, rfl⟩
  refine ⟨fun _ => ⟨_, rfl, pub_keep hj e1⟩, fun n1 => ?_⟩
  obtain ⟨-, m, n, hm, ht, hn, hb, hw0⟩ := hx1.resolve_left n1
  have hj1 : jj N (σ1 1) := by rw [e1, s_ne (by decide)]; exact hj
  obtain ⟨o, fr, b1, b2, -⟩ := hj1.2.1.1 n hn
  have hpw := t_pw (k := o) (by omega)
  refine (c_longOf hb hn _).int ?_
  rintro _ σ1 ⟨rfl, rfl⟩
  refine (c_isIn a3 0 _ _).int ?_
  rintro x2 σ1 ⟨hx2, rfl⟩
  refine ⟨fun _ => ⟨_, rfl, pub_keep hj e1⟩, fun n2 => ?_⟩
  obtain ⟨-, h31, h32⟩ := hx2.resolve_right (fun z => n2 z.1)
  rw [t_sub (t_pow b1 (by omega)) (y := 1) rfl (by omega) (by omega)] at h32
  have h31 : 0 ≤ a3.toInt := h31
  obtain ⟨a, ha⟩ := t_of h31
  exact pub_wants hj hN e1 ht hm hb hn ha 0 0 b1 (by omega) hw0
theorem c_write {N : Nat} (a1 a2 a3 a4 : Int32) (σ : sm_S) (hj : jj N (σ 1)) (hN : N < 2000000000) : xC xM j_M_write [.ref 0, .int a1, .int a2, .int a3, .int a4] σ (sm_I (pub N 1 σ)) := by
  refine w_M_write a1 a2 a3 a4 σ _ (fun σ1 e1 => (c_canDo a1 a2 σ1).int ?_)
  rintro x1 σ1 ⟨hx1, rfl⟩
  refine ⟨fun _ => ⟨_, rfl, pub_keep hj e1⟩, fun n1 => ?_⟩
  obtain ⟨-, m, n, hm, ht, hn, hb, hw0⟩ := hx1.resolve_left n1
  have hj1 : jj N (σ1 1) := by rw [e1, s_ne (by decide)]; exact hj
  obtain ⟨o, fr, b1, b2, -⟩ := hj1.2.1.1 n hn
  have hpw := t_pw (k := o) (by omega)
  refine (c_longOf hb hn _).int ?_
  rintro _ σ1 ⟨rfl, rfl⟩
  refine (c_isIn a3 0 _ _).int ?_
  rintro x2 σ1 ⟨hx2, rfl⟩
  refine ⟨fun _ => ⟨_, rfl, pub_keep hj e1⟩, fun n2 => ?_⟩
  obtain ⟨-, h31, h32⟩ := hx2.resolve_right (fun z => n2 z.1)
  rw [t_sub (t_pow b1 (by omega)) (y := 1) rfl (by omega) (by omega)] at h32
  have h31 : 0 ≤ a3.toInt := h31
  obtain ⟨a, ha⟩ := t_of h31
  exact pub_wants hj hN e1 ht hm hb hn ha 1 a4 b1 (by omega) hw0
theorem c_pin {N : Nat} (a1 a2 : Int32) (σ : sm_S) (hj : jj N (σ 1)) (hN : N < 2000000000) : xC xM j_M_pin [.ref 0, .int a1, .int a2] σ (sm_I (pub N 1 σ)) := by
  refine w_M_pin a1 a2 σ _ (fun σ1 e1 => (c_canDo a1 a2 σ1).int ?_)
  rintro x1 σ1 ⟨hx1, rfl⟩
  refine ⟨fun _ => ⟨_, rfl, pub_keep hj e1⟩, fun n1 => ?_⟩
  obtain ⟨-, m, n, hm, ht, hn, hb, hw0⟩ := hx1.resolve_left n1
  have hj1 : jj N (σ1 1) := by rw [e1, s_ne (by decide)]; exact hj
  obtain ⟨o, fr, b1, b2, -⟩ := hj1.2.1.1 n hn
  have hpw := t_pw (k := o) (by omega)
  refine (c_hasPin hb hn _).int ?_
  rintro x2 σ1 ⟨hx2, rfl⟩
  exact ⟨fun _ => ⟨_, rfl, pub_keep hj e1⟩, fun _ => pub_wants hj hN e1 ht hm hb hn (i := 0) (a := 0) rfl 2 0 b1 (by omega) hw0⟩
theorem c_unpin {N : Nat} (a1 a2 : Int32) (σ : sm_S) (hj : jj N (σ 1)) : xC xM j_M_unpin [.ref 0, .int a1, .int a2] σ (sm_I (pub N 0 σ)) := by
  refine w_M_unpin a1 a2 σ _ (fun σ1 e1 => (c_isTask a1 σ1).int ?_)
  rintro x1 σ1 ⟨hx1, rfl⟩
  refine ⟨fun _ => ⟨Or.inl rfl, _, rfl, pub_keep hj e1⟩, fun n1 => (c_isBlock a2 _).int ?_⟩
  rintro x2 σ1 ⟨hx2, rfl⟩
  refine ⟨fun _ => ⟨Or.inl rfl, _, rfl, pub_keep hj e1⟩, fun n2 => ?_⟩
  obtain ⟨-, n, hn, hb, -⟩ := hx2.resolve_right (fun z => n2 z.1)
  have hj1 : jj N (σ1 1) := by rw [e1, s_ne (by decide)]; exact hj
  refine (c_hasPin hb hn _).int ?_
  rintro x3 σ1 ⟨hx3, rfl⟩
  refine ⟨fun _ => (c_of (k := 5) (j := 5) hb rfl (by omega) _).int ?_, fun _ => ⟨Or.inl rfl, _, rfl, pub_keep hj e1⟩⟩
  rintro x4 σ1 ⟨-, rfl⟩
  refine (c_lay (k := 5) (j := 5) hb rfl (by omega) _ _).void ?_
  rintro _ rfl
  exact ⟨Or.inr rfl, _, rfl, pub_set e1 (jj_cell (by omega) (Or.inl ⟨n, hn, Or.inr (Or.inl rfl)⟩) hj1) (Nat.le_refl N) (Nat.le_refl N)⟩
end
section
/-! ===== the model: set and home, with their answers; who waited does what it wanted ===== -/
def ansSet (a b : Int32) : Prop := (a = 0 ∧ 1 ≤ b.toInt ∧ b.toInt ≤ 16) ∨ (a = 1 ∧ 1 ≤ b.toInt ∧ b.toInt ≤ 9) ∨ (a = 2 ∧ 0 ≤ b.toInt ∧ b.toInt ≤ 400) ∨ (a = 3 ∧ 1 ≤ b.toInt ∧ b.toInt ≤ 20)
def ansHome (a b : Int32) : Prop := 0 ≤ a.toInt ∧ a.toInt < 6 ∧ 0 ≤ b.toInt ∧ b.toInt ≤ 1
/-- yes or no -/
def isYes (P : Prop) (x : Int32) : Prop := (x = 1 ∧ P) ∨ (x = 0 ∧ ¬ P)
theorem c_firstOf (a : Int32) (σ : sm_S) : xC xM j_M_firstOf [.ref 0, .int a] σ (sm_I (fun _ σ' => σ' = σ)) :=
  w_M_firstOf a σ _ ⟨fun _ => ⟨fun _ => ⟨fun _ => ⟨_, rfl, rfl⟩, fun _ => ⟨_, rfl, rfl⟩⟩, fun _ => ⟨_, rfl, rfl⟩⟩, fun _ => ⟨_, rfl, rfl⟩⟩
theorem c_set {N : Nat} (a1 a2 : Int32) (σ : sm_S) (hj : jj N (σ 1)) : xC xM j_M_set [.ref 0, .int a1, .int a2] σ (sm_I (fun x σ' => isYes (ansSet a1 a2) x ∧ pub N 0 σ x σ')) := by
  refine w_M_set a1 a2 σ _ (fun σ1 e1 => (c_isIn a1 0 3 σ1).int ?_)
  have hj1 : jj N (σ1 1) := by rw [e1, s_ne (by decide)]; exact hj
  rintro x1 σ1 ⟨hx1, rfl⟩
  refine ⟨fun n1 => ⟨Or.inl rfl, _, rfl, Or.inr ⟨rfl, ?_⟩, pub_keep hj e1⟩, fun n1 => ?_⟩
  · have h1 : a1.toInt < 0 ∨ 3 < a1.toInt := (hx1.resolve_left (fun z => by rw [z.1] at n1; exact absurd n1 (by decide))).2
    rintro (⟨rfl, -⟩ | ⟨rfl, -⟩ | ⟨rfl, -⟩ | ⟨rfl, -⟩) <;> revert h1 <;> decide
  · obtain ⟨-, h1, h2⟩ := hx1.resolve_right (fun z => n1 z.1)
    have h1 : 0 ≤ a1.toInt := h1
    have h2 : a1.toInt ≤ 3 := h2
    obtain ⟨n, hn⟩ := t_of h1
    have stp : ∀ lo hi : Int32, (ansSet a1 a2 ↔ lo.toInt ≤ a2.toInt ∧ a2.toInt ≤ hi.toInt) → xC xM j_M_isIn [.ref 0, .int a2, .int lo, .int hi] σ1 (sm_ri False (fun x5 σ4 => ((x5 ≠ 0 → xC xM j_M_firstOf [.ref 0, .int a1] σ4 (sm_ri False (fun x7 σ6 => (vp_in a1 2662 ∧ ∀ σ8, σ8 = sm_set σ6 1 (upd (σ6 1) (a1).toNatClampNeg (a2 - x7)) → (((1 : Int32) = 0 ∨ (1 : Int32) = 1) ∧ sm_I (fun x σ' => isYes (ansSet a1 a2) x ∧ pub N 0 σ x σ') (some (.int 1)) σ8))))) ∧ (¬ (x5 ≠ 0) → (((0 : Int32) = 0 ∨ (0 : Int32) = 1) ∧ sm_I (fun x σ' => isYes (ansSet a1 a2) x ∧ pub N 0 σ x σ') (some (.int 0)) σ4))))) := by
      intro lo hi hiff
      refine (c_isIn a2 lo hi σ1).int ?_
      rintro x2 σ1 ⟨hx2, rfl⟩
      refine ⟨fun n2 => (c_firstOf a1 _).int ?_, fun n2 => ⟨Or.inl rfl, _, rfl, Or.inr ⟨rfl, fun z => ?_⟩, pub_keep hj e1⟩⟩
      · obtain ⟨-, g1, g2⟩ := hx2.resolve_right (fun z => n2 z.1)
        rintro x3 σ1 rfl
        refine ⟨t_vp hn (by omega), fun σ8 e8 => ⟨Or.inr rfl, _, rfl, Or.inl ⟨rfl, hiff.mpr ⟨g1, g2⟩⟩, ?_⟩⟩
        rw [e8, t_nat hn]
        exact pub_set e1 (jj_low (by omega) (by omega) hj1) (Nat.le_refl N) (Nat.le_refl N)
      · have g := (hx2.resolve_left (fun q => n2 (by rw [q.1]; decide))).2
        have g2 := hiff.mp z
        omega
    have e0 : a1 = 0 ∨ a1 = 1 ∨ a1 = 2 ∨ a1 = 3 := by
      rcases (show n = 0 ∨ n = 1 ∨ n = 2 ∨ n = 3 by omega) with rfl | rfl | rfl | rfl
      · exact Or.inl (t_inj (by rw [hn]; rfl))
      · exact Or.inr (Or.inl (t_inj (by rw [hn]; rfl)))
      · exact Or.inr (Or.inr (Or.inl (t_inj (by rw [hn]; rfl))))
      · exact Or.inr (Or.inr (Or.inr (t_inj (by rw [hn]; rfl))))
    refine ⟨fun m2 => ⟨fun m0 => ⟨fun m1 => ⟨fun _ => stp 1 20 ?_, fun z => absurd m2 z⟩, fun m1 => stp 1 9 ?_⟩, fun m0 => stp 1 16 ?_⟩, fun m2 => ⟨fun m0 => ⟨fun m1 => ⟨fun z => absurd z m2, fun _ => stp 0 400 ?_⟩, fun m1 => absurd (fun z => m2 (by rw [z]; decide)) m1⟩, fun m0 => absurd (fun z => m2 (by rw [z]; decide)) m0⟩⟩
    · have h3 : a1 = 3 := ((e0.resolve_left m0).resolve_left m1).resolve_left m2
      subst h3
      constructor
      · rintro (⟨h, -⟩ | ⟨h, -⟩ | ⟨h, -⟩ | ⟨-, h⟩)
        · exact absurd h (by decide)
        · exact absurd h (by decide)
        · exact absurd h (by decide)
        · exact h
      · exact fun h => Or.inr (Or.inr (Or.inr ⟨rfl, h⟩))
    · have h3 : a1 = 1 := Classical.not_not.mp m1
      subst h3
      constructor
      · rintro (⟨h, -⟩ | ⟨-, h⟩ | ⟨h, -⟩ | ⟨h, -⟩)
        · exact absurd h (by decide)
        · exact h
        · exact absurd h (by decide)
        · exact absurd h (by decide)
      · exact fun h => Or.inr (Or.inl ⟨rfl, h⟩)
    · have h3 : a1 = 0 := Classical.not_not.mp m0
      subst h3
      constructor
      · rintro (⟨-, h⟩ | ⟨h, -⟩ | ⟨h, -⟩ | ⟨h, -⟩)
        · exact h
        · exact absurd h (by decide)
        · exact absurd h (by decide)
        · exact absurd h (by decide)
      · exact fun h => Or.inl ⟨rfl, h⟩
    · have h3 : a1 = 2 := Classical.not_not.mp m2
      subst h3
      constructor
      · rintro (⟨h, -⟩ | ⟨h, -⟩ | ⟨-, h⟩ | ⟨h, -⟩)
        · exact absurd h (by decide)
        · exact absurd h (by decide)
        · exact h
        · exact absurd h (by decide)
      · exact fun h => Or.inr (Or.inr (Or.inl ⟨rfl, h⟩))
theorem c_home {N : Nat} (a1 a2 : Int32) (σ : sm_S) (hj : jj N (σ 1)) : xC xM j_M_home [.ref 0, .int a1, .int a2] σ (sm_I (fun x σ' => isYes (ansHome a1 a2) x ∧ pub N 0 σ x σ')) := by
  refine w_M_home a1 a2 σ _ (fun σ1 e1 => (c_isTask a1 σ1).int ?_)
  have hj1 : jj N (σ1 1) := by rw [e1, s_ne (by decide)]; exact hj
  rintro x1 σ1 ⟨hx1, rfl⟩
  refine ⟨fun n1 => ⟨Or.inl rfl, _, rfl, Or.inr ⟨rfl, fun z => ?_⟩, pub_keep hj e1⟩, fun n1 => (c_isIn a2 0 1 _).int ?_⟩
  · have h1 := (hx1.resolve_left (fun q => by rw [q.1] at n1; exact absurd n1 (by decide))).2
    obtain ⟨z1, z2, -⟩ := z
    omega
  · obtain ⟨-, m, hm, h1⟩ := hx1.resolve_right (fun z => n1 z.1)
    rintro x2 σ1 ⟨hx2, rfl⟩
    refine ⟨fun n2 => (c_taskAt a1 _).int ?_, fun n2 => ⟨Or.inl rfl, _, rfl, Or.inr ⟨rfl, fun z => ?_⟩, pub_keep hj e1⟩⟩
    · obtain ⟨-, g1, g2⟩ := hx2.resolve_right (fun z => n2 z.1)
      have g1 : 0 ≤ a2.toInt := g1
      have g2 : a2.toInt ≤ 1 := g2
      rintro _ σ1 ⟨rfl, rfl⟩
      obtain ⟨p1, q1⟩ := ixT (k := 0) (j := 0) h1 rfl (by omega)
      refine ⟨p1, fun σ8 e8 => ⟨Or.inr rfl, _, rfl, Or.inl ⟨rfl, by omega, by omega, g1, g2⟩, ?_⟩⟩
      rw [e8, q1]
      exact pub_set e1 (jj_cell (by omega) (Or.inr (Or.inl ⟨m, hm, Or.inl rfl⟩)) hj1) (Nat.le_refl N) (Nat.le_refl N)
    · have h2 : a2.toInt < 0 ∨ 1 < a2.toInt := (hx2.resolve_left (fun q => n2 (by rw [q.1]; decide))).2
      obtain ⟨-, -, z3, z4⟩ := z
      omega
end
section
/-! ===== the model: those who waited do what they wanted ===== -/
theorem jr_woke {v : Nat → Int32} {n t : Nat} (hn : n < 96) (ht : t < 6) (hj : jr v) (h9 : v (786 + 16 * n + 9) = 0) (hw : (v (2322 + 6 * t + 1)).toInt = ((n + 1 : Nat) : Int) ∨ v (2322 + 6 * t + 1) = 0) : jr (upd v (2322 + 6 * t + 1) 0) := by
  obtain ⟨j1, j2, j3, j4, s, hs, z1, z2⟩ := hj
  have e : ∀ i, i ≠ 2322 + 6 * t + 1 → upd v (2322 + 6 * t + 1) 0 i = v i := fun i hi => u_ne hi
  refine ⟨fun b hb => bk_cong (fun k hk _ _ _ => e _ (by omega)) (j1 b hb), fun b hb => ?_, fun s hs => ?_, fun b hb => ?_, s, hs, ?_, ?_⟩
  · obtain ⟨L, o, h1, h2, h3, h4, h5, h6⟩ := j2 b hb
    refine ⟨L, o, ?_, h2, ?_, ?_, fun k hk => ?_, fun k m hkm hm => ?_⟩
    · rw [e _ (by omega)]; exact h1
    · rw [e _ (by omega)]; exact h3
    · rw [e _ (by omega)]; exact h4
    · obtain ⟨t2, a, g1, g2, g3, g4, g5⟩ := h5 k hk
      have hbn : b ≠ n := fun z => by
        subst z
        rw [h9] at h1
        have h1 : (0 : Int) = L := h1
        omega
      have htt : t2 ≠ t := fun z => by
        subst z
        rcases hw with hw | hw
        · rw [hw] at g3; omega
        · rw [hw] at g3
          have g3 : (0 : Int) = ((b + 1 : Nat) : Int) := g3
          omega
      refine ⟨t2, a, g1, ?_, ?_, ?_, g5⟩ <;> rw [e _ (by omega)] <;> assumption
    · rw [e _ (by omega), e _ (by omega)]; exact h6 k m hkm hm
  · obtain ⟨st, pt, at', q, h1, h2, h3, h4, h5, h6, h7, h8, h9'⟩ := j3 s hs
    refine ⟨st, pt, at', q, ?_, h2, ?_, h4, h5, ?_, h7, ?_, ?_⟩
    · rw [e _ (by omega)]; exact h1
    · rw [e _ (by omega)]; exact h3
    · rw [e _ (by omega)]; exact h6
    · rw [e _ (by omega)]; exact h8
    · rcases h9' with h9' | ⟨b, g1, g2, g3, g4, fr, g5, g6⟩
      · exact Or.inl h9'
      · refine Or.inr ⟨b, g1, g2, g3, ?_, fr, ?_, g6⟩ <;> rw [e _ (by omega)] <;> assumption
  · intro hb6
    rw [e _ (by omega)] at hb6
    obtain ⟨h1, fr, h2, h3, h4⟩ := j4 b hb hb6
    refine ⟨?_, fr, ?_, h3, ?_⟩ <;> rw [e _ (by omega)] <;> assumption
  · rw [e _ (by omega)]; exact z1
  · rw [e _ (by omega)]; exact z2
/-- writes, as a step of jj -/
theorem c_writes' {N : Nat} (a b c : Int32) (σ : sm_S) (hj : jj N (σ 1)) (hN : N < 2147483000) : xC xM j_M_writes [.ref 0, .int a, .int b, .int c] σ (sm_V (fun σ' => ∃ w, σ' = sm_set σ 1 w ∧ jj (N + 1) w ∧ ∀ i, i < 2422 → i ≠ 5 → w i = σ 1 i)) := by
  refine (c_writes a b c σ hj.2.2).mono ?_
  rintro r σ' ⟨rfl, w, rfl, w1, w2⟩
  refine ⟨rfl, w, rfl, ⟨fr_cong (fun i h1 h2 => w2 _ (by omega) (by omega)) (fun b k hb hk => w2 _ (by omega) (by omega)) hj.1, jr_cong (ceq.of (fun i h1 h2 => w2 i h2 (by omega))) hj.2.1, ?_⟩, w2⟩
  rw [w1, t_add hj.2.2 (y := 1) rfl (by omega) (by omega)]
  omega
def lineOf (v : Nat → Int32) (n o L : Nat) : Prop := ∀ j, j < L → ∃ t a : Nat, t < 6 ∧ (v (786 + 16 * n + (10 + j))).toInt = t ∧ (v (2322 + 6 * t + 3)).toInt = a ∧ a < 2 ^ o ∧ ((v (2322 + 6 * t + 1)).toInt = ((n + 1 : Nat) : Int) ∨ v (2322 + 6 * t + 1) = 0)
theorem l_wakes {a1 a2 : Int32} {n L fr o : Nat} (h1 : a1.toInt = n) (hn : n < 96) (h2 : a2.toInt = L) (hL : L ≤ 6) (hfo : fr + 2 ^ o ≤ 256) : ∀ (d k N : Nat) (a3 : Int32) (v4 v5 : Value) (σ : sm_S), a3.toInt = k → k + d = L → jj N (σ 1) → N + d < 2147480000 → σ 1 (786 + 16 * n + 9) = 0 → (σ 1 (786 + 16 * n + 1)).toInt = fr → lineOf (σ 1) n o L →
    xE xM m_M_wakes 18 [.ref 0, .int a1, .int a2, .int a3, v4, v5] [] σ (sm_V (fun σ' => ∃ w N', σ' = sm_set σ 1 w ∧ jj N' w ∧ N ≤ N' ∧ N' ≤ N + d ∧ (∀ i, 786 ≤ i → i < 2422 → (i < 2322 ∨ 2358 ≤ i) → i ≠ 786 + 16 * n + 5 → i ≠ 786 + 16 * n + 8 → w i = σ 1 i) ∧ fr_st (σ 1) w)) := by
  intro d
  induction d with
  | zero =>
    intro k N a3 v4 v5 σ h3 hk hj hN h9 hf hl
    refine w_M_wakes_18 a1 a2 a3 v4 v5 σ _ ⟨fun _ => ⟨rfl, σ 1, N, s_id.symm, hj, Nat.le_refl N, Nat.le_refl N, fun _ _ _ _ _ _ => rfl, fun _ _ => ⟨rfl, rfl⟩⟩, fun h => absurd ?_ h⟩
    rw [t_le, h2, h3]
    omega
  | succ d ih =>
    intro k N a3 v4 v5 σ h3 hk hj hN h9 hf hl
    have h3' : (a3 + 1).toInt = ((k + 1 : Nat) : Int) := by
      rw [t_add h3 (y := 1) rfl (by omega) (by omega)]
      omega
    have hk10 : (10 + a3).toInt = ((10 + k : Nat) : Int) := by
      rw [t_add (x := 10) rfl h3 (by omega) (by omega)]
      omega
    obtain ⟨t, a, ht6, hwho, hat, ha, hwt⟩ := hl k (by omega)
    refine w_M_wakes_18 a1 a2 a3 v4 v5 σ _ ⟨fun h => ?_, fun _ => (c_of h1 hk10 (by omega) σ).int ?_⟩
    · rw [t_le, h2, h3] at h
      omega
    · rintro y σ ⟨hy, rfl⟩
      have hyt : y.toInt = t := by rw [hy]; exact hwho
      refine (c_taskAt y _).int ?_
      rintro _ σ ⟨rfl, rfl⟩
      obtain ⟨p1, q1⟩ := ixT (k := 1) (j := 1) hyt rfl (by omega)
      obtain ⟨p2, q2⟩ := ixT (k := 2) (j := 2) hyt rfl (by omega)
      obtain ⟨p3, q3⟩ := ixT (k := 3) (j := 3) hyt rfl (by omega)
      obtain ⟨p4, q4⟩ := ixT (k := 4) (j := 4) hyt rfl (by omega)
      rw [q1, q2, q3, q4]
      refine ⟨p1, fun σ5 e5 => ⟨p2, p3, p4, ?_⟩⟩
      subst e5
      have hj1 : jj N (upd (σ 1) (2322 + 6 * t + 1) 0) := ⟨fr_cong (fun i h1 h2 => u_ne (by omega)) (fun b k hb hk => u_ne (by omega)) hj.1, jr_woke hn ht6 hj.2.1 h9 hwt, by rw [u_ne (by omega)]; exact hj.2.2⟩
      refine (c_does hyt ht6 h1 hn (a := a) (fr := fr) (by rw [s_at, u_ne (by omega)]; exact hat) _ _ _ (by rw [s_at, u_ne (by omega)]; exact hf) (by omega) (by rw [s_at]; exact hj1)).void ?_
      rintro _ ⟨w, rfl, hw, ew, fw⟩
      rw [s_at] at ew fw
      refine (c_writes' _ _ _ _ (by rw [s_at]; exact hw) (by omega)).void ?_
      rintro _ ⟨w2, rfl, hw2, ew2⟩
      rw [s_at] at ew2
      have hee : ∀ i, 786 ≤ i → i < 2422 → i ≠ 786 + 16 * n + 5 → i ≠ 786 + 16 * n + 8 → i ≠ 2322 + 6 * t + 5 → i ≠ 2322 + 6 * t + 1 → w2 i = σ 1 i := fun i g1 g2 g3 g4 g5 g6 => by rw [ew2 i g2 (by omega), ew i g1 g3 g4 g5, u_ne g6]
      have hw1 : w2 (2322 + 6 * t + 1) = 0 := by rw [ew2 _ (by omega) (by omega), ew _ (by omega) (by omega) (by omega) (by omega), u_at]
      simp only [s_ss]
      refine (ih (k + 1) (N + 1) (a3 + 1) _ _ _ h3' (by omega) (by rw [s_at]; exact hw2) (by omega) ?_ ?_ ?_).mono ?_
      · rw [s_at, hee _ (by omega) (by omega) (by omega) (by omega) (by omega) (by omega)]; exact h9
      · rw [s_at, hee _ (by omega) (by omega) (by omega) (by omega) (by omega) (by omega)]; exact hf
      · intro j hj'
        obtain ⟨t2, a2', g1, g2, g3, g4, g5⟩ := hl j hj'
        rw [s_at]
        refine ⟨t2, a2', g1, ?_, ?_, g4, ?_⟩
        · rw [hee _ (by omega) (by omega) (by omega) (by omega) (by omega) (by omega)]; exact g2
        · rw [hee _ (by omega) (by omega) (by omega) (by omega) (by omega) (by omega)]; exact g3
        · by_cases htt : t2 = t
          · subst htt; exact Or.inr hw1
          · rw [hee _ (by omega) (by omega) (by omega) (by omega) (by omega) (by omega)]; exact g5
      · rintro r σ' ⟨rfl, w3, N', rfl, hw3, l1, l2, ew3, fw3⟩
        rw [s_at] at ew3 fw3
        refine ⟨rfl, w3, N', s_ss, hw3, by omega, by omega, fun i g1 g2 g3 g4 g5 => ?_, fun g hg => ?_⟩
        · rw [ew3 i g1 g2 g3 g4 g5, hee i g1 g2 g4 g5 (by omega) (by omega)]
        · obtain ⟨f1, f2⟩ := fw3 g hg
          obtain ⟨f3, f4⟩ := fw g hg
          rw [f1, f2, ew2 _ (by omega) (by omega), ew2 _ (by omega) (by omega), f3, f4, u_ne (by omega), u_ne (by omega)]
          exact ⟨rfl, rfl⟩
theorem c_wakes {b : Int32} {n L fr o N : Nat} (hb : b.toInt = n) (hn : n < 96) (σ : sm_S) (hL : (σ 1 (786 + 16 * n + 9)).toInt = L) (hL6 : L ≤ 6) (hfr : (σ 1 (786 + 16 * n + 1)).toInt = fr) (hfo : fr + 2 ^ o ≤ 256) (hl : lineOf (σ 1) n o L) (hj : jj N (upd (σ 1) (786 + 16 * n + 9) 0)) (hN : N < 2147479000) :
    xC xM j_M_wakes [.ref 0, .int b] σ (sm_V (fun σ' => ∃ w N', σ' = sm_set σ 1 w ∧ jj N' w ∧ N ≤ N' ∧ N' ≤ N + 6 ∧ (∀ i, 786 ≤ i → i < 2422 → (i < 2322 ∨ 2358 ≤ i) → i ≠ 786 + 16 * n + 5 → i ≠ 786 + 16 * n + 8 → i ≠ 786 + 16 * n + 9 → w i = σ 1 i) ∧ fr_st (σ 1) w)) := by
  refine w_M_wakes b σ _ ((c_of (k := 9) (j := 9) hb rfl (by omega) σ).int ?_)
  rintro y σ ⟨hy, rfl⟩
  have hyL : y.toInt = L := by rw [hy]; exact hL
  refine (c_lay (k := 9) (j := 9) hb rfl (by omega) 0 _).void ?_
  rintro _ rfl
  refine (l_wakes hb hn hyL hL6 hfo L 0 N 0 _ _ _ rfl (by omega) (by rw [s_at]; exact hj) (by omega) (by rw [s_at, u_at]) (by rw [s_at, u_ne (by omega)]; exact hfr) ?_).mono ?_
  · intro j hj'
    obtain ⟨t, a, g1, g2, g3, g4, g5⟩ := hl j hj'
    rw [s_at]
    refine ⟨t, a, g1, ?_, ?_, g4, ?_⟩ <;> rw [u_ne (by omega)] <;> assumption
  · rintro r σ' ⟨rfl, w, N', rfl, hw, l1, l2, ew, fw⟩
    rw [s_at] at ew fw
    refine ⟨rfl, w, N', s_ss, hw, l1, by omega, fun i g1 g2 g3 g4 g5 g6 => ?_, fun g hg => ?_⟩
    · rw [ew i g1 g2 g3 g4 g5, u_ne g6]
    · obtain ⟨f1, f2⟩ := fw g hg
      rw [f1, f2, u_ne (by omega), u_ne (by omega)]
      exact ⟨rfl, rfl⟩
end
section
/-! ===== the model: blocks are moved at once; press, gather ===== -/
/-- behind a public call, as the law needs it -/
def pubX (N D : Nat) (σ : sm_S) (_ : Int32) (σ' : sm_S) : Prop := ∃ N', jj N' (σ' 1) ∧ N ≤ N' ∧ N' ≤ N + D ∧ σ' 5 = σ 5 ∧ σ' 0 6 = σ 0 6 ∧ ∀ k, 5 < k → σ' k = σ k
theorem pub_X {N D : Nat} {σ σ' : sm_S} {x : Int32} (h : pub N D σ x σ') : pubX N D σ x σ' := by
  obtain ⟨v, N', rfl, h1, h2, h3⟩ := h
  refine ⟨N', by rw [s_at]; exact h1, h2, h3, ?_, ?_, fun k hk => ?_⟩
  · rw [s_ne (by decide), s_ne (by decide)]
  · rw [s_ne (by decide), s_at, u_ne (by decide)]
  · rw [s_ne (by omega), s_ne (by omega)]
theorem jr_moved {v : Nat → Int32} {n o p : Nat} {x : Int32} (hn : n < 96) (hj : jr v) (h6 : v (786 + 16 * n + 6) = 0) (ho : (v (786 + 16 * n + 2)).toInt = o) (hx : x.toInt = p) (hp : p < 256) (hal : p % 2 ^ o = 0) : jr (upd v (786 + 16 * n + 1) x) := by
  obtain ⟨j1, j2, j3, j4, s, hs, z1, z2⟩ := hj
  have e : ∀ i, i ≠ 786 + 16 * n + 1 → upd v (786 + 16 * n + 1) x i = v i := fun i hi => u_ne hi
  refine ⟨fun b hb => ?_, fun b hb => ?_, fun s hs => ?_, fun b hb => ?_, s, hs, ?_, ?_⟩
  · by_cases hbn : b = n
    · subst hbn
      obtain ⟨o2, fr, h1, h2, h3, h4, h5, h6', h7, h8⟩ := j1 b hb
      have hoo : o2 = o := by rw [ho] at h1; omega
      subst hoo
      refine ⟨o2, p, ?_, h2, by rw [u_at]; exact hx, hp, hal, ?_, ?_, ?_⟩ <;> rw [e _ (by omega)] <;> assumption
    · exact bk_cong (fun k hk _ _ _ => e _ (by omega)) (j1 b hb)
  · obtain ⟨L, o2, h1, h2, h3, h4, h5, h6'⟩ := j2 b hb
    refine ⟨L, o2, ?_, h2, ?_, ?_, fun k hk => ?_, fun k m hkm hm => ?_⟩
    · rw [e _ (by omega)]; exact h1
    · rw [e _ (by omega)]; exact h3
    · rw [e _ (by omega)]; exact h4
    · obtain ⟨t, a, g1, g2, g3, g4, g5⟩ := h5 k hk
      refine ⟨t, a, g1, ?_, ?_, ?_, g5⟩ <;> rw [e _ (by omega)] <;> assumption
    · rw [e _ (by omega), e _ (by omega)]; exact h6' k m hkm hm
  · obtain ⟨st, pt, at', q, h1, h2, h3, h4, h5, h6', h7, h8, h9⟩ := j3 s hs
    refine ⟨st, pt, at', q, ?_, h2, ?_, h4, h5, ?_, h7, ?_, ?_⟩
    · rw [e _ (by omega)]; exact h1
    · rw [e _ (by omega)]; exact h3
    · rw [e _ (by omega)]; exact h6'
    · rw [e _ (by omega)]; exact h8
    · rcases h9 with h9 | ⟨b, g1, g2, g3, g4, fr, g5, g6⟩
      · exact Or.inl h9
      · have hbn : b ≠ n := fun z => by subst z; exact g4 h6
        refine Or.inr ⟨b, g1, g2, g3, ?_, fr, ?_, g6⟩ <;> rw [e _ (by omega)] <;> assumption
  · intro hb6
    rw [e _ (by omega)] at hb6
    have hbn : b ≠ n := fun z => by subst z; exact hb6 h6
    obtain ⟨h1, fr, h2, h3, h4⟩ := j4 b hb hb6
    refine ⟨?_, fr, ?_, h3, ?_⟩ <;> rw [e _ (by omega)] <;> assumption
  · rw [e _ (by omega)]; exact z1
  · rw [e _ (by omega)]; exact z2
theorem l_movesTo {a1 a2 a3 : Int32} {n o fr p N : Nat} (h1 : a1.toInt = n) (hn : n < 96) (h2 : a2.toInt = p) (hp : p < 256) (hpa : p % 2 ^ o = 0) (h3 : a3.toInt = fr) (hfr : fr < 256) (hal : fr % 2 ^ o = 0) (ho : o ≤ 4) : ∀ (d k : Nat) (a4 : Int32) (σ : sm_S), a4.toInt = k → k + d = 2 ^ o → jj N (σ 1) → (σ 1 (786 + 16 * n + 2)).toInt = o → σ 1 (786 + 16 * n + 6) = 0 → σ 1 (786 + 16 * n + 0) = 1 →
    xE xM m_M_movesTo 9 [.ref 0, .int a1, .int a2, .int a3, .int a4] [] σ (sm_V (fun σ' => ∃ w, σ' = sm_set σ 1 w ∧ jj N w ∧ ∀ i, 786 ≤ i → i ≠ 786 + 16 * n + 1 → w i = σ 1 i)) := by
  have hpw := t_pw (k := o) (by omega)
  have hs1 := t_al (k := o) (by omega) hal
  have hs2 := t_al (k := o) (by omega) hpa
  intro d
  induction d with
  | zero =>
    intro k a4 σ h4 hk hj ho2 h6 hI
    refine w_M_movesTo_9 a1 a2 a3 a4 σ _ ((c_longOf h1 hn σ).int ?_)
    rintro _ σ ⟨rfl, rfl⟩
    refine ⟨fun _ => (c_lay (k := 1) (j := 1) h1 rfl (by omega) a2 _).void ?_, fun h => absurd ?_ h⟩
    · rintro _ rfl
      refine (c_counts (k := 10) (j := 10) rfl (by omega) 1 _).void ?_
      rintro _ rfl
      simp only [s_at, s_ss]
      refine ⟨rfl, _, rfl, jj_low (by omega) (by omega) ⟨fr_frame hI hj.1, jr_moved hn hj.2.1 h6 ho2 h2 hp hpa, by rw [u_ne (by omega)]; exact hj.2.2⟩, fun i hi1 hi2 => ?_⟩
      rw [u_ne (by omega), u_ne hi2]
    · rw [t_le, t_pow ho2 (by omega), h4]
      omega
  | succ d ih =>
    intro k a4 σ h4 hk hj ho2 h6 hI
    have h4' : (a4 + 1).toInt = ((k + 1 : Nat) : Int) := by
      rw [t_add h4 (y := 1) rfl (by omega) (by omega)]
      omega
    have hto := t_add h2 h4 (by omega) (by omega)
    rw [← Int.natCast_add] at hto
    have hfo := t_add h3 h4 (by omega) (by omega)
    rw [← Int.natCast_add] at hfo
    refine w_M_movesTo_9 a1 a2 a3 a4 σ _ ((c_longOf h1 hn σ).int ?_)
    rintro _ σ ⟨rfl, rfl⟩
    refine ⟨fun h => ?_, fun _ => (c_has' hto (by omega) h1 hn _ hj.1 (fun _ => hI)).void ?_⟩
    · rw [t_le, t_pow ho2 (by omega), h4] at h
      omega
    · rintro _ ⟨v1, rfl, g1, g2, -⟩
      refine (c_valueOf hfo (by omega) _).int ?_
      rintro x _ ⟨-, rfl⟩
      refine (c_lays' hto (by omega) _ (by rw [s_at]; exact g1)).void ?_
      rintro _ ⟨v2, rfl, g3, g4, -⟩
      rw [s_at] at g4
      refine (c_leaves' hfo (by omega) _ (by rw [s_at]; exact g3)).void ?_
      rintro _ ⟨v3, rfl, g5, g6, -⟩
      rw [s_at] at g6
      have hfe := (g2.tr g4).tr g6
      simp only [s_ss]
      refine (ih (k + 1) (a4 + 1) _ h4' (by omega) (by rw [s_at]; exact jj_fr g5 hfe hj) (by rw [s_at, hfe _ (by omega)]; exact ho2) (by rw [s_at, hfe _ (by omega)]; exact h6) (by rw [s_at, hfe _ (by omega)]; exact hI)).mono ?_
      rintro r σ' ⟨rfl, w, rfl, hw, ew⟩
      rw [s_at] at ew
      exact ⟨rfl, w, s_ss, hw, fun i hi1 hi2 => by rw [ew i hi1 hi2, hfe i (Or.inr hi1)]⟩
theorem c_movesTo {b x : Int32} {n o p N : Nat} (hb : b.toInt = n) (hn : n < 96) (hx : x.toInt = p) (hp : p < 256) (σ : sm_S) (ho : (σ 1 (786 + 16 * n + 2)).toInt = o) (hpa : p % 2 ^ o = 0) (h6 : σ 1 (786 + 16 * n + 6) = 0) (hI : σ 1 (786 + 16 * n + 0) = 1) (hj : jj N (σ 1)) :
    xC xM j_M_movesTo [.ref 0, .int b, .int x] σ (sm_V (fun σ' => ∃ w, σ' = sm_set σ 1 w ∧ jj N w ∧ ∀ i, 786 ≤ i → i ≠ 786 + 16 * n + 1 → w i = σ 1 i)) := by
  obtain ⟨o2, fr, b1, b2, b3, b4, b5, -⟩ := hj.2.1.1 n hn
  have hoo : o2 = o := by rw [ho] at b1; omega
  subst hoo
  have hpw := t_pw (k := o2) (by omega)
  refine w_M_movesTo b x σ _ ((c_frameOf hb hn σ).int ?_)
  rintro y σ ⟨hy, rfl⟩
  exact l_movesTo hb hn hx hp hpa (by rw [hy]; exact b3) b4 b5 b2 (2 ^ o2) 0 0 _ rfl (by omega) hj b1 h6 hI
theorem c_isLoose {b : Int32} {n : Nat} (hb : b.toInt = n) (hn : n < 96) (σ : sm_S) : xC xM j_M_isLoose [.ref 0, .int b] σ (sm_I (fun x σ' => (x = 0 ∨ (x = 1 ∧ σ 1 (786 + 16 * n + 3) = 0 ∧ σ 1 (786 + 16 * n + 6) ≤ 0)) ∧ σ' = σ)) := by
  refine w_M_isLoose b σ _ ((c_of (k := 3) (j := 3) hb rfl (by omega) σ).int ?_)
  rintro _ σ ⟨rfl, rfl⟩
  refine ⟨fun _ => ⟨Or.inl rfl, _, rfl, Or.inl rfl, rfl⟩, fun h3 => (c_isPinned hb hn _).int ?_⟩
  rintro x2 σ ⟨-, rfl⟩
  refine ⟨fun _ => ⟨Or.inl rfl, _, rfl, Or.inl rfl, rfl⟩, fun _ => (c_isOnWay hb hn _).int ?_⟩
  rintro x3 σ ⟨hx3, rfl⟩
  refine ⟨fun _ => ⟨Or.inl rfl, _, rfl, Or.inl rfl, rfl⟩, fun n3 => ⟨Or.inr rfl, _, rfl, Or.inr ⟨rfl, Classical.not_not.mp h3, ?_⟩, rfl⟩⟩
  exact (hx3.resolve_right (fun z => n3 (by rw [z.1]; decide))).2
/-- the next to press: none, or a loose one of the span that isn't done -/
def toPress (σ : sm_S) (s : Nat) (x : Int32) : Prop := x = -1 ∨ ∃ n : Nat, x.toInt = n ∧ n < 96 ∧ σ 4 n = 0 ∧ σ 1 (786 + 16 * n + 6) ≤ 0 ∧ σ 1 (786 + 16 * n + 0) = 1 ∧ ∃ fr : Nat, (σ 1 (786 + 16 * n + 1)).toInt = fr ∧ fr / 32 = s
theorem l_nextToPress {a1 : Int32} {s N : Nat} (h1 : a1.toInt = s) (σ : sm_S) (hj : jj N (σ 1)) : ∀ (d k : Nat) (a2 a3 : Int32), a3.toInt = k → k + d = 96 → toPress σ s a2 → xE xM m_M_nextToPress 4 [.ref 0, .int a1, .int a2, .int a3] [] σ (sm_I (fun x σ' => toPress σ s x ∧ σ' = σ)) := by
  intro d
  induction d with
  | zero =>
    intro k a2 a3 h3 hk h2
    refine w_M_nextToPress_4 a1 a2 a3 σ _ ⟨fun _ => ⟨_, rfl, h2, rfl⟩, fun h => absurd ?_ h⟩
    rw [t_le, h3]
    show (96 : Int) ≤ _
    omega
  | succ d ih =>
    intro k a2 a3 h3 hk h2
    have h3' : (a3 + 1).toInt = ((k + 1 : Nat) : Int) := by
      rw [t_add h3 (y := 1) rfl (by omega) (by omega)]
      omega
    have go := fun b2 hb => ih (k + 1) b2 (a3 + 1) h3' (by omega) hb
    obtain ⟨o, fr, b1, b2, b3, b4, b5, -⟩ := hj.2.1.1 k (by omega)
    refine w_M_nextToPress_4 a1 a2 a3 σ _ ⟨fun h => ?_, fun _ => (c_isBlock a3 σ).int ?_⟩
    · rw [t_le, h3] at h
      have h : (96 : Int) ≤ k := h
      omega
    · rintro x1 σ ⟨hx1, rfl⟩
      refine ⟨fun _ => go _ h2, fun nI => ⟨t_vp h3 (by omega), fun _ => go _ h2, fun hd => (c_frameOf h3 (by omega) _).int ?_⟩⟩
      rw [t_nat h3] at hd
      rintro x2 σ ⟨hx2, rfl⟩
      have hfr : x2.toInt = fr := by rw [hx2]; exact b3
      refine (c_spanOf hfr _).int ?_
      rintro x3 σ ⟨hx3, rfl⟩
      refine ⟨fun _ => go _ h2, fun hs => (c_isLoose h3 (by omega) _).int ?_⟩
      have hs : x3 = a1 := Classical.not_not.mp hs
      rintro x4 σ ⟨hx4, rfl⟩
      refine ⟨fun _ => go _ h2, fun n4 => ?_⟩
      obtain ⟨-, -, h6⟩ := hx4.resolve_left n4
      have hI : σ 1 (786 + 16 * k + 0) = 1 := by
        obtain ⟨-, k2, -, hk2, hI⟩ := hx1.resolve_right (fun z => nI z.1)
        have : k2 = k := by omega
        subst this
        exact hI
      have hnew := go a3 (Or.inr ⟨k, h3, by omega, Classical.not_not.mp hd, h6, hI, fr, b3, by rw [hs, h1] at hx3; omega⟩)
      refine ⟨fun _ => hnew, fun ha => (c_frameOf h3 (by omega) _).int ?_⟩
      rintro x5 σ ⟨-, rfl⟩
      obtain ⟨n, hn1, hn2, -⟩ := h2.resolve_left ha
      refine (c_frameOf hn1 hn2 _).int ?_
      rintro x6 σ ⟨-, rfl⟩
      exact ⟨fun _ => go _ h2, fun _ => hnew⟩
theorem c_nextToPress {a1 : Int32} {s N : Nat} (h1 : a1.toInt = s) (σ : sm_S) (hj : jj N (σ 1)) : xC xM j_M_nextToPress [.ref 0, .int a1] σ (sm_I (fun x σ' => toPress σ s x ∧ σ' = σ)) :=
  w_M_nextToPress a1 σ _ (l_nextToPress h1 σ hj 96 0 (-1) 0 rfl rfl (Or.inl rfl))
end
section
/-! ===== the model: press, gather ===== -/
def k14 (σ σ' : sm_S) : Prop := ∀ k, k ≠ 1 → k ≠ 4 → σ' k = σ k
theorem k14.rf {σ : sm_S} : k14 σ σ := fun _ _ _ => rfl
theorem k14.tr {a b c : sm_S} (h1 : k14 a b) (h2 : k14 b c) : k14 a c := fun k g1 g2 => (h2 k g1 g2).trans (h1 k g1 g2)
theorem k14.s1 {σ : sm_S} {w : Nat → Int32} : k14 σ (sm_set σ 1 w) := fun k h1 _ => s_ne h1
theorem k14.s4 {σ : sm_S} {w : Nat → Int32} : k14 σ (sm_set σ 4 w) := fun k _ h4 => s_ne h4
def nDone (σ : sm_S) (b : Nat) : Bool := decide (σ 4 b = 0)
theorem t_32s {a : Int32} {s : Nat} (h : a.toInt = s) (hs : s < 8) : (32 * a).toInt = ((32 * s : Nat) : Int) := by
  rw [t_mul (x := 32) rfl h (by omega) (by omega)]
  omega
theorem l_presses47 {a1 : Int32} {s n N m fr o : Nat} (h1 : a1.toInt = s) (hs : s < 8) (hn : n < 96)
    (ihO : ∀ (a2 a3 : Int32) (v4 : Value) (σ : sm_S), cn (nDone σ) 96 ≤ m → jj N (σ 1) → toPress σ s a3 → xE xM m_M_presses 29 [.ref 0, .int a1, .int a2, .int a3, v4] [] σ (sm_I (fun _ σ' => jj N (σ' 1) ∧ k14 σ σ'))) :
    ∀ (d f0 : Nat) (a2 a3 a4 : Int32) (σ : sm_S), a3.toInt = n → a4.toInt = f0 → f0 < 400 → f0 % 2 ^ o = 0 → fr ≤ f0 + d → cn (nDone σ) 96 ≤ m → jj N (σ 1) → σ 1 (786 + 16 * n + 6) = 0 → σ 1 (786 + 16 * n + 0) = 1 → (σ 1 (786 + 16 * n + 1)).toInt = fr → (σ 1 (786 + 16 * n + 2)).toInt = o → o ≤ 4 → fr < 256 →
    xE xM m_M_presses 47 [.ref 0, .int a1, .int a2, .int a3, .int a4] [] σ (sm_I (fun _ σ' => jj N (σ' 1) ∧ k14 σ σ')) := by
  intro d
  induction d with
  | zero =>
    intro f0 a2 a3 a4 σ h3 h4 hf4 hal hd hc hj h6 hI hfr ho ho4 hfr2
    refine w_M_presses_47 a1 a2 a3 a4 σ _ ((c_frameOf h3 hn σ).int ?_)
    rintro x σ ⟨hx, rfl⟩
    have hxf : x.toInt = fr := by rw [hx]; exact hfr
    refine ⟨fun _ => (c_frameOf h3 hn _).int ?_, fun h => absurd (by rw [t_le, hxf, h4]; omega) h⟩
    rintro x2 σ ⟨hx2, rfl⟩
    have hxf2 : x2.toInt = fr := by rw [hx2]; exact hfr
    refine ⟨fun h => ?_, fun _ => (c_nextToPress h1 _ hj).int ?_⟩
    · rw [t_lt, hxf2, h4] at h; omega
    · rintro y σ ⟨hy, rfl⟩
      exact ihO _ _ _ _ hc hj hy
  | succ d ih =>
    intro f0 a2 a3 a4 σ h3 h4 hf4 hal hd hc hj h6 hI hfr ho ho4 hfr2
    have hpw := t_pw (k := o) (by omega)
    have hmv : ∀ (a2 : Int32) (v4 : Value), f0 < fr → xC xM j_M_movesTo [.ref 0, .int a3, .int a4] σ (sm_rv False (fun σ5 => xC xM j_M_nextToPress [.ref 0, .int a1] σ5 (sm_ri False (fun x7 σ6 => xE xM m_M_presses 29 [.ref 0, .int a1, .int a2, .int x7, v4] [] σ6 (sm_I (fun _ σ' => jj N (σ' 1) ∧ k14 σ σ')))))) := by
      intro a2 v4 hlt
      refine (c_movesTo h3 hn h4 (by omega) σ ho hal h6 hI hj).void ?_
      rintro _ ⟨w, rfl, hw, -⟩
      have hj2 : jj N ((sm_set σ 1 w) 1) := by rw [s_at]; exact hw
      refine (c_nextToPress h1 _ hj2).int ?_
      rintro y σ2 ⟨hy, rfl⟩
      have hc2 : cn (nDone (sm_set σ 1 w)) 96 ≤ m := by
        have : nDone (sm_set σ 1 w) = nDone σ := by funext b; unfold nDone; rw [s_ne (by decide)]
        rw [this]; exact hc
      refine (ihO a2 y v4 _ hc2 hj2 hy).mono ?_
      rintro r σ' ⟨z, rfl, g1, g2⟩
      exact ⟨z, rfl, g1, k14.s1.tr g2⟩
    have hno : ∀ (a2 : Int32) (v4 : Value), xC xM j_M_nextToPress [.ref 0, .int a1] σ (sm_ri False (fun x7 σ6 => xE xM m_M_presses 29 [.ref 0, .int a1, .int a2, .int x7, v4] [] σ6 (sm_I (fun _ σ' => jj N (σ' 1) ∧ k14 σ σ')))) := by
      intro a2 v4
      refine (c_nextToPress h1 _ hj).int ?_
      rintro y σ ⟨hy, rfl⟩
      exact ihO _ _ _ _ hc hj hy
    refine w_M_presses_47 a1 a2 a3 a4 σ _ ((c_frameOf h3 hn σ).int ?_)
    rintro x σ ⟨hx, rfl⟩
    have hxf : x.toInt = fr := by rw [hx]; exact hfr
    refine ⟨fun hle => (c_frameOf h3 hn _).int ?_, fun hlt => (c_of (k := 2) (j := 2) h3 rfl (by omega) _).int ?_⟩
    · rintro x2 σ ⟨hx2, rfl⟩
      have hxf2 : x2.toInt = fr := by rw [hx2]; exact hfr
      refine ⟨fun h => ?_, fun _ => hno _ _⟩
      rw [t_lt, hxf2, h4] at h
      rw [t_le, hxf, h4] at hle
      omega
    · rw [t_le, hxf, h4] at hlt
      rintro x2 σ ⟨hx2, rfl⟩
      have hxo : x2.toInt = o := by rw [hx2]; exact ho
      refine (c_areFree h4 (by omega) hxo (by omega) _).int ?_
      rintro x3 σ ⟨-, rfl⟩
      refine ⟨fun _ => (c_frameOf h3 hn _).int ?_, fun _ => (c_longOf h3 hn _).int ?_⟩
      · rintro x4 σ ⟨hx4, rfl⟩
        have hxf4 : x4.toInt = fr := by rw [hx4]; exact hfr
        exact ⟨fun _ => hmv _ _ (by omega), fun h => absurd (by rw [t_lt, hxf4, h4]; omega) h⟩
      · rintro _ σ ⟨rfl, rfl⟩
        have h4' : (a4 + ((1 : Int32) <<< (σ 1 (786 + 16 * n + 2) &&& 31))).toInt = ((f0 + 2 ^ o : Nat) : Int) := by
          rw [t_add h4 (t_pow ho (by omega)) (by omega) (by omega)]
          omega
        exact ih (f0 + 2 ^ o) a2 a3 _ _ h3 h4' (by omega) (by rw [Nat.add_mod_right]; exact hal) (by omega) hc hj h6 hI hfr ho ho4 hfr2
theorem t_m32 {s o : Nat} (ho : o ≤ 4) : (32 * s) % 2 ^ o = 0 := by
  rcases (show o = 0 ∨ o = 1 ∨ o = 2 ∨ o = 3 ∨ o = 4 by omega) with rfl | rfl | rfl | rfl | rfl <;> simp only [Nat.reducePow] <;> omega
theorem l_presses29 {a1 : Int32} {s N : Nat} (h1 : a1.toInt = s) (hs : s < 8) : ∀ (m : Nat) (a2 a3 : Int32) (v4 : Value) (σ : sm_S), cn (nDone σ) 96 ≤ m → jj N (σ 1) → toPress σ s a3 → xE xM m_M_presses 29 [.ref 0, .int a1, .int a2, .int a3, v4] [] σ (sm_I (fun _ σ' => jj N (σ' 1) ∧ k14 σ σ')) := by
  intro m
  induction m with
  | zero =>
    intro a2 a3 v4 σ hc hj h3
    refine w_M_presses_29 a1 a2 a3 v4 σ _ ⟨fun _ => ⟨_, rfl, hj, k14.rf⟩, fun ha => ?_⟩
    obtain ⟨n, e1, e2, e3, -⟩ := h3.resolve_left ha
    have := cn_lt (P := nDone σ) (P' := fun _ => false) (j := n) (by simpa [nDone] using e3) rfl (N := 96) e2 (fun i _ h => by cases h)
    omega
  | succ m ih =>
    intro a2 a3 v4 σ hc hj h3
    refine w_M_presses_29 a1 a2 a3 v4 σ _ ⟨fun _ => ⟨_, rfl, hj, k14.rf⟩, fun ha => ?_⟩
    obtain ⟨n, e1, e2, e3, e4, eI, fr, e5, e6⟩ := h3.resolve_left ha
    refine ⟨t_vp e1 e2, Or.inr rfl, fun σ1 es => ?_⟩
    rw [t_nat e1] at es
    obtain ⟨o, fr2, b1, b2, b3, b4, b5, -⟩ := hj.2.1.1 n e2
    have hff : fr2 = fr := by rw [e5] at b3; omega
    subst hff
    have hj1 : σ1 1 = σ 1 := by rw [es, s_ne (by decide)]
    have hlt : cn (nDone σ1) 96 < cn (nDone σ) 96 := by
      refine cn_lt (j := n) (by simpa [nDone] using e3) (by simp only [nDone, es, s_at, u_at]; decide) e2 (fun i hi h => ?_)
      by_cases hin : i = n
      · subst hin; simpa [nDone] using e3
      · simp only [nDone, es, s_at, decide_eq_true_eq] at h ⊢
        rw [u_ne hin] at h
        exact h
    refine (l_presses47 (fr := fr2) (o := o) (n := n) (m := m) h1 hs e2 ih 256 (32 * s) a2 a3 (32 * a1) σ1 e1 (t_32s h1 hs) (by omega) (t_m32 b2) (by omega) (by omega) (by rw [hj1]; exact hj) (by rw [hj1]; exact t_to0 (hj.2.1.1 n e2) e4) (by rw [hj1]; exact eI) (by rw [hj1]; exact e5) (by rw [hj1]; exact b1) b2 b4).mono ?_
    rintro r σ' ⟨z, rfl, g1, g2⟩
    exact ⟨z, rfl, g1, (by rw [es]; exact k14.s4 : k14 σ σ1).tr g2⟩
theorem l_presses4 {a1 a2 : Int32} {s N : Nat} (h1 : a1.toInt = s) (hs : s < 8) : ∀ (d k : Nat) (a3 : Int32) (v4 : Value) (σ : sm_S), a3.toInt = k → k + d = 96 → jj N (σ 1) → xE xM m_M_presses 4 [.ref 0, .int a1, .int a2, .int a3, v4] [] σ (sm_I (fun _ σ' => jj N (σ' 1) ∧ k14 σ σ')) := by
  intro d
  induction d with
  | zero =>
    intro k a3 v4 σ h3 hk hj
    refine w_M_presses_4 a1 a2 a3 v4 σ _ ⟨fun _ => (c_nextToPress h1 _ hj).int ?_, fun h => absurd ?_ h⟩
    · rintro y σ ⟨hy, rfl⟩
      exact l_presses29 h1 hs 96 _ _ _ _ cn_bd hj hy
    · rw [t_le, h3]
      show (96 : Int) ≤ _
      omega
  | succ d ih =>
    intro k a3 v4 σ h3 hk hj
    have h3' : (a3 + 1).toInt = ((k + 1 : Nat) : Int) := by
      rw [t_add h3 (y := 1) rfl (by omega) (by omega)]
      omega
    refine w_M_presses_4 a1 a2 a3 v4 σ _ ⟨fun h => ?_, fun _ => ⟨t_vp h3 (by omega), Or.inl rfl, fun σ1 es => ?_⟩⟩
    · rw [t_le, h3] at h
      have h : (96 : Int) ≤ k := h
      omega
    · refine (ih (k + 1) (a3 + 1) v4 σ1 h3' (by omega) (by rw [es, s_ne (by decide)]; exact hj)).mono ?_
      rintro r σ' ⟨z, rfl, g1, g2⟩
      exact ⟨z, rfl, g1, (by rw [es]; exact k14.s4 : k14 σ σ1).tr g2⟩
theorem c_presses {a1 : Int32} {s N : Nat} (h1 : a1.toInt = s) (hs : s < 8) (σ : sm_S) (hj : jj N (σ 1)) : xC xM j_M_presses [.ref 0, .int a1] σ (sm_I (fun _ σ' => jj N (σ' 1) ∧ k14 σ σ')) :=
  w_M_presses a1 σ _ (l_presses4 h1 hs 96 0 0 _ σ rfl rfl hj)
theorem X_k14 {N : Nat} {σ σ1 σ' : sm_S} {x : Int32} (e1 : σ1 = sm_set σ 0 (upd (σ 0) 0 0)) (hj : jj N (σ' 1)) (hk : k14 σ1 σ') : pubX N 0 σ x σ' := by
  refine ⟨N, hj, Nat.le_refl N, Nat.le_refl N, ?_, ?_, fun k h => ?_⟩
  · rw [hk 5 (by decide) (by decide), e1, s_ne (by decide)]
  · rw [hk 0 (by decide) (by decide), e1, s_at, u_ne (by decide)]
  · rw [hk k (by omega) (by omega), e1, s_ne (by omega)]
theorem c_press {N : Nat} (a1 : Int32) (σ : sm_S) (hj : jj N (σ 1)) : xC xM j_M_press [.ref 0, .int a1] σ (sm_I (pubX N 0 σ)) := by
  refine w_M_press a1 σ _ (fun σ1 e1 => (c_isSpan a1 σ1).int ?_)
  have hj1 : jj N (σ1 1) := by rw [e1, s_ne (by decide)]; exact hj
  rintro x1 σ1 ⟨hx1, rfl⟩
  refine ⟨fun _ => ⟨_, rfl, pub_X (pub_keep hj e1)⟩, fun n1 => ?_⟩
  obtain ⟨-, s, hs, h1⟩ := hx1.resolve_right (fun z => n1 z.1)
  refine (c_spanState h1 hs _).int ?_
  rintro x2 σ1 ⟨-, rfl⟩
  refine ⟨fun _ => ⟨_, rfl, pub_X (pub_keep hj e1)⟩, fun _ => (c_presses h1 hs _ hj1).int ?_⟩
  rintro x3 σ' ⟨g1, g2⟩
  exact ⟨_, rfl, X_k14 e1 g1 g2⟩
end
section
/-! ===== the model: gather; spans come and begin to go ===== -/
theorem l_gather {a1 : Int32} {m N : Nat} (h1 : a1.toInt = m) (hm : m < 6) : ∀ (d k : Nat) (a2 a3 : Int32) (v4 : Value) (σ : sm_S), a3.toInt = k → k + d = 96 → jj N (σ 1) → xE xM m_M_gather 19 [.ref 0, .int a1, .int a2, .int a3, v4] [] σ (sm_I (fun _ σ' => jj N (σ' 1) ∧ k14 σ σ')) := by
  intro d
  induction d with
  | zero =>
    intro k a2 a3 v4 σ h3 hk hj
    refine w_M_gather_19 a1 a2 a3 v4 σ _ ⟨fun _ => ⟨_, rfl, hj, k14.rf⟩, fun h => absurd ?_ h⟩
    rw [t_le, h3]
    show (96 : Int) ≤ _
    omega
  | succ d ih =>
    intro k a2 a3 v4 σ h3 hk hj
    have h3' : (a3 + 1).toInt = ((k + 1 : Nat) : Int) := by
      rw [t_add h3 (y := 1) rfl (by omega) (by omega)]
      omega
    have go : ∀ (b2 : Int32) (w4 : Value), xE xM m_M_gather 19 [.ref 0, .int a1, .int b2, .int (a3 + 1), w4] [] σ (sm_I (fun _ σ' => jj N (σ' 1) ∧ k14 σ σ')) := fun b2 w4 => ih (k + 1) b2 (a3 + 1) w4 σ h3' (by omega) hj
    obtain ⟨o, fr, b1, b2, b3, b4, b5, -⟩ := hj.2.1.1 k (by omega)
    have hkn : k < 96 := by omega
    refine w_M_gather_19 a1 a2 a3 v4 σ _ ⟨fun h => ?_, fun _ => (c_isBlock a3 σ).int ?_⟩
    · rw [t_le, h3] at h
      have h : (96 : Int) ≤ k := h
      omega
    · rintro x1 σ ⟨hx1, rfl⟩
      refine ⟨fun _ => go _ _, fun nI => (c_of (k := 4) (j := 4) h3 rfl (by omega) _).int ?_⟩
      rintro x2 σ ⟨-, rfl⟩
      refine ⟨fun _ => go _ _, fun _ => (c_isLoose h3 hkn _).int ?_⟩
      rintro x3 σ ⟨hx3, rfl⟩
      refine ⟨fun _ => go _ _, fun n3 => ?_⟩
      obtain ⟨-, -, h6⟩ := hx3.resolve_left n3
      have hI : σ 1 (786 + 16 * k + 0) = 1 := by
        obtain ⟨-, k2, -, hk2, hI⟩ := hx1.resolve_right (fun z => nI z.1)
        have : k2 = k := by omega
        subst this
        exact hI
      refine (c_frameOf h3 hkn _).int ?_
      rintro x4 σ ⟨hx4, rfl⟩
      have hf4 : x4.toInt = fr := by rw [hx4]; exact b3
      refine (c_spanOf hf4 _).int ?_
      rintro x5 σ ⟨hx5, rfl⟩
      have hsp : fr / 32 < 8 := by omega
      refine (c_spanState hx5 hsp _).int ?_
      rintro x6 σ ⟨-, rfl⟩
      refine ⟨fun _ => (c_of (k := 2) (j := 2) h3 rfl (by omega) _).int ?_, fun _ => go _ _⟩
      rintro x7 σ ⟨hx7, rfl⟩
      have ho7 : x7.toInt = o := by rw [hx7]; exact b1
      refine (c_bestPlace h1 hm ho7 b2 _).int ?_
      rintro x8 σ ⟨hx8, rfl⟩
      refine ⟨fun _ => go _ _, fun n8 => ?_⟩
      obtain ⟨p, hp1, hp2, hp3⟩ := hx8.resolve_left n8
      refine (c_spanOf hp1 _).int ?_
      rintro x9 σ ⟨hx9, rfl⟩
      have hsp2 : p / 32 < 8 := by omega
      refine (c_rankOf hx9 hsp2 h1 hm _).int ?_
      rintro x10 σ ⟨-, -, rfl⟩
      refine (c_frameOf h3 hkn _).int ?_
      rintro x11 σ ⟨hx11, rfl⟩
      have hf11 : x11.toInt = fr := by rw [hx11]; exact b3
      refine (c_spanOf hf11 _).int ?_
      rintro x12 σ ⟨hx12, rfl⟩
      refine (c_rankOf hx12 hsp h1 hm _).int ?_
      rintro x13 σ ⟨-, -, rfl⟩
      refine ⟨fun _ => (c_movesTo h3 hkn hp1 hp2 _ b1 hp3 (t_to0 (hj.2.1.1 k hkn) h6) hI hj).void ?_, fun _ => go _ _⟩
      rintro _ ⟨w, rfl, hw, -⟩
      refine (ih (k + 1) _ (a3 + 1) _ _ h3' (by omega) (by rw [s_at]; exact hw)).mono ?_
      rintro r σ' ⟨z, rfl, g1, g2⟩
      exact ⟨z, rfl, g1, k14.s1.tr g2⟩
theorem c_gather {N : Nat} (a1 : Int32) (σ : sm_S) (hj : jj N (σ 1)) : xC xM j_M_gather [.ref 0, .int a1] σ (sm_I (pubX N 0 σ)) := by
  refine w_M_gather a1 σ _ (fun σ1 e1 => (c_isTask a1 σ1).int ?_)
  have hj1 : jj N (σ1 1) := by rw [e1, s_ne (by decide)]; exact hj
  rintro x1 σ1 ⟨hx1, rfl⟩
  refine ⟨fun n1 => ?_, fun _ => ⟨_, rfl, pub_X (pub_keep hj e1)⟩⟩
  obtain ⟨-, m, hm, h1⟩ := hx1.resolve_right (fun z => n1 z.1)
  refine (l_gather h1 hm 96 0 0 0 _ _ rfl rfl hj1).mono ?_
  rintro r σ' ⟨z, rfl, g1, g2⟩
  exact ⟨z, rfl, X_k14 e1 g1 g2⟩
/-- a span changes, but for which block is on its way -/
theorem jr_span {v v' : Nat → Int32} {s : Nat} (hs : s < 8) (hj : jr v) (e : ∀ i, 786 ≤ i → i < 2422 → (i < 2358 + 8 * s ∨ 2358 + 8 * s + 8 ≤ i) → v' i = v i) (e6 : v' (2358 + 8 * s + 6) = v (2358 + 8 * s + 6)) (hsp : sp_ok v' s) (hz : z0_ok v') : jr v' := by
  obtain ⟨j1, j2, j3, j4, -⟩ := hj
  refine ⟨fun b hb => bk_cong (fun k hk _ _ _ => e _ (by omega) (by omega) (by omega)) (j1 b hb), fun b hb => ln_cong (fun k hk _ _ _ => e _ (by omega) (by omega) (by omega)) (fun t k ht hk => e _ (by omega) (by omega) (by omega)) (j2 b hb), fun s2 hs2 => ?_, fun b hb => ?_, hz⟩
  · by_cases hss : s2 = s
    · subst hss; exact hsp
    · obtain ⟨st, pt, at', q, h1, h2, h3, h4, h5, h6', h7, h8, h9⟩ := j3 s2 hs2
      refine ⟨st, pt, at', q, ?_, h2, ?_, h4, h5, ?_, h7, ?_, ?_⟩
      · rw [e _ (by omega) (by omega) (by omega)]; exact h1
      · rw [e _ (by omega) (by omega) (by omega)]; exact h3
      · rw [e _ (by omega) (by omega) (by omega)]; exact h6'
      · rw [e _ (by omega) (by omega) (by omega)]; exact h8
      · rcases h9 with h9 | ⟨b, g1, g2, g3, g4, fr, g5, g6⟩
        · exact Or.inl h9
        · refine Or.inr ⟨b, g1, g2, g3, ?_, fr, ?_, g6⟩ <;> rw [e _ (by omega) (by omega) (by omega)] <;> assumption
  · intro hb6
    rw [e _ (by omega) (by omega) (by omega)] at hb6
    obtain ⟨h1, fr, h2, h3, h4⟩ := j4 b hb hb6
    refine ⟨?_, fr, ?_, h3, ?_⟩
    · rw [e _ (by omega) (by omega) (by omega)]; exact h1
    · rw [e _ (by omega) (by omega) (by omega)]; exact h2
    · by_cases hss : fr / 32 = s
      · rw [hss, e6, ← hss]; exact h4
      · rw [e _ (by omega) (by omega) (by omega)]; exact h4
theorem l_framesOf {a1 : Int32} (σ : sm_S) : ∀ (d k c : Nat) (a2 a3 : Int32), a3.toInt = k → k + d = 8 → a2.toInt = ((32 * c : Nat) : Int) → c ≤ k → (∀ s, s < k → σ 1 (2358 + 8 * s) ≠ 0 → σ 1 (2358 + 8 * s + 1) = a1 → 1 ≤ c) → xE xM m_M_framesOf 4 [.ref 0, .int a1, .int a2, .int a3] [] σ (sm_I (fun x σ' => (∃ c : Nat, x.toInt = ((32 * c : Nat) : Int) ∧ c ≤ 8 ∧ ∀ s, s < 8 → σ 1 (2358 + 8 * s) ≠ 0 → σ 1 (2358 + 8 * s + 1) = a1 → 1 ≤ c) ∧ σ' = σ)) := by
  intro d
  induction d with
  | zero =>
    intro k c a2 a3 h3 hk h2 hc hall
    refine w_M_framesOf_4 a1 a2 a3 σ _ ⟨fun _ => ⟨_, rfl, ⟨c, h2, by omega, fun s hs => hall s (by omega)⟩, rfl⟩, fun h => absurd ?_ h⟩
    rw [t_le, h3]
    show (8 : Int) ≤ _
    omega
  | succ d ih =>
    intro k c a2 a3 h3 hk h2 hc hall
    have h3' : (a3 + 1).toInt = ((k + 1 : Nat) : Int) := by
      rw [t_add h3 (y := 1) rfl (by omega) (by omega)]
      omega
    refine w_M_framesOf_4 a1 a2 a3 σ _ ⟨fun h => ?_, fun _ => (c_zoneOf h3 (by omega) σ).int ?_⟩
    · rw [t_le, h3] at h
      have h : (8 : Int) ≤ k := h
      omega
    · rintro x σ ⟨hx, rfl⟩
      refine ⟨fun hne => ih (k + 1) c a2 _ h3' (by omega) h2 (by omega) (fun s hs g1 g2 => ?_), fun _ => ih (k + 1) (c + 1) _ _ h3' (by omega) ?_ (by omega) (fun _ _ _ _ => by omega)⟩
      · by_cases hsk : s = k
        · subst hsk
          rcases hx with ⟨g3, -⟩ | ⟨-, g3⟩
          · exact absurd g3 g1
          · exact absurd (g3.trans g2) hne
        · exact hall s (by omega) g1 g2
      · rw [t_add h2 (y := 32) rfl (by omega) (by omega)]
        omega
theorem c_framesOf (a1 : Int32) (σ : sm_S) : xC xM j_M_framesOf [.ref 0, .int a1] σ (sm_I (fun x σ' => (∃ c : Nat, x.toInt = ((32 * c : Nat) : Int) ∧ c ≤ 8 ∧ ∀ s, s < 8 → σ 1 (2358 + 8 * s) ≠ 0 → σ 1 (2358 + 8 * s + 1) = a1 → 1 ≤ c) ∧ σ' = σ)) :=
  w_M_framesOf a1 σ _ (l_framesOf σ 8 0 0 0 0 rfl rfl rfl (Nat.le_refl 0) (fun s hs => absurd hs (Nat.not_lt_zero s)))
theorem c_settingOf {a : Int32} {n : Nat} (h : a.toInt = n) (hn : n < 2662) (σ : sm_S) : xC xM j_M_settingOf [.ref 0, .int a] σ (sm_I (fun _ σ' => σ' = σ)) := by
  refine w_M_settingOf a σ _ ⟨t_vp h hn, (c_firstOf a σ).int ?_⟩
  rintro x σ rfl
  exact ⟨_, rfl, rfl⟩
theorem c_zoneByRatio (σ : sm_S) : xC xM j_M_zoneByRatio [.ref 0] σ (sm_I (fun x σ' => (x = 0 ∨ x = 1) ∧ σ' = σ)) := by
  refine w_M_zoneByRatio σ _ ((c_framesOf 1 σ).int ?_)
  rintro x1 σ ⟨-, rfl⟩
  refine (c_settingOf (n := 2) rfl (by omega) _).int ?_
  rintro x2 σ rfl
  refine (c_framesOf 0 _).int ?_
  rintro x3 σ ⟨-, rfl⟩
  exact ⟨fun _ => ⟨_, rfl, Or.inl rfl, rfl⟩, fun _ => ⟨_, rfl, Or.inr rfl, rfl⟩⟩
theorem l_comesOn {a1 a2 : Int32} {s N : Nat} (h1 : a1.toInt = s) (hs : s < 8) (hN : N < 2147483000) : ∀ (d k : Nat) (a3 : Int32) (σ : sm_S), a3.toInt = ((32 * s + k : Nat) : Int) → k + d = 32 → jj N (σ 1) → xE xM m_M_comesOn 31 [.ref 0, .int a1, .int a2, .int a3] [] σ (sm_I (fun x σ' => x = a2 ∧ ∃ w, σ' = sm_set σ 1 w ∧ jj (N + 1) w ∧ ∀ i, 786 ≤ i → i < 2422 → w i = σ 1 i)) := by
  have hb : ((32 * a1) + 32).toInt = ((32 * s + 32 : Nat) : Int) := by
    rw [t_add (t_32s h1 hs) (y := 32) rfl (by omega) (by omega)]
    omega
  intro d
  induction d with
  | zero =>
    intro k a3 σ h3 hk hj
    refine w_M_comesOn_31 a1 a2 a3 σ _ ⟨fun _ => (c_writes' _ _ _ _ hj hN).void ?_, fun h => absurd ?_ h⟩
    · rintro _ ⟨w, rfl, hw, ew⟩
      exact ⟨_, rfl, rfl, w, rfl, hw, fun i h1 h2 => ew i h2 (by omega)⟩
    · rw [t_le, hb, h3]
      omega
  | succ d ih =>
    intro k a3 σ h3 hk hj
    have h3' : (a3 + 1).toInt = ((32 * s + (k + 1) : Nat) : Int) := by
      rw [t_add h3 (y := 1) rfl (by omega) (by omega)]
      omega
    refine w_M_comesOn_31 a1 a2 a3 σ _ ⟨fun h => ?_, fun _ => (c_frameAt a3 σ).int ?_⟩
    · rw [t_le, hb, h3] at h
      omega
    · rintro _ σ ⟨rfl, rfl⟩
      obtain ⟨p1, q1⟩ := ixF (k := 0) (j := 0) h3 rfl (by omega)
      rw [q1]
      refine ⟨p1, fun σ1 e1 => ?_⟩
      subst e1
      have hj1 : jj N (upd (σ 1) (18 + 3 * (32 * s + k) + 0) 1) := jj_fr (fr_st1 (f := 32 * s + k) rfl (by decide) (by omega) hj.1) (fr_upd (by omega) (by omega)) hj
      refine (ih (k + 1) (a3 + 1) _ h3' (by omega) (by rw [s_at]; exact hj1)).mono ?_
      rintro r σ' ⟨z, rfl, g0, w, rfl, hw, ew⟩
      rw [s_at] at ew
      exact ⟨z, rfl, g0, w, s_ss, hw, fun i g1 g2 => by rw [ew i g1 g2, u_ne (by omega)]⟩
/-- a span that was off comes -/
theorem c_comesOn {a1 a2 : Int32} {s N : Nat} (h1 : a1.toInt = s) (hs : s < 8) (hN : N < 2147483000) (σ : sm_S) (hj : jj N (σ 1)) (h0 : σ 1 (2358 + 8 * s) = 0) : xC xM j_M_comesOn [.ref 0, .int a1, .int a2] σ (sm_I (fun x σ' => ∃ w, σ' = sm_set σ 1 w ∧ jj (N + 1) w ∧ w (2358 + 8 * s) = 1 ∧ ∀ i, 786 ≤ i → i < 2422 → i ≠ 2358 + 8 * s → i ≠ 2358 + 8 * s + 1 → w i = σ 1 i)) := by
  refine w_M_comesOn a1 a2 σ _ ((c_spanAt a1 σ).int ?_)
  rintro _ σ ⟨rfl, rfl⟩
  obtain ⟨p0, q0⟩ := ixS (k := 0) (j := 0) h1 rfl (by omega)
  obtain ⟨p1, q1⟩ := ixS (k := 1) (j := 1) h1 rfl (by omega)
  rw [q0]
  refine ⟨p0, fun σ1 e1 => (c_spanAt a1 σ1).int ?_⟩
  rintro _ σ1 ⟨rfl, rfl⟩
  rw [q1]
  refine ⟨p1, fun σ2 e2 => ?_⟩
  subst e2 e1
  simp only [s_at, s_ss]
  have hv : ∀ i, i ≠ 2358 + 8 * s + 0 → i ≠ 2358 + 8 * s + 1 → upd (upd (σ 1) (2358 + 8 * s + 0) 1) (2358 + 8 * s + 1) a2 i = σ 1 i := fun i g1 g2 => by rw [u_ne g2, u_ne g1]
  have hjn : jj N (upd (upd (σ 1) (2358 + 8 * s + 0) 1) (2358 + 8 * s + 1) a2) := by
    refine ⟨fr_cong (fun i h1 h2 => hv _ (by omega) (by omega)) (fun b k hb hk => hv _ (by omega) (by omega)) hj.1, ?_, by rw [hv _ (by omega) (by omega)]; exact hj.2.2⟩
    obtain ⟨st, pt, at', q, g1, g2, g3, g4, g5, g6, g7, g8, g9⟩ := hj.2.1.2.2.1 s hs
    have hst : st = 0 := by
      rw [show σ 1 (2358 + 8 * s + 0) = 0 from h0] at g1
      have g1 : (0 : Int) = st := g1
      omega
    obtain ⟨s2, hs2, z1, z2⟩ := hj.2.1.2.2.2.2
    have hs22 : s2 ≠ s := fun z => by
      subst z
      rw [show σ 1 (2358 + 8 * s2 + 0) = 0 from h0] at z1
      exact absurd z1 (by decide)
    refine jr_span hs hj.2.1 (fun i _ _ h => hv i (by omega) (by omega)) (hv _ (by omega) (by omega)) ⟨1, pt, at', q, ?_, by omega, ?_, g4, fun h => by omega, ?_, g7, ?_, Or.inl ?_⟩ ⟨s2, hs2, ?_, ?_⟩
    · rw [u_ne (by omega), u_at]; rfl
    · rw [hv _ (by omega) (by omega)]; exact g3
    · rw [hv _ (by omega) (by omega)]; exact g6
    · rw [hv _ (by omega) (by omega)]; exact g8
    · rcases g9 with g9 | ⟨b, -, -, f3, -⟩
      · exact g9
      · omega
    · rw [hv _ (by omega) (by omega)]; exact z1
    · rw [hv _ (by omega) (by omega)]; exact z2
  refine (l_comesOn h1 hs hN 32 0 _ _ (by rw [t_32s h1 hs]; rfl) rfl (by rw [s_at]; exact hjn)).mono ?_
  rintro r σ' ⟨x, rfl, -, w, rfl, hw, ew⟩
  rw [s_at] at ew
  refine ⟨x, rfl, w, s_ss, hw, ?_, fun i g1 g2 g3 g4 => by rw [ew i g1 g2, hv i g3 g4]⟩
  rw [ew _ (by omega) (by omega), u_ne (by omega)]
  exact u_at
theorem c_come {N : Nat} (a1 a2 : Int32) (σ : sm_S) (hj : jj N (σ 1)) (hN : N < 2147483000) : xC xM j_M_come [.ref 0, .int a1, .int a2] σ (sm_I (pub N 1 σ)) := by
  refine w_M_come a1 a2 σ _ (fun σ1 e1 => (c_isSpan a1 σ1).int ?_)
  have hj1 : jj N (σ1 1) := by rw [e1, s_ne (by decide)]; exact hj
  rintro x1 σ1 ⟨hx1, rfl⟩
  refine ⟨fun _ => ⟨_, rfl, pub_keep hj e1⟩, fun n1 => ?_⟩
  obtain ⟨-, s, hs, h1⟩ := hx1.resolve_right (fun z => n1 z.1)
  refine (c_spanState h1 hs _).int ?_
  rintro x2 σ1 ⟨hx2, rfl⟩
  refine ⟨fun _ => ⟨_, rfl, pub_keep hj e1⟩, fun n2 => (c_isIn a2 0 2 _).int ?_⟩
  have h0 : σ1 1 (2358 + 8 * s) = 0 := by rw [← hx2]; exact Classical.not_not.mp n2
  rintro x3 σ1 ⟨-, rfl⟩
  have hon : ∀ z : Int32, xC xM j_M_comesOn [.ref 0, .int a1, .int z] σ1 (sm_ri False (fun x9 σ8 => sm_I (pub N 1 σ) (some (.int x9)) σ8)) := by
    intro z
    refine (c_comesOn h1 hs hN _ hj1 h0).int ?_
    rintro y _ ⟨w, rfl, hw, -⟩
    exact ⟨_, rfl, pub_set e1 hw (by omega) (Nat.le_refl _)⟩
  refine ⟨fun _ => ⟨fun _ => hon _, fun _ => (c_zoneByRatio _).int ?_⟩, fun _ => ⟨_, rfl, pub_keep hj e1⟩⟩
  rintro y σ1 ⟨-, rfl⟩
  exact hon y
end
section
/-! ===== the model: whose turn it is; a span begins to go ===== -/
theorem l_manyOfNode {a1 a2 : Int32} (σ : sm_S) : ∀ (d k : Nat) (a3 a4 : Int32), a4.toInt = k → k < 100 → 8 ≤ k + 2 * d → xE xM m_M_manyOfNode 5 [.ref 0, .int a1, .int a2, .int a3, .int a4] [] σ (sm_I (fun _ σ' => σ' = σ)) := by
  intro d
  induction d with
  | zero =>
    intro k a3 a4 h4 hk hd
    refine w_M_manyOfNode_5 a1 a2 a3 a4 σ _ ⟨fun _ => ⟨_, rfl, rfl⟩, fun h => absurd ?_ h⟩
    rw [t_le, h4]
    show (8 : Int) ≤ _
    omega
  | succ d ih =>
    intro k a3 a4 h4 hk hd
    have h4' : (a4 + 2).toInt = ((k + 2 : Nat) : Int) := by
      rw [t_add h4 (y := 2) rfl (by omega) (by omega)]
      omega
    refine w_M_manyOfNode_5 a1 a2 a3 a4 σ _ ⟨fun _ => ⟨_, rfl, rfl⟩, fun h => ?_⟩
    rw [t_le, h4] at h
    have h : ¬ (8 : Int) ≤ k := h
    refine (c_spanState h4 (by omega) σ).int ?_
    rintro x σ ⟨-, rfl⟩
    exact ⟨fun _ => ⟨fun _ => ih (k + 2) _ _ h4' (by omega) (by omega), fun _ => ih (k + 2) _ _ h4' (by omega) (by omega)⟩, fun _ => ⟨fun _ => ih (k + 2) _ _ h4' (by omega) (by omega), fun _ => ih (k + 2) _ _ h4' (by omega) (by omega)⟩⟩
theorem c_manyOfNode {a1 a2 : Int32} {n : Nat} (h1 : a1.toInt = n) (hn : n < 2) (σ : sm_S) : xC xM j_M_manyOfNode [.ref 0, .int a1, .int a2] σ (sm_I (fun _ σ' => σ' = σ)) :=
  w_M_manyOfNode a1 a2 σ _ (l_manyOfNode σ 4 n 0 a1 h1 (by omega) (by omega))
theorem l_turnOf {a1 : Int32} (σ : sm_S) : ∀ (d k : Nat) (a2 : Int32), a2.toInt = k → k < 100 → 8 ≤ k + 2 * d → xE xM m_M_turnOf 41 [.ref 0, .int a1, .int a2] [] σ (sm_I (fun x σ' => (x = -1 ∨ ∃ s : Nat, x.toInt = s ∧ s < 8 ∧ σ 1 (2358 + 8 * s) = 0) ∧ σ' = σ)) := by
  intro d
  induction d with
  | zero =>
    intro k a2 h2 hk hd
    refine w_M_turnOf_41 a1 a2 σ _ ⟨fun _ => ⟨_, rfl, Or.inl rfl, rfl⟩, fun h => absurd ?_ h⟩
    rw [t_le, h2]
    show (8 : Int) ≤ _
    omega
  | succ d ih =>
    intro k a2 h2 hk hd
    have h2' : (a2 + 2).toInt = ((k + 2 : Nat) : Int) := by
      rw [t_add h2 (y := 2) rfl (by omega) (by omega)]
      omega
    refine w_M_turnOf_41 a1 a2 σ _ ⟨fun _ => ⟨_, rfl, Or.inl rfl, rfl⟩, fun h => ?_⟩
    rw [t_le, h2] at h
    have h : ¬ (8 : Int) ≤ k := h
    refine (c_spanState h2 (by omega) σ).int ?_
    rintro x σ ⟨hx, rfl⟩
    exact ⟨fun _ => ih (k + 2) _ h2' (by omega) (by omega), fun n0 => ⟨_, rfl, Or.inr ⟨k, h2, by omega, by rw [← hx]; exact Classical.not_not.mp n0⟩, rfl⟩⟩
theorem c_turnOf (σ : sm_S) : xC xM j_M_turnOf [.ref 0] σ (sm_I (fun x σ' => (x = -1 ∨ ∃ s : Nat, x.toInt = s ∧ s < 8 ∧ σ 1 (2358 + 8 * s) = 0) ∧ σ' = σ)) := by
  have l0 := l_turnOf (a1 := 0) σ 4 0 0 rfl (by omega) (by omega)
  have l1 := l_turnOf (a1 := 1) σ 4 1 1 rfl (by omega) (by omega)
  refine w_M_turnOf σ _ ((c_manyOfNode (n := 0) rfl (by omega) σ).int ?_)
  rintro x1 σ rfl
  refine ⟨fun _ => l1, fun _ => (c_manyOfNode (n := 1) rfl (by omega) _).int ?_⟩
  rintro x2 σ rfl
  refine ⟨fun _ => l0, fun _ => (c_manyOfNode (n := 0) rfl (by omega) _).int ?_⟩
  rintro x3 σ rfl
  refine (c_manyOfNode (n := 1) rfl (by omega) _).int ?_
  rintro x4 σ rfl
  exact ⟨fun _ => l1, fun _ => l0⟩
theorem l_byTurns {a1 : Int32} {n : Nat} (h1 : a1.toInt = n) (hn : n ≤ 8) : ∀ (d k N : Nat) (a2 : Int32) (σ : sm_S), a2.toInt = k → k + d = n → jj N (σ 1) → N + d < 2147480000 → xE xM m_M_byTurns 20 [.ref 0, .int a1, .int a2] [] σ (sm_I (fun _ σ' => ∃ w N', σ' = sm_set σ 1 w ∧ jj N' w ∧ N ≤ N' ∧ N' ≤ N + d)) := by
  intro d
  induction d with
  | zero =>
    intro k N a2 σ h2 hk hj hN
    refine w_M_byTurns_20 a1 a2 σ _ ⟨fun _ => ⟨_, rfl, σ 1, N, s_id.symm, hj, Nat.le_refl N, Nat.le_refl N⟩, fun h => absurd ?_ h⟩
    rw [t_le, h1, h2]
    omega
  | succ d ih =>
    intro k N a2 σ h2 hk hj hN
    have h2' : (a2 + 1).toInt = ((k + 1 : Nat) : Int) := by
      rw [t_add h2 (y := 1) rfl (by omega) (by omega)]
      omega
    obtain ⟨x0, hT⟩ := sm_C.det (c_turnOf σ)
    have keep : ∀ y : Int32, sm_I (fun _ σ' => ∃ w N', σ' = sm_set σ 1 w ∧ jj N' w ∧ N ≤ N' ∧ N' ≤ N + (d + 1)) (some (.int y)) σ := fun y => ⟨y, rfl, σ 1, N, s_id.symm, hj, Nat.le_refl N, by omega⟩
    refine w_M_byTurns_20 a1 a2 σ _ ⟨fun _ => keep _, fun _ => hT.int ?_⟩
    rintro x1 σ1 ⟨e1, hx1, rfl⟩
    refine ⟨fun _ => keep _, fun n1 => hT.int ?_⟩
    rintro x2 σ2 ⟨e2, hx2, rfl⟩
    obtain ⟨s, hs1, hs2, hs3⟩ := hx2.resolve_left (fun z => n1 (by rw [e1, ← e2]; exact z))
    refine (c_zoneByRatio _).int ?_
    rintro x3 σ3 ⟨-, rfl⟩
    refine (c_comesOn hs1 hs2 (by omega) _ hj hs3).int ?_
    rintro y _ ⟨w, rfl, hw, -⟩
    refine (ih (k + 1) (N + 1) (a2 + 1) _ h2' (by omega) (by rw [s_at]; exact hw) (by omega)).mono ?_
    rintro r σ' ⟨z, rfl, w2, N', rfl, hw2, l1, l2⟩
    exact ⟨z, rfl, w2, N', s_ss, hw2, by omega, by omega⟩
theorem c_byTurns {N : Nat} (a1 : Int32) (σ : sm_S) (hj : jj N (σ 1)) (hN : N < 2147470000) : xC xM j_M_byTurns [.ref 0, .int a1] σ (sm_I (pub N 8 σ)) := by
  refine w_M_byTurns a1 σ _ (fun σ1 e1 => (c_isIn a1 1 8 σ1).int ?_)
  have hj1 : jj N (σ1 1) := by rw [e1, s_ne (by decide)]; exact hj
  rintro x1 σ1 ⟨hx1, rfl⟩
  refine ⟨fun n1 => ?_, fun _ => ⟨_, rfl, pub_keep hj e1⟩⟩
  obtain ⟨-, g1, g2⟩ := hx1.resolve_right (fun z => n1 z.1)
  have g1 : 1 ≤ a1.toInt := g1
  have g2 : a1.toInt ≤ 8 := g2
  obtain ⟨n, hn⟩ := t_of (x := a1) (by omega)
  refine (l_byTurns hn (by omega) n 0 N 0 _ rfl (by omega) hj1 (by omega)).mono ?_
  rintro r σ' ⟨z, rfl, w, N', rfl, hw, l1, l2⟩
  exact ⟨z, rfl, pub_set e1 hw l1 (by omega)⟩
/-- another span that is on, of this zone -/
def onElse (v : Nat → Int32) (zone but : Int32) : Prop := ∃ s : Nat, s < 8 ∧ but.toInt ≠ s ∧ v (2358 + 8 * s) = 1 ∧ v (2358 + 8 * s + 1) = zone
theorem l_onMany {a1 a2 : Int32} (σ : sm_S) : ∀ (d k c : Nat) (a3 a4 : Int32), a4.toInt = k → k + d = 8 → a3.toInt = c → c ≤ k → (0 < c → onElse (σ 1) a1 a2) → xE xM m_M_onMany 5 [.ref 0, .int a1, .int a2, .int a3, .int a4] [] σ (sm_I (fun x σ' => (x ≤ 0 ∨ onElse (σ 1) a1 a2) ∧ σ' = σ)) := by
  intro d
  induction d with
  | zero =>
    intro k c a3 a4 h4 hk h3 hc hon
    refine w_M_onMany_5 a1 a2 a3 a4 σ _ ⟨fun _ => ⟨_, rfl, ?_, rfl⟩, fun h => absurd ?_ h⟩
    · rcases Nat.eq_zero_or_pos c with h | h
      · refine Or.inl ?_
        rw [t_le, h3, h]
        exact Int.le_refl _
      · exact Or.inr (hon h)
    · rw [t_le, h4]
      show (8 : Int) ≤ _
      omega
  | succ d ih =>
    intro k c a3 a4 h4 hk h3 hc hon
    have h4' : (a4 + 1).toInt = ((k + 1 : Nat) : Int) := by
      rw [t_add h4 (y := 1) rfl (by omega) (by omega)]
      omega
    have h3' : (a3 + 1).toInt = ((c + 1 : Nat) : Int) := by
      rw [t_add h3 (y := 1) rfl (by omega) (by omega)]
      omega
    have go := ih (k + 1) c a3 (a4 + 1) h4' (by omega) h3 (by omega) hon
    refine w_M_onMany_5 a1 a2 a3 a4 σ _ ⟨fun h => ?_, fun _ => ⟨fun _ => go, fun hne => (c_spanState h4 (by omega) σ).int ?_⟩⟩
    · rw [t_le, h4] at h
      have h : (8 : Int) ≤ k := h
      omega
    · rintro x σ ⟨hx, rfl⟩
      refine ⟨fun _ => go, fun h1 => (c_zoneOf h4 (by omega) _).int ?_⟩
      have h1 : σ 1 (2358 + 8 * k) = 1 := by rw [← hx]; exact Classical.not_not.mp h1
      rintro y σ ⟨hy, rfl⟩
      refine ⟨fun _ => go, fun hz => ih (k + 1) (c + 1) _ _ h4' (by omega) h3' (by omega) (fun _ => ⟨k, by omega, fun z => hne (t_inj (by rw [h4, z])), h1, ?_⟩)⟩
      rcases hy with ⟨g, -⟩ | ⟨-, g⟩
      · rw [h1] at g; exact absurd g (by decide)
      · rw [← g]; exact Classical.not_not.mp hz
theorem c_onMany (a1 a2 : Int32) (σ : sm_S) : xC xM j_M_onMany [.ref 0, .int a1, .int a2] σ (sm_I (fun x σ' => (x ≤ 0 ∨ onElse (σ 1) a1 a2) ∧ σ' = σ)) :=
  w_M_onMany a1 a2 σ _ (l_onMany σ 8 0 0 0 0 rfl rfl rfl (Nat.le_refl 0) (fun h => absurd h (Nat.lt_irrefl 0)))
theorem c_canGo (a1 : Int32) (σ : sm_S) : xC xM j_M_canGo [.ref 0, .int a1] σ (sm_I (fun x σ' => (x = 0 ∨ (x = 1 ∧ ∃ s : Nat, s < 8 ∧ a1.toInt = s ∧ σ 1 (2358 + 8 * s) = 1 ∧ onElse (σ 1) 0 a1)) ∧ σ' = σ)) := by
  refine w_M_canGo a1 σ _ ((c_isSpan a1 σ).int ?_)
  rintro x1 σ ⟨hx1, rfl⟩
  refine ⟨fun _ => ⟨Or.inl rfl, _, rfl, Or.inl rfl, rfl⟩, fun n1 => ?_⟩
  obtain ⟨-, s, hs, h1⟩ := hx1.resolve_right (fun z => n1 z.1)
  refine (c_spanState h1 hs _).int ?_
  rintro x2 σ ⟨hx2, rfl⟩
  refine ⟨fun _ => ⟨Or.inl rfl, _, rfl, Or.inl rfl, rfl⟩, fun n2 => (c_onMany 0 a1 _).int ?_⟩
  rintro x3 σ ⟨hx3, rfl⟩
  exact ⟨fun _ => ⟨Or.inl rfl, _, rfl, Or.inl rfl, rfl⟩, fun n3 => ⟨Or.inr rfl, _, rfl, Or.inr ⟨rfl, s, hs, h1, by rw [← hx2]; exact Classical.not_not.mp n2, hx3.resolve_left n3⟩, rfl⟩⟩
theorem c_isGoing {a1 : Int32} {s : Nat} (h1 : a1.toInt = s) (hs : s < 8) (σ : sm_S) : xC xM j_M_isGoing [.ref 0, .int a1] σ (sm_I (fun x σ' => ((x = 0 ∧ σ 1 (2358 + 8 * s) < 2) ∨ (x = 1 ∧ ¬ σ 1 (2358 + 8 * s) < 2)) ∧ σ' = σ)) := by
  refine w_M_isGoing a1 σ _ ((c_spanState h1 hs σ).int ?_)
  rintro _ σ ⟨rfl, rfl⟩
  exact ⟨fun h => ⟨Or.inl rfl, _, rfl, Or.inl ⟨rfl, h⟩, rfl⟩, fun h => ⟨Or.inr rfl, _, rfl, Or.inr ⟨rfl, h⟩, rfl⟩⟩
theorem c_beginsToGo {a1 : Int32} {s N : Nat} (h1 : a1.toInt = s) (hs : s < 8) (hN : N < 2147483000) (σ : sm_S) (hj : jj N (σ 1)) (hon : σ 1 (2358 + 8 * s) = 1) (hel : onElse (σ 1) 0 a1) : xC xM j_M_beginsToGo [.ref 0, .int a1] σ (sm_V (fun σ' => ∃ w, σ' = sm_set σ 1 w ∧ jj (N + 1) w ∧ w (2358 + 8 * s) = 2 ∧ ∀ i, 786 ≤ i → i < 2422 → (i < 2358 + 8 * s ∨ 2358 + 8 * s + 8 ≤ i) → w i = σ 1 i)) := by
  refine w_M_beginsToGo a1 σ _ ((c_spanAt a1 σ).int ?_)
  rintro _ σ ⟨rfl, rfl⟩
  obtain ⟨p0, q0⟩ := ixS (k := 0) (j := 0) h1 rfl (by omega)
  obtain ⟨p2, q2⟩ := ixS (k := 2) (j := 2) h1 rfl (by omega)
  obtain ⟨p3, q3⟩ := ixS (k := 3) (j := 3) h1 rfl (by omega)
  obtain ⟨p4, q4⟩ := ixS (k := 4) (j := 4) h1 rfl (by omega)
  obtain ⟨p5, q5⟩ := ixS (k := 5) (j := 5) h1 rfl (by omega)
  obtain ⟨p6, q6⟩ := ixS (k := 6) (j := 6) h1 rfl (by omega)
  rw [q0, q2, q3, q4, q5, q6]
  refine ⟨p0, fun σ1 e1 => ⟨p2, fun σ2 e2 => ⟨p3, fun σ3 e3 => ⟨p4, fun σ4 e4 => ⟨p5, fun σ5 e5 => ⟨p6, fun σ6 e6 => ⟨by decide, ?_⟩⟩⟩⟩⟩⟩⟩
  subst e6 e5 e4 e3 e2 e1
  simp only [s_at, s_ss]
  have hw0 : ∃ v, v = upd (upd (upd (upd (upd (upd (σ 1) (2358 + 8 * s + 0) 2) (2358 + 8 * s + 2) 0) (2358 + 8 * s + 3) 0) (2358 + 8 * s + 4) 0) (2358 + 8 * s + 5) 0) (2358 + 8 * s + 6) 0 := ⟨_, rfl⟩
  obtain ⟨v, hv⟩ := hw0
  rw [← hv]
  have hve : ∀ i, (i < 2358 + 8 * s ∨ 2358 + 8 * s + 8 ≤ i) → v i = σ 1 i := fun i hi => by rw [hv, u_ne (by omega), u_ne (by omega), u_ne (by omega), u_ne (by omega), u_ne (by omega), u_ne (by omega)]
  have hv0 : v (2358 + 8 * s + 0) = 2 := by rw [hv, u_ne (by omega), u_ne (by omega), u_ne (by omega), u_ne (by omega), u_ne (by omega), u_at]
  have hv2 : v (2358 + 8 * s + 2) = 0 := by rw [hv, u_ne (by omega), u_ne (by omega), u_ne (by omega), u_ne (by omega), u_at]
  have hv5 : v (2358 + 8 * s + 5) = 0 := by rw [hv, u_ne (by omega), u_at]
  have hv6 : v (2358 + 8 * s + 6) = 0 := by rw [hv, u_at]
  have hjn : jj N v := by
    refine ⟨fr_cong (fun i h1 h2 => hve _ (by omega)) (fun b k hb hk => hve _ (by omega)) hj.1, ?_, by rw [hve _ (by omega)]; exact hj.2.2⟩
    obtain ⟨st, pt, at', q, g1, g2, g3, g4, g5, g6, g7, g8, g9⟩ := hj.2.1.2.2.1 s hs
    have hst : st = 1 := by
      rw [show σ 1 (2358 + 8 * s + 0) = 1 from hon] at g1
      have g1 : (1 : Int) = st := g1
      omega
    have hq0 : q = 0 := by
      rcases g9 with g9 | ⟨b, -, -, f3, -⟩
      · exact g9
      · omega
    obtain ⟨s2, f1, f2, f3, f4⟩ := hel
    refine jr_span hs hj.2.1 (fun i _ _ h => hve i h) ?_ ⟨2, 0, 0, 0, by rw [hv0]; rfl, by omega, by rw [hv2]; rfl, by omega, fun _ => by omega, by rw [hv5]; rfl, by omega, by rw [hv6]; rfl, Or.inl rfl⟩ ⟨s2, f1, ?_, ?_⟩
    · apply t_inj
      rw [hv6, g8, hq0]
      rfl
    · rw [hve _ (by omega)]; exact f3
    · rw [hve _ (by omega)]; exact f4
  refine (c_writes' _ _ _ _ (by rw [s_at]; exact hjn) hN).void ?_
  rintro _ ⟨w, rfl, hw, ew⟩
  rw [s_at] at ew
  exact ⟨rfl, w, s_ss, hw, by rw [ew _ (by omega) (by omega)]; exact hv0, fun i g1 g2 g3 => by rw [ew i g2 (by omega), hve i g3]⟩
theorem c_go {N : Nat} (a1 : Int32) (σ : sm_S) (hj : jj N (σ 1)) (hN : N < 2147483000) : xC xM j_M_go [.ref 0, .int a1] σ (sm_I (pub N 1 σ)) := by
  refine w_M_go a1 σ _ (fun σ1 e1 => (c_canGo a1 σ1).int ?_)
  have hj1 : jj N (σ1 1) := by rw [e1, s_ne (by decide)]; exact hj
  rintro x1 σ1 ⟨hx1, rfl⟩
  refine ⟨fun n1 => ?_, fun _ => ⟨Or.inl rfl, _, rfl, pub_keep hj e1⟩⟩
  obtain ⟨-, s, hs, h1, h2, h3⟩ := hx1.resolve_left n1
  refine (c_beginsToGo h1 hs hN _ hj1 h2 h3).void ?_
  rintro _ ⟨w, rfl, hw, -⟩
  exact ⟨Or.inr rfl, _, rfl, pub_set e1 hw (by omega) (Nat.le_refl _)⟩
end
section
/-! ===== the model: a span's way ends ===== -/
/-- block n isn't on its way any more (at frame p now), its line is empty, span s has none on its way -/
theorem jr_back {v v' : Nat → Int32} {n s o p : Nat} (hn : n < 96) (hs : s < 8) (hj : jr v) (hq : (v (2358 + 8 * s + 6)).toInt = ((n + 1 : Nat) : Int)) (ho : (v (786 + 16 * n + 2)).toInt = o) (hp1 : (v' (786 + 16 * n + 1)).toInt = p) (hp2 : p < 256) (hp3 : p % 2 ^ o = 0)
    (e6 : v' (786 + 16 * n + 6) = 0) (e7 : v' (786 + 16 * n + 7) = 0) (e9 : v' (786 + 16 * n + 9) = 0) (eS : v' (2358 + 8 * s + 6) = 0)
    (e : ∀ i, 786 ≤ i → i < 2422 → i ≠ 786 + 16 * n + 1 → i ≠ 786 + 16 * n + 6 → i ≠ 786 + 16 * n + 7 → i ≠ 786 + 16 * n + 9 → i ≠ 2358 + 8 * s + 6 → v' i = v i) : jr v' := by
  obtain ⟨j1, j2, j3, j4, s0, hs0, z1, z2⟩ := hj
  have hns : ∃ fr : Nat, (v (786 + 16 * n + 1)).toInt = fr ∧ fr / 32 = s := by
    obtain ⟨st, pt, at', q, -, -, -, -, -, -, -, g8, g9⟩ := j3 s hs
    rw [hq] at g8
    rcases g9 with g9 | ⟨b, f1, f2, -, -, fr, f5, f6⟩
    · omega
    · have : b = n := by omega
      subst this
      exact ⟨fr, f5, f6⟩
  refine ⟨fun b hb => ?_, fun b hb => ?_, fun s2 hs2 => ?_, fun b hb => ?_, s0, hs0, ?_, ?_⟩
  · obtain ⟨o2, fr, h1, h2, h3, h4, h5, h6, h7, h8⟩ := j1 b hb
    by_cases hbn : b = n
    · subst hbn
      have hoo : o2 = o := by rw [ho] at h1; omega
      subst hoo
      refine ⟨o2, p, ?_, h2, hp1, hp2, hp3, ?_, ⟨0, by rw [e6]; rfl, Or.inl rfl⟩, by rw [e7]; decide⟩
      · rw [e _ (by omega) (by omega) (by omega) (by omega) (by omega) (by omega) (by omega)]; exact h1
      · rw [e _ (by omega) (by omega) (by omega) (by omega) (by omega) (by omega) (by omega)]; exact h6
    · exact bk_cong (fun k hk _ _ _ => e _ (by omega) (by omega) (by omega) (by omega) (by omega) (by omega) (by omega)) ⟨o2, fr, h1, h2, h3, h4, h5, h6, h7, h8⟩
  · by_cases hbn : b = n
    · subst hbn
      exact ⟨0, o, by rw [e9]; rfl, by omega, by rw [e _ (by omega) (by omega) (by omega) (by omega) (by omega) (by omega) (by omega)]; exact ho, fun h => by omega, fun k hk => by omega, fun k m _ hm => by omega⟩
    · exact ln_cong (fun k hk _ _ _ => e _ (by omega) (by omega) (by omega) (by omega) (by omega) (by omega) (by omega)) (fun t k ht hk => e _ (by omega) (by omega) (by omega) (by omega) (by omega) (by omega) (by omega)) (j2 b hb)
  · obtain ⟨st, pt, at', q, h1, h2, h3, h4, h5, h6, h7, h8, h9⟩ := j3 s2 hs2
    by_cases hss : s2 = s
    · subst hss
      refine ⟨st, pt, at', 0, ?_, h2, ?_, h4, h5, ?_, h7, by rw [eS]; rfl, Or.inl rfl⟩
      · rw [e _ (by omega) (by omega) (by omega) (by omega) (by omega) (by omega) (by omega)]; exact h1
      · rw [e _ (by omega) (by omega) (by omega) (by omega) (by omega) (by omega) (by omega)]; exact h3
      · rw [e _ (by omega) (by omega) (by omega) (by omega) (by omega) (by omega) (by omega)]; exact h6
    · refine ⟨st, pt, at', q, ?_, h2, ?_, h4, h5, ?_, h7, ?_, ?_⟩
      · rw [e _ (by omega) (by omega) (by omega) (by omega) (by omega) (by omega) (by omega)]; exact h1
      · rw [e _ (by omega) (by omega) (by omega) (by omega) (by omega) (by omega) (by omega)]; exact h3
      · rw [e _ (by omega) (by omega) (by omega) (by omega) (by omega) (by omega) (by omega)]; exact h6
      · rw [e _ (by omega) (by omega) (by omega) (by omega) (by omega) (by omega) (by omega)]; exact h8
      · rcases h9 with h9 | ⟨b, g1, g2, g3, g4, fr, g5, g6⟩
        · exact Or.inl h9
        · have hbn : b ≠ n := fun z => by
            subst z
            obtain ⟨fr2, f1, f2⟩ := hns
            rw [g5] at f1
            have : fr = fr2 := by omega
            subst this
            omega
          refine Or.inr ⟨b, g1, g2, g3, ?_, fr, ?_, g6⟩ <;> rw [e _ (by omega) (by omega) (by omega) (by omega) (by omega) (by omega) (by omega)] <;> assumption
  · intro hb6
    by_cases hbn : b = n
    · subst hbn; exact absurd e6 hb6
    · rw [e _ (by omega) (by omega) (by omega) (by omega) (by omega) (by omega) (by omega)] at hb6
      obtain ⟨h1, fr, h2, h3, h4⟩ := j4 b hb hb6
      have hfs : fr / 32 ≠ s := fun z => by
        rw [z, hq] at h4
        omega
      refine ⟨?_, fr, ?_, h3, ?_⟩ <;> rw [e _ (by omega) (by omega) (by omega) (by omega) (by omega) (by omega) (by omega)] <;> assumption
  · rw [e _ (by omega) (by omega) (by omega) (by omega) (by omega) (by omega) (by omega)]; exact z1
  · rw [e _ (by omega) (by omega) (by omega) (by omega) (by omega) (by omega) (by omega)]; exact z2
/-- who waits, out of ln_ok -/
theorem ln_line {v : Nat → Int32} {n : Nat} (h : ln_ok v n) : ∃ L o : Nat, (v (786 + 16 * n + 9)).toInt = L ∧ L ≤ 6 ∧ (v (786 + 16 * n + 2)).toInt = o ∧ lineOf v n o L := by
  obtain ⟨L, o, h1, h2, h3, -, h5, -⟩ := h
  refine ⟨L, o, h1, h2, h3, fun j hj => ?_⟩
  obtain ⟨t, a, g1, g2, g3, g4, g5⟩ := h5 j hj
  exact ⟨t, a, g1, g2, g4, g5, Or.inl g3⟩
theorem l_opens {a1 a2 : Int32} {s N : Nat} (h1 : a1.toInt = s) (hs : s < 8) : ∀ (d k : Nat) (a3 : Int32) (σ : sm_S), a3.toInt = ((32 * s + k : Nat) : Int) → k + d = 32 → jj N (σ 1) → xE xM m_M_opens 47 [.ref 0, .int a1, .int a2, .int a3] [] σ (sm_V (fun σ' => ∃ w, σ' = sm_set σ 1 w ∧ jj N w ∧ ∀ i, 786 ≤ i → i < 2422 → w i = σ 1 i)) := by
  have hb : ((32 * a1) + 32).toInt = ((32 * s + 32 : Nat) : Int) := by
    rw [t_add (t_32s h1 hs) (y := 32) rfl (by omega) (by omega)]
    omega
  intro d
  induction d with
  | zero =>
    intro k a3 σ h3 hk hj
    refine w_M_opens_47 a1 a2 a3 σ _ ⟨fun _ => ⟨rfl, σ 1, s_id.symm, hj, fun _ _ _ => rfl⟩, fun h => absurd ?_ h⟩
    rw [t_le, hb, h3]
    omega
  | succ d ih =>
    intro k a3 σ h3 hk hj
    have h3' : (a3 + 1).toInt = ((32 * s + (k + 1) : Nat) : Int) := by
      rw [t_add h3 (y := 1) rfl (by omega) (by omega)]
      omega
    refine w_M_opens_47 a1 a2 a3 σ _ ⟨fun h => ?_, fun _ => (c_stateOf h3 (by omega) σ).int ?_⟩
    · rw [t_le, hb, h3] at h
      omega
    · rintro x σ ⟨-, rfl⟩
      refine ⟨fun _ => ih (k + 1) _ _ h3' (by omega) hj, fun _ => (c_frameAt a3 _).int ?_⟩
      rintro _ σ ⟨rfl, rfl⟩
      obtain ⟨p1, q1⟩ := ixF (k := 0) (j := 0) h3 rfl (by omega)
      rw [q1]
      refine ⟨p1, fun σ1 e1 => ?_⟩
      subst e1
      have hj1 : jj N (upd (σ 1) (18 + 3 * (32 * s + k) + 0) 1) := jj_fr (fr_st1 (f := 32 * s + k) rfl (by decide) (by omega) hj.1) (fr_upd (by omega) (by omega)) hj
      refine (ih (k + 1) (a3 + 1) _ h3' (by omega) (by rw [s_at]; exact hj1)).mono ?_
      rintro r σ' ⟨rfl, w, rfl, hw, ew⟩
      rw [s_at] at ew
      exact ⟨rfl, w, s_ss, hw, fun i g1 g2 => by rw [ew i g1 g2, u_ne (by omega)]⟩
theorem c_opens {a1 : Int32} {s N : Nat} (h1 : a1.toInt = s) (hs : s < 8) (σ : sm_S) (hj : jj N (σ 1)) (h6 : σ 1 (2358 + 8 * s + 6) = 0) : xC xM j_M_opens [.ref 0, .int a1] σ (sm_V (fun σ' => ∃ w, σ' = sm_set σ 1 w ∧ jj N w ∧ w (2358 + 8 * s) = 1 ∧ ∀ i, 786 ≤ i → i < 2422 → (i < 2358 + 8 * s ∨ 2358 + 8 * s + 8 ≤ i) → w i = σ 1 i)) := by
  refine w_M_opens a1 σ _ ((c_spanAt a1 σ).int ?_)
  rintro _ σ ⟨rfl, rfl⟩
  obtain ⟨p0, q0⟩ := ixS (k := 0) (j := 0) h1 rfl (by omega)
  obtain ⟨p2, q2⟩ := ixS (k := 2) (j := 2) h1 rfl (by omega)
  obtain ⟨p3, q3⟩ := ixS (k := 3) (j := 3) h1 rfl (by omega)
  obtain ⟨p4, q4⟩ := ixS (k := 4) (j := 4) h1 rfl (by omega)
  rw [q0, q2, q3, q4]
  refine ⟨p0, fun σ1 e1 => ⟨p2, fun σ2 e2 => ⟨p3, fun σ3 e3 => ⟨p4, fun σ4 e4 => ?_⟩⟩⟩⟩
  subst e4 e3 e2 e1
  simp only [s_at, s_ss]
  have hw0 : ∃ v, v = upd (upd (upd (upd (σ 1) (2358 + 8 * s + 0) 1) (2358 + 8 * s + 2) 0) (2358 + 8 * s + 3) 0) (2358 + 8 * s + 4) 0 := ⟨_, rfl⟩
  obtain ⟨v, hv⟩ := hw0
  rw [← hv]
  have hve : ∀ i, i ≠ 2358 + 8 * s + 0 → i ≠ 2358 + 8 * s + 2 → i ≠ 2358 + 8 * s + 3 → i ≠ 2358 + 8 * s + 4 → v i = σ 1 i := fun i h1 h2 h3 h4 => by rw [hv, u_ne h4, u_ne h3, u_ne h2, u_ne h1]
  have hv0 : v (2358 + 8 * s + 0) = 1 := by rw [hv, u_ne (by omega), u_ne (by omega), u_ne (by omega), u_at]
  have hv2 : v (2358 + 8 * s + 2) = 0 := by rw [hv, u_ne (by omega), u_ne (by omega), u_at]
  have hjn : jj N v := by
    refine ⟨fr_cong (fun i h1 h2 => hve _ (by omega) (by omega) (by omega) (by omega)) (fun b k hb hk => hve _ (by omega) (by omega) (by omega) (by omega)) hj.1, ?_, by rw [hve _ (by omega) (by omega) (by omega) (by omega)]; exact hj.2.2⟩
    obtain ⟨st, pt, at', q, g1, g2, g3, g4, g5, g6, g7, g8, g9⟩ := hj.2.1.2.2.1 s hs
    obtain ⟨s2, f1, f2, f3⟩ := hj.2.1.2.2.2.2
    refine jr_span hs hj.2.1 (fun i _ _ h => hve i (by omega) (by omega) (by omega) (by omega)) (hve _ (by omega) (by omega) (by omega) (by omega)) ⟨1, 0, at', 0, by rw [hv0]; rfl, by omega, by rw [hv2]; rfl, by omega, fun _ => by omega, ?_, g7, ?_, Or.inl rfl⟩ ⟨s2, f1, ?_, ?_⟩
    · rw [hve _ (by omega) (by omega) (by omega) (by omega)]; exact g6
    · rw [hve _ (by omega) (by omega) (by omega) (by omega), h6]; rfl
    · by_cases hss : s2 = s
      · subst hss; exact hv0
      · rw [hve _ (by omega) (by omega) (by omega) (by omega)]; exact f2
    · rw [hve _ (by omega) (by omega) (by omega) (by omega)]; exact f3
  refine (l_opens h1 hs 32 0 _ _ (by rw [t_32s h1 hs]; rfl) rfl (by rw [s_at]; exact hjn)).mono ?_
  rintro r σ' ⟨rfl, w, rfl, hw, ew⟩
  rw [s_at] at ew
  exact ⟨rfl, w, s_ss, hw, by rw [ew _ (by omega) (by omega)]; exact hv0, fun i g1 g2 g3 => by rw [ew i g1 g2, hve i (by omega) (by omega) (by omega) (by omega)]⟩
end
section
/-! ===== the model: staysBack, fails, giveUp ===== -/
theorem l_staysBack {a1 a2 a3 : Int32} {s n o p N : Nat} (h1 : a1.toInt = s) (hs : s < 8) (h2 : a2.toInt = n) (hn : n < 96) (h3 : a3.toInt = p) (hp : p < 256) (hpa : p % 2 ^ o = 0) (ho4 : o ≤ 4) (hN : N < 2147470000) : ∀ (d k : Nat) (a4 : Int32) (σ : sm_S), a4.toInt = k → k + d = 2 ^ o → jj N (σ 1) → (σ 1 (786 + 16 * n + 2)).toInt = o → (σ 1 (2358 + 8 * s + 6)).toInt = ((n + 1 : Nat) : Int) →
    xE xM m_M_staysBack 35 [.ref 0, .int a1, .int a2, .int a3, .int a4] [] σ (sm_V (fun σ' => ∃ w N', σ' = sm_set σ 1 w ∧ jj N' w ∧ N ≤ N' ∧ N' ≤ N + 6 ∧ w (2358 + 8 * s + 6) = 0 ∧ ∀ i, 2358 ≤ i → i < 2422 → i ≠ 2358 + 8 * s + 6 → w i = σ 1 i)) := by
  have hpw := t_pw (k := o) (by omega)
  have hs2 := t_al (k := o) (by omega) hpa
  intro d
  induction d with
  | zero =>
    intro k a4 σ h4 hk hj ho hS
    refine w_M_staysBack_35 a1 a2 a3 a4 σ _ ((c_longOf h2 hn σ).int ?_)
    rintro _ σ ⟨rfl, rfl⟩
    refine ⟨fun _ => (c_lay (k := 6) (j := 6) h2 rfl (by omega) 0 _).void ?_, fun h => absurd ?_ h⟩
    · rintro _ rfl
      refine (c_lay (k := 7) (j := 7) h2 rfl (by omega) 0 _).void ?_
      rintro _ rfl
      refine (c_spanAt a1 _).int ?_
      rintro _ σ1 ⟨rfl, e1⟩
      obtain ⟨p6, q6⟩ := ixS (k := 6) (j := 6) h1 rfl (by omega)
      rw [q6]
      refine ⟨p6, fun σ2 e2 => ?_⟩
      subst e2 e1
      simp only [s_at, s_ss]
      have hw0 : ∃ v, v = upd (upd (upd (σ 1) (786 + 16 * n + 6) 0) (786 + 16 * n + 7) 0) (2358 + 8 * s + 6) 0 := ⟨_, rfl⟩
      obtain ⟨v, hv⟩ := hw0
      rw [← hv]
      have hve : ∀ i, i ≠ 786 + 16 * n + 6 → i ≠ 786 + 16 * n + 7 → i ≠ 2358 + 8 * s + 6 → v i = σ 1 i := fun i g1 g2 g3 => by rw [hv, u_ne g3, u_ne g2, u_ne g1]
      obtain ⟨L, oL, l1, l2, l3, l4⟩ := ln_line (hj.2.1.2.1 n hn)
      have hoo : oL = o := by rw [ho] at l3; omega
      subst hoo
      obtain ⟨o2, fr, b1, b2, b3, b4, b5, -⟩ := hj.2.1.1 n hn
      have hoo : o2 = oL := by rw [ho] at b1; omega
      subst hoo
      have hal := t_al (k := o2) (by omega) b5
      have hjb : jj N (upd v (786 + 16 * n + 9) 0) := by
        refine ⟨fr_cong (fun i h1 h2 => by rw [u_ne (by omega), hve _ (by omega) (by omega) (by omega)]) (fun b k hb hk => by rw [u_ne (by omega), hve _ (by omega) (by omega) (by omega)]) hj.1, ?_, by rw [u_ne (by omega), hve _ (by omega) (by omega) (by omega)]; exact hj.2.2⟩
        refine jr_back (p := fr) hn hs hj.2.1 hS ho ?_ b4 b5 ?_ ?_ u_at ?_ (fun i g1 g2 g3 g4 g5 g6 g7 => by rw [u_ne g6, hve i g4 g5 g7])
        · rw [u_ne (by omega), hve _ (by omega) (by omega) (by omega)]; exact b3
        · rw [u_ne (by omega), hv, u_ne (by omega), u_ne (by omega), u_at]
        · rw [u_ne (by omega), hv, u_ne (by omega), u_at]
        · rw [u_ne (by omega), hv, u_at]
      refine (c_wakes (L := L) (fr := fr) (o := o2) (N := N) h2 hn _ (by rw [s_at, hve _ (by omega) (by omega) (by omega)]; exact l1) l2 (by rw [s_at, hve _ (by omega) (by omega) (by omega)]; exact b3) (by omega) ?_ (by rw [s_at]; exact hjb) (by omega)).void ?_
      · intro j hjL
        obtain ⟨t, a, g1, g2, g3, g4, g5⟩ := l4 j hjL
        rw [s_at]
        refine ⟨t, a, g1, ?_, ?_, g4, ?_⟩ <;> rw [hve _ (by omega) (by omega) (by omega)] <;> assumption
      · rintro _ ⟨w, N', rfl, hw, k1, k2, ew, -⟩
        rw [s_at] at ew
        refine ⟨rfl, w, N', s_ss, hw, k1, k2, ?_, fun i g1 g2 g3 => ?_⟩
        · rw [ew _ (by omega) (by omega) (by omega) (by omega) (by omega) (by omega), hv, u_at]
        · rw [ew _ (by omega) (by omega) (by omega) (by omega) (by omega) (by omega), hve _ (by omega) (by omega) (by omega)]
    · rw [t_le, t_pow ho (by omega), h4]
      omega
  | succ d ih =>
    intro k a4 σ h4 hk hj ho hS
    have h4' : (a4 + 1).toInt = ((k + 1 : Nat) : Int) := by
      rw [t_add h4 (y := 1) rfl (by omega) (by omega)]
      omega
    have hto := t_add h3 h4 (by omega) (by omega)
    rw [← Int.natCast_add] at hto
    refine w_M_staysBack_35 a1 a2 a3 a4 σ _ ((c_longOf h2 hn σ).int ?_)
    rintro _ σ ⟨rfl, rfl⟩
    refine ⟨fun h => ?_, fun _ => (c_leaves' hto (by omega) _ hj.1).void ?_⟩
    · rw [t_le, t_pow ho (by omega), h4] at h
      omega
    · rintro _ ⟨v, rfl, g1, g2, -⟩
      refine (ih (k + 1) (a4 + 1) _ h4' (by omega) (by rw [s_at]; exact jj_fr g1 g2 hj) (by rw [s_at, g2 _ (by omega)]; exact ho) (by rw [s_at, g2 _ (by omega)]; exact hS)).mono ?_
      rintro r σ' ⟨rfl, w, N', rfl, hw, k1, k2, k3, ew⟩
      rw [s_at] at ew
      exact ⟨rfl, w, N', s_ss, hw, k1, k2, k3, fun i f1 f2 f3 => by rw [ew i f1 f2 f3, g2 i (by omega)]⟩
theorem c_staysBack {a1 : Int32} {s N : Nat} (h1 : a1.toInt = s) (hs : s < 8) (hN : N < 2147470000) (σ : sm_S) (hj : jj N (σ 1)) : xC xM j_M_staysBack [.ref 0, .int a1] σ (sm_V (fun σ' => ∃ w N', σ' = sm_set σ 1 w ∧ jj N' w ∧ N ≤ N' ∧ N' ≤ N + 6 ∧ w (2358 + 8 * s + 6) = 0 ∧ ∀ i, 2358 ≤ i → i < 2422 → i ≠ 2358 + 8 * s + 6 → w i = σ 1 i)) := by
  refine w_M_staysBack a1 σ _ ((c_spanAt a1 σ).int ?_)
  rintro _ σ ⟨rfl, rfl⟩
  obtain ⟨p6, q6⟩ := ixS (k := 6) (j := 6) h1 rfl (by omega)
  rw [q6]
  obtain ⟨st, pt, at', q, g1, g2, g3, g4, g5, g6, g7, g8, g9⟩ := hj.2.1.2.2.1 s hs
  have hq1 : (σ 1 (2358 + 8 * s + 6) - 1).toInt = (q : Int) - 1 := by
    have hqb : q ≤ 96 := by
      rcases g9 with g9 | ⟨b, f1, f2, -⟩ <;> omega
    exact t_sub g8 (y := 1) rfl (by omega) (by omega)
  refine ⟨p6, fun hne => ?_, fun he => ⟨rfl, σ 1, N, s_id.symm, hj, Nat.le_refl N, by omega, ?_, fun _ _ _ _ => rfl⟩⟩
  · rcases g9 with g9 | ⟨b, f1, f2, f3, f4, fr, f5, f6⟩
    · exact absurd (t_inj (by rw [hq1, g9]; rfl)) hne
    · have hb : (σ 1 (2358 + 8 * s + 6) - 1).toInt = b := by rw [hq1]; omega
      obtain ⟨o, fr2, b1, b2, b3, b4, b5, b6, ⟨t, b7, b8⟩, b9⟩ := hj.2.1.1 b f1
      have ht1 : 1 ≤ t ∧ t ≤ 256 ∧ (t - 1) % 2 ^ o = 0 := b8.resolve_left (fun z => f4 (t_inj (by rw [b7, z]; rfl)))
      refine (c_of (k := 6) (j := 6) hb rfl (by omega) _).int ?_
      rintro y σ ⟨hy, rfl⟩
      have hy1 : (y - 1).toInt = ((t - 1 : Nat) : Int) := by
        rw [hy, t_sub b7 (y := 1) rfl (by omega) (by omega)]
        omega
      have hpw := t_pw (k := o) (by omega)
      exact l_staysBack h1 hs hb f1 hy1 (by omega) ht1.2.2 b2 hN (2 ^ o) 0 0 _ rfl (by omega) hj b1 (by rw [g8, f2])
  · have he : σ 1 (2358 + 8 * s + 6) - 1 = -1 := Classical.not_not.mp he
    apply t_inj
    rw [he] at hq1
    have hq1 : (-1 : Int) = (q : Int) - 1 := hq1
    rw [g8]
    show (q : Int) = 0
    omega
theorem c_fails {a1 a2 : Int32} {s N : Nat} (h1 : a1.toInt = s) (hs : s < 8) (hN : N < 2147460000) (σ : sm_S) (hj : jj N (σ 1)) : xC xM j_M_fails [.ref 0, .int a1, .int a2] σ (sm_V (fun σ' => ∃ w N', σ' = sm_set σ 1 w ∧ jj N' w ∧ N ≤ N' ∧ N' ≤ N + 7 ∧ w (2358 + 8 * s) = 1 ∧ ∀ i, 2358 ≤ i → i < 2422 → (i < 2358 + 8 * s ∨ 2358 + 8 * s + 8 ≤ i) → w i = σ 1 i)) := by
  refine w_M_fails a1 a2 σ _ ((c_staysBack h1 hs (by omega) σ hj).void ?_)
  rintro _ ⟨w1, N1, rfl, hw1, a1', a2', a3', a4'⟩
  refine (c_opens h1 hs _ (by rw [s_at]; exact hw1) (by rw [s_at]; exact a3')).void ?_
  rintro _ ⟨w2, rfl, hw2, b1, b2⟩
  rw [s_at] at b2
  refine (c_spanAt a1 _).int ?_
  rintro _ σ1 ⟨rfl, e1⟩
  obtain ⟨p7, q7⟩ := ixS (k := 7) (j := 7) h1 rfl (by omega)
  rw [q7]
  refine ⟨p7, fun σ2 e2 => ?_⟩
  subst e2 e1
  simp only [s_at, s_ss]
  refine (c_counts (k := 7) (j := 7) rfl (by omega) 1 _).void ?_
  rintro _ rfl
  simp only [s_at, s_ss]
  have hj3 := jj_low (i := 7 + 7) (x := upd w2 (2358 + 8 * s + 7) (a2 + 1) (7 + 7) + 1) (by omega) (by omega) (jj_cell (i := 2358 + 8 * s + 7) (x := a2 + 1) (by omega) (Or.inr (Or.inr ⟨s, hs, Or.inr (Or.inr rfl)⟩)) hw2)
  refine (c_writes' _ _ _ _ (by rw [s_at]; exact hj3) (by omega)).void ?_
  rintro _ ⟨w3, rfl, hw3, c1⟩
  rw [s_at] at c1
  refine ⟨rfl, w3, N1 + 1, s_ss, hw3, by omega, by omega, ?_, fun i g1 g2 g3 => ?_⟩
  · rw [c1 _ (by omega) (by omega), u_ne (by omega), u_ne (by omega)]; exact b1
  · rw [c1 _ (by omega) (by omega), u_ne (by omega), u_ne (by omega), b2 i (by omega) (by omega) g3, a4' i g1 g2 (by omega)]
theorem c_giveUp {N : Nat} (a1 : Int32) (σ : sm_S) (hj : jj N (σ 1)) (hN : N < 2147460000) : xC xM j_M_giveUp [.ref 0, .int a1] σ (sm_I (pub N 7 σ)) := by
  refine w_M_giveUp a1 σ _ (fun σ1 e1 => (c_isSpan a1 σ1).int ?_)
  have hj1 : jj N (σ1 1) := by rw [e1, s_ne (by decide)]; exact hj
  rintro x1 σ1 ⟨hx1, rfl⟩
  refine ⟨fun _ => ⟨Or.inl rfl, _, rfl, pub_keep hj e1⟩, fun n1 => ?_⟩
  obtain ⟨-, s, hs, h1⟩ := hx1.resolve_right (fun z => n1 z.1)
  refine (c_isGoing h1 hs _).int ?_
  rintro x2 σ1 ⟨-, rfl⟩
  refine ⟨fun _ => (c_fails h1 hs hN _ hj1).void ?_, fun _ => ⟨Or.inl rfl, _, rfl, pub_keep hj e1⟩⟩
  rintro _ ⟨w, N', rfl, hw, k1, k2, -⟩
  exact ⟨Or.inr rfl, _, rfl, pub_set e1 hw k1 k2⟩
end
section
/-! ===== the model: the first block of a span; a block is passed; a part is shut ===== -/
theorem t_dec {x : Int32} {m : Nat} (h : x.toInt = m) : (x - 1).toInt = (m : Int) - 1 := by
  have := t_bd x
  exact t_sub h (y := 1) rfl (by omega) (by omega)
/-- of, also for the number -1 -/
theorem c_ofm {b k : Int32} {m j : Nat} (hb : b.toInt = (m : Int) - 1) (hm : m ≤ 96) (hk : k.toInt = j) (hj : j < 16) (σ : sm_S) : xC xM j_M_of [.ref 0, .int b, .int k] σ (sm_I (fun x σ' => x = σ 1 (770 + 16 * m + j) ∧ σ' = σ)) := by
  refine w_M_of b k σ _ ((c_blockAt b σ).int ?_)
  rintro _ _ ⟨rfl, rfl⟩
  have h0 : (16 * b).toInt = 16 * ((m : Int) - 1) := t_mul (x := 16) rfl hb (by omega) (by omega)
  have h1 := t_add (a := 786) (x := 786) rfl h0 (by omega) (by omega)
  have h2 := t_add h1 hk (by omega) (by omega)
  have h3 : (786 + 16 * b + k).toInt = ((770 + 16 * m + j : Nat) : Int) := by rw [h2]; omega
  rw [t_nat h3]
  exact ⟨t_vp h3 (by omega), _, rfl, rfl, rfl⟩
theorem c_frameOfm {b : Int32} {m : Nat} (hb : b.toInt = (m : Int) - 1) (hm : m ≤ 96) (σ : sm_S) : xC xM j_M_frameOf [.ref 0, .int b] σ (sm_I (fun x σ' => x = σ 1 (770 + 16 * m + 1) ∧ σ' = σ)) := by
  refine w_M_frameOf b σ _ ((c_ofm (k := 1) (j := 1) hb hm rfl (by omega) σ).int ?_)
  rintro _ _ ⟨rfl, rfl⟩
  exact ⟨_, rfl, rfl, rfl⟩
/-- none, or a block whose first frame is taken, in the span, from there on -/
def fbk (v : Nat → Int32) (s fm : Nat) (x : Int32) : Prop := x = -1 ∨ ∃ n fr : Nat, x.toInt = n ∧ n < 96 ∧ v (786 + 16 * n + 0) = 1 ∧ (v (786 + 16 * n + 1)).toInt = fr ∧ fr < 256 ∧ fr / 32 = s ∧ fm ≤ fr % 32 ∧ v (18 + 3 * fr) = 3 ∧ (v (18 + 3 * fr + 1)).toInt = ((n + 1 : Nat) : Int)
theorem l_firstBlock {a1 a2 : Int32} {s N fm : Nat} (h1 : a1.toInt = s) (hs : s < 8) (σ : sm_S) (hj : jj N (σ 1)) : ∀ (d k : Nat) (a3 : Int32) (v4 v5 : Value), a3.toInt = k → k + d = 32 → fm ≤ k →
    xE xM m_M_firstBlock 2 [.ref 0, .int a1, .int a2, .int a3, v4, v5] [] σ (sm_I (fun x σ' => fbk (σ 1) s fm x ∧ σ' = σ)) := by
  intro d
  induction d with
  | zero =>
    intro k a3 v4 v5 h3 hk hfm
    refine w_M_firstBlock_2 a1 a2 a3 v4 v5 σ _ ⟨fun _ => ⟨_, rfl, Or.inl rfl, rfl⟩, fun h => absurd ?_ h⟩
    rw [t_le, h3]
    show (32 : Int) ≤ _
    omega
  | succ d ih =>
    intro k a3 v4 v5 h3 hk hfm
    have h3' : (a3 + 1).toInt = ((k + 1 : Nat) : Int) := by
      rw [t_add h3 (y := 1) rfl (by omega) (by omega)]
      omega
    have hf : (32 * a1 + a3).toInt = ((32 * s + k : Nat) : Int) := by
      rw [t_add (t_32s h1 hs) h3 (by omega) (by omega)]
      omega
    refine w_M_firstBlock_2 a1 a2 a3 v4 v5 σ _ ⟨fun h => ?_, fun _ => (c_frameAt _ σ).int ?_⟩
    · rw [t_le, h3] at h
      have h : (32 : Int) ≤ k := h
      omega
    · rintro _ σ ⟨rfl, rfl⟩
      obtain ⟨p1, q1⟩ := ixF (k := 1) (j := 1) hf rfl (by omega)
      rw [q1]
      refine ⟨p1, (c_stateOf hf (by omega) _).int ?_⟩
      rintro x4 σ ⟨hx4, rfl⟩
      obtain ⟨g1, g2⟩ := hj.1.1 (32 * s + k) (by omega)
      obtain ⟨m, hm⟩ := t_of g1
      have hm96 : m ≤ 96 := by omega
      refine ⟨fun _ => ih (k + 1) _ _ _ h3' (by omega) (by omega), fun n3 => (c_frameOfm (t_dec hm) hm96 _).int ?_⟩
      have hst : σ 1 (18 + 3 * (32 * s + k)) = 3 := by rw [← hx4]; exact Classical.not_not.mp n3
      rintro x6 σ ⟨hx6, rfl⟩
      refine ⟨fun _ => ih (k + 1) _ _ _ h3' (by omega) (by omega), fun n6 => ⟨_, rfl, ?_, rfl⟩⟩
      have e6 : x6 = 32 * a1 + a3 := Classical.not_not.mp n6
      by_cases hm0 : m = 0
      · refine Or.inl (t_inj ?_)
        rw [t_dec hm, hm0]
        rfl
      · have hx6' : σ 1 (786 + 16 * (m - 1) + 1) = 32 * a1 + a3 := by
          rw [← e6, hx6]
          congr 1
          omega
        have hb : (σ 1 (18 + 3 * (32 * s + k) + 1)).toInt = ((m - 1 + 1 : Nat) : Int) := by rw [hm]; omega
        refine Or.inr ⟨m - 1, 32 * s + k, ?_, by omega, ?_, by rw [hx6']; exact hf, by omega, by omega, by omega, hst, hb⟩
        · rw [t_dec hm]; omega
        · exact (hj.1.2 (m - 1) (by omega)).resolve_right (fun z => z (32 * s + k) (by omega) (by rw [hx6']; exact hf) hst hb)
theorem c_firstBlock {a1 a2 : Int32} {s N fm : Nat} (h1 : a1.toInt = s) (hs : s < 8) (h2 : a2.toInt = fm) (hfm : fm ≤ 32) (σ : sm_S) (hj : jj N (σ 1)) : xC xM j_M_firstBlock [.ref 0, .int a1, .int a2] σ (sm_I (fun x σ' => fbk (σ 1) s fm x ∧ σ' = σ)) :=
  w_M_firstBlock a1 a2 σ _ (l_firstBlock h1 hs σ hj (32 - fm) fm a2 _ _ h2 (by omega) (Nat.le_refl fm))
theorem jj_at {v : Nat → Int32} {s N a : Nat} {y : Int32} (hs : s < 8) (hy : y.toInt = a) (ha : a ≤ 32) (hj : jj N v) : jj N (upd v (2358 + 8 * s + 5) y) := by
  refine ⟨fr_cong (fun i h1 h2 => u_ne (by omega)) (fun n k hn hk => u_ne (by omega)) hj.1, ?_, by rw [u_ne (by omega)]; exact hj.2.2⟩
  obtain ⟨st, pt, at', q, g1, g2, g3, g4, g5, g6, g7, g8, g9⟩ := hj.2.1.2.2.1 s hs
  obtain ⟨s2, f1, f2, f3⟩ := hj.2.1.2.2.2.2
  refine jr_span hs hj.2.1 (fun i _ _ h => u_ne (by omega)) (u_ne (by omega)) ⟨st, pt, a, q, ?_, g2, ?_, g4, g5, by rw [u_at]; exact hy, ha, ?_, ?_⟩ ⟨s2, f1, ?_, ?_⟩
  · rw [u_ne (by omega)]; exact g1
  · rw [u_ne (by omega)]; exact g3
  · rw [u_ne (by omega)]; exact g8
  · rcases g9 with g9 | ⟨b, c1, c2, c3, c4, fr, c5, c6⟩
    · exact Or.inl g9
    · refine Or.inr ⟨b, c1, c2, c3, ?_, fr, ?_, c6⟩ <;> rw [u_ne (by omega)] <;> assumption
  · rw [u_ne (by omega)]; exact f2
  · rw [u_ne (by omega)]; exact f3
theorem c_isPassed {a1 a2 : Int32} {s n o fr N : Nat} (h1 : a1.toInt = s) (hs : s < 8) (h2 : a2.toInt = n) (hn : n < 96) (σ : sm_S) (hj : jj N (σ 1)) (ho : (σ 1 (786 + 16 * n + 2)).toInt = o) (ho4 : o ≤ 4) (hfr : (σ 1 (786 + 16 * n + 1)).toInt = fr) (hal : fr % 2 ^ o = 0) : xC xM j_M_isPassed [.ref 0, .int a1, .int a2] σ (sm_V (fun σ' => ∃ y, σ' = sm_set σ 1 (upd (σ 1) (2358 + 8 * s + 5) y) ∧ y.toInt = ((fr % 32 + 2 ^ o : Nat) : Int) ∧ jj N (upd (σ 1) (2358 + 8 * s + 5) y))) := by
  have hpw := t_pw (k := o) (by omega)
  have ha := t_al (k := o) (by omega) hal
  refine w_M_isPassed a1 a2 σ _ ((c_spanAt a1 σ).int ?_)
  rintro _ σ ⟨rfl, rfl⟩
  refine (c_frameOf h2 hn _).int ?_
  rintro x4 σ ⟨hx4, rfl⟩
  refine ⟨by decide, (c_longOf h2 hn _).int ?_⟩
  rintro x6 σ ⟨hx6, rfl⟩
  obtain ⟨p5, q5⟩ := ixS (k := 5) (j := 5) h1 rfl (by omega)
  rw [q5]
  refine ⟨p5, fun σ7 e7 => ?_⟩
  have hr : (x4 - x4 / 32 * 32).toInt = ((fr % 32 : Nat) : Int) := t_rem (d := 32) (by rw [hx4]; exact hfr) rfl (by decide)
  have hy : (x4 - x4 / 32 * 32 + x6).toInt = ((fr % 32 + 2 ^ o : Nat) : Int) := by
    rw [t_add hr (y := ((2 ^ o : Nat) : Int)) (by rw [hx6]; exact t_pow ho (by omega)) (by omega) (by omega)]
    omega
  exact ⟨rfl, _, e7, hy, jj_at hs hy (by omega) hj⟩
/-- other spans' rows -/
def oth (s : Nat) (v v' : Nat → Int32) : Prop := ∀ i, 2358 ≤ i → i < 2422 → (i < 2358 + 8 * s ∨ 2358 + 8 * s + 8 ≤ i) → v' i = v i
theorem oth.rf {s : Nat} {v : Nat → Int32} : oth s v v := fun _ _ _ _ => rfl
theorem oth.tr {s : Nat} {a b c : Nat → Int32} (h1 : oth s a b) (h2 : oth s b c) : oth s a c := fun i g1 g2 g3 => (h2 i g1 g2 g3).trans (h1 i g1 g2 g3)
theorem l_shuts88 {a1 a2 a3 : Int32} {s f0 N pt : Nat} (hs : s < 8) (h2 : a2.toInt = ((2358 + 8 * s : Nat) : Int)) (h3 : a3.toInt = f0) (hf0 : f0 + 8 ≤ 256) (hpt : pt ≤ 3) : ∀ (d k : Nat) (a4 : Int32) (σ : sm_S), a4.toInt = ((f0 + k : Nat) : Int) → k + d = 8 → jj N (σ 1) → (σ 1 (2358 + 8 * s + 2)).toInt = pt → σ 1 (2358 + 8 * s) = 2 →
    xE xM m_M_shuts 88 [.ref 0, .int a1, .int a2, .int a3, .int a4] [] σ (sm_V (fun σ' => ∃ w, σ' = sm_set σ 1 w ∧ jj N w ∧ oth s (σ 1) w)) := by
  have hix : ∀ {k : Int32} {j : Nat}, k.toInt = j → j < 8 → (a2 + k).toInt = ((2358 + 8 * s + j : Nat) : Int) := by
    intro k j hk hj
    rw [t_add h2 hk (by omega) (by omega)]
    omega
  have h38 : (a3 + 8).toInt = ((f0 + 8 : Nat) : Int) := by
    rw [t_add h3 (y := 8) rfl (by omega) (by omega)]
    omega
  intro d
  induction d with
  | zero =>
    intro k a4 σ h4 hk hj hp hst
    refine w_M_shuts_88 a1 a2 a3 a4 σ _ ⟨fun _ => (c_more (hix (k := 2) (j := 2) rfl (by omega)) (by omega) 1 σ).void ?_, fun h => absurd (by rw [t_le, h38, h4]; omega) h⟩
    rintro _ rfl
    have i0 := hix (k := 0) (j := 0) rfl (by omega)
    have i2 := hix (k := 2) (j := 2) rfl (by omega)
    have i3 := hix (k := 3) (j := 3) rfl (by omega)
    have i5 := hix (k := 5) (j := 5) rfl (by omega)
    rw [t_nat i0, t_nat i2, t_nat i3, t_nat i5, s_at, u_at]
    have hp1 : (σ 1 (2358 + 8 * s + 2) + 1).toInt = ((pt + 1 : Nat) : Int) := by
      rw [t_add hp (y := 1) rfl (by omega) (by omega)]
      omega
    obtain ⟨st, pt2, at', q, g1, g2, g3, g4, g5, g6, g7, g8, g9⟩ := hj.2.1.2.2.1 s hs
    have hst2 : st = 2 := by
      rw [show σ 1 (2358 + 8 * s + 0) = 2 from hst] at g1
      have g1 : (2 : Int) = st := g1
      omega
    have hq : q = 0 := by
      rcases g9 with g9 | ⟨b, c1, c2, c3, -⟩
      · exact g9
      · omega
    obtain ⟨s2, f1, f2, f3⟩ := hj.2.1.2.2.2.2
    have hs2 : s2 ≠ s := fun z => by
      subst z
      rw [show σ 1 (2358 + 8 * s2 + 0) = 2 from hst] at f2
      exact absurd f2 (by decide)
    refine ⟨t_vp i2 (by omega), fun h4' => ⟨t_vp i0 (by omega), fun σ2 e2 => ⟨t_vp i3 (by omega), fun σ3 e3 => ⟨t_vp i5 (by omega), fun σ4 e4 => ?_⟩⟩⟩, fun h4' => ?_⟩
    · subst e4 e3 e2
      simp only [s_at, s_ss]
      rw [t_le, hp1] at h4'
      have h4' : (4 : Int) ≤ _ := h4'
      have hw0 : ∃ v, v = upd (upd (upd (upd (σ 1) (2358 + 8 * s + 2) (σ 1 (2358 + 8 * s + 2) + 1)) (2358 + 8 * s + 0) 3) (2358 + 8 * s + 3) 1) (2358 + 8 * s + 5) 0 := ⟨_, rfl⟩
      obtain ⟨v, hv⟩ := hw0
      rw [← hv]
      have hve : ∀ i, (i < 2358 + 8 * s ∨ 2358 + 8 * s + 6 ≤ i) → v i = σ 1 i := fun i hi => by rw [hv, u_ne (by omega), u_ne (by omega), u_ne (by omega), u_ne (by omega)]
      refine ⟨rfl, v, rfl, ⟨fr_cong (fun i _ _ => hve i (by omega)) (fun n k hn hk => hve _ (by omega)) hj.1, ?_, by rw [hve _ (by omega)]; exact hj.2.2⟩, fun i _ _ h => hve i (by omega)⟩
      refine jr_span hs hj.2.1 (fun i _ _ h => hve i (by omega)) (hve _ (by omega)) ⟨3, 4, 0, 0, ?_, by omega, ?_, by omega, fun z => by omega, ?_, by omega, ?_, Or.inl rfl⟩ ⟨s2, f1, ?_, ?_⟩
      · rw [hv, u_ne (by omega), u_ne (by omega), u_at]; rfl
      · rw [hv, u_ne (by omega), u_ne (by omega), u_ne (by omega), u_at, hp1]; omega
      · rw [hv, u_at]; rfl
      · rw [hve _ (by omega), g8, hq]
      · rw [hve _ (by omega)]; exact f2
      · rw [hve _ (by omega)]; exact f3
    · rw [t_le, hp1] at h4'
      have h4' : ¬ (4 : Int) ≤ _ := h4'
      have hve : ∀ i, i ≠ 2358 + 8 * s + 2 → upd (σ 1) (2358 + 8 * s + 2) (σ 1 (2358 + 8 * s + 2) + 1) i = σ 1 i := fun i hi => u_ne hi
      refine ⟨rfl, _, rfl, ⟨fr_cong (fun i _ _ => hve i (by omega)) (fun n k hn hk => hve _ (by omega)) hj.1, ?_, by rw [hve _ (by omega)]; exact hj.2.2⟩, fun i _ _ h => hve i (by omega)⟩
      refine jr_span hs hj.2.1 (fun i _ _ h => hve i (by omega)) (hve _ (by omega)) ⟨2, pt + 1, at', 0, ?_, by omega, ?_, by omega, fun z => by omega, ?_, g7, ?_, Or.inl rfl⟩ ⟨s2, f1, ?_, ?_⟩
      · rw [hve _ (by omega), show σ 1 (2358 + 8 * s + 0) = 2 from hst]; rfl
      · rw [u_at]; exact hp1
      · rw [hve _ (by omega)]; exact g6
      · rw [hve _ (by omega), g8, hq]
      · rw [hve _ (by omega)]; exact f2
      · rw [hve _ (by omega)]; exact f3
  | succ d ih =>
    intro k a4 σ h4 hk hj hp hst
    have h4' : (a4 + 1).toInt = ((f0 + (k + 1) : Nat) : Int) := by
      rw [t_add h4 (y := 1) rfl (by omega) (by omega)]
      omega
    refine w_M_shuts_88 a1 a2 a3 a4 σ _ ⟨fun h => ?_, fun _ => (c_isFree h4 (by omega) σ).int ?_⟩
    · rw [t_le, h38, h4] at h; omega
    · rintro x σ ⟨-, rfl⟩
      refine ⟨fun _ => ih (k + 1) _ _ h4' (by omega) hj hp hst, fun _ => (c_frameAt a4 _).int ?_⟩
      rintro _ σ ⟨rfl, rfl⟩
      obtain ⟨p1, q1⟩ := ixF (k := 0) (j := 0) h4 rfl (by omega)
      rw [q1]
      refine ⟨p1, fun σ1 e1 => ?_⟩
      subst e1
      have hj1 : jj N (upd (σ 1) (18 + 3 * (f0 + k) + 0) 2) := jj_fr (fr_st1 (f := f0 + k) rfl (by decide) (by omega) hj.1) (fr_upd (by omega) (by omega)) hj
      refine (ih (k + 1) (a4 + 1) _ h4' (by omega) (by rw [s_at]; exact hj1) (by rw [s_at, u_ne (by omega)]; exact hp) (by rw [s_at, u_ne (by omega)]; exact hst)).mono ?_
      rintro r σ' ⟨rfl, w, rfl, hw, ew⟩
      rw [s_at] at ew
      exact ⟨rfl, w, s_ss, hw, fun i g1 g2 g3 => by rw [ew i g1 g2 g3, u_ne (by omega)]⟩
theorem l_shuts26 {a1 a2 a3 : Int32} {s f0 N pt : Nat} (h1 : a1.toInt = s) (hs : s < 8) (hN : N < 2147460000) (h2 : a2.toInt = ((2358 + 8 * s : Nat) : Int)) (h3 : a3.toInt = f0) (hf0 : f0 + 8 ≤ 256) (hpt : pt ≤ 3) (σ : sm_S) (hj : jj N (σ 1)) (hp : (σ 1 (2358 + 8 * s + 2)).toInt = pt) (hst : σ 1 (2358 + 8 * s) = 2) : ∀ (d k : Nat) (a4 : Int32), a4.toInt = ((f0 + k : Nat) : Int) → k + d = 8 →
    xE xM m_M_shuts 26 [.ref 0, .int a1, .int a2, .int a3, .int a4] [] σ (sm_V (fun σ' => ∃ w N', σ' = sm_set σ 1 w ∧ jj N' w ∧ N ≤ N' ∧ N' ≤ N + 7 ∧ oth s (σ 1) w)) := by
  have h38 : (a3 + 8).toInt = ((f0 + 8 : Nat) : Int) := by
    rw [t_add h3 (y := 8) rfl (by omega) (by omega)]
    omega
  intro d
  induction d with
  | zero =>
    intro k a4 h4 hk
    refine w_M_shuts_26 a1 a2 a3 a4 σ _ ⟨fun _ => (l_shuts88 hs h2 h3 hf0 hpt 8 0 a3 σ (by rw [h3]; omega) rfl hj hp hst).mono ?_, fun h => absurd (by rw [t_le, h38, h4]; omega) h⟩
    rintro r σ' ⟨rfl, w, rfl, hw, ew⟩
    exact ⟨rfl, w, N, rfl, hw, Nat.le_refl N, by omega, ew⟩
  | succ d ih =>
    intro k a4 h4 hk
    have h4' : (a4 + 1).toInt = ((f0 + (k + 1) : Nat) : Int) := by
      rw [t_add h4 (y := 1) rfl (by omega) (by omega)]
      omega
    refine w_M_shuts_26 a1 a2 a3 a4 σ _ ⟨fun h => ?_, fun _ => (c_stateOf h4 (by omega) σ).int ?_⟩
    · rw [t_le, h38, h4] at h; omega
    · rintro x2 σ ⟨-, rfl⟩
      refine ⟨fun _ => ih (k + 1) _ h4' (by omega), fun _ => (c_frameAt a4 _).int ?_⟩
      rintro _ σ ⟨rfl, rfl⟩
      obtain ⟨p1, q1⟩ := ixF (k := 1) (j := 1) h4 rfl (by omega)
      rw [q1]
      obtain ⟨g1, g2⟩ := hj.1.1 (f0 + k) (by omega)
      obtain ⟨m, hm⟩ := t_of g1
      refine ⟨p1, (c_ofm (k := 3) (j := 3) (t_dec hm) (by omega) rfl (by omega) _).int ?_⟩
      rintro x6 σ ⟨-, rfl⟩
      refine ⟨fun _ => (c_fails h1 hs hN _ hj).void ?_, fun _ => ih (k + 1) _ h4' (by omega)⟩
      rintro _ ⟨w, N', rfl, hw, l1, l2, -, ew⟩
      exact ⟨rfl, w, N', rfl, hw, l1, l2, ew⟩
theorem c_shuts {a1 : Int32} {s N : Nat} (h1 : a1.toInt = s) (hs : s < 8) (hN : N < 2147460000) (σ : sm_S) (hj : jj N (σ 1)) (hst : σ 1 (2358 + 8 * s) = 2) : xC xM j_M_shuts [.ref 0, .int a1] σ (sm_V (fun σ' => ∃ w N', σ' = sm_set σ 1 w ∧ jj N' w ∧ N ≤ N' ∧ N' ≤ N + 7 ∧ oth s (σ 1) w)) := by
  refine w_M_shuts a1 σ _ ((c_spanAt a1 σ).int ?_)
  rintro _ σ ⟨rfl, rfl⟩
  obtain ⟨p2, q2⟩ := ixS (k := 2) (j := 2) h1 rfl (by omega)
  rw [q2]
  obtain ⟨st, pt, at', q, g1, g2, g3, g4, g5, g6, g7, g8, g9⟩ := hj.2.1.2.2.1 s hs
  have hst2 : st = 2 := by
    rw [show σ 1 (2358 + 8 * s + 0) = 2 from hst] at g1
    have g1 : (2 : Int) = st := g1
    omega
  have hpt := g5 hst2
  have h8 : (8 * σ 1 (2358 + 8 * s + 2)).toInt = 8 * (pt : Int) := t_mul (x := 8) rfl g3 (by omega) (by omega)
  have hf : (32 * a1 + 8 * σ 1 (2358 + 8 * s + 2)).toInt = ((32 * s + 8 * pt : Nat) : Int) := by
    rw [t_add (t_32s h1 hs) h8 (by omega) (by omega)]
    omega
  have h2 : (2358 + 8 * a1).toInt = ((2358 + 8 * s : Nat) : Int) := by
    rw [t_add (a := 2358) (x := 2358) rfl (t_mul (x := 8) rfl h1 (by omega) (by omega)) (by omega) (by omega)]
    omega
  exact ⟨p2, l_shuts26 h1 hs hN h2 hf (by omega) hpt _ hj g3 hst 8 0 _ (by rw [hf]; omega) rfl⟩
end
section
/-! ===== the model: what gets less as a span is looked through ===== -/
/-- a frame that a cache has -/
def isCP (v : Nat → Int32) (f : Nat) : Prop := v (18 + 3 * f) = 3 ∧ ∃ n, n < 96 ∧ (v (18 + 3 * f + 1)).toInt = ((n + 1 : Nat) : Int) ∧ v (786 + 16 * n + 3) = 2
noncomputable def isC (v : Nat → Int32) (f : Nat) : Bool := @decide (isCP v f) (Classical.propDecidable _)
def isZ (v : Nat → Int32) (b : Nat) : Bool := decide (v (786 + 16 * b + 0) = 0)
noncomputable def mu (v : Nat → Int32) : Nat := 2 * cn (isC v) 256 + cn (isZ v) 96
theorem isC_t {v : Nat → Int32} {f : Nat} : isC v f = true ↔ isCP v f := by
  unfold isC
  exact @decide_eq_true_iff _ (Classical.propDecidable _)
theorem isC_f {v : Nat → Int32} {f : Nat} (h : ¬ isCP v f) : isC v f = false := by
  unfold isC
  exact @decide_eq_false _ (Classical.propDecidable _) h
theorem isZ_t {v : Nat → Int32} {f : Nat} : isZ v f = true ↔ v (786 + 16 * f + 0) = 0 := by
  unfold isZ
  exact decide_eq_true_iff
theorem mu_le {v : Nat → Int32} : mu v ≤ 608 := by
  have h1 := cn_bd (P := isC v) (N := 256)
  have h2 := cn_bd (P := isZ v) (N := 96)
  unfold mu
  omega
theorem cn_ex {P P' : Nat → Bool} {lo hi : Nat} : ∀ {N : Nat}, (∀ i, i < N → P' i = true → P i = true ∨ (lo ≤ i ∧ i < hi)) → cn P' N ≤ cn P N + (min N hi - lo)
  | 0, _ => Nat.zero_le _
  | n + 1, h => by
    have h1 := cn_ex (N := n) (lo := lo) (hi := hi) (fun i g => h i (by omega))
    have h2 := h n (by omega)
    simp only [cn]
    by_cases hp : P' n = true
    · rw [if_pos hp]
      rcases h2 hp with h3 | h3
      · rw [if_pos h3]; omega
      · split <;> omega
    · rw [if_neg hp]
      split <;> omega
/-- nothing more of either kind -/
theorem mu_mono {v v' : Nat → Int32} (h1 : ∀ f, f < 256 → v' (18 + 3 * f) = 3 → v (18 + 3 * f) = 3 ∧ v' (18 + 3 * f + 1) = v (18 + 3 * f + 1)) (h2 : ∀ n, n < 96 → v' (786 + 16 * n + 3) = v (786 + 16 * n + 3)) (h3 : ∀ n, n < 96 → v' (786 + 16 * n + 0) = v (786 + 16 * n + 0)) : mu v' ≤ mu v := by
  have a1 : cn (isC v') 256 ≤ cn (isC v) 256 := by
    refine cn_le (fun f hf h => ?_)
    rw [isC_t] at h ⊢
    obtain ⟨e1, n, hn, e2, e3⟩ := h
    obtain ⟨g1, g2⟩ := h1 f hf e1
    exact ⟨g1, n, hn, by rw [← g2]; exact e2, by rw [← h2 n hn]; exact e3⟩
  have a2 : cn (isZ v') 96 ≤ cn (isZ v) 96 := by
    refine cn_le (fun f hf h => ?_)
    rw [isZ_t] at h ⊢
    rw [← h3 f hf]; exact h
  unfold mu
  omega
theorem mu_cong {v v' : Nat → Int32} (h1 : ∀ f, f < 256 → v' (18 + 3 * f) = v (18 + 3 * f) ∧ v' (18 + 3 * f + 1) = v (18 + 3 * f + 1)) (h2 : ∀ n, n < 96 → v' (786 + 16 * n + 3) = v (786 + 16 * n + 3)) (h3 : ∀ n, n < 96 → v' (786 + 16 * n + 0) = v (786 + 16 * n + 0)) : mu v' ≤ mu v :=
  mu_mono (fun f hf h => ⟨by rw [← (h1 f hf).1]; exact h, (h1 f hf).2⟩) h2 h3
theorem mu_drop {v v' : Nat → Int32} {n fr : Nat} (hn : n < 96) (hfr : fr < 256) (hl : fr_lv v v') (he : ∀ i, 786 ≤ i → i < 2422 → i ≠ 786 + 16 * n + 0 → v' i = v i) (h1 : v (18 + 3 * fr) = 3) (h2 : (v (18 + 3 * fr + 1)).toInt = ((n + 1 : Nat) : Int)) (h3 : v (786 + 16 * n + 3) = 2) (h4 : v' (18 + 3 * fr) = 1 ∨ v' (18 + 3 * fr) = 2) : mu v' + 1 ≤ mu v := by
  have a1 : cn (isC v') 256 < cn (isC v) 256 := by
    refine cn_lt (j := fr) (isC_t.mpr ⟨h1, n, hn, h2, h3⟩) (isC_f (fun z => ?_)) hfr (fun f hf h => ?_)
    · rcases h4 with h4 | h4 <;> (have := z.1; rw [h4] at this; exact absurd this (by decide))
    · rw [isC_t] at h ⊢
      obtain ⟨e1, m, hm, e2, e3⟩ := h
      rcases hl f hf with g | ⟨g1, g2⟩
      · rcases g with g | g <;> (rw [g] at e1; exact absurd e1 (by decide))
      · exact ⟨by rw [← g1]; exact e1, m, hm, by rw [← g2]; exact e2, by rw [← he _ (by omega) (by omega) (by omega)]; exact e3⟩
  have a2 : cn (isZ v') 96 ≤ cn (isZ v) 96 + (min 96 (n + 1) - n) := by
    refine cn_ex (fun b hb h => ?_)
    by_cases hbn : b = n
    · exact Or.inr (by omega)
    · refine Or.inl ?_
      rw [isZ_t] at h ⊢
      rw [← he _ (by omega) (by omega) (by omega)]; exact h
  unfold mu
  omega
/-- a block in a span of which nothing is on its way isn't on its way -/
theorem to_0 {v : Nat → Int32} {n s fr : Nat} (hj : jr v) (hn : n < 96) (h6 : v (2358 + 8 * s + 6) = 0) (hf : (v (786 + 16 * n + 1)).toInt = fr) (hs : fr / 32 = s) : v (786 + 16 * n + 6) = 0 := by
  rcases Classical.em (v (786 + 16 * n + 6) = 0) with h | h
  · exact h
  · obtain ⟨-, fr2, g1, g2, g3⟩ := hj.2.2.2.1 n hn h
    have : fr2 = fr := by rw [hf] at g1; omega
    subst this
    rw [hs, h6] at g3
    have g3 : (0 : Int) = _ := g3
    omega
theorem jr_order {v : Nat → Int32} {n o : Nat} {x : Int32} (hn : n < 96) (hj : jr v) (h6 : v (786 + 16 * n + 6) = 0) (ho : (v (786 + 16 * n + 2)).toInt = ((o + 1 : Nat) : Int)) (hx : x.toInt = o) : jr (upd v (786 + 16 * n + 2) x) := by
  obtain ⟨j1, j2, j3, j4, s, hs, z1, z2⟩ := hj
  have e : ∀ i, i ≠ 786 + 16 * n + 2 → upd v (786 + 16 * n + 2) x i = v i := fun i hi => u_ne hi
  refine ⟨fun b hb => ?_, fun b hb => ?_, fun s hs => ?_, fun b hb => ?_, s, hs, ?_, ?_⟩
  · by_cases hbn : b = n
    · subst hbn
      obtain ⟨o2, fr, h1, h2, h3, h4, h5, h6', h7, h8⟩ := j1 b hb
      have hoo : o2 = o + 1 := by rw [ho] at h1; omega
      subst hoo
      have h5' : fr % 2 ^ o = 0 := by
        have hd : 2 ^ o ∣ fr := Nat.dvd_trans ⟨2, Nat.pow_succ 2 o⟩ (Nat.dvd_of_mod_eq_zero h5)
        exact Nat.mod_eq_zero_of_dvd hd
      refine ⟨o, fr, by rw [u_at]; exact hx, by omega, ?_, h4, h5', ?_, ⟨0, ?_, Or.inl rfl⟩, ?_⟩
      · rw [e _ (by omega)]; exact h3
      · rw [e _ (by omega)]; exact h6'
      · rw [e _ (by omega), h6]; rfl
      · rw [e _ (by omega)]; exact h8
    · exact bk_cong (fun k hk _ _ _ => e _ (by omega)) (j1 b hb)
  · by_cases hbn : b = n
    · subst hbn
      obtain ⟨L, o2, h1, h2, h3, h4, h5, h6'⟩ := j2 b hb
      have hL : L = 0 := by
        rcases Nat.eq_zero_or_pos L with z | z
        · exact z
        · exact absurd h6 (h4 z)
      subst hL
      exact ⟨0, o, by rw [e _ (by omega)]; exact h1, by omega, by rw [u_at]; exact hx, fun z => by omega, fun k hk => by omega, fun k m _ hm => by omega⟩
    · exact ln_cong (fun k hk _ _ _ => e _ (by omega)) (fun t k ht hk => e _ (by omega)) (j2 b hb)
  · obtain ⟨st, pt, at', q, h1, h2, h3, h4, h5, h6', h7, h8, h9⟩ := j3 s hs
    refine ⟨st, pt, at', q, ?_, h2, ?_, h4, h5, ?_, h7, ?_, ?_⟩
    · rw [e _ (by omega)]; exact h1
    · rw [e _ (by omega)]; exact h3
    · rw [e _ (by omega)]; exact h6'
    · rw [e _ (by omega)]; exact h8
    · rcases h9 with h9 | ⟨b, g1, g2, g3, g4, fr, g5, g6⟩
      · exact Or.inl h9
      · refine Or.inr ⟨b, g1, g2, g3, ?_, fr, ?_, g6⟩ <;> rw [e _ (by omega)] <;> assumption
  · intro hb6
    rw [e _ (by omega)] at hb6
    obtain ⟨h1, fr, h2, h3, h4⟩ := j4 b hb hb6
    refine ⟨?_, fr, ?_, h3, ?_⟩ <;> rw [e _ (by omega)] <;> assumption
  · rw [e _ (by omega)]; exact z1
  · rw [e _ (by omega)]; exact z2
theorem c_splits {b : Int32} {n o fr N : Nat} (hb : b.toInt = n) (hn : n < 96) (hN : N < 2147480000) (σ : sm_S) (hj : jj N (σ 1)) (hI : σ 1 (786 + 16 * n + 0) = 1) (h6 : σ 1 (786 + 16 * n + 6) = 0) (ho : (σ 1 (786 + 16 * n + 2)).toInt = ((o + 1 : Nat) : Int)) (hfr : (σ 1 (786 + 16 * n + 1)).toInt = fr) (hk : σ 1 (786 + 16 * n + 3) ≠ 2) (hfree : ∃ j, j < 96 ∧ σ 1 (786 + 16 * j) = 0) :
    xC xM j_M_splits [.ref 0, .int b] σ (sm_V (fun σ' => ∃ w, σ' = sm_set σ 1 w ∧ jj (N + 1) w ∧ mu w + 1 ≤ mu (σ 1) ∧ ∀ i, 2358 ≤ i → i < 2422 → w i = σ 1 i)) := by
  obtain ⟨o2, fr2, b1, b2, b3, b4, b5, ⟨t, b6, b6'⟩, -⟩ := hj.2.1.1 n hn
  have hoo : o2 = o + 1 := by rw [ho] at b1; omega
  subst hoo
  have hff : fr2 = fr := by rw [hfr] at b3; omega
  subst hff
  have hpw := t_pw (k := o) (by omega)
  have hps : 2 ^ (o + 1) = 2 ^ o * 2 := Nat.pow_succ 2 o
  have hal := t_al (k := o + 1) (by omega) b5
  have h5' : fr2 % 2 ^ o = 0 := by
    have hd : 2 ^ o ∣ fr2 := Nat.dvd_trans ⟨2, Nat.pow_succ 2 o⟩ (Nat.dvd_of_mod_eq_zero b5)
    exact Nat.mod_eq_zero_of_dvd hd
  have h5'' : (fr2 + 2 ^ o) % 2 ^ o = 0 := by rw [Nat.add_mod_right]; exact h5'
  refine w_M_splits b σ _ ((c_freeNumber σ).int ?_)
  rintro x2 σ ⟨hx2, rfl⟩
  have hx2' : ∃ m : Nat, x2.toInt = m ∧ m < 96 ∧ σ 1 (786 + 16 * m) = 0 := by
    rcases hx2 with ⟨-, h⟩ | ⟨m, h1, h2, h3, -⟩
    · obtain ⟨j, hj1, hj2⟩ := hfree
      exact absurd hj2 (h j hj1)
    · exact ⟨m, h1, h2, h3⟩
  obtain ⟨m, hm1, hm2, hm3⟩ := hx2'
  have hmn : m ≠ n := fun z => by
    subst z
    rw [show σ 1 (786 + 16 * m) = 1 from hI] at hm3
    exact absurd hm3 (by decide)
  refine (c_of (k := 2) (j := 2) hb rfl (by omega) _).int ?_
  rintro x4 σ ⟨hx4, rfl⟩
  have hx41 : (x4 - 1).toInt = o := by
    rw [hx4, t_dec ho]
    omega
  refine (c_lay (k := 2) (j := 2) hb rfl (by omega) _ _).void ?_
  rintro _ rfl
  have hj1 : jj N (upd (σ 1) (786 + 16 * n + 2) (x4 - 1)) := ⟨fr_cong (fun i _ _ => u_ne (by omega)) (fun c k hc hk => u_ne (by omega)) hj.1, jr_order hn hj.2.1 h6 ho hx41, by rw [u_ne (by omega)]; exact hj.2.2⟩
  refine (c_frameOf hb hn _).int ?_
  rintro x7 σ7 ⟨hx7, e7⟩
  subst e7
  rw [s_at, u_ne (by omega)] at hx7
  refine (c_of (k := 3) (j := 3) hb rfl (by omega) _).int ?_
  rintro x9 σ7 ⟨hx9, e7⟩
  subst e7
  rw [s_at, u_ne (by omega)] at hx9
  refine (c_of (k := 4) (j := 4) hb rfl (by omega) _).int ?_
  rintro x11 σ7 ⟨hx11, e7⟩
  subst e7
  rw [s_at, u_ne (by omega)] at hx11
  refine (c_of (k := 8) (j := 8) hb rfl (by omega) _).int ?_
  rintro x13 σ7 ⟨-, e7⟩
  subst e7
  have hto : (x7 + ((1 : Int32) <<< ((x4 - 1) &&& 31))).toInt = ((fr2 + 2 ^ o : Nat) : Int) := by
    rw [t_add (x := (fr2 : Int)) (by rw [hx7]; exact hfr) (t_pow hx41 (by omega)) (by omega) (by omega)]
    omega
  refine (c_comes (n := m) (o := o) (fr := fr2 + 2 ^ o) (t := t) (N := N) hm1 hm2 hto (by omega) hx41 (by omega) h5'' (by rw [hx11]; exact b6) b6' _ (by rw [s_at]; exact hj1) (by rw [s_at, u_ne (by omega)]; exact hm3)).void ?_
  rintro _ ⟨v, rfl, hv, e1, ⟨r0, r1, r2, r3⟩, e4, e5⟩
  rw [s_at] at e1 e5
  refine (c_counts (k := 4) (j := 4) rfl (by omega) 1 _).void ?_
  rintro _ rfl
  refine (c_writes' (N := N) _ _ _ _ (by rw [s_at, s_at]; exact jj_low (by omega) (by omega) hv) (by omega)).void ?_
  rintro _ ⟨w, rfl, hw, ew⟩
  simp only [s_at, s_ss] at ew ⊢
  have ew' : ∀ i, 18 ≤ i → i < 2422 → w i = v i := fun i h1 h2 => by rw [ew i h2 (by omega), u_ne (by omega)]
  have evo : ∀ i, 786 ≤ i → (i < 786 + 16 * m ∨ 786 + 16 * m + 16 ≤ i) → i ≠ 786 + 16 * n + 2 → v i = σ 1 i := fun i h1 h2 h3 => by rw [e1 i (Or.inr h1) h2, u_ne h3]
  refine ⟨rfl, w, rfl, hw, ?_, fun i h1 h2 => by rw [ew' i (by omega) h2, evo i (by omega) (by omega) (by omega)]⟩
  have a1 : cn (isC w) 256 ≤ cn (isC (σ 1)) 256 := by
    refine cn_le (fun f hf h => ?_)
    rw [isC_t] at h ⊢
    obtain ⟨c1, l, hl, c2, c3⟩ := h
    rw [ew' _ (by omega) (by omega)] at c1 c2 c3
    have hlm : l ≠ m := fun z => by
      subst z
      rw [r3, hx9] at c3
      exact hk c3
    rw [evo _ (by omega) (by omega) (by omega)] at c3
    by_cases hr : fr2 + 2 ^ o ≤ f ∧ f < fr2 + 2 ^ o + 2 ^ o
    · obtain ⟨g1, g2⟩ := e4 (f - (fr2 + 2 ^ o)) (by omega)
      rw [show fr2 + 2 ^ o + (f - (fr2 + 2 ^ o)) = f by omega, c2] at g2
      omega
    · rw [e5 _ (by omega) (by omega) (by omega), u_ne (by omega)] at c1 c2
      exact ⟨c1, l, hl, c2, c3⟩
  have a2 : cn (isZ w) 96 < cn (isZ (σ 1)) 96 := by
    refine cn_lt (j := m) (isZ_t.mpr hm3) ?_ hm2 (fun c hc h => ?_)
    · unfold isZ
      rw [ew' _ (by omega) (by omega), r0]
      decide
    · rw [isZ_t] at h ⊢
      rw [ew' _ (by omega) (by omega)] at h
      by_cases hcm : c = m
      · subst hcm
        rw [r0] at h
        exact absurd h (by decide)
      · rw [evo _ (by omega) (by omega) (by omega)] at h
        exact h
  unfold mu
  omega
end
section
/-! ===== the model: a block arrives; values are copied ===== -/
theorem mu_one {v v' : Nat → Int32} {n : Nat} (h : ∀ i, i < 18 + 3 * n ∨ 18 + 3 * n + 3 ≤ i → v' i = v i) (hn : n < 256) : mu v' ≤ mu v + 2 := by
  have a1 : cn (isC v') 256 ≤ cn (isC v) 256 + (min 256 (n + 1) - n) := by
    refine cn_ex (fun f hf g => ?_)
    by_cases hfn : f = n
    · exact Or.inr (by omega)
    · refine Or.inl ?_
      rw [isC_t] at g ⊢
      obtain ⟨e1, m, hm, e2, e3⟩ := g
      exact ⟨by rw [← h _ (by omega)]; exact e1, m, hm, by rw [← h _ (by omega)]; exact e2, by rw [← h _ (by omega)]; exact e3⟩
  have a2 : cn (isZ v') 96 ≤ cn (isZ v) 96 := by
    refine cn_le (fun f hf g => ?_)
    rw [isZ_t] at g ⊢
    rw [← h _ (by omega)]; exact g
  unfold mu
  omega
theorem l_arrives {a1 a2 a3 : Int32} {s n o p fr N : Nat} (h1 : a1.toInt = s) (hs : s < 8) (h2 : a2.toInt = n) (hn : n < 96) (h3 : a3.toInt = p) (hp : p < 256) (hpa : p % 2 ^ o = 0) (ho4 : o ≤ 4) (hfr2 : fr < 256) (hfa : fr % 2 ^ o = 0) (hN : N < 2147470000) : ∀ (d k : Nat) (a4 : Int32) (σ : sm_S), a4.toInt = k → k + d = 2 ^ o → jj N (σ 1) → (σ 1 (786 + 16 * n + 2)).toInt = o → (σ 1 (786 + 16 * n + 1)).toInt = fr → σ 1 (786 + 16 * n + 0) = 1 → (σ 1 (2358 + 8 * s + 6)).toInt = ((n + 1 : Nat) : Int) →
    xE xM m_M_arrives 13 [.ref 0, .int a1, .int a2, .int a3, .int a4] [] σ (sm_V (fun σ' => ∃ w N', σ' = sm_set σ 1 w ∧ jj N' w ∧ N ≤ N' ∧ N' ≤ N + 7 ∧ mu w ≤ mu (σ 1) + 4 * d ∧ w (2358 + 8 * s + 6) = 0 ∧ ∀ i, 2358 ≤ i → i < 2422 → i ≠ 2358 + 8 * s + 6 → w i = σ 1 i)) := by
  have hpw := t_pw (k := o) (by omega)
  have hs2 := t_al (k := o) (by omega) hpa
  have hs3 := t_al (k := o) (by omega) hfa
  intro d
  induction d with
  | zero =>
    intro k a4 σ h4 hk hj ho hfr hI hS
    refine w_M_arrives_13 a1 a2 a3 a4 σ _ ((c_longOf h2 hn σ).int ?_)
    rintro _ σ ⟨rfl, rfl⟩
    refine ⟨fun _ => (c_lay (k := 1) (j := 1) h2 rfl (by omega) a3 _).void ?_, fun h => absurd ?_ h⟩
    · rintro _ rfl
      refine (c_lay (k := 6) (j := 6) h2 rfl (by omega) 0 _).void ?_
      rintro _ rfl
      refine (c_lay (k := 7) (j := 7) h2 rfl (by omega) 0 _).void ?_
      rintro _ rfl
      refine (c_spanAt a1 _).int ?_
      rintro _ σ1 ⟨rfl, e1⟩
      obtain ⟨p6, q6⟩ := ixS (k := 6) (j := 6) h1 rfl (by omega)
      rw [q6]
      refine ⟨p6, fun σ2 e2 => ?_⟩
      subst e2 e1
      refine (c_counts (k := 2) (j := 2) rfl (by omega) 1 _).void ?_
      rintro _ rfl
      simp only [s_at, s_ss]
      have hw0 : ∃ u, u = upd (upd (upd (upd (σ 1) (786 + 16 * n + 1) a3) (786 + 16 * n + 6) 0) (786 + 16 * n + 7) 0) (2358 + 8 * s + 6) 0 := ⟨_, rfl⟩
      obtain ⟨u, hu⟩ := hw0
      rw [← hu]
      have hue : ∀ i, i ≠ 786 + 16 * n + 1 → i ≠ 786 + 16 * n + 6 → i ≠ 786 + 16 * n + 7 → i ≠ 2358 + 8 * s + 6 → u i = σ 1 i := fun i g1 g2 g3 g4 => by rw [hu, u_ne g4, u_ne g3, u_ne g2, u_ne g1]
      have hu1 : u (786 + 16 * n + 1) = a3 := by rw [hu, u_ne (by omega), u_ne (by omega), u_ne (by omega), u_at]
      have hu6 : u (786 + 16 * n + 6) = 0 := by rw [hu, u_ne (by omega), u_ne (by omega), u_at]
      have hu7 : u (786 + 16 * n + 7) = 0 := by rw [hu, u_ne (by omega), u_at]
      have huS : u (2358 + 8 * s + 6) = 0 := by rw [hu, u_at]
      refine (c_writes _ _ _ _ (n := N) (by rw [s_at, u_ne (by omega), hue _ (by omega) (by omega) (by omega) (by omega)]; exact hj.2.2)).void ?_
      rintro _ ⟨v, rfl, w1, w2⟩
      rw [s_at] at w1 w2
      rw [s_ss]
      have hvu : ∀ i, 18 ≤ i → i < 2422 → v i = u i := fun i g1 g2 => by rw [w2 i g2 (by omega), u_ne (by omega)]
      have hve : ∀ i, 18 ≤ i → i < 2422 → i ≠ 786 + 16 * n + 1 → i ≠ 786 + 16 * n + 6 → i ≠ 786 + 16 * n + 7 → i ≠ 2358 + 8 * s + 6 → v i = σ 1 i := fun i g1 g2 g3 g4 g5 g6 => by rw [hvu i g1 g2, hue i g3 g4 g5 g6]
      obtain ⟨L, oL, l1, l2, l3, l4⟩ := ln_line (hj.2.1.2.1 n hn)
      have hoo : oL = o := by rw [ho] at l3; omega
      subst hoo
      have hv1 : (v (786 + 16 * n + 1)).toInt = p := by rw [hvu _ (by omega) (by omega), hu1]; exact h3
      have hjb : jj (N + 1) (upd v (786 + 16 * n + 9) 0) := by
        refine ⟨?_, ?_, ?_⟩
        · refine fr_cong (v := upd (σ 1) (786 + 16 * n + 1) a3) (fun i g1 g2 => ?_) (fun b k hb hk => ?_) (fr_frame hI hj.1)
          · rw [u_ne (by omega), hve i g1 (by omega) (by omega) (by omega) (by omega) (by omega), u_ne (by omega)]
          · rw [u_ne (by omega), hvu _ (by omega) (by omega), hu, u_ne (by omega), u_ne (by omega), u_ne (by omega)]
        · refine jr_back (p := p) hn hs hj.2.1 hS ho ?_ hp hpa ?_ ?_ u_at ?_ (fun i g1 g2 g3 g4 g5 g6 g7 => by rw [u_ne g6, hve i (by omega) g2 g3 g4 g5 g7])
          · rw [u_ne (by omega)]; exact hv1
          · rw [u_ne (by omega), hvu _ (by omega) (by omega)]; exact hu6
          · rw [u_ne (by omega), hvu _ (by omega) (by omega)]; exact hu7
          · rw [u_ne (by omega), hvu _ (by omega) (by omega)]; exact huS
        · rw [u_ne (by omega), w1, u_ne (by omega), hue _ (by omega) (by omega) (by omega) (by omega), t_add hj.2.2 (y := 1) rfl (by omega) (by omega)]
          omega
      refine (c_wakes (L := L) (fr := p) (o := oL) (N := N + 1) h2 hn _ (by rw [s_at, hve _ (by omega) (by omega) (by omega) (by omega) (by omega) (by omega)]; exact l1) l2 (by rw [s_at]; exact hv1) (by omega) ?_ (by rw [s_at]; exact hjb) (by omega)).void ?_
      · intro j hjL
        obtain ⟨t, a, g1, g2, g3, g4, g5⟩ := l4 j hjL
        rw [s_at]
        refine ⟨t, a, g1, ?_, ?_, g4, ?_⟩ <;> rw [hve _ (by omega) (by omega) (by omega) (by omega) (by omega) (by omega)] <;> assumption
      · rintro _ ⟨w, N', rfl, hw, k1, k2, ew, es⟩
        rw [s_at] at ew es
        refine ⟨rfl, w, N', s_ss, hw, by omega, by omega, ?_, ?_, fun i g1 g2 g3 => ?_⟩
        · refine Nat.le_trans (mu_cong (v := σ 1) (fun f hf => ?_) (fun b hb => ?_) (fun b hb => ?_)) (Nat.le_add_right _ _)
          · rw [(es f hf).1, (es f hf).2, hve _ (by omega) (by omega) (by omega) (by omega) (by omega) (by omega), hve _ (by omega) (by omega) (by omega) (by omega) (by omega) (by omega)]
            exact ⟨rfl, rfl⟩
          · rw [ew _ (by omega) (by omega) (by omega) (by omega) (by omega) (by omega), hve _ (by omega) (by omega) (by omega) (by omega) (by omega) (by omega)]
          · rw [ew _ (by omega) (by omega) (by omega) (by omega) (by omega) (by omega), hve _ (by omega) (by omega) (by omega) (by omega) (by omega) (by omega)]
        · rw [ew _ (by omega) (by omega) (by omega) (by omega) (by omega) (by omega), hvu _ (by omega) (by omega)]; exact huS
        · rw [ew _ (by omega) (by omega) (by omega) (by omega) (by omega) (by omega), hve _ (by omega) (by omega) (by omega) (by omega) (by omega) (by omega)]
    · rw [t_le, t_pow ho (by omega), h4]
      omega
  | succ d ih =>
    intro k a4 σ h4 hk hj ho hfr hI hS
    have h4' : (a4 + 1).toInt = ((k + 1 : Nat) : Int) := by
      rw [t_add h4 (y := 1) rfl (by omega) (by omega)]
      omega
    have hto := t_add h3 h4 (by omega) (by omega)
    rw [← Int.natCast_add] at hto
    refine w_M_arrives_13 a1 a2 a3 a4 σ _ ((c_longOf h2 hn σ).int ?_)
    rintro _ σ ⟨rfl, rfl⟩
    refine ⟨fun h => ?_, fun _ => (c_frameOf h2 hn _).int ?_⟩
    · rw [t_le, t_pow ho (by omega), h4] at h
      omega
    · rintro x σ ⟨hx, rfl⟩
      have hfo := t_add (a := x) (x := (fr : Int)) (by rw [hx]; exact hfr) h4 (by omega) (by omega)
      rw [← Int.natCast_add] at hfo
      refine (c_leaves' hfo (by omega) _ hj.1).void ?_
      rintro _ ⟨v, rfl, g1, g2, -, g3⟩
      refine (c_has' hto (by omega) h2 hn _ (by rw [s_at]; exact g1) (fun _ => by rw [s_at, g2 _ (by omega)]; exact hI)).void ?_
      rintro _ ⟨v2, rfl, g4, g5, -, -, g6⟩
      rw [s_at] at g5 g6
      have hfe := g2.tr g5
      simp only [s_ss]
      refine (ih (k + 1) (a4 + 1) _ h4' (by omega) (by rw [s_at]; exact jj_fr g4 hfe hj) (by rw [s_at, hfe _ (by omega)]; exact ho) (by rw [s_at, hfe _ (by omega)]; exact hfr) (by rw [s_at, hfe _ (by omega)]; exact hI) (by rw [s_at, hfe _ (by omega)]; exact hS)).mono ?_
      rintro r σ' ⟨rfl, w, N', rfl, hw, k1, k2, k3, k4, ew⟩
      rw [s_at] at ew k3
      have m1 := mu_one g3 (by omega)
      have m2 := mu_one (v := v) (v' := v2) (n := p + k) (fun i hi => g6 i (by omega)) (by omega)
      exact ⟨rfl, w, N', s_ss, hw, k1, k2, by omega, k4, fun i f1 f2 f3 => by rw [ew i f1 f2 f3, hfe i (by omega)]⟩
/-- s has n on its way: what is known of it -/
theorem on_way {v : Nat → Int32} {s N : Nat} (hs : s < 8) (hj : jj N v) (h : v (2358 + 8 * s + 6) ≠ 0) : ∃ n o fr p : Nat, n < 96 ∧ (v (2358 + 8 * s + 6)).toInt = ((n + 1 : Nat) : Int) ∧ (v (786 + 16 * n + 2)).toInt = o ∧ o ≤ 4 ∧ (v (786 + 16 * n + 1)).toInt = fr ∧ fr < 256 ∧ fr % 2 ^ o = 0 ∧ (v (786 + 16 * n + 6)).toInt = ((p + 1 : Nat) : Int) ∧ p < 256 ∧ p % 2 ^ o = 0 ∧ v (786 + 16 * n + 0) = 1 ∧ 0 ≤ (v (786 + 16 * n + 7)).toInt ∧ v (2358 + 8 * s + 0) = 3 := by
  obtain ⟨st, pt, at', q, g1, g2, g3, g4, g5, g6, g7, g8, g9⟩ := hj.2.1.2.2.1 s hs
  rcases g9 with g9 | ⟨b, f1, f2, f3, f4, fr, f5, f6⟩
  · exact absurd (t_inj (by rw [g8, g9]; rfl)) h
  · obtain ⟨o, fr2, b1, b2, b3, b4, b5, b6, ⟨t, b7, b8⟩, b9⟩ := hj.2.1.1 b f1
    have ht1 : 1 ≤ t ∧ t ≤ 256 ∧ (t - 1) % 2 ^ o = 0 := b8.resolve_left (fun z => f4 (t_inj (by rw [b7, z]; rfl)))
    obtain ⟨i1, -⟩ := hj.2.1.2.2.2.1 b f1 f4
    refine ⟨b, o, fr2, t - 1, f1, by rw [g8, f2], b1, b2, b3, b4, b5, by rw [b7]; omega, by omega, ht1.2.2, i1, b9, t_inj (by rw [g1, f3]; rfl)⟩
theorem c_arrives {a1 a2 : Int32} {s n N : Nat} (h1 : a1.toInt = s) (hs : s < 8) (h2 : a2.toInt = n) (hn : n < 96) (hN : N < 2147470000) (σ : sm_S) (hj : jj N (σ 1)) (hS : (σ 1 (2358 + 8 * s + 6)).toInt = ((n + 1 : Nat) : Int)) : xC xM j_M_arrives [.ref 0, .int a1, .int a2] σ (sm_V (fun σ' => ∃ w N', σ' = sm_set σ 1 w ∧ jj N' w ∧ N ≤ N' ∧ N' ≤ N + 7 ∧ mu w ≤ mu (σ 1) + 64 ∧ ∀ i, 2358 ≤ i → i < 2422 → i ≠ 2358 + 8 * s + 6 → w i = σ 1 i)) := by
  obtain ⟨n2, o, fr, p, k1, k2, k3, k4, k5, k6, k7, k8, k9, k10, k11, k12, k13⟩ := on_way hs hj (fun z => by rw [z] at hS; have hS : (0 : Int) = _ := hS; omega)
  have hnn : n2 = n := by omega
  subst hnn
  have hpw := t_pw (k := o) (by omega)
  have hp16 : 2 ^ o ≤ 16 := by
    have := Nat.pow_le_pow_right (n := 2) (by decide) k4
    omega
  refine w_M_arrives a1 a2 σ _ ((c_of (k := 6) (j := 6) h2 rfl (by omega) σ).int ?_)
  rintro y σ ⟨hy, rfl⟩
  have hy1 : (y - 1).toInt = ((p : Nat) : Int) := by
    rw [hy, t_dec k8]
    omega
  refine (l_arrives h1 hs h2 k1 hy1 k9 k10 k4 k6 k7 hN (2 ^ o) 0 0 _ rfl (by omega) hj k3 k5 k11 k2).mono ?_
  rintro r σ' ⟨rfl, w, N', rfl, hw, l1, l2, l3, -, ew⟩
  exact ⟨rfl, w, N', rfl, hw, l1, l2, by omega, ew⟩
/-- jj doesn't speak of how much is copied but that it is no negative number -/
theorem jj_copied {v : Nat → Int32} {n N : Nat} {x : Int32} (hn : n < 96) (hx : 0 ≤ x.toInt) (hj : jj N v) : jj N (upd v (786 + 16 * n + 7) x) := by
  refine ⟨fr_cong (fun i _ _ => u_ne (by omega)) (fun b k hb hk => u_ne (by omega)) hj.1, ?_, by rw [u_ne (by omega)]; exact hj.2.2⟩
  obtain ⟨j1, j2, j3, j4, s, hs, z1, z2⟩ := hj.2.1
  have e : ∀ i, i ≠ 786 + 16 * n + 7 → upd v (786 + 16 * n + 7) x i = v i := fun i hi => u_ne hi
  refine ⟨fun b hb => ?_, fun b hb => ?_, fun s hs => ?_, fun b hb => ?_, s, hs, ?_, ?_⟩
  · by_cases hbn : b = n
    · subst hbn
      obtain ⟨o2, fr, h1, h2, h3, h4, h5, h6', h7, h8⟩ := j1 b hb
      refine ⟨o2, fr, ?_, h2, ?_, h4, h5, ?_, ?_, by rw [u_at]; exact hx⟩ <;> rw [e _ (by omega)] <;> assumption
    · exact bk_cong (fun k hk _ _ _ => e _ (by omega)) (j1 b hb)
  · obtain ⟨L, o2, h1, h2, h3, h4, h5, h6'⟩ := j2 b hb
    refine ⟨L, o2, ?_, h2, ?_, ?_, fun k hk => ?_, fun k m hkm hm => ?_⟩
    · rw [e _ (by omega)]; exact h1
    · rw [e _ (by omega)]; exact h3
    · rw [e _ (by omega)]; exact h4
    · obtain ⟨t, a, g1, g2, g3, g4, g5⟩ := h5 k hk
      refine ⟨t, a, g1, ?_, ?_, ?_, g5⟩ <;> rw [e _ (by omega)] <;> assumption
    · rw [e _ (by omega), e _ (by omega)]; exact h6' k m hkm hm
  · obtain ⟨st, pt, at', q, h1, h2, h3, h4, h5, h6', h7, h8, h9⟩ := j3 s hs
    refine ⟨st, pt, at', q, ?_, h2, ?_, h4, h5, ?_, h7, ?_, ?_⟩
    · rw [e _ (by omega)]; exact h1
    · rw [e _ (by omega)]; exact h3
    · rw [e _ (by omega)]; exact h6'
    · rw [e _ (by omega)]; exact h8
    · rcases h9 with h9 | ⟨b, g1, g2, g3, g4, fr, g5, g6⟩
      · exact Or.inl h9
      · refine Or.inr ⟨b, g1, g2, g3, ?_, fr, ?_, g6⟩ <;> rw [e _ (by omega)] <;> assumption
  · intro hb6
    rw [e _ (by omega)] at hb6
    obtain ⟨h1, fr, h2, h3, h4⟩ := j4 b hb hb6
    refine ⟨?_, fr, ?_, h3, ?_⟩ <;> rw [e _ (by omega)] <;> assumption
  · rw [e _ (by omega)]; exact z1
  · rw [e _ (by omega)]; exact z2
theorem l_copies {a1 a2 a3 : Int32} {s n o fr p N : Nat} (h1 : a1.toInt = s) (hs : s < 8) (h3 : a3.toInt = n) (hn : n < 96) (hN : N < 2147470000) (ho4 : o ≤ 4) (hfr : fr < 256) (hfa : fr % 2 ^ o = 0) (hp : p < 256) (hpa : p % 2 ^ o = 0) : ∀ (d k : Nat) (a4 : Int32) (v5 : Value) (σ : sm_S), (σ 1 (786 + 16 * n + 7)).toInt = k → 2 ^ o ≤ k + d → jj N (σ 1) → (σ 1 (786 + 16 * n + 2)).toInt = o → (σ 1 (786 + 16 * n + 1)).toInt = fr → (σ 1 (786 + 16 * n + 6)).toInt = ((p + 1 : Nat) : Int) → (σ 1 (2358 + 8 * s + 6)).toInt = ((n + 1 : Nat) : Int) →
    xE xM m_M_copies 19 [.ref 0, .int a1, .int a2, .int a3, .int a4, v5] [] σ (sm_I (fun _ σ' => ∃ w N', σ' = sm_set σ 1 w ∧ jj N' w ∧ N ≤ N' ∧ N' ≤ N + 7 ∧ mu w ≤ mu (σ 1) + 64 ∧ ∀ i, 2358 ≤ i → i < 2422 → i ≠ 2358 + 8 * s + 6 → w i = σ 1 i)) := by
  have hpw := t_pw (k := o) (by omega)
  have hs2 := t_al (k := o) (by omega) hpa
  have hs3 := t_al (k := o) (by omega) hfa
  have fin : ∀ (a4 : Int32) (σ : sm_S), jj N (σ 1) → (σ 1 (2358 + 8 * s + 6)).toInt = ((n + 1 : Nat) : Int) → xC xM j_M_of [.ref 0, .int a3, .int 7] σ (sm_ri False (fun x2 σ1 => xC xM j_M_longOf [.ref 0, .int a3] σ1 (sm_ri False (fun x4 σ3 => ((x2 ≠ x4 → (sm_I (fun _ σ' => ∃ w N', σ' = sm_set σ 1 w ∧ jj N' w ∧ N ≤ N' ∧ N' ≤ N + 7 ∧ mu w ≤ mu (σ 1) + 64 ∧ ∀ i, 2358 ≤ i → i < 2422 → i ≠ 2358 + 8 * s + 6 → w i = σ 1 i)) (some (.int a4)) σ3) ∧ (¬ (x2 ≠ x4) → xC xM j_M_arrives [.ref 0, .int a1, .int a3] σ3 (sm_rv False (fun σ5 => (sm_I (fun _ σ' => ∃ w N', σ' = sm_set σ 1 w ∧ jj N' w ∧ N ≤ N' ∧ N' ≤ N + 7 ∧ mu w ≤ mu (σ 1) + 64 ∧ ∀ i, 2358 ≤ i → i < 2422 → i ≠ 2358 + 8 * s + 6 → w i = σ 1 i)) (some (.int a4)) σ5))))))) ) := by
    intro a4 σ hj hS
    refine (c_of (k := 7) (j := 7) h3 rfl (by omega) σ).int ?_
    rintro x2 σ ⟨-, rfl⟩
    refine (c_longOf h3 hn _).int ?_
    rintro x4 σ ⟨-, rfl⟩
    refine ⟨fun _ => ⟨_, rfl, σ 1, N, s_id.symm, hj, Nat.le_refl N, by omega, by omega, fun _ _ _ _ => rfl⟩, fun _ => (c_arrives h1 hs h3 hn hN _ hj hS).void ?_⟩
    rintro _ ⟨w, N', rfl, hw, l1, l2, l3, ew⟩
    exact ⟨_, rfl, w, N', rfl, hw, l1, l2, l3, ew⟩
  intro d
  induction d with
  | zero =>
    intro k a4 v5 σ h7 hk hj ho hf h6 hS
    refine w_M_copies_19 a1 a2 a3 a4 v5 σ _ ⟨fun _ => fin a4 σ hj hS, fun _ => (c_of (k := 7) (j := 7) h3 rfl (by omega) σ).int ?_⟩
    rintro x7 σ ⟨hx7, rfl⟩
    refine (c_longOf h3 hn _).int ?_
    rintro x9 σ ⟨hx9, rfl⟩
    refine ⟨fun _ => fin a4 _ hj hS, fun h => absurd ?_ h⟩
    rw [t_le, hx9, t_pow ho (by omega), hx7, h7]
    omega
  | succ d ih =>
    intro k a4 v5 σ h7 hk hj ho hf h6 hS
    refine w_M_copies_19 a1 a2 a3 a4 v5 σ _ ⟨fun _ => fin a4 σ hj hS, fun _ => (c_of (k := 7) (j := 7) h3 rfl (by omega) σ).int ?_⟩
    rintro x7 σ ⟨hx7, rfl⟩
    refine (c_longOf h3 hn _).int ?_
    rintro x9 σ ⟨hx9, rfl⟩
    refine ⟨fun _ => fin a4 _ hj hS, fun h => ?_⟩
    rw [t_le, hx9, t_pow ho (by omega), hx7, h7] at h
    refine (c_of (k := 7) (j := 7) h3 rfl (by omega) _).int ?_
    rintro x16 σ ⟨hx16, rfl⟩
    have h16 : x16.toInt = k := by rw [hx16]; exact h7
    refine (c_of (k := 6) (j := 6) h3 rfl (by omega) _).int ?_
    rintro x18 σ ⟨hx18, rfl⟩
    refine (c_frameOf h3 hn _).int ?_
    rintro x20 σ ⟨hx20, rfl⟩
    have hfo : (x20 + x16).toInt = ((fr + k : Nat) : Int) := by
      rw [t_add (x := (fr : Int)) (by rw [hx20]; exact hf) h16 (by omega) (by omega)]
      omega
    have hto : (x18 - 1 + x16).toInt = ((p + k : Nat) : Int) := by
      rw [t_add (x := (p : Int)) (by rw [hx18, t_dec h6]; omega) h16 (by omega) (by omega)]
      omega
    refine (c_valueOf hfo (by omega) _).int ?_
    rintro x22 σ ⟨-, rfl⟩
    refine (c_lays' hto (by omega) _ hj.1).void ?_
    rintro _ ⟨v, rfl, g1, g2, g3⟩
    have hj1 := jj_fr g1 g2 hj
    refine (c_lay (k := 7) (j := 7) h3 rfl (by omega) _ _).void ?_
    rintro _ rfl
    refine (c_counts (k := 3) (j := 3) rfl (by omega) 1 _).void ?_
    rintro _ rfl
    simp only [s_at, s_ss]
    have h16' : (x16 + 1).toInt = ((k + 1 : Nat) : Int) := by
      rw [t_add h16 (y := 1) rfl (by omega) (by omega)]
      omega
    have hw0 : ∃ u, u = upd (upd v (786 + 16 * n + 7) (x16 + 1)) (7 + 3) (upd v (786 + 16 * n + 7) (x16 + 1) (7 + 3) + 1) := ⟨_, rfl⟩
    obtain ⟨u, hu⟩ := hw0
    rw [← hu]
    have hue : ∀ i, 786 ≤ i → i ≠ 786 + 16 * n + 7 → u i = σ 1 i := fun i e1 e2 => by rw [hu, u_ne (by omega), u_ne e2, g2 i (Or.inr e1)]
    have hju : jj N u := by
      rw [hu]
      exact jj_low (by omega) (by omega) (jj_copied hn (by rw [h16']; omega) hj1)
    refine (ih (k + 1) _ _ _ (by rw [s_at, hu, u_ne (by omega), u_at]; exact h16') (by omega) (by rw [s_at]; exact hju) ?_ ?_ ?_ ?_).mono ?_
    · rw [s_at, hue _ (by omega) (by omega)]; exact ho
    · rw [s_at, hue _ (by omega) (by omega)]; exact hf
    · rw [s_at, hue _ (by omega) (by omega)]; exact h6
    · rw [s_at, hue _ (by omega) (by omega)]; exact hS
    · rintro r σ' ⟨z, rfl, w, N', rfl, hw, l1, l2, l3, ew⟩
      rw [s_at] at l3 ew
      have hmu : mu u ≤ mu (σ 1) := by
        refine mu_cong (fun f hf => ?_) (fun b hb => hue _ (by omega) (by omega)) (fun b hb => hue _ (by omega) (by omega))
        rw [hu, u_ne (by omega), u_ne (by omega), u_ne (by omega), u_ne (by omega), g3 _ (by omega), g3 _ (by omega)]
        exact ⟨rfl, rfl⟩
      exact ⟨z, rfl, w, N', s_ss, hw, l1, l2, by omega, fun i e1 e2 e3 => by rw [ew i e1 e2 e3, hue i (by omega) (by omega)]⟩
theorem c_copies {a1 a2 : Int32} {s N : Nat} (h1 : a1.toInt = s) (hs : s < 8) (hN : N < 2147470000) (σ : sm_S) (hj : jj N (σ 1)) (h6 : σ 1 (2358 + 8 * s + 6) ≠ 0) : xC xM j_M_copies [.ref 0, .int a1, .int a2] σ (sm_I (fun _ σ' => ∃ w N', σ' = sm_set σ 1 w ∧ jj N' w ∧ N ≤ N' ∧ N' ≤ N + 7 ∧ mu w ≤ mu (σ 1) + 64 ∧ ∀ i, 2358 ≤ i → i < 2422 → i ≠ 2358 + 8 * s + 6 → w i = σ 1 i)) := by
  refine w_M_copies a1 a2 σ _ ((c_spanAt a1 σ).int ?_)
  rintro _ σ ⟨rfl, rfl⟩
  obtain ⟨p6, q6⟩ := ixS (k := 6) (j := 6) h1 rfl (by omega)
  rw [q6]
  obtain ⟨n, o, fr, p, k1, k2, k3, k4, k5, k6, k7, k8, k9, k10, k11, k12, k13⟩ := on_way hs hj h6
  have hb : (σ 1 (2358 + 8 * s + 6) - 1).toInt = n := by
    rw [t_dec k2]
    omega
  obtain ⟨k, hk⟩ := t_of k12
  exact ⟨p6, l_copies h1 hs hb k1 hN k4 k6 k7 k9 k10 (2 ^ o) k _ _ _ hk (by omega) hj k3 k5 k8 k2⟩
end
section
/-! ===== the model: a span is looked through ===== -/
theorem jr_leave {v v' : Nat → Int32} {n s o p fr : Nat} (hn : n < 96) (hs : s < 8) (hj : jr v) (hI : v (786 + 16 * n + 0) = 1) (hfr : (v (786 + 16 * n + 1)).toInt = fr) (hfs : fr / 32 = s) (hst : v (2358 + 8 * s + 0) = 3) (hS : v (2358 + 8 * s + 6) = 0) (ho : (v (786 + 16 * n + 2)).toInt = o) (hp : p < 256) (hpa : p % 2 ^ o = 0)
    (e6 : (v' (786 + 16 * n + 6)).toInt = ((p + 1 : Nat) : Int)) (e7 : v' (786 + 16 * n + 7) = 0) (eS : (v' (2358 + 8 * s + 6)).toInt = ((n + 1 : Nat) : Int)) (e : ∀ i, 786 ≤ i → i < 2422 → i ≠ 786 + 16 * n + 6 → i ≠ 786 + 16 * n + 7 → i ≠ 2358 + 8 * s + 6 → v' i = v i) : jr v' := by
  have h6 := to_0 hj hn hS hfr hfs
  obtain ⟨j1, j2, j3, j4, s0, hs0, z1, z2⟩ := hj
  have e6' : v' (786 + 16 * n + 6) ≠ 0 := fun z => by rw [z] at e6; have e6 : (0 : Int) = _ := e6; omega
  obtain ⟨on, frn, h1n, h2n, h3n, h4n, h5n, h6n, h7n, h8n⟩ := j1 n hn
  have hoo : on = o := by rw [ho] at h1n; omega
  subst hoo
  have hff : frn = fr := by rw [hfr] at h3n; omega
  subst hff
  refine ⟨fun b hb => ?_, fun b hb => ?_, fun s2 hs2 => ?_, fun b hb => ?_, s0, hs0, ?_, ?_⟩
  · by_cases hbn : b = n
    · subst hbn
      refine ⟨on, frn, ?_, h2n, ?_, h4n, h5n, ?_, ⟨p + 1, e6, Or.inr ⟨by omega, by omega, by rw [Nat.add_sub_cancel]; exact hpa⟩⟩, by rw [e7]; decide⟩
      · rw [e _ (by omega) (by omega) (by omega) (by omega) (by omega)]; exact h1n
      · rw [e _ (by omega) (by omega) (by omega) (by omega) (by omega)]; exact h3n
      · rw [e _ (by omega) (by omega) (by omega) (by omega) (by omega)]; exact h6n
    · exact bk_cong (fun k hk _ _ _ => e _ (by omega) (by omega) (by omega) (by omega) (by omega)) (j1 b hb)
  · by_cases hbn : b = n
    · subst hbn
      obtain ⟨L, o2, h1, h2, h3, h4, h5, h6'⟩ := j2 b hb
      refine ⟨L, o2, ?_, h2, ?_, fun _ => e6', fun k hk => ?_, fun k m hkm hm => ?_⟩
      · rw [e _ (by omega) (by omega) (by omega) (by omega) (by omega)]; exact h1
      · rw [e _ (by omega) (by omega) (by omega) (by omega) (by omega)]; exact h3
      · obtain ⟨t, a, g1, g2, g3, g4, g5⟩ := h5 k hk
        refine ⟨t, a, g1, ?_, ?_, ?_, g5⟩ <;> rw [e _ (by omega) (by omega) (by omega) (by omega) (by omega)] <;> assumption
      · rw [e _ (by omega) (by omega) (by omega) (by omega) (by omega), e _ (by omega) (by omega) (by omega) (by omega) (by omega)]; exact h6' k m hkm hm
    · exact ln_cong (fun k hk _ _ _ => e _ (by omega) (by omega) (by omega) (by omega) (by omega)) (fun t k ht hk => e _ (by omega) (by omega) (by omega) (by omega) (by omega)) (j2 b hb)
  · obtain ⟨st, pt, at', q, h1, h2, h3, h4, h5, h6', h7, h8, h9⟩ := j3 s2 hs2
    by_cases hss : s2 = s
    · subst hss
      have hst3 : st = 3 := by
        rw [hst] at h1
        have h1 : (3 : Int) = st := h1
        omega
      refine ⟨st, pt, at', n + 1, ?_, h2, ?_, h4, h5, ?_, h7, eS, Or.inr ⟨n, hn, rfl, hst3, e6', frn, ?_, hfs⟩⟩
      · rw [e _ (by omega) (by omega) (by omega) (by omega) (by omega)]; exact h1
      · rw [e _ (by omega) (by omega) (by omega) (by omega) (by omega)]; exact h3
      · rw [e _ (by omega) (by omega) (by omega) (by omega) (by omega)]; exact h6'
      · rw [e _ (by omega) (by omega) (by omega) (by omega) (by omega)]; exact hfr
    · refine ⟨st, pt, at', q, ?_, h2, ?_, h4, h5, ?_, h7, ?_, ?_⟩
      · rw [e _ (by omega) (by omega) (by omega) (by omega) (by omega)]; exact h1
      · rw [e _ (by omega) (by omega) (by omega) (by omega) (by omega)]; exact h3
      · rw [e _ (by omega) (by omega) (by omega) (by omega) (by omega)]; exact h6'
      · rw [e _ (by omega) (by omega) (by omega) (by omega) (by omega)]; exact h8
      · rcases h9 with h9 | ⟨b, g1, g2, g3, g4, fr2, g5, g6⟩
        · exact Or.inl h9
        · have hbn : b ≠ n := fun z => by subst z; exact g4 h6
          refine Or.inr ⟨b, g1, g2, g3, ?_, fr2, ?_, g6⟩ <;> rw [e _ (by omega) (by omega) (by omega) (by omega) (by omega)] <;> assumption
  · by_cases hbn : b = n
    · subst hbn
      intro _
      refine ⟨?_, frn, ?_, h4n, by rw [hfs]; exact eS⟩
      · rw [e _ (by omega) (by omega) (by omega) (by omega) (by omega)]; exact hI
      · rw [e _ (by omega) (by omega) (by omega) (by omega) (by omega)]; exact hfr
    · intro hb6
      rw [e _ (by omega) (by omega) (by omega) (by omega) (by omega)] at hb6
      obtain ⟨h1, fr2, h2, h3, h4⟩ := j4 b hb hb6
      have hns : fr2 / 32 ≠ s := fun z => by
        rw [z, hS] at h4
        have h4 : (0 : Int) = _ := h4
        omega
      refine ⟨?_, fr2, ?_, h3, ?_⟩ <;> rw [e _ (by omega) (by omega) (by omega) (by omega) (by omega)] <;> assumption
  · rw [e _ (by omega) (by omega) (by omega) (by omega) (by omega)]; exact z1
  · rw [e _ (by omega) (by omega) (by omega) (by omega) (by omega)]; exact z2
theorem l_looks123 {a1 a2 a3 a4 : Int32} {s n o p fr N : Nat} (h1 : a1.toInt = s) (hs : s < 8) (h2 : a2.toInt = ((2358 + 8 * s : Nat) : Int)) (h3 : a3.toInt = n) (hn : n < 96) (h4 : a4.toInt = p) (hp : p < 256) (hpa : p % 2 ^ o = 0) (ho4 : o ≤ 4) (hfa : fr % 2 ^ o = 0) : ∀ (d k : Nat) (a5 : Int32) (σ : sm_S), a5.toInt = k → k + d = 2 ^ o → fr_ok (σ 1) → (∀ v, fr_ok v → fr_eq (σ 1) v → jj N (upd v (2358 + 8 * s + 6) (a3 + 1))) → (σ 1 (786 + 16 * n + 2)).toInt = o → (σ 1 (786 + 16 * n + 1)).toInt = fr →
    xE xM m_M_looks 123 [.ref 0, .int a1, .int a2, .int a3, .int a4, .int a5] [] σ (sm_I (fun x σ' => ∃ w, σ' = sm_set σ 1 w ∧ jj N w ∧ mu w ≤ mu (σ 1) ∧ x = 1 ∧ (w (2358 + 8 * s + 5)).toInt = ((fr % 32 + 2 ^ o : Nat) : Int) ∧ (w (2358 + 8 * s + 6)).toInt = ((n + 1 : Nat) : Int) ∧ ∀ i, 2358 ≤ i → i < 2422 → i ≠ 2358 + 8 * s + 5 → i ≠ 2358 + 8 * s + 6 → w i = σ 1 i)) := by
  have hpw := t_pw (k := o) (by omega)
  have hs2 := t_al (k := o) (by omega) hpa
  have hb1 : (a3 + 1).toInt = ((n + 1 : Nat) : Int) := by
    rw [t_add h3 (y := 1) rfl (by omega) (by omega)]
    omega
  have i6 : (a2 + 6).toInt = ((2358 + 8 * s + 6 : Nat) : Int) := by
    rw [t_add h2 (y := 6) rfl (by omega) (by omega)]
    omega
  intro d
  induction d with
  | zero =>
    intro k a5 σ h5 hk hF hH ho hf
    refine w_M_looks_123 a1 a2 a3 a4 a5 σ _ ((c_longOf h3 hn σ).int ?_)
    rintro _ σ ⟨rfl, rfl⟩
    rw [t_nat i6]
    refine ⟨fun _ => ⟨t_vp i6 (by omega), fun σ3 e3 => ?_⟩, fun h => absurd ?_ h⟩
    · subst e3
      have hj := hH (σ 1) hF fr_eq.rf
      refine (c_isPassed (o := o) (fr := fr) h1 hs h3 hn _ (by rw [s_at]; exact hj) (by rw [s_at, u_ne (by omega)]; exact ho) ho4 (by rw [s_at, u_ne (by omega)]; exact hf) hfa).void ?_
      rintro _ ⟨y, rfl, hy, hjy⟩
      rw [s_at] at hjy ⊢
      refine ⟨Or.inr rfl, _, rfl, _, s_ss, hjy, ?_, rfl, by rw [u_at]; exact hy, by rw [u_ne (by omega), u_at]; exact hb1, fun i g1 g2 g3 g4 => by rw [u_ne g3, u_ne g4]⟩
      refine mu_cong (fun f hf => ?_) (fun b hb => ?_) (fun b hb => ?_)
      · rw [u_ne (by omega), u_ne (by omega), u_ne (by omega), u_ne (by omega)]
        exact ⟨rfl, rfl⟩
      · rw [u_ne (by omega), u_ne (by omega)]
      · rw [u_ne (by omega), u_ne (by omega)]
    · rw [t_le, t_pow ho (by omega), h5]
      omega
  | succ d ih =>
    intro k a5 σ h5 hk hF hH ho hf
    have h5' : (a5 + 1).toInt = ((k + 1 : Nat) : Int) := by
      rw [t_add h5 (y := 1) rfl (by omega) (by omega)]
      omega
    have hto := t_add h4 h5 (by omega) (by omega)
    rw [← Int.natCast_add] at hto
    refine w_M_looks_123 a1 a2 a3 a4 a5 σ _ ((c_longOf h3 hn σ).int ?_)
    rintro _ σ ⟨rfl, rfl⟩
    refine ⟨fun h => ?_, fun _ => (c_has' hto (by omega) h3 hn _ hF (fun z => absurd z (by decide))).void ?_⟩
    · rw [t_le, t_pow ho (by omega), h5] at h
      omega
    · rintro _ ⟨v, rfl, g1, g2, g3, g4, g5⟩
      refine (ih (k + 1) (a5 + 1) _ h5' (by omega) (by rw [s_at]; exact g1) (fun u hu1 hu2 => hH u hu1 (g2.tr (by rw [s_at] at hu2; exact hu2))) (by rw [s_at, g2 _ (by omega)]; exact ho) (by rw [s_at, g2 _ (by omega)]; exact hf)).mono ?_
      rintro r σ' ⟨x, rfl, w, rfl, hw, k1, k2, k3, k4, ew⟩
      rw [s_at] at ew k1
      refine ⟨x, rfl, w, s_ss, hw, Nat.le_trans k1 ?_, k2, k3, k4, fun i f1 f2 f3 f4 => by rw [ew i f1 f2 f3 f4, g2 i (by omega)]⟩
      refine mu_mono (fun f hf h => ?_) (fun b hb => g2 _ (by omega)) (fun b hb => g2 _ (by omega))
      by_cases hfp : f = p + k
      · subst hfp
        rw [g3] at h
        exact absurd h (by decide)
      · rw [g5 _ (by omega)] at h ⊢
        exact ⟨h, rfl⟩
def lkQ (N s at0 : Nat) (v : Nat → Int32) (x : Int32) (w : Nat → Int32) (N' : Nat) : Prop := jj N' w ∧ N ≤ N' ∧ N' + mu w ≤ N + mu v ∧ (∀ i, 2358 ≤ i → i < 2422 → i ≠ 2358 + 8 * s + 5 → i ≠ 2358 + 8 * s + 6 → w i = v i) ∧ ((x = 0 ∧ w (2358 + 8 * s + 6) = 0) ∨ (x = 1 ∧ w (2358 + 8 * s + 6) ≠ 0 ∧ ∃ at1 : Nat, (w (2358 + 8 * s + 5)).toInt = at1 ∧ at0 < at1))
theorem l_looks20 {a1 a2 : Int32} {s : Nat} (h1 : a1.toInt = s) (hs : s < 8) (h2 : a2.toInt = ((2358 + 8 * s : Nat) : Int)) : ∀ (m N at0 : Nat) (a3 : Int32) (v4 v5 : Value) (σ : sm_S), (32 - at0) + mu (σ 1) ≤ m → N + mu (σ 1) < 2000000000 → jj N (σ 1) → σ 1 (2358 + 8 * s + 0) = 3 → σ 1 (2358 + 8 * s + 6) = 0 → (σ 1 (2358 + 8 * s + 5)).toInt = at0 → fbk (σ 1) s at0 a3 →
    xE xM m_M_looks 20 [.ref 0, .int a1, .int a2, .int a3, v4, v5] [] σ (sm_I (fun x σ' => ∃ w N', σ' = sm_set σ 1 w ∧ lkQ N s at0 (σ 1) x w N')) := by
  have i5 : (a2 + 5).toInt = ((2358 + 8 * s + 5 : Nat) : Int) := by
    rw [t_add h2 (y := 5) rfl (by omega) (by omega)]
    omega
  intro m
  induction m with
  | zero =>
    intro N at0 a3 v4 v5 σ hm hN hj hst hS hat hfb
    refine w_M_looks_20 a1 a2 a3 v4 v5 σ _ ⟨fun _ => ⟨Or.inl rfl, _, rfl, σ 1, N, s_id.symm, hj, Nat.le_refl _, Nat.le_refl _, fun _ _ _ _ _ => rfl, Or.inl ⟨rfl, hS⟩⟩, fun h => ?_⟩
    obtain ⟨n, fr, k1, k2, k3, k4, k5, k6, k7, k8, k9⟩ := hfb.resolve_left h
    omega
  | succ m ih =>
    intro N at0 a3 v4 v5 σ hm hN hj hst hS hat hfb
    have again : ∀ (v4 v5 : Value) (w : Nat → Int32) (N1 at1 : Nat), jj N1 w → (∀ i, 2358 ≤ i → i < 2422 → i ≠ 2358 + 8 * s + 5 → w i = σ 1 i) → (w (2358 + 8 * s + 5)).toInt = at1 → at0 ≤ at1 → N ≤ N1 → N1 + mu w ≤ N + mu (σ 1) → (32 - at1) + mu w ≤ m → vp_in (a2 + 5) 2662 ∧ xC xM j_M_firstBlock [.ref 0, .int a1, .int ((sm_set σ 1 w) 1 (a2 + 5).toNatClampNeg)] (sm_set σ 1 w) (sm_ri False (fun x5 σ4 => xE xM m_M_looks 20 [.ref 0, .int a1, .int a2, .int x5, v4, v5] [] σ4 (sm_I (fun x σ' => ∃ w N', σ' = sm_set σ 1 w ∧ lkQ N s at0 (σ 1) x w N')))) := by
      intro v4 v5 w N1 at1 hw ew hat1 hle hN1 hmu hm1
      refine ⟨t_vp i5 (by omega), ?_⟩
      rw [t_nat i5, s_at]
      have h32 : at1 ≤ 32 := by
        obtain ⟨st, pt, at', q, g1, g2, g3, g4, g5, g6, g7, g8, g9⟩ := hw.2.1.2.2.1 s hs
        rw [hat1] at g6
        omega
      refine (c_firstBlock h1 hs hat1 h32 _ (by rw [s_at]; exact hw)).int ?_
      rintro x5 σ4 ⟨hx5, rfl⟩
      rw [s_at] at hx5
      refine (ih N1 at1 x5 v4 v5 _ (by rw [s_at]; exact hm1) (by rw [s_at]; omega) (by rw [s_at]; exact hw) (by rw [s_at, ew _ (by omega) (by omega) (by omega)]; exact hst) (by rw [s_at, ew _ (by omega) (by omega) (by omega)]; exact hS) (by rw [s_at]; exact hat1) (by rw [s_at]; exact hx5)).mono ?_
      rintro r σ' ⟨x, rfl, w2, N2, rfl, q1, q2, q3, q4, q5⟩
      rw [s_at] at q3 q4
      refine ⟨x, rfl, w2, N2, s_ss, q1, by omega, by omega, fun i f1 f2 f3 f4 => by rw [q4 i f1 f2 f3 f4, ew i f1 f2 f3], ?_⟩
      rcases q5 with q5 | ⟨q6, q7, at2, q8, q9⟩
      · exact Or.inl q5
      · exact Or.inr ⟨q6, q7, at2, q8, by omega⟩
    refine w_M_looks_20 a1 a2 a3 v4 v5 σ _ ⟨fun _ => ⟨Or.inl rfl, _, rfl, σ 1, N, s_id.symm, hj, Nat.le_refl _, Nat.le_refl _, fun _ _ _ _ _ => rfl, Or.inl ⟨rfl, hS⟩⟩, fun h => ?_⟩
    obtain ⟨n, fr, k1, k2, k3, k4, k5, k6, k7, k8, k9⟩ := hfb.resolve_left h
    have h6 := to_0 hj.2.1 k2 hS k4 k6
    obtain ⟨o, fr2, b1, b2, b3, b4, b5, ⟨t, b6, b6'⟩, -⟩ := hj.2.1.1 n k2
    have hff : fr2 = fr := by rw [k4] at b3; omega
    subst hff
    have hpw := t_pw (k := o) (by omega)
    have hal := t_al (k := o) (by omega) b5
    have pass : ∀ (v4 v5 : Value), xC xM j_M_isPassed [.ref 0, .int a1, .int a3] σ (sm_rv False (fun σ3 => (vp_in (a2 + 5) 2662 ∧ xC xM j_M_firstBlock [.ref 0, .int a1, .int (σ3 1 ((a2 + 5)).toNatClampNeg)] σ3 (sm_ri False (fun x5 σ4 => xE xM m_M_looks 20 [.ref 0, .int a1, .int a2, .int x5, v4, v5] [] σ4 (sm_I (fun x σ' => ∃ w N', σ' = sm_set σ 1 w ∧ lkQ N s at0 (σ 1) x w N'))))))) := by
      intro v4 v5
      refine (c_isPassed h1 hs k1 k2 _ hj b1 b2 b3 b5).void ?_
      rintro _ ⟨y, rfl, hy, hjy⟩
      have hmu : mu (upd (σ 1) (2358 + 8 * s + 5) y) ≤ mu (σ 1) := by
        refine mu_cong (fun f hf => ?_) (fun b hb => u_ne (by omega)) (fun b hb => u_ne (by omega))
        rw [u_ne (by omega), u_ne (by omega)]
        exact ⟨rfl, rfl⟩
      exact again v4 v5 _ N (fr2 % 32 + 2 ^ o) hjy (fun i _ _ g => u_ne g) (by rw [u_at]; exact hy) (by omega) (Nat.le_refl N) (by omega) (by omega)
    refine (c_of (k := 3) (j := 3) k1 rfl (by omega) σ).int ?_
    rintro x2 σ ⟨hx2, rfl⟩
    refine ⟨fun _ => pass _ _, fun _ => (c_isPinned k1 k2 _).int ?_⟩
    rintro x7 σ ⟨-, rfl⟩
    refine ⟨fun _ => (c_of (k := 3) (j := 3) k1 rfl (by omega) _).int ?_, fun _ => pass _ _⟩
    rintro x9 σ ⟨hx9, rfl⟩
    refine ⟨fun hk2 => (c_of (k := 4) (j := 4) k1 rfl (by omega) _).int ?_, fun hk2 => ?_⟩
    · rintro x11 σ ⟨hx11, rfl⟩
      refine (c_of (k := 3) (j := 3) k1 rfl (by omega) _).int ?_
      rintro x13 σ ⟨-, rfl⟩
      refine (c_of (k := 2) (j := 2) k1 rfl (by omega) _).int ?_
      rintro x15 σ ⟨hx15, rfl⟩
      refine (c_bestPlace (m := t) (o := o) (by rw [hx11]; exact b6) b6' (by rw [hx15]; exact b1) b2 _).int ?_
      rintro x17 σ ⟨hx17, rfl⟩
      refine ⟨fun _ => (c_of (k := 2) (j := 2) k1 rfl (by omega) _).int ?_, fun n17 => ?_⟩
      · rintro x19 σ ⟨hx19, rfl⟩
        refine ⟨fun _ => pass _ _, fun n19 => (c_freeNumber _).int ?_⟩
        rintro x24 σ ⟨hx24, rfl⟩
        refine ⟨fun _ => pass _ _, fun n24 => ?_⟩
        have ho1 : ∃ o1, o = o1 + 1 := by
          rw [t_le, hx19, b1] at n19
          have n19 : ¬ (o : Int) ≤ 0 := n19
          exact ⟨o - 1, by omega⟩
        obtain ⟨o1, rfl⟩ := ho1
        have hfree : ∃ j, j < 96 ∧ σ 1 (786 + 16 * j) = 0 := by
          rcases hx24 with ⟨z, -⟩ | ⟨j, z1, z2, z3, -⟩
          · exact absurd z n24
          · exact ⟨j, z2, z3⟩
        refine (c_splits k1 k2 (by omega) _ hj k3 h6 b1 k4 (by rw [← hx9]; exact hk2) hfree).void ?_
        rintro _ ⟨w, rfl, hw, hmu, ew⟩
        exact again _ _ w (N + 1) at0 hw (fun i g1 g2 _ => ew i g1 g2) (by rw [ew _ (by omega) (by omega)]; exact hat) (Nat.le_refl _) (by omega) (by omega) (by omega)
      · obtain ⟨p, hp1, hp2, hp3⟩ := hx17.resolve_left n17
        refine (c_lay (k := 6) (j := 6) k1 rfl (by omega) _ _).void ?_
        rintro _ rfl
        refine (c_lay (k := 7) (j := 7) k1 rfl (by omega) _ _).void ?_
        rintro _ rfl
        simp only [s_at, s_ss]
        have hp1' : (x17 + 1).toInt = ((p + 1 : Nat) : Int) := by
          rw [t_add hp1 (y := 1) rfl (by omega) (by omega)]
          omega
        have hb1 : (a3 + 1).toInt = ((n + 1 : Nat) : Int) := by
          rw [t_add k1 (y := 1) rfl (by omega) (by omega)]
          omega
        have hw0 : ∃ u, u = upd (upd (σ 1) (786 + 16 * n + 6) (x17 + 1)) (786 + 16 * n + 7) 0 := ⟨_, rfl⟩
        obtain ⟨u, hu⟩ := hw0
        rw [← hu]
        have hue : ∀ i, i ≠ 786 + 16 * n + 6 → i ≠ 786 + 16 * n + 7 → u i = σ 1 i := fun i g1 g2 => by rw [hu, u_ne g2, u_ne g1]
        have hu6 : u (786 + 16 * n + 6) = x17 + 1 := by rw [hu, u_ne (by omega), u_at]
        have hu7 : u (786 + 16 * n + 7) = 0 := by rw [hu, u_at]
        refine (l_looks123 (o := o) (p := p) (fr := fr2) (N := N) h1 hs h2 k1 k2 hp1 hp2 hp3 b2 b5 (2 ^ o) 0 0 _ rfl (by omega) ?_ ?_ ?_ ?_).mono ?_
        · rw [s_at]
          exact fr_cong (fun i _ _ => hue i (by omega) (by omega)) (fun b k hb hk => hue _ (by omega) (by omega)) hj.1
        · intro v hv1 hv2
          rw [s_at] at hv2
          refine ⟨fr_cong (fun i _ _ => u_ne (by omega)) (fun b k hb hk => u_ne (by omega)) hv1, ?_, ?_⟩
          · refine jr_leave k2 hs hj.2.1 k3 k4 k6 hst hS b1 hp2 hp3 ?_ ?_ (by rw [u_at]; exact hb1) (fun i g1 g2 g3 g4 g5 => by rw [u_ne g5, hv2 i (Or.inr g1), hue i g3 g4])
            · rw [u_ne (by omega), hv2 _ (by omega), hu6]; exact hp1'
            · rw [u_ne (by omega), hv2 _ (by omega), hu7]
          · rw [u_ne (by omega), hv2 _ (by omega), hue _ (by omega) (by omega)]; exact hj.2.2
        · rw [s_at, hue _ (by omega) (by omega)]; exact b1
        · rw [s_at, hue _ (by omega) (by omega)]; exact b3
        · rintro r σ' ⟨x, rfl, w, rfl, hw, q1, q2, q3, q4, q5⟩
          rw [s_at] at q1 q5
          have hmu : mu u ≤ mu (σ 1) := by
            refine mu_cong (fun f hf => ?_) (fun b hb => hue _ (by omega) (by omega)) (fun b hb => hue _ (by omega) (by omega))
            rw [hue _ (by omega) (by omega), hue _ (by omega) (by omega)]
            exact ⟨rfl, rfl⟩
          refine ⟨x, rfl, w, N, s_ss, hw, Nat.le_refl N, by omega, fun i f1 f2 f3 f4 => by rw [q5 i f1 f2 f3 f4, hue i (by omega) (by omega)], Or.inr ⟨q2, fun z => ?_, _, q3, by omega⟩⟩
          rw [z] at q4
          have q4 : (0 : Int) = _ := q4
          omega
    · have hk2' : σ 1 (786 + 16 * n + 3) = 2 := by rw [← hx9]; exact Classical.not_not.mp hk2
      refine (c_drops k1 k2 (by omega) _ hj h6).void ?_
      rintro _ ⟨w, fr3, rfl, hw, e1, e2, e3, e4, e5, e6⟩
      have hff : fr3 = fr2 := by rw [b3] at e4; omega
      subst hff
      have hmu := mu_drop k2 e5 e1 e3 k8 k9 hk2' e6
      exact again _ _ w (N + 1) at0 hw (fun i g1 g2 _ => e3 i (by omega) (by omega) (by omega)) (by rw [e3 _ (by omega) (by omega) (by omega)]; exact hat) (Nat.le_refl _) (by omega) (by omega) (by omega)
theorem c_looks {a1 : Int32} {s N at0 : Nat} (h1 : a1.toInt = s) (hs : s < 8) (σ : sm_S) (hN : N + mu (σ 1) < 2000000000) (hj : jj N (σ 1)) (hst : σ 1 (2358 + 8 * s + 0) = 3) (hS : σ 1 (2358 + 8 * s + 6) = 0) (hat : (σ 1 (2358 + 8 * s + 5)).toInt = at0) : xC xM j_M_looks [.ref 0, .int a1] σ (sm_I (fun x σ' => ∃ w N', σ' = sm_set σ 1 w ∧ lkQ N s at0 (σ 1) x w N')) := by
  refine w_M_looks a1 σ _ ((c_spanAt a1 σ).int ?_)
  rintro _ σ ⟨rfl, rfl⟩
  obtain ⟨p5, q5⟩ := ixS (k := 5) (j := 5) h1 rfl (by omega)
  rw [q5]
  have h2 : (2358 + 8 * a1).toInt = ((2358 + 8 * s : Nat) : Int) := by
    rw [t_add (a := 2358) (x := 2358) rfl (t_mul (x := 8) rfl h1 (by omega) (by omega)) (by omega) (by omega)]
    omega
  have h32 : at0 ≤ 32 := by
    obtain ⟨st, pt, at', q, g1, g2, g3, g4, g5, g6, g7, g8, g9⟩ := hj.2.1.2.2.1 s hs
    rw [hat] at g6
    omega
  refine ⟨p5, (c_firstBlock h1 hs hat h32 _ hj).int ?_⟩
  rintro x4 σ ⟨hx4, rfl⟩
  exact l_looks20 h1 hs h2 _ N at0 x4 _ _ _ (Nat.le_refl _) hN hj hst hS hat hx4
end
section
/-! ===== the model: a tick ===== -/
theorem l_manyIn {a1 a2 : Int32} {s : Nat} (h1 : a1.toInt = s) (hs : s < 8) (σ : sm_S) : ∀ (d k : Nat) (a3 a4 : Int32), a4.toInt = ((32 * s + k : Nat) : Int) → k + d = 32 → xE xM m_M_manyIn 8 [.ref 0, .int a1, .int a2, .int a3, .int a4] [] σ (sm_I (fun _ σ' => σ' = σ)) := by
  have h38 : (32 * a1 + 32).toInt = ((32 * s + 32 : Nat) : Int) := by
    rw [t_add (t_32s h1 hs) (y := 32) rfl (by omega) (by omega)]
    omega
  intro d
  induction d with
  | zero =>
    intro k a3 a4 h4 hk
    exact w_M_manyIn_8 a1 a2 a3 a4 σ _ ⟨fun _ => ⟨_, rfl, rfl⟩, fun h => absurd (by rw [t_le, h38, h4]; omega) h⟩
  | succ d ih =>
    intro k a3 a4 h4 hk
    have h4' : (a4 + 1).toInt = ((32 * s + (k + 1) : Nat) : Int) := by
      rw [t_add h4 (y := 1) rfl (by omega) (by omega)]
      omega
    refine w_M_manyIn_8 a1 a2 a3 a4 σ _ ⟨fun h => ?_, fun _ => (c_stateOf h4 (by omega) σ).int ?_⟩
    · rw [t_le, h38, h4] at h; omega
    · rintro x σ ⟨-, rfl⟩
      exact ⟨fun _ => ih (k + 1) _ _ h4' (by omega), fun _ => ih (k + 1) _ _ h4' (by omega)⟩
theorem c_manyIn {a1 : Int32} {s : Nat} (h1 : a1.toInt = s) (hs : s < 8) (a2 : Int32) (σ : sm_S) : xC xM j_M_manyIn [.ref 0, .int a1, .int a2] σ (sm_I (fun _ σ' => σ' = σ)) :=
  w_M_manyIn a1 a2 σ _ (l_manyIn h1 hs σ 32 0 _ _ (t_32s h1 hs) rfl)
theorem c_whyOf {a1 : Int32} {s N : Nat} (h1 : a1.toInt = s) (hs : s < 8) (σ : sm_S) (hj : jj N (σ 1)) : xC xM j_M_whyOf [.ref 0, .int a1] σ (sm_I (fun _ σ' => σ' = σ)) := by
  refine w_M_whyOf a1 σ _ ((c_firstBlock (fm := 0) h1 hs rfl (by omega) σ hj).int ?_)
  rintro x2 σ ⟨hx2, rfl⟩
  refine ⟨fun hne => ?_, fun _ => ⟨_, rfl, rfl⟩⟩
  obtain ⟨n, fr, k1, k2, -⟩ := hx2.resolve_left hne
  refine (c_of (k := 3) (j := 3) k1 rfl (by omega) _).int ?_
  rintro x4 σ ⟨-, rfl⟩
  refine ⟨fun _ => (c_isPinned k1 k2 _).int ?_, fun _ => ⟨_, rfl, rfl⟩⟩
  rintro x6 σ ⟨-, rfl⟩
  exact ⟨fun _ => ⟨_, rfl, rfl⟩, fun _ => ⟨_, rfl, rfl⟩⟩
theorem l_isOver {a1 a2 : Int32} {s N : Nat} (h1 : a1.toInt = s) (hs : s < 8) : ∀ (d k : Nat) (a3 : Int32) (σ : sm_S), a3.toInt = ((32 * s + k : Nat) : Int) → k + d = 32 → jj N (σ 1) → xE xM m_M_isOver 84 [.ref 0, .int a1, .int a2, .int a3] [] σ (sm_V (fun σ' => ∃ w, σ' = sm_set σ 1 w ∧ jj N w ∧ ∀ i, 2358 ≤ i → i < 2422 → w i = σ 1 i)) := by
  have h38 : (32 * a1 + 32).toInt = ((32 * s + 32 : Nat) : Int) := by
    rw [t_add (t_32s h1 hs) (y := 32) rfl (by omega) (by omega)]
    omega
  intro d
  induction d with
  | zero =>
    intro k a3 σ h3 hk hj
    refine w_M_isOver_84 a1 a2 a3 σ _ ⟨fun _ => (c_counts (k := 6) (j := 6) rfl (by omega) 1 σ).void ?_, fun h => absurd (by rw [t_le, h38, h3]; omega) h⟩
    rintro _ rfl
    exact ⟨rfl, _, rfl, jj_low (by omega) (by omega) hj, fun i _ _ => u_ne (by omega)⟩
  | succ d ih =>
    intro k a3 σ h3 hk hj
    have h3' : (a3 + 1).toInt = ((32 * s + (k + 1) : Nat) : Int) := by
      rw [t_add h3 (y := 1) rfl (by omega) (by omega)]
      omega
    refine w_M_isOver_84 a1 a2 a3 σ _ ⟨fun h => ?_, fun _ => (c_frameAt a3 σ).int ?_⟩
    · rw [t_le, h38, h3] at h; omega
    · rintro _ σ ⟨rfl, rfl⟩
      obtain ⟨p1, q1⟩ := ixF (k := 0) (j := 0) h3 rfl (by omega)
      rw [q1]
      refine ⟨p1, fun σ1 e1 => ?_⟩
      subst e1
      have hj1 : jj N (upd (σ 1) (18 + 3 * (32 * s + k) + 0) 0) := jj_fr (fr_st1 (f := 32 * s + k) rfl (by decide) (by omega) hj.1) (fr_upd (by omega) (by omega)) hj
      refine (ih (k + 1) (a3 + 1) _ h3' (by omega) (by rw [s_at]; exact hj1)).mono ?_
      rintro r σ' ⟨rfl, w, rfl, hw, ew⟩
      rw [s_at] at ew
      exact ⟨rfl, w, s_ss, hw, fun i g1 g2 => by rw [ew i g1 g2, u_ne (by omega)]⟩
theorem c_isOver {a1 : Int32} {s N : Nat} (h1 : a1.toInt = s) (hs : s < 8) (hN : N < 2147460000) (σ : sm_S) (hj : jj N (σ 1)) (hst : σ 1 (2358 + 8 * s + 0) = 3) (hS : σ 1 (2358 + 8 * s + 6) = 0) : xC xM j_M_isOver [.ref 0, .int a1] σ (sm_V (fun σ' => ∃ w N', σ' = sm_set σ 1 w ∧ jj N' w ∧ N ≤ N' ∧ N' ≤ N + 7 ∧ oth s (σ 1) w)) := by
  refine w_M_isOver a1 σ _ ((c_spanAt a1 σ).int ?_)
  rintro _ σ ⟨rfl, rfl⟩
  obtain ⟨p0, q0⟩ := ixS (k := 0) (j := 0) h1 rfl (by omega)
  obtain ⟨p1, q1⟩ := ixS (k := 1) (j := 1) h1 rfl (by omega)
  obtain ⟨p2, q2⟩ := ixS (k := 2) (j := 2) h1 rfl (by omega)
  obtain ⟨p3, q3⟩ := ixS (k := 3) (j := 3) h1 rfl (by omega)
  obtain ⟨p4, q4⟩ := ixS (k := 4) (j := 4) h1 rfl (by omega)
  obtain ⟨p5, q5⟩ := ixS (k := 5) (j := 5) h1 rfl (by omega)
  have h23 : (2358 + 8 * a1 + 3).toInt = ((2358 + 8 * s + 3 : Nat) : Int) := t_ix (c := 2358) (m := 8) (C := 2358) (M := 8) (k := 3) (j := 3) rfl rfl h1 rfl (by omega)
  rw [q0, q1, q2, q3, q4, q5]
  refine (c_counts (k := 9) (j := 9) rfl (by omega) 1 _).void ?_
  rintro _ rfl
  have hj1 : jj N (upd (σ 1) (7 + 9) (σ 1 (7 + 9) + 1)) := jj_low (by omega) (by omega) hj
  have hw0 : ∃ u, u = upd (σ 1) (7 + 9) (σ 1 (7 + 9) + 1) := ⟨_, rfl⟩
  obtain ⟨u, hu⟩ := hw0
  rw [← hu] at hj1 ⊢
  have hue : ∀ i, 18 ≤ i → u i = σ 1 i := fun i g => by rw [hu, u_ne (by omega)]
  have hstu : u (2358 + 8 * s + 0) = 3 := by rw [hue _ (by omega)]; exact hst
  have hSu : u (2358 + 8 * s + 6) = 0 := by rw [hue _ (by omega)]; exact hS
  obtain ⟨st, pt, at', q, g1, g2, g3, g4, g5, g6, g7, g8, g9⟩ := hj1.2.1.2.2.1 s hs
  have hst3 : st = 3 := by
    rw [hstu] at g1
    have g1 : (3 : Int) = st := g1
    omega
  obtain ⟨s2, f1, f2, f3⟩ := hj1.2.1.2.2.2.2
  have hs2 : s2 ≠ s := fun z => by
    subst z
    rw [hstu] at f2
    exact absurd f2 (by decide)
  refine (c_manyIn h1 hs _ _).int ?_
  rintro x5 σ5 e5
  subst e5
  refine (c_manyIn h1 hs _ _).int ?_
  rintro x7 σ5 e5
  subst e5
  refine ⟨fun _ => ⟨p3, (c_settingOf (n := 1) rfl (by omega) _).int ?_⟩, fun _ => ⟨p3, (c_writes' (N := N) _ _ _ _ (by rw [s_at]; exact hj1) (by omega)).void ?_⟩⟩
  · rintro x9 σ5 e5
    subst e5
    refine ⟨fun _ => (c_more (j := 2358 + 8 * s + 3) h23 (by omega) 1 _).void ?_, fun _ => (c_whyOf h1 hs _ (by rw [s_at]; exact hj1)).int ?_⟩
    · rintro _ rfl
      refine (c_settingOf (n := 3) rfl (by omega) _).int ?_
      rintro x12 σ5 e5
      subst e5
      refine ⟨p4, fun σ6 e6 => ⟨p5, fun σ7 e7 => ?_⟩⟩
      subst e7 e6
      simp only [s_at, s_ss]
      refine ⟨rfl, _, N, rfl, jj_at (a := 0) hs rfl (by omega) (jj_cell (by omega) (Or.inr (Or.inr ⟨s, hs, Or.inr (Or.inl rfl)⟩)) (jj_cell (by omega) (Or.inr (Or.inr ⟨s, hs, Or.inl rfl⟩)) hj1)), Nat.le_refl N, by omega, fun i c1 c2 c3 => ?_⟩
      rw [u_ne (by omega), u_ne (by omega), u_ne (by omega), hue _ (by omega)]
    · rintro x16 σ5 e5
      subst e5
      refine (c_fails (N := N) h1 hs hN _ (by rw [s_at]; exact hj1)).void ?_
      rintro _ ⟨w, N', rfl, hw, l1, l2, -, ew⟩
      rw [s_at] at ew
      exact ⟨rfl, w, N', s_ss, hw, l1, l2, fun i c1 c2 c3 => by rw [ew i c1 c2 c3, hue i (by omega)]⟩
  · rintro _ ⟨v, rfl, hv, ev⟩
    rw [s_at] at ev
    refine ⟨p0, fun σ1 e1 => ⟨p1, fun σ2 e2 => ⟨p2, fun σ3 e3 => ⟨p3, fun σ4 e4 => ?_⟩⟩⟩⟩
    subst e4 e3 e2 e1
    simp only [s_at, s_ss]
    have hw0 : ∃ w, w = upd (upd (upd (upd v (2358 + 8 * s + 0) 0) (2358 + 8 * s + 1) 0) (2358 + 8 * s + 2) 0) (2358 + 8 * s + 3) 0 := ⟨_, rfl⟩
    obtain ⟨w, hw⟩ := hw0
    rw [← hw]
    have hwe : ∀ i, (i < 2358 + 8 * s ∨ 2358 + 8 * s + 4 ≤ i) → w i = v i := fun i hi => by rw [hw, u_ne (by omega), u_ne (by omega), u_ne (by omega), u_ne (by omega)]
    have hjw : jj (N + 1) w := by
      refine ⟨fr_cong (fun i _ _ => hwe i (by omega)) (fun b k hb hk => hwe _ (by omega)) hv.1, ?_, by rw [hwe _ (by omega)]; exact hv.2.2⟩
      refine jr_span hs hv.2.1 (fun i _ _ h => hwe i (by omega)) (hwe _ (by omega)) ⟨0, 0, at', 0, ?_, by omega, ?_, by omega, fun z => by omega, ?_, g7, ?_, Or.inl rfl⟩ ⟨s2, f1, ?_, ?_⟩
      · rw [hw, u_ne (by omega), u_ne (by omega), u_ne (by omega), u_at]; rfl
      · rw [hw, u_ne (by omega), u_at]; rfl
      · rw [hwe _ (by omega), ev _ (by omega) (by omega)]; exact g6
      · rw [hwe _ (by omega), ev _ (by omega) (by omega), hSu]; rfl
      · rw [hwe _ (by omega), ev _ (by omega) (by omega)]; exact f2
      · rw [hwe _ (by omega), ev _ (by omega) (by omega)]; exact f3
    refine (l_isOver (N := N + 1) h1 hs 32 0 _ _ (t_32s h1 hs) rfl (by rw [s_at]; exact hjw)).mono ?_
    rintro r σ' ⟨rfl, z, rfl, hz, ez⟩
    rw [s_at] at ez
    exact ⟨rfl, z, N + 1, s_ss, hz, by omega, by omega, fun i c1 c2 c3 => by rw [ez i c1 c2, hwe i (by omega), ev i (by omega) (by omega), hue i (by omega)]⟩
theorem t_pos0 {x : Int32} {q : Nat} (h : x.toInt = q) (h2 : x ≤ 0) : x = 0 := by
  apply t_inj
  rw [t_le, h] at h2
  have h2 : (q : Int) ≤ 0 := h2
  rw [h]
  show (q : Int) = 0
  omega
theorem sb_0 {v : Nat → Int32} {s N : Nat} (hs : s < 8) (hj : jj N v) (h : v (2358 + 8 * s + 6) ≤ 0) : v (2358 + 8 * s + 6) = 0 := by
  obtain ⟨st, pt, at', q, g1, g2, g3, g4, g5, g6, g7, g8, g9⟩ := hj.2.1.2.2.1 s hs
  exact t_pos0 g8 h
/-- the loop of moves, nothing on its way -/
theorem l_moves {a1 a2 : Int32} {s : Nat} (h1 : a1.toInt = s) (hs : s < 8) (h2 : a2.toInt = ((2358 + 8 * s : Nat) : Int)) : ∀ (d N at0 : Nat) (a3 : Int32) (σ : sm_S), 32 ≤ at0 + d → N + mu (σ 1) + 71 * d < 1900000000 → jj N (σ 1) → σ 1 (2358 + 8 * s + 0) = 3 → σ 1 (2358 + 8 * s + 6) = 0 → (σ 1 (2358 + 8 * s + 5)).toInt = at0 →
    xE xM m_M_moves 32 [.ref 0, .int a1, .int a2, .int a3] [] σ (sm_V (fun σ' => ∃ w N', σ' = sm_set σ 1 w ∧ jj N' w ∧ N ≤ N' ∧ N' ≤ N + mu (σ 1) + 71 * d + 7 ∧ oth s (σ 1) w)) := by
  have i6 : (a2 + 6).toInt = ((2358 + 8 * s + 6 : Nat) : Int) := by
    rw [t_add h2 (y := 6) rfl (by omega) (by omega)]
    omega
  intro d
  induction d with
  | zero =>
    intro N at0 a3 σ hd hN hj hst hS hat
    refine w_M_moves_32 a1 a2 a3 σ _ ?_
    rw [t_nat i6, hS]
    refine ⟨t_vp i6 (by omega), fun h => absurd h (by decide), fun _ => (c_looks h1 hs σ (by omega) hj hst hS hat).int ?_⟩
    rintro x4 _ ⟨w, N', rfl, q1, q2, q3, q4, q5⟩
    have hst' : w (2358 + 8 * s + 0) = 3 := by rw [q4 _ (by omega) (by omega) (by omega) (by omega)]; exact hst
    refine ⟨fun hx => ?_, fun hx => ?_⟩
    · have hS' := (q5.resolve_right (fun z => by rw [z.1] at hx; exact absurd hx (by decide))).2
      refine (c_isOver (N := N') h1 hs (by omega) _ (by rw [s_at]; exact q1) (by rw [s_at]; exact hst') (by rw [s_at]; exact hS')).void ?_
      rintro _ ⟨w2, N2, rfl, r1, r2, r3, r4⟩
      rw [s_at] at r4
      exact ⟨rfl, w2, N2, s_ss, r1, by omega, by omega, fun i c1 c2 c3 => by rw [r4 i c1 c2 c3, q4 i c1 c2 (by omega) (by omega)]⟩
    · obtain ⟨-, -, at1, e1, e2⟩ := q5.resolve_left (fun z => hx z.1)
      obtain ⟨st, pt, at', q, g1, g2, g3, g4, g5, g6, g7, g8, g9⟩ := q1.2.1.2.2.1 s hs
      rw [e1] at g6
      omega
  | succ d ih =>
    intro N at0 a3 σ hd hN hj hst hS hat
    refine w_M_moves_32 a1 a2 a3 σ _ ?_
    rw [t_nat i6, hS]
    refine ⟨t_vp i6 (by omega), fun h => absurd h (by decide), fun _ => (c_looks h1 hs σ (by omega) hj hst hS hat).int ?_⟩
    rintro x4 _ ⟨w, N', rfl, q1, q2, q3, q4, q5⟩
    have hst' : w (2358 + 8 * s + 0) = 3 := by rw [q4 _ (by omega) (by omega) (by omega) (by omega)]; exact hst
    refine ⟨fun hx => ?_, fun hx => ?_⟩
    · have hS' := (q5.resolve_right (fun z => by rw [z.1] at hx; exact absurd hx (by decide))).2
      refine (c_isOver (N := N') h1 hs (by omega) _ (by rw [s_at]; exact q1) (by rw [s_at]; exact hst') (by rw [s_at]; exact hS')).void ?_
      rintro _ ⟨w2, N2, rfl, r1, r2, r3, r4⟩
      rw [s_at] at r4
      exact ⟨rfl, w2, N2, s_ss, r1, by omega, by omega, fun i c1 c2 c3 => by rw [r4 i c1 c2 c3, q4 i c1 c2 (by omega) (by omega)]⟩
    · obtain ⟨-, hne, at1, e1, e2⟩ := q5.resolve_left (fun z => hx z.1)
      refine (c_copies (N := N') h1 hs (by omega) _ (by rw [s_at]; exact q1) (by rw [s_at]; exact hne)).int ?_
      rintro x7 _ ⟨w2, N2, rfl, r1, r2, r3, r4, r5⟩
      rw [s_at] at r4 r5
      rw [s_ss, s_at]
      have hoth : ∀ i, 2358 ≤ i → i < 2422 → (i < 2358 + 8 * s ∨ 2358 + 8 * s + 8 ≤ i) → w2 i = σ 1 i := fun i c1 c2 c3 => by rw [r5 i c1 c2 (by omega), q4 i c1 c2 (by omega) (by omega)]
      refine ⟨t_vp i6 (by omega), fun hle => ?_, fun _ => ⟨rfl, w2, N2, rfl, r1, by omega, by omega, hoth⟩⟩
      refine (ih N2 at1 x7 _ (by omega) (by rw [s_at]; omega) (by rw [s_at]; exact r1) (by rw [s_at, r5 _ (by omega) (by omega) (by omega)]; exact hst') (by rw [s_at]; exact sb_0 hs r1 hle) (by rw [s_at, r5 _ (by omega) (by omega) (by omega)]; exact e1)).mono ?_
      rintro r σ' ⟨rfl, w3, N3, rfl, t1, t2, t3, t4⟩
      rw [s_at] at t3 t4
      exact ⟨rfl, w3, N3, s_ss, t1, by omega, by omega, fun i c1 c2 c3 => by rw [t4 i c1 c2 c3, hoth i c1 c2 c3]⟩
theorem c_moves {a1 : Int32} {s N : Nat} (h1 : a1.toInt = s) (hs : s < 8) (hN : N < 1800000000) (σ : sm_S) (hj : jj N (σ 1)) (hst : σ 1 (2358 + 8 * s + 0) = 3) : xC xM j_M_moves [.ref 0, .int a1] σ (sm_V (fun σ' => ∃ w N', σ' = sm_set σ 1 w ∧ jj N' w ∧ N ≤ N' ∧ N' ≤ N + 3100 ∧ oth s (σ 1) w)) := by
  have hmu := mu_le (v := σ 1)
  refine w_M_moves a1 σ _ ((c_spanAt a1 σ).int ?_)
  rintro _ σ ⟨rfl, rfl⟩
  obtain ⟨p4, q4⟩ := ixS (k := 4) (j := 4) h1 rfl (by omega)
  have i4 : (2358 + 8 * a1 + 4).toInt = ((2358 + 8 * s + 4 : Nat) : Int) := t_ix (c := 2358) (m := 8) (C := 2358) (M := 8) (k := 4) (j := 4) rfl rfl h1 rfl (by omega)
  have h2 : (2358 + 8 * a1).toInt = ((2358 + 8 * s : Nat) : Int) := by
    rw [t_add (a := 2358) (x := 2358) rfl (t_mul (x := 8) rfl h1 (by omega) (by omega)) (by omega) (by omega)]
    omega
  have i6 : (2358 + 8 * a1 + 6).toInt = ((2358 + 8 * s + 6 : Nat) : Int) := t_ix (c := 2358) (m := 8) (C := 2358) (M := 8) (k := 6) (j := 6) rfl rfl h1 rfl (by omega)
  rw [q4]
  refine ⟨p4, fun _ => (c_settingOf (n := 0) rfl (by omega) _).int ?_, fun _ => (c_more i4 (by omega) (-1) _).void ?_⟩
  · rintro x4 σ rfl
    obtain ⟨st, pt, at', q, g1, g2, g3, g4, g5, g6, g7, g8, g9⟩ := hj.2.1.2.2.1 s hs
    by_cases hS : σ 1 (2358 + 8 * s + 6) = 0
    · refine (l_moves h1 hs h2 32 N at' x4 σ (by omega) (by omega) hj hst hS g6).mono ?_
      rintro r σ' ⟨rfl, w, N', rfl, r1, r2, r3, r4⟩
      exact ⟨rfl, w, N', rfl, r1, r2, by omega, r4⟩
    · refine w_M_moves_32 a1 _ x4 σ _ ?_
      rw [t_nat i6]
      have hpos : 0 < σ 1 (2358 + 8 * s + 6) := by
        rw [t_lt, g8]
        show (0 : Int) < q
        rcases Nat.eq_zero_or_pos q with z | z
        · exact absurd (t_inj (by rw [g8, z]; rfl)) hS
        · omega
      refine ⟨t_vp i6 (by omega), fun _ => (c_copies (N := N) h1 hs (by omega) _ hj hS).int ?_, fun h => absurd hpos h⟩
      rintro x7 _ ⟨w2, N2, rfl, r1, r2, r3, r4, r5⟩
      rw [s_at]
      have hmu2 := mu_le (v := w2)
      refine ⟨t_vp i6 (by omega), fun hle => ?_, fun _ => ⟨rfl, w2, N2, rfl, r1, by omega, by omega, fun i c1 c2 c3 => r5 i c1 c2 (by omega)⟩⟩
      refine (l_moves h1 hs h2 32 N2 at' x7 _ (by omega) (by rw [s_at]; omega) (by rw [s_at]; exact r1) (by rw [s_at, r5 _ (by omega) (by omega) (by omega)]; exact hst) (by rw [s_at]; exact sb_0 hs r1 hle) (by rw [s_at, r5 _ (by omega) (by omega) (by omega)]; exact g6)).mono ?_
      rintro r σ' ⟨rfl, w3, N3, rfl, t1, t2, t3, t4⟩
      rw [s_at] at t3 t4
      exact ⟨rfl, w3, N3, s_ss, t1, by omega, by omega, fun i c1 c2 c3 => by rw [t4 i c1 c2 c3, r5 i c1 c2 (by omega)]⟩
  · rintro _ rfl
    exact ⟨rfl, _, N, rfl, jj_cell (by omega) (Or.inr (Or.inr ⟨s, hs, Or.inr (Or.inl rfl)⟩)) hj, Nat.le_refl N, by omega, fun i c1 c2 c3 => u_ne (by omega)⟩
end
section
/-! ===== the model: ticks; what is thought ===== -/
def offs (v v' : Nat → Int32) : Prop := ∀ t, t < 8 → v (2358 + 8 * t) = 0 → v' (2358 + 8 * t) = 0
theorem offs.rf {v : Nat → Int32} : offs v v := fun _ _ h => h
theorem offs.tr {a b c : Nat → Int32} (h1 : offs a b) (h2 : offs b c) : offs a c := fun t ht h => h2 t ht (h1 t ht h)
theorem oth.offs {s : Nat} {v v' : Nat → Int32} (h : oth s v v') (hs : v (2358 + 8 * s) ≠ 0) : offs v v' := by
  intro t ht h0
  by_cases hts : t = s
  · subst hts; exact absurd h0 hs
  · rw [h _ (by omega) (by omega) (by omega)]; exact h0
theorem l_ticks : ∀ (d k N : Nat) (a1 : Int32) (σ : sm_S), a1.toInt = k → k + d = 8 → jj N (σ 1) → N + 3100 * d < 1790000000 → xE xM m_M_ticks 8 [.ref 0, .int a1] [] σ (sm_V (fun σ' => ∃ w N', σ' = sm_set σ 1 w ∧ jj N' w ∧ N ≤ N' ∧ N' ≤ N + 3100 * d ∧ offs (σ 1) w)) := by
  intro d
  induction d with
  | zero =>
    intro k N a1 σ h1 hk hj hN
    refine w_M_ticks_8 a1 σ _ ⟨fun _ => ⟨rfl, σ 1, N, s_id.symm, hj, Nat.le_refl N, by omega, offs.rf⟩, fun h => absurd ?_ h⟩
    rw [t_le, h1]
    show (8 : Int) ≤ _
    omega
  | succ d ih =>
    intro k N a1 σ h1 hk hj hN
    have h1' : (a1 + 1).toInt = ((k + 1 : Nat) : Int) := by
      rw [t_add h1 (y := 1) rfl (by omega) (by omega)]
      omega
    have hk8 : k < 8 := by omega
    refine w_M_ticks_8 a1 σ _ ⟨fun h => ?_, fun _ => (c_spanState h1 hk8 σ).int ?_⟩
    · rw [t_le, h1] at h
      have h : (8 : Int) ≤ k := h
      omega
    · rintro x2 σ ⟨hx2, rfl⟩
      refine ⟨fun _ => (c_spanState h1 hk8 _).int ?_, fun n2 => ?_⟩
      · rintro x4 σ ⟨hx4, rfl⟩
        refine ⟨fun _ => ?_, fun n4 => ?_⟩
        · refine (ih (k + 1) N (a1 + 1) _ h1' (by omega) hj (by omega)).mono ?_
          rintro r σ' ⟨rfl, w, N', rfl, hw, l1, l2, l3⟩
          exact ⟨rfl, w, N', rfl, hw, l1, by omega, l3⟩
        · have hst : σ 1 (2358 + 8 * k) = 3 := by rw [← hx4]; exact Classical.not_not.mp n4
          refine (c_moves (N := N) h1 hk8 (by omega) _ hj hst).void ?_
          rintro _ ⟨v, N1, rfl, hv, m1, m2, m3⟩
          refine (ih (k + 1) N1 (a1 + 1) _ h1' (by omega) (by rw [s_at]; exact hv) (by omega)).mono ?_
          rintro r σ' ⟨rfl, w, N', rfl, hw, l1, l2, l3⟩
          rw [s_at] at l3
          exact ⟨rfl, w, N', s_ss, hw, by omega, by omega, (m3.offs (by rw [hst]; decide)).tr l3⟩
      · have hst : σ 1 (2358 + 8 * k) = 2 := by rw [← hx2]; exact Classical.not_not.mp n2
        refine (c_shuts (N := N) h1 hk8 (by omega) _ hj hst).void ?_
        rintro _ ⟨v, N1, rfl, hv, m1, m2, m3⟩
        refine (ih (k + 1) N1 (a1 + 1) _ h1' (by omega) (by rw [s_at]; exact hv) (by omega)).mono ?_
        rintro r σ' ⟨rfl, w, N', rfl, hw, l1, l2, l3⟩
        rw [s_at] at l3
        exact ⟨rfl, w, N', s_ss, hw, by omega, by omega, (m3.offs (by rw [hst]; decide)).tr l3⟩
theorem c_ticks {N : Nat} (hN : N < 1780000000) (σ : sm_S) (hj : jj N (σ 1)) : xC xM j_M_ticks [.ref 0] σ (sm_V (fun σ' => ∃ w N', σ' = sm_set σ 1 w ∧ jj N' w ∧ N ≤ N' ∧ N' ≤ N + 24800 ∧ offs (σ 1) w)) := by
  refine w_M_ticks σ _ ((c_more (j := 4) rfl (by omega) 1 σ).void ?_)
  rintro _ rfl
  refine (l_ticks 8 0 N 0 _ rfl rfl (by rw [s_at]; exact jj_low (by omega) (by omega) hj) (by omega)).mono ?_
  rintro r σ' ⟨rfl, w, N', rfl, hw, l1, l2, l3⟩
  rw [s_at] at l3
  refine ⟨rfl, w, N', s_ss, hw, l1, by omega, fun t ht h0 => l3 t ht ?_⟩
  rw [u_ne (by omega)]; exact h0
theorem l_tick {a1 : Int32} {n : Nat} (h1 : a1.toInt = n) (hn : n ≤ 60) : ∀ (d k N : Nat) (a2 : Int32) (σ : sm_S), a2.toInt = k → k + d = n → jj N (σ 1) → N + 24800 * d < 1700000000 → xE xM m_M_tick 34 [.ref 0, .int a1, .int a2] [] σ (sm_I (fun _ σ' => ∃ w N', σ' = sm_set σ 1 w ∧ jj N' w ∧ N ≤ N' ∧ N' ≤ N + 24800 * d)) := by
  intro d
  induction d with
  | zero =>
    intro k N a2 σ h2 hk hj hN
    refine w_M_tick_34 a1 a2 σ _ ⟨fun _ => ⟨t_vp (n := 4) rfl (by omega), _, rfl, σ 1, N, s_id.symm, hj, Nat.le_refl N, by omega⟩, fun h => absurd (by rw [t_le, h1, h2]; omega) h⟩
  | succ d ih =>
    intro k N a2 σ h2 hk hj hN
    have h2' : (a2 + 1).toInt = ((k + 1 : Nat) : Int) := by
      rw [t_add h2 (y := 1) rfl (by omega) (by omega)]
      omega
    refine w_M_tick_34 a1 a2 σ _ ⟨fun h => ?_, fun _ => (c_ticks (N := N) (by omega) σ hj).void ?_⟩
    · rw [t_le, h1, h2] at h; omega
    · rintro _ ⟨v, N1, rfl, hv, m1, m2, -⟩
      refine (ih (k + 1) N1 (a2 + 1) _ h2' (by omega) (by rw [s_at]; exact hv) (by omega)).mono ?_
      rintro r σ' ⟨x, rfl, w, N', rfl, hw, l1, l2⟩
      exact ⟨x, rfl, w, N', s_ss, hw, by omega, by omega⟩
theorem c_tick {N : Nat} (a1 : Int32) (hN : N < 1600000000) (σ : sm_S) (hj : jj N (σ 1)) : xC xM j_M_tick [.ref 0, .int a1] σ (sm_I (pubX N 1488000 σ)) := by
  refine w_M_tick a1 σ _ (fun σ1 e1 => (c_isIn a1 1 60 σ1).int ?_)
  have hj1 : jj N (σ1 1) := by rw [e1, s_ne (by decide)]; exact hj
  rintro x3 σ1 ⟨hx3, rfl⟩
  refine ⟨fun _ => ⟨_, rfl, pub_X (pub_keep hj e1)⟩, fun n3 => ⟨t_vp (n := 4) rfl (by omega), fun _ => ?_, fun _ => ⟨_, rfl, pub_X (pub_keep hj e1)⟩⟩⟩
  obtain ⟨-, g1, g2⟩ := hx3.resolve_right (fun z => n3 z.1)
  have g1 : (1 : Int) ≤ a1.toInt := g1
  have g2 : a1.toInt ≤ (60 : Int) := g2
  obtain ⟨n, hn⟩ := t_of (x := a1) (by omega)
  refine (l_tick hn (by omega) n 0 N 0 _ rfl (by omega) hj1 (by omega)).mono ?_
  rintro r σ' ⟨x, rfl, w, N', rfl, hw, l1, l2⟩
  exact ⟨x, rfl, pub_X (pub_set e1 hw l1 (by omega))⟩
theorem jj_eq {v v' : Nat → Int32} {N : Nat} (h : ∀ i, i < 2662 → v' i = v i) (hj : jj N v) : jj N v' :=
  ⟨fr_cong (fun i _ _ => h i (by omega)) (fun b k hb hk => h _ (by omega)) hj.1, jr_cong (ceq.of (fun i _ _ => h i (by omega))) hj.2.1, by rw [h 5 (by omega)]; exact hj.2.2⟩
theorem l_thinks : ∀ (d k : Nat) (a1 : Int32) (σ : sm_S), a1.toInt = k → k + d = 2662 → xE xM m_M_thinks 2 [.ref 0, .int a1] [] σ (sm_V (fun σ' => ∃ f, σ' = sm_set σ 2 f ∧ (∀ i, k ≤ i → i < 2662 → f i = σ 1 i) ∧ ∀ i, i < k → f i = σ 2 i)) := by
  intro d
  induction d with
  | zero =>
    intro k a1 σ h1 hk
    refine w_M_thinks_2 a1 σ _ ⟨fun _ => ⟨rfl, σ 2, s_id.symm, fun i _ _ => by omega, fun _ _ => rfl⟩, fun h => absurd ?_ h⟩
    rw [t_le, h1]
    show (2662 : Int) ≤ _
    omega
  | succ d ih =>
    intro k a1 σ h1 hk
    have h1' : (a1 + 1).toInt = ((k + 1 : Nat) : Int) := by
      rw [t_add h1 (y := 1) rfl (by omega) (by omega)]
      omega
    refine w_M_thinks_2 a1 σ _ ⟨fun h => ?_, fun _ => ⟨t_vp h1 (by omega), t_vp h1 (by omega), fun σ1 e1 => ?_⟩⟩
    · rw [t_le, h1] at h
      have h : (2662 : Int) ≤ k := h
      omega
    · rw [t_nat h1] at e1
      refine (ih (k + 1) (a1 + 1) σ1 h1' (by omega)).mono ?_
      rintro r σ' ⟨rfl, f, rfl, g1, g2⟩
      subst e1
      refine ⟨rfl, f, s_ss, fun i i1 i2 => ?_, fun i i1 => ?_⟩
      · rcases Nat.lt_or_ge k i with hl | hl
        · rw [g1 i hl i2, s_ne (by decide)]
        · have hik : i = k := by omega
          rw [g2 i (by omega), s_at, hik, u_at]
      · rw [g2 i (by omega), s_at, u_ne (by omega)]
theorem c_thinks (σ : sm_S) : xC xM j_M_thinks [.ref 0] σ (sm_V (fun σ' => ∃ f, σ' = sm_set σ 2 f ∧ ∀ i, i < 2662 → f i = σ 1 i)) := by
  refine w_M_thinks σ _ ((l_thinks 2662 0 0 σ rfl rfl).mono ?_)
  rintro r σ' ⟨rfl, f, rfl, g1, -⟩
  exact ⟨rfl, f, rfl, fun i hi => g1 i (Nat.zero_le i) hi⟩
theorem l_forgets : ∀ (d k : Nat) (a1 : Int32) (σ : sm_S), a1.toInt = k → k + d = 2662 → xE xM m_M_forgets 2 [.ref 0, .int a1] [] σ (sm_V (fun σ' => ∃ f, σ' = sm_set σ 1 f ∧ (∀ i, k ≤ i → i < 2662 → f i = σ 2 i) ∧ ∀ i, i < k → f i = σ 1 i)) := by
  intro d
  induction d with
  | zero =>
    intro k a1 σ h1 hk
    refine w_M_forgets_2 a1 σ _ ⟨fun _ => ⟨rfl, σ 1, s_id.symm, fun i _ _ => by omega, fun _ _ => rfl⟩, fun h => absurd ?_ h⟩
    rw [t_le, h1]
    show (2662 : Int) ≤ _
    omega
  | succ d ih =>
    intro k a1 σ h1 hk
    have h1' : (a1 + 1).toInt = ((k + 1 : Nat) : Int) := by
      rw [t_add h1 (y := 1) rfl (by omega) (by omega)]
      omega
    refine w_M_forgets_2 a1 σ _ ⟨fun h => ?_, fun _ => ⟨t_vp h1 (by omega), t_vp h1 (by omega), fun σ1 e1 => ?_⟩⟩
    · rw [t_le, h1] at h
      have h : (2662 : Int) ≤ k := h
      omega
    · rw [t_nat h1] at e1
      refine (ih (k + 1) (a1 + 1) σ1 h1' (by omega)).mono ?_
      rintro r σ' ⟨rfl, f, rfl, g1, g2⟩
      subst e1
      refine ⟨rfl, f, s_ss, fun i i1 i2 => ?_, fun i i1 => ?_⟩
      · rcases Nat.lt_or_ge k i with hl | hl
        · rw [g1 i hl i2, s_ne (by decide)]
        · have hik : i = k := by omega
          rw [g2 i (by omega), s_at, hik, u_at]
      · rw [g2 i (by omega), s_at, u_ne (by omega)]
theorem c_forgets (σ : sm_S) : xC xM j_M_forgets [.ref 0] σ (sm_V (fun σ' => ∃ f, σ' = sm_set σ 1 f ∧ ∀ i, i < 2662 → f i = σ 2 i)) := by
  refine w_M_forgets σ _ ((l_forgets 2662 0 0 σ rfl rfl).mono ?_)
  rintro r σ' ⟨rfl, f, rfl, g1, -⟩
  exact ⟨rfl, f, rfl, fun i hi => g1 i (Nat.zero_le i) hi⟩
/-- behind what was thought, all is as it was -/
theorem pub_th {N D : Nat} {σ σ1 σ2 : sm_S} {x : Int32} {f g : Nat → Int32} (hj : jj N (σ 1)) (e1 : σ1 = sm_set σ 0 (upd (σ 0) 0 0)) (hf : ∀ i, i < 2662 → f i = σ 1 i) (h2 : σ2 2 = f) (h3 : ∀ k, k ≠ 1 → k ≠ 2 → k ≠ 4 → σ2 k = σ1 k) (hg : ∀ i, i < 2662 → g i = σ2 2 i) : pubX N D σ x (sm_set σ2 1 g) := by
  refine ⟨N, ?_, Nat.le_refl N, by omega, ?_, ?_, fun k hk => ?_⟩
  · rw [s_at]
    exact jj_eq (fun i hi => by rw [hg i hi, h2, hf i hi]) hj
  · rw [s_ne (by decide), h3 5 (by decide) (by decide) (by decide), e1, s_ne (by decide)]
  · rw [s_ne (by decide), h3 0 (by decide) (by decide) (by decide), e1, s_at, u_ne (by decide)]
  · rw [s_ne (by omega), h3 k (by omega) (by omega) (by omega), e1, s_ne (by omega)]
/-- a span goes away in thought -/
theorem l_goesAway {a1 : Int32} {s : Nat} (h1 : a1.toInt = s) (hs : s < 8) : ∀ (d k N : Nat) (a2 : Int32) (σ : sm_S), a2.toInt = k → k + d = 500 → jj N (σ 1) → N + 24800 * d < 1750000000 → xE xM m_M_goesAway 7 [.ref 0, .int a1, .int a2] [] σ (sm_I (fun _ σ' => ∃ w N', σ' = sm_set σ 1 w ∧ jj N' w ∧ N ≤ N' ∧ N' ≤ N + 24800 * d ∧ offs (σ 1) w)) := by
  intro d
  induction d with
  | zero =>
    intro k N a2 σ h2 hk hj hN
    refine w_M_goesAway_7 a1 a2 σ _ ⟨fun _ => ⟨_, rfl, σ 1, N, s_id.symm, hj, Nat.le_refl N, by omega, offs.rf⟩, fun h => absurd ?_ h⟩
    rw [t_le, h2]
    show (500 : Int) ≤ _
    omega
  | succ d ih =>
    intro k N a2 σ h2 hk hj hN
    have h2' : (a2 + 1).toInt = ((k + 1 : Nat) : Int) := by
      rw [t_add h2 (y := 1) rfl (by omega) (by omega)]
      omega
    refine w_M_goesAway_7 a1 a2 σ _ ⟨fun h => ?_, fun _ => (c_isGoing h1 hs σ).int ?_⟩
    · rw [t_le, h2] at h
      have h : (500 : Int) ≤ k := h
      omega
    · rintro x2 σ ⟨-, rfl⟩
      refine ⟨fun _ => ⟨_, rfl, σ 1, N, s_id.symm, hj, Nat.le_refl N, by omega, offs.rf⟩, fun _ => (c_ticks (N := N) (by omega) σ hj).void ?_⟩
      rintro _ ⟨v, N1, rfl, hv, m1, m2, m3⟩
      refine (ih (k + 1) N1 (a2 + 1) _ h2' (by omega) (by rw [s_at]; exact hv) (by omega)).mono ?_
      rintro r σ' ⟨x, rfl, w, N', rfl, hw, l1, l2, l3⟩
      rw [s_at] at l3
      exact ⟨x, rfl, w, N', s_ss, hw, by omega, by omega, m3.tr l3⟩
theorem c_goesAway {a1 : Int32} {s N : Nat} (h1 : a1.toInt = s) (hs : s < 8) (hN : N < 1730000000) (σ : sm_S) (hj : jj N (σ 1)) (hon : σ 1 (2358 + 8 * s) = 1) (hel : onElse (σ 1) 0 a1) : xC xM j_M_goesAway [.ref 0, .int a1] σ (sm_I (fun _ σ' => ∃ w N', σ' = sm_set σ 1 w ∧ jj N' w ∧ N ≤ N' ∧ N' ≤ N + 12400001 ∧ offs (σ 1) w)) := by
  refine w_M_goesAway a1 σ _ ((c_beginsToGo (N := N) h1 hs (by omega) σ hj hon hel).void ?_)
  rintro _ ⟨v, rfl, hv, -, ev⟩
  obtain ⟨d, hd⟩ : ∃ d, d = 500 := ⟨_, rfl⟩
  refine (l_goesAway h1 hs d 0 (N + 1) 0 _ rfl (by omega) (by rw [s_at]; exact hv) (by omega)).mono ?_
  rintro r σ' ⟨x, rfl, w, N', rfl, hw, l1, l2, l3⟩
  rw [s_at] at l3
  refine ⟨x, rfl, w, N', s_ss, hw, by omega, by omega, fun t ht h0 => l3 t ht ?_⟩
  by_cases hts : t = s
  · subst hts
    rw [hon] at h0
    exact absurd h0 (by decide)
  · rw [ev _ (by omega) (by omega) (by omega)]; exact h0
theorem c_would {N : Nat} (a1 a2 : Int32) (hN : N < 1600000000) (σ : sm_S) (hj : jj N (σ 1)) : xC xM j_M_would [.ref 0, .int a1, .int a2] σ (sm_I (pubX N 0 σ)) := by
  refine w_M_would a1 a2 σ _ (fun σ1 e1 => (c_canGo a1 σ1).int ?_)
  have hj1 : jj N (σ1 1) := by rw [e1, s_ne (by decide)]; exact hj
  rintro x3 σ1 ⟨hx3, rfl⟩
  refine ⟨fun _ => ⟨_, rfl, pub_X (pub_keep hj e1)⟩, fun n3 => (c_isIn _ _ _ _).int ?_⟩
  obtain ⟨-, s, hs, h1, hon, hel⟩ := hx3.resolve_left n3
  rintro x5 σ1 ⟨-, rfl⟩
  refine ⟨fun _ => (c_thinks _).void ?_, fun _ => ⟨_, rfl, pub_X (pub_keep hj e1)⟩⟩
  rintro _ ⟨f, rfl, hf⟩
  have v10 : vp_in (10 : Int32) 2662 := t_vp (n := 10) rfl (by omega)
  have v11 : vp_in (11 : Int32) 2662 := t_vp (n := 11) rfl (by omega)
  have v12 : vp_in (12 : Int32) 2662 := t_vp (n := 12) rfl (by omega)
  refine ⟨v10, v11, v12, (c_goesAway (N := N) h1 hs (by omega) _ (by rw [s_ne (by decide)]; exact hj1) (by rw [s_ne (by decide)]; exact hon) (by rw [s_ne (by decide)]; exact hel)).int ?_⟩
  rintro x8 _ ⟨w, N', rfl, hw, -⟩
  have hf' : ∀ i, i < 2662 → f i = σ 1 i := fun i hi => by rw [hf i hi, e1, s_ne (by decide)]
  have fin : ∀ y : Int32, xC xM j_M_forgets [.ref 0] (sm_set (sm_set σ1 2 f) 1 w) (sm_rv False (fun σ9 => sm_I (pubX N 0 σ) (some (.int y)) σ9)) := by
    intro y
    refine (c_forgets _).void ?_
    rintro _ ⟨g, rfl, hg⟩
    exact ⟨y, rfl, pub_th hj e1 hf' (by rw [s_ne (by decide), s_at]) (fun k k1 k2 _ => by rw [s_ne k1, s_ne k2]) hg⟩
  refine ⟨fun _ => ?_, fun _ => (c_spanState h1 hs _).int ?_⟩
  · repeat' (first | exact fin _ | exact v10 | exact v11 | exact v12 | intro _ | refine ⟨?_, ?_⟩)
  · rintro x18 σ18 ⟨-, e18⟩
    subst e18
    repeat' (first | exact fin _ | exact v10 | exact v11 | exact v12 | intro _ | refine ⟨?_, ?_⟩)
theorem l_movable {N : Nat} {σ0 σ1 : sm_S} {f : Nat → Int32} (hj0 : jj N (σ0 1)) (e1 : σ1 = sm_set σ0 0 (upd (σ0 0) 0 0)) (hf : ∀ i, i < 2662 → f i = σ0 1 i) : ∀ (m N1 : Nat) (a1 : Int32) (σ : sm_S), cn (fun s => decide (σ 1 (2358 + 8 * s) = 0)) 8 ≤ m → jj N1 (σ 1) → N1 + m < 2000000000 → σ 2 = f → (∀ k, k ≠ 1 → k ≠ 2 → k ≠ 4 → σ k = σ1 k) → xE xM m_M_movable 11 [.ref 0, .int a1] [] σ (sm_I (pubX N 0 σ0)) := by
  have fin : ∀ (y : Int32) (σ : sm_S), σ 2 = f → (∀ k, k ≠ 1 → k ≠ 2 → k ≠ 4 → σ k = σ1 k) → xC xM j_M_forgets [.ref 0] σ (sm_rv False (fun σ9 => sm_I (pubX N 0 σ0) (some (.int y)) σ9)) := by
    intro y σ h2 h3
    refine (c_forgets _).void ?_
    rintro _ ⟨g, rfl, hg⟩
    exact ⟨y, rfl, pub_th hj0 e1 hf h2 h3 hg⟩
  intro m
  induction m with
  | zero =>
    intro N1 a1 σ hm hj hN h2 h3
    refine w_M_movable_11 a1 σ _ ((c_turnOf σ).int ?_)
    rintro x2 σ ⟨hx2, rfl⟩
    refine ⟨fun _ => fin _ _ h2 h3, fun n2 => ?_⟩
    obtain ⟨s, k1, k2, k3⟩ := hx2.resolve_left n2
    have := cn_lt (P := fun s => decide (σ 1 (2358 + 8 * s) = 0)) (P' := fun _ => false) (j := s) (decide_eq_true k3) rfl (N := 8) k2 (fun i _ h => by cases h)
    omega
  | succ m ih =>
    intro N1 a1 σ hm hj hN h2 h3
    obtain ⟨x0, hT⟩ := sm_C.det (c_turnOf σ)
    refine w_M_movable_11 a1 σ _ (hT.int ?_)
    rintro x2 σ ⟨e2, -, rfl⟩
    refine ⟨fun _ => fin _ _ h2 h3, fun n2 => (c_zoneByRatio _).int ?_⟩
    rintro x5 σ ⟨-, rfl⟩
    refine ⟨fun _ => fin _ _ h2 h3, fun _ => hT.int ?_⟩
    rintro x8 σ ⟨e8, hx8, rfl⟩
    · obtain ⟨s, k1, k2, k3⟩ := hx8.resolve_left (fun z => n2 (by rw [e2, ← e8]; exact z))
      refine (c_comesOn (N := N1) k1 k2 (by omega) _ hj k3).int ?_
      rintro x10 _ ⟨w, rfl, hw, hws, ew⟩
      refine ih (N1 + 1) _ _ ?_ (by rw [s_at]; exact hw) (by omega) (by rw [s_ne (by decide)]; exact h2) (fun k c1 c2 c4 => by rw [s_ne c1]; exact h3 k c1 c2 c4)
      have := cn_lt (P := fun s => decide (σ 1 (2358 + 8 * s) = 0)) (P' := fun t => decide ((sm_set σ 1 w) 1 (2358 + 8 * t) = 0)) (j := s) (decide_eq_true k3) (by rw [s_at, hws]; rfl) (N := 8) k2 (fun i hi h => by
        rw [s_at] at h
        have h := of_decide_eq_true h
        refine decide_eq_true ?_
        by_cases his : i = s
        · subst his; exact k3
        · rw [← ew _ (by omega) (by omega) (by omega) (by omega)]; exact h)
      omega
theorem c_movable {N : Nat} (hN : N < 1600000000) (σ : sm_S) (hj : jj N (σ 1)) : xC xM j_M_movable [.ref 0] σ (sm_I (pubX N 0 σ)) := by
  refine w_M_movable σ _ (fun σ1 e1 => (c_thinks σ1).void ?_)
  have hj1 : jj N (σ1 1) := by rw [e1, s_ne (by decide)]; exact hj
  rintro _ ⟨f, rfl, hf⟩
  have hf' : ∀ i, i < 2662 → f i = σ 1 i := fun i hi => by rw [hf i hi, e1, s_ne (by decide)]
  exact l_movable hj e1 hf' 8 N 0 _ cn_bd (by rw [s_ne (by decide)]; exact hj1) (by omega) s_at (fun k _ k2 _ => s_ne k2)
theorem l_greatestIn15 {a1 : Int32} {s : Nat} (h1 : a1.toInt = s) (hs : s < 8) {σ : sm_S} {o : Nat} (ho : o ≤ 5) {a3 : Int32} (h3 : a3.toInt = o) (ihO : ∀ (a2 : Int32) (v4 : Value), xE xM m_M_greatestIn 4 [.ref 0, .int a1, .int a2, .int (a3 + 1), v4] [] σ (sm_I (fun _ σ' => σ' = σ))) : ∀ (d k : Nat) (a2 a4 : Int32), a4.toInt = ((32 * s + k : Nat) : Int) → 32 ≤ k + d → k < 64 → xE xM m_M_greatestIn 15 [.ref 0, .int a1, .int a2, .int a3, .int a4] [] σ (sm_I (fun _ σ' => σ' = σ)) := by
  have hpw := t_pw ho
  have h38 : (32 * a1 + 32).toInt = ((32 * s + 32 : Nat) : Int) := by
    rw [t_add (t_32s h1 hs) (y := 32) rfl (by omega) (by omega)]
    omega
  intro d
  induction d with
  | zero =>
    intro k a2 a4 h4 hk hk2
    exact w_M_greatestIn_15 a1 a2 a3 a4 σ _ ⟨fun _ => ihO _ _, fun h => absurd (by rw [t_le, h38, h4]; omega) h⟩
  | succ d ih =>
    intro k a2 a4 h4 hk hk2
    refine w_M_greatestIn_15 a1 a2 a3 a4 σ _ ⟨fun _ => ihO _ _, fun h => (c_areFree h4 (by omega) h3 ho σ).int ?_⟩
    rw [t_le, h38, h4] at h
    have h4' : (a4 + ((1 : Int32) <<< (a3 &&& 31))).toInt = ((32 * s + (k + 2 ^ o) : Nat) : Int) := by
      rw [t_add h4 (t_pow h3 (by omega)) (by omega) (by omega)]
      omega
    rintro x2 σ ⟨-, rfl⟩
    exact ⟨fun _ => ih (k + 2 ^ o) _ _ h4' (by omega) (by omega), fun _ => ih (k + 2 ^ o) _ _ h4' (by omega) (by omega)⟩
theorem l_greatestIn4 {a1 : Int32} {s : Nat} (h1 : a1.toInt = s) (hs : s < 8) (σ : sm_S) : ∀ (d o : Nat) (a2 a3 : Int32) (v4 : Value), a3.toInt = o → o + d = 6 → xE xM m_M_greatestIn 4 [.ref 0, .int a1, .int a2, .int a3, v4] [] σ (sm_I (fun _ σ' => σ' = σ)) := by
  intro d
  induction d with
  | zero =>
    intro o a2 a3 v4 h3 ho
    refine w_M_greatestIn_4 a1 a2 a3 v4 σ _ ⟨fun _ => ⟨_, rfl, rfl⟩, fun h => absurd ?_ h⟩
    rw [t_lt, h3]
    show (5 : Int) < _
    omega
  | succ d ih =>
    intro o a2 a3 v4 h3 ho
    have h3' : (a3 + 1).toInt = ((o + 1 : Nat) : Int) := by
      rw [t_add h3 (y := 1) rfl (by omega) (by omega)]
      omega
    exact w_M_greatestIn_4 a1 a2 a3 v4 σ _ ⟨fun _ => ⟨_, rfl, rfl⟩, fun _ => l_greatestIn15 h1 hs (by omega) h3 (fun b2 w4 => ih (o + 1) b2 (a3 + 1) w4 h3' (by omega)) 32 0 a2 _ (t_32s h1 hs) (by omega) (by omega)⟩
theorem c_greatestIn {a1 : Int32} {s : Nat} (h1 : a1.toInt = s) (hs : s < 8) (σ : sm_S) : xC xM j_M_greatestIn [.ref 0, .int a1] σ (sm_I (fun _ σ' => σ' = σ)) :=
  w_M_greatestIn a1 σ _ (l_greatestIn4 h1 hs σ 6 0 _ _ _ rfl rfl)
theorem c_pressed {N : Nat} (a1 : Int32) (σ : sm_S) (hj : jj N (σ 1)) : xC xM j_M_pressed [.ref 0, .int a1] σ (sm_I (pubX N 0 σ)) := by
  refine w_M_pressed a1 σ _ (fun σ1 e1 => (c_isSpan a1 σ1).int ?_)
  have hj1 : jj N (σ1 1) := by rw [e1, s_ne (by decide)]; exact hj
  rintro x3 σ1 ⟨hx3, rfl⟩
  refine ⟨fun _ => ⟨_, rfl, pub_X (pub_keep hj e1)⟩, fun n3 => ?_⟩
  obtain ⟨-, s, hs, h1⟩ := hx3.resolve_right (fun z => n3 z.1)
  refine (c_spanState h1 hs _).int ?_
  rintro x5 σ1 ⟨-, rfl⟩
  refine ⟨fun _ => (c_thinks _).void ?_, fun _ => ⟨_, rfl, pub_X (pub_keep hj e1)⟩⟩
  rintro _ ⟨f, rfl, hf⟩
  have hf' : ∀ i, i < 2662 → f i = σ 1 i := fun i hi => by rw [hf i hi, e1, s_ne (by decide)]
  refine (c_presses (N := N) h1 hs _ (by rw [s_ne (by decide)]; exact hj1)).int ?_
  rintro x8 σ7 ⟨-, k7⟩
  refine (c_greatestIn h1 hs _).int ?_
  rintro x10 σ7 rfl
  refine (c_forgets _).void ?_
  rintro _ ⟨g, rfl, hg⟩
  exact ⟨_, rfl, pub_th hj e1 hf' (by rw [k7 2 (by decide) (by decide), s_at]) (fun k k1 k2 k4 => by rw [k7 k k1 k4, s_ne k2]) hg⟩
theorem l_keepsWhy {a1 a2 : Int32} {n o t : Nat} (h1 : a1.toInt = n) (hn : n < 96) (σ : sm_S) (ho : (σ 1 (786 + 16 * n + 2)).toInt = o) (ho4 : o ≤ 4) (ht : (σ 1 (786 + 16 * n + 4)).toInt = t) (ht6 : t < 6) : ∀ (d k : Nat) (a3 : Int32), a3.toInt = k → 256 ≤ k + d → k < 300 → xE xM m_M_keepsWhy 36 [.ref 0, .int a1, .int a2, .int a3] [] σ (sm_I (fun _ σ' => σ' = σ)) := by
  have hpw := t_pw (k := o) (by omega)
  have hp16 : 2 ^ o ≤ 16 := by
    have := Nat.pow_le_pow_right (n := 2) (by decide) ho4
    omega
  intro d
  induction d with
  | zero =>
    intro k a3 h3 hk hk2
    refine w_M_keepsWhy_36 a1 a2 a3 σ _ ⟨fun _ => ⟨_, rfl, rfl⟩, fun h => absurd ?_ h⟩
    rw [t_le, h3]
    show (256 : Int) ≤ _
    omega
  | succ d ih =>
    intro k a3 h3 hk hk2
    refine w_M_keepsWhy_36 a1 a2 a3 σ _ ⟨fun _ => ⟨_, rfl, rfl⟩, fun h => ?_⟩
    rw [t_le, h3] at h
    have h : ¬ (256 : Int) ≤ k := h
    have next : xC xM j_M_longOf [.ref 0, .int a1] σ (sm_ri False (fun x4 σ3 => xE xM m_M_keepsWhy 36 [.ref 0, .int a1, .int a2, .int (a3 + x4)] [] σ3 (sm_I (fun _ σ' => σ' = σ)))) := by
      refine (c_longOf h1 hn σ).int ?_
      rintro x4 σ ⟨hx4, rfl⟩
      refine ih (k + 2 ^ o) _ ?_ (by omega) (by omega)
      rw [t_add h3 (y := ((2 ^ o : Nat) : Int)) (by rw [hx4]; exact t_pow ho (by omega)) (by omega) (by omega)]
      omega
    refine (c_spanOf h3 σ).int ?_
    rintro x2 σ ⟨hx2, rfl⟩
    refine ⟨fun _ => next, fun _ => (c_spanOf h3 _).int ?_⟩
    rintro x6 σ ⟨hx6, rfl⟩
    refine (c_spanState hx6 (by omega) _).int ?_
    rintro x8 σ ⟨-, rfl⟩
    refine ⟨fun _ => next, fun _ => (c_spanOf h3 _).int ?_⟩
    rintro x12 σ ⟨hx12, rfl⟩
    refine (c_of (k := 3) (j := 3) h1 rfl (by omega) _).int ?_
    rintro x14 σ ⟨-, rfl⟩
    refine (c_of (k := 4) (j := 4) h1 rfl (by omega) _).int ?_
    rintro x16 σ ⟨hx16, rfl⟩
    refine (c_rankOf (m := t) hx12 (by omega) (by rw [hx16]; exact ht) ht6 _).int ?_
    rintro x18 σ ⟨-, -, rfl⟩
    refine ⟨fun _ => next, fun _ => (c_of (k := 2) (j := 2) h1 rfl (by omega) _).int ?_⟩
    rintro x22 σ ⟨hx22, rfl⟩
    refine (c_areFree (k := o) h3 (by omega) (by rw [hx22]; exact ho) (by omega) _).int ?_
    rintro x24 σ ⟨-, rfl⟩
    exact ⟨fun _ => next, fun _ => ⟨_, rfl, rfl⟩⟩
theorem c_keepsWhy {a1 a2 : Int32} {n N : Nat} (h1 : a1.toInt = n) (hn : n < 96) (σ : sm_S) (hj : jj N (σ 1)) : xC xM j_M_keepsWhy [.ref 0, .int a1, .int a2] σ (sm_I (fun _ σ' => σ' = σ)) := by
  obtain ⟨o, fr, b1, b2, b3, b4, b5, ⟨t, b6, b6'⟩, -⟩ := hj.2.1.1 n hn
  refine w_M_keepsWhy a1 a2 σ _ ((c_of (k := 3) (j := 3) h1 rfl (by omega) σ).int ?_)
  rintro x2 σ ⟨-, rfl⟩
  refine ⟨fun _ => (c_isPinned h1 hn _).int ?_, fun _ => ⟨_, rfl, rfl⟩⟩
  rintro x4 σ ⟨-, rfl⟩
  refine ⟨fun _ => (c_of (k := 3) (j := 3) h1 rfl (by omega) _).int ?_, fun _ => ⟨_, rfl, rfl⟩⟩
  rintro x6 σ ⟨-, rfl⟩
  exact ⟨fun _ => l_keepsWhy h1 hn _ b1 b2 b6 b6' 256 0 0 rfl (by omega) (by omega), fun _ => ⟨_, rfl, rfl⟩⟩
theorem l_keeperAt {a1 a2 : Int32} {s N : Nat} (h1 : a1.toInt = s) (hs : s < 8) (σ : sm_S) (hj : jj N (σ 1)) : ∀ (d c fm : Nat) (a3 a4 : Int32), a3.toInt = c → c ≤ fm → fm ≤ 32 → 32 ≤ fm + d → fbk (σ 1) s fm a4 → xE xM m_M_keeperAt 10 [.ref 0, .int a1, .int a2, .int a3, .int a4] [] σ (sm_I (fun x σ' => (a2 = -1 → ∃ m : Nat, m ≤ 32 ∧ x.toInt = m) ∧ (a2 ≠ -1 → ∃ m : Nat, m ≤ 96 ∧ x.toInt = (m : Int) - 1) ∧ σ' = σ)) := by
  have stop : ∀ (a3 : Int32) (c : Nat), a3.toInt = c → c ≤ 32 → ((a2 ≠ -1 → sm_I (fun x σ' => (a2 = -1 → ∃ m : Nat, m ≤ 32 ∧ x.toInt = m) ∧ (a2 ≠ -1 → ∃ m : Nat, m ≤ 96 ∧ x.toInt = (m : Int) - 1) ∧ σ' = σ) (some (.int (-1))) σ) ∧ (¬ (a2 ≠ -1) → sm_I (fun x σ' => (a2 = -1 → ∃ m : Nat, m ≤ 32 ∧ x.toInt = m) ∧ (a2 ≠ -1 → ∃ m : Nat, m ≤ 96 ∧ x.toInt = (m : Int) - 1) ∧ σ' = σ) (some (.int a3)) σ)) := by
    intro a3 c h3 hc
    exact ⟨fun hne => ⟨_, rfl, fun z => absurd z hne, fun _ => ⟨0, by omega, rfl⟩, rfl⟩, fun he => ⟨_, rfl, fun _ => ⟨c, hc, h3⟩, fun z => absurd z he, rfl⟩⟩
  intro d
  induction d with
  | zero =>
    intro c fm a3 a4 h3 hc hfm hd hfb
    refine w_M_keeperAt_10 a1 a2 a3 a4 σ _ ⟨fun _ => stop a3 c h3 (by omega), fun h => ?_⟩
    obtain ⟨n, fr, k1, k2, k3, k4, k5, k6, k7, -⟩ := hfb.resolve_left h
    omega
  | succ d ih =>
    intro c fm a3 a4 h3 hc hfm hd hfb
    refine w_M_keeperAt_10 a1 a2 a3 a4 σ _ ⟨fun _ => stop a3 c h3 (by omega), fun h => ?_⟩
    obtain ⟨n, fr, k1, k2, k3, k4, k5, k6, k7, -⟩ := hfb.resolve_left h
    have next : ∀ (b3 : Int32) (c' : Nat), b3.toInt = c' → c' ≤ fm + 1 → xC xM j_M_frameOf [.ref 0, .int a4] σ (sm_ri False (fun x4 σ3 => (¬ (32 : Int32) = 0 ∧ xC xM j_M_firstBlock [.ref 0, .int a1, .int ((x4 - x4 / (32 : Int32) * (32 : Int32)) + 1)] σ3 (sm_ri False (fun x6 σ5 => xE xM m_M_keeperAt 10 [.ref 0, .int a1, .int a2, .int b3, .int x6] [] σ5 (sm_I (fun x σ' => (a2 = -1 → ∃ m : Nat, m ≤ 32 ∧ x.toInt = m) ∧ (a2 ≠ -1 → ∃ m : Nat, m ≤ 96 ∧ x.toInt = (m : Int) - 1) ∧ σ' = σ))))))) := by
      intro b3 c' hb3 hc'
      refine (c_frameOf k1 k2 σ).int ?_
      rintro x4 σ ⟨hx4, rfl⟩
      have hr : (x4 - x4 / 32 * 32).toInt = ((fr % 32 : Nat) : Int) := t_rem (d := 32) (by rw [hx4]; exact k4) rfl (by decide)
      have hr1 : (x4 - x4 / 32 * 32 + 1).toInt = ((fr % 32 + 1 : Nat) : Int) := by
        rw [t_add hr (y := 1) rfl (by omega) (by omega)]
        omega
      refine ⟨by decide, (c_firstBlock h1 hs hr1 (by omega) _ hj).int ?_⟩
      rintro x6 σ ⟨hx6, rfl⟩
      exact ih c' (fr % 32 + 1) b3 x6 hb3 (by omega) (by omega) (by omega) hx6
    refine (c_keepsWhy k1 k2 σ hj).int ?_
    rintro x2 σ rfl
    refine ⟨fun _ => ⟨fun _ => next (a3 + 1) (c + 1) ?_ (by omega), fun he => ⟨_, rfl, fun z => ?_, fun _ => ⟨n + 1, by omega, by rw [k1]; omega⟩, rfl⟩⟩, fun _ => next a3 c h3 (by omega)⟩
    · rw [t_add h3 (y := 1) rfl (by omega) (by omega)]
      omega
    · have he : a3 = a2 := Classical.not_not.mp he
      rw [he, z] at h3
      have h3 : (-1 : Int) = c := h3
      omega
theorem c_keeperAt {a1 a2 : Int32} {s N : Nat} (h1 : a1.toInt = s) (hs : s < 8) (σ : sm_S) (hj : jj N (σ 1)) : xC xM j_M_keeperAt [.ref 0, .int a1, .int a2] σ (sm_I (fun x σ' => (a2 = -1 → ∃ m : Nat, m ≤ 32 ∧ x.toInt = m) ∧ (a2 ≠ -1 → ∃ m : Nat, m ≤ 96 ∧ x.toInt = (m : Int) - 1) ∧ σ' = σ)) := by
  refine w_M_keeperAt a1 a2 σ _ ((c_firstBlock (fm := 0) h1 hs rfl (by omega) σ hj).int ?_)
  rintro x2 σ ⟨hx2, rfl⟩
  exact l_keeperAt h1 hs _ hj 32 0 0 0 x2 rfl (Nat.le_refl 0) (by omega) (by omega) hx2
theorem c_keeps {N : Nat} (a1 a2 a3 : Int32) (σ : sm_S) (hj : jj N (σ 1)) : xC xM j_M_keeps [.ref 0, .int a1, .int a2, .int a3] σ (sm_I (pubX N 0 σ)) := by
  refine w_M_keeps a1 a2 a3 σ _ (fun σ1 e1 => (c_isSpan a1 σ1).int ?_)
  have hj1 : jj N (σ1 1) := by rw [e1, s_ne (by decide)]; exact hj
  rintro x3 σ1 ⟨hx3, rfl⟩
  have keep : ∀ y : Int32, sm_I (pubX N 0 σ) (some (.int y)) σ1 := fun y => ⟨_, rfl, pub_X (pub_keep hj e1)⟩
  refine ⟨fun n3 => ?_, fun _ => keep _⟩
  obtain ⟨-, s, hs, h1⟩ := hx3.resolve_right (fun z => n3 z.1)
  refine ⟨fun n2 => ⟨fun _ => (c_keeperAt h1 hs _ hj1).int ?_, fun _ => ⟨fun z => absurd rfl z, fun _ => keep _⟩⟩, fun _ => (c_keeperAt h1 hs _ hj1).int ?_⟩
  · rintro x5 σ1 ⟨-, g2, rfl⟩
    refine ⟨fun n5 => ?_, fun _ => keep _⟩
    obtain ⟨m, m1, m2⟩ := g2 n2
    have hm0 : m ≠ 0 := fun z => n5 (t_inj (by rw [m2, z]; rfl))
    have hx5 : x5.toInt = ((m - 1 : Nat) : Int) := by rw [m2]; omega
    refine ⟨fun _ => ⟨fun _ => ⟨fun _ => ⟨fun _ => keep _, fun _ => (c_of (k := 5) (j := 5) hx5 rfl (by omega) _).int ?_⟩, fun _ => (c_of (k := 4) (j := 4) hx5 rfl (by omega) _).int ?_⟩, fun _ => (c_keepsWhy hx5 (by omega) _ hj1).int ?_⟩, fun _ => keep _⟩
    · rintro y σ1 ⟨-, rfl⟩; exact keep _
    · rintro y σ1 ⟨-, rfl⟩; exact keep _
    · rintro y σ1 rfl; exact keep _
  · rintro x19 σ1 ⟨-, -, rfl⟩
    exact keep _
theorem l_holders {a1 : Int32} {s N : Nat} (h1 : a1.toInt = s) (hs : s < 8) (σ : sm_S) (hj : jj N (σ 1)) : ∀ (d k : Nat) (a2 a3 : Int32) (v4 : Value), a3.toInt = k → 33 ≤ k + d → k ≤ 40 → xE xM m_M_holders 19 [.ref 0, .int a1, .int a2, .int a3, v4] [] σ (sm_I (fun _ σ' => σ' = σ)) := by
  intro d
  induction d with
  | zero =>
    intro k a2 a3 v4 h3 hk hk2
    refine w_M_holders_19 a1 a2 a3 v4 σ _ ((c_keeperAt h1 hs σ hj).int ?_)
    rintro x2 σ ⟨g1, -, rfl⟩
    obtain ⟨m, m1, m2⟩ := g1 rfl
    exact ⟨fun _ => ⟨_, rfl, rfl⟩, fun h => absurd (by rw [t_le, m2, h3]; omega) h⟩
  | succ d ih =>
    intro k a2 a3 v4 h3 hk hk2
    refine w_M_holders_19 a1 a2 a3 v4 σ _ ((c_keeperAt h1 hs σ hj).int ?_)
    rintro x2 σ ⟨g1, -, rfl⟩
    obtain ⟨m, m1, m2⟩ := g1 rfl
    refine ⟨fun _ => ⟨_, rfl, rfl⟩, fun h => (c_keeperAt h1 hs _ hj).int ?_⟩
    rw [t_le, m2, h3] at h
    have h3' : (a3 + 1).toInt = ((k + 1 : Nat) : Int) := by
      rw [t_add h3 (y := 1) rfl (by omega) (by omega)]
      omega
    rintro x4 σ ⟨-, g2, rfl⟩
    obtain ⟨m', n1, n2⟩ := g2 (fun z => by rw [z] at h3; have h3 : (-1 : Int) = k := h3; omega)
    refine (c_ofm (k := 3) (j := 3) n2 n1 rfl (by omega) _).int ?_
    rintro x6 σ ⟨-, rfl⟩
    refine ⟨fun _ => (c_ofm (k := 5) (j := 5) n2 n1 rfl (by omega) _).int ?_, fun _ => (c_ofm (k := 4) (j := 4) n2 n1 rfl (by omega) _).int ?_⟩
    · rintro x8 σ ⟨-, rfl⟩
      exact ih (k + 1) _ _ _ h3' (by omega) (by omega)
    · rintro x10 σ ⟨-, rfl⟩
      refine (c_ofm (k := 5) (j := 5) n2 n1 rfl (by omega) _).int ?_
      rintro x12 σ ⟨-, rfl⟩
      exact ih (k + 1) _ _ _ h3' (by omega) (by omega)
theorem c_holders {N : Nat} (a1 : Int32) (σ : sm_S) (hj : jj N (σ 1)) : xC xM j_M_holders [.ref 0, .int a1] σ (sm_I (pubX N 0 σ)) := by
  refine w_M_holders a1 σ _ (fun σ1 e1 => (c_isSpan a1 σ1).int ?_)
  have hj1 : jj N (σ1 1) := by rw [e1, s_ne (by decide)]; exact hj
  rintro x3 σ1 ⟨hx3, rfl⟩
  refine ⟨fun n3 => ?_, fun _ => ⟨_, rfl, pub_X (pub_keep hj e1)⟩⟩
  obtain ⟨-, s, hs, h1⟩ := hx3.resolve_right (fun z => n3 z.1)
  refine (l_holders h1 hs _ hj1 33 0 _ _ _ rfl (by omega) (by omega)).mono ?_
  rintro r σ' ⟨x, rfl, rfl⟩
  exact ⟨x, rfl, pub_X (pub_keep hj e1)⟩
end
section
/-! ===== the model's world with the ticks of the easiest span: easiestNow, easiest, givenBack ===== -/
def xN : List sm_Sh := [.inr (9, [.inl 0, .inr 1, .inr 2, .inr 3, .inr 4, .inl 0, .inl 1, .inr 5]), .inl (0, 2662), .inl (0, 2662), .inl (0, 2662), .inl (1, 96), .inl (0, 2662)]
set_option maxRecDepth 100000 in
set_option maxHeartbeats 4000000 in
theorem w_N_easiest (a1 : Int32) (σ : sm_S) (Q : Option Value → sm_S → Prop) (h : (∀ σ1, σ1 = sm_set σ 0 (upd (σ 0) 0 0) → xC xN j_M_isIn [.ref 0, .int a1, .int 0, .int 1] σ1 (sm_ri False (fun x3 σ2 => ((x3 ≠ 0 → xC xN j_M_easiestNow [.ref 0] σ2 (sm_ri False (fun x5 σ4 => ((x5 ≠ (-1) → ((a1 ≠ 0 → Q (some (.int (σ4 0 5))) σ4) ∧ (¬ (a1 ≠ 0) → Q (some (.int x5)) σ4))) ∧ (¬ (x5 ≠ (-1)) → Q (some (.int (-1))) σ4))))) ∧ (¬ (x3 ≠ 0) → Q (some (.int (-1))) σ2)))))) : xC xN j_M_easiest [.ref 0, .int a1] σ Q := sm_wp_C (M := m_M_easiest) rfl [] 21 h
set_option maxRecDepth 100000 in
set_option maxHeartbeats 4000000 in
theorem w_N_easiestNow (σ : sm_S) (Q : Option Value → sm_S → Prop) (h : xE xN m_M_easiestNow 4 [.ref 0, .int (-1), .int 0, .null, .null, .null] [] σ Q) : xC xN j_M_easiestNow [.ref 0] σ Q := sm_wp_C (M := m_M_easiestNow) rfl [4, 31, 72] 5 h
set_option maxRecDepth 100000 in
set_option maxHeartbeats 4000000 in
theorem w_N_easiestNow_4 (a1 a2 : Int32) (v3 v4 v5 : Value) (σ : sm_S) (Q : Option Value → sm_S → Prop) (h : ((2662 ≤ a2 → xE xN m_M_easiestNow 31 [.ref 0, .int a1, .int 0, v3, v4, v5] [] σ Q) ∧ (¬ (2662 ≤ a2) → (vp_in a2 2662 ∧ (vp_in a2 2662 ∧ ∀ σ1, σ1 = sm_set σ 3 (upd (σ 3) (a2).toNatClampNeg (σ 1 (a2).toNatClampNeg)) → xE xN m_M_easiestNow 4 [.ref 0, .int a1, .int (a2 + 1), v3, v4, v5] [] σ1 Q))))) : xE xN m_M_easiestNow 4 [.ref 0, .int a1, .int a2, v3, v4, v5] [] σ Q := sm_wp_E (M := m_M_easiestNow) [4, 31, 72] 14 h
set_option maxRecDepth 100000 in
set_option maxHeartbeats 4000000 in
theorem w_N_easiestNow_31 (a1 a2 : Int32) (v3 v4 v5 : Value) (σ : sm_S) (Q : Option Value → sm_S → Prop) (h : ((8 ≤ a2 → Q (some (.int a1)) σ) ∧ (¬ (8 ≤ a2) → xC xN j_M_canGo [.ref 0, .int a2] σ (sm_ri False (fun x2 σ1 => ((x2 ≠ 0 → xC xN j_M_goesAway [.ref 0, .int a2] σ1 (sm_ri False (fun x4 σ3 => xC xN j_M_spanState [.ref 0, .int a2] σ3 (sm_ri False (fun x6 σ5 => ((x6 ≠ 0 → xE xN m_M_easiestNow 72 [.ref 0, .int a1, .int a2, .int x4, .int 0, .int 0] [] σ5 Q) ∧ (¬ (x6 ≠ 0) → xE xN m_M_easiestNow 72 [.ref 0, .int a1, .int a2, .int x4, .int 1, .int 0] [] σ5 Q))))))) ∧ (¬ (x2 ≠ 0) → xE xN m_M_easiestNow 31 [.ref 0, .int a1, .int (a2 + 1), v3, v4, v5] [] σ1 Q))))))) : xE xN m_M_easiestNow 31 [.ref 0, .int a1, .int a2, v3, v4, v5] [] σ Q := sm_wp_E (M := m_M_easiestNow) [4, 31, 72] 21 h
set_option maxRecDepth 100000 in
set_option maxHeartbeats 4000000 in
theorem w_N_easiestNow_72 (a1 a2 a3 a4 a5 : Int32) (σ : sm_S) (Q : Option Value → sm_S → Prop) (h : ((2662 ≤ a5 → ((a4 = 0 → xE xN m_M_easiestNow 31 [.ref 0, .int a1, .int (a2 + 1), .int a3, .int a4, .int a5] [] σ Q) ∧ (¬ (a4 = 0) → ((a1 = (-1) → (∀ σ1, σ1 = sm_set σ 0 (upd (σ 0) 5 a3) → xE xN m_M_easiestNow 31 [.ref 0, .int a2, .int (a2 + 1), .int a3, .int a4, .int a5] [] σ1 Q)) ∧ (¬ (a1 = (-1)) → ((a3 < (σ 0 5) → (∀ σ2, σ2 = sm_set σ 0 (upd (σ 0) 5 a3) → xE xN m_M_easiestNow 31 [.ref 0, .int a2, .int (a2 + 1), .int a3, .int a4, .int a5] [] σ2 Q)) ∧ (¬ (a3 < (σ 0 5)) → xE xN m_M_easiestNow 31 [.ref 0, .int a1, .int (a2 + 1), .int a3, .int a4, .int a5] [] σ Q))))))) ∧ (¬ (2662 ≤ a5) → (vp_in a5 2662 ∧ (vp_in a5 2662 ∧ ∀ σ3, σ3 = sm_set σ 1 (upd (σ 1) (a5).toNatClampNeg (σ 3 (a5).toNatClampNeg)) → xE xN m_M_easiestNow 72 [.ref 0, .int a1, .int a2, .int a3, .int a4, .int (a5 + 1)] [] σ3 Q))))) : xE xN m_M_easiestNow 72 [.ref 0, .int a1, .int a2, .int a3, .int a4, .int a5] [] σ Q := sm_wp_E (M := m_M_easiestNow) [4, 31, 72] 20 h
set_option maxRecDepth 100000 in
set_option maxHeartbeats 4000000 in
theorem w_N_givenBack (σ : sm_S) (Q : Option Value → sm_S → Prop) (h : (∀ σ1, σ1 = sm_set σ 0 (upd (σ 0) 0 0) → xC xN j_M_thinks [.ref 0] σ1 (sm_rv False (fun σ2 => xC xN j_M_easiestNow [.ref 0] σ2 (sm_ri False (fun x4 σ3 => xE xN m_M_givenBack 16 [.ref 0, .int 0, .int x4] [] σ3 Q)))))) : xC xN j_M_givenBack [.ref 0] σ Q := sm_wp_C (M := m_M_givenBack) rfl [16] 11 h
set_option maxRecDepth 100000 in
set_option maxHeartbeats 4000000 in
theorem w_N_givenBack_16 (a1 a2 : Int32) (σ : sm_S) (Q : Option Value → sm_S → Prop) (h : ((a2 = (-1) → xC xN j_M_forgets [.ref 0] σ (sm_rv False (fun σ1 => Q (some (.int a1)) σ1))) ∧ (¬ (a2 = (-1)) → xC xN j_M_goesAway [.ref 0, .int a2] σ (sm_ri False (fun x3 σ2 => xC xN j_M_easiestNow [.ref 0] σ2 (sm_ri False (fun x5 σ4 => xE xN m_M_givenBack 16 [.ref 0, .int (a1 + 1), .int x5] [] σ4 Q))))))) : xE xN m_M_givenBack 16 [.ref 0, .int a1, .int a2] [] σ Q := sm_wp_E (M := m_M_givenBack) [16] 16 h
end
section
/-! ===== the model: the easiest span, how many go ===== -/
theorem nvM {a i : Nat} (h : ¬ sm_vis id xM a i) : a ≠ 1 := by
  rintro rfl
  exact h ⟨1, rfl, Or.inl ⟨(0, 2662), rfl⟩⟩
theorem nvM2 {a i : Nat} (h : ¬ sm_vis id xM a i) : a ≠ 2 := by
  rintro rfl
  exact h ⟨2, rfl, Or.inl ⟨(0, 2662), rfl⟩⟩
theorem shMN : sm_shR id xM xN := by
  refine ⟨fun k q h => ?_, fun k ci fl h => ?_, fun i j _ _ h => h, fun a _ => rfl, by decide⟩
  · match k, h with
    | 0, h => cases h
    | 1, h => exact h
    | 2, h => exact h
    | 3, h => exact h
    | 4, h => exact h
    | 5, h => exact h
    | _ + 6, h => cases h
  · match k, h with
    | 0, h =>
      cases h
      refine ⟨_, rfl, fun j o hj => ?_⟩
      match j, hj with
      | 0, hj => cases hj; exact ⟨_, rfl, fun _ => rfl⟩
      | 1, hj => cases hj; exact ⟨_, rfl, rfl⟩
      | 2, hj => cases hj; exact ⟨_, rfl, rfl⟩
      | 3, hj => cases hj; exact ⟨_, rfl, rfl⟩
      | 4, hj => cases hj; exact ⟨_, rfl, rfl⟩
      | 5, hj => cases hj; exact ⟨_, rfl, fun h => absurd h (by decide)⟩
      | 6, hj => cases hj; exact ⟨_, rfl, fun _ => rfl⟩
      | 7, hj => cases hj; exact ⟨_, rfl, rfl⟩
      | _ + 8, hj => cases hj
    | 1, h => cases h
    | 2, h => cases h
    | 3, h => cases h
    | 4, h => cases h
    | 5, h => cases h
    | _ + 6, h => cases h
theorem agM {σ τ : sm_S} (h0 : τ 0 0 = σ 0 0) (h6 : τ 0 6 = σ 0 6) (h1 : ∀ i, i < 2662 → τ 1 i = σ 1 i) (h2 : ∀ k, 2 ≤ k → τ k = σ k) : sm_stW id xM σ τ := by
  refine ⟨fun k q h i hi => ?_, fun k ci fl j t h hj ht => ?_⟩
  · match k, h with
    | 0, h => cases h
    | 1, h => cases h; exact h1 i hi
    | 2, h => exact congrFun (h2 2 (by omega)) i
    | 3, h => exact congrFun (h2 3 (by omega)) i
    | 4, h => exact congrFun (h2 4 (by omega)) i
    | 5, h => exact congrFun (h2 5 (by omega)) i
    | _ + 6, h => cases h
  · match k, h with
    | 0, h =>
      cases h
      match j, hj with
      | 0, hj => exact h0
      | 1, hj => cases hj
      | 2, hj => cases hj
      | 3, hj => cases hj
      | 4, hj => cases hj
      | 5, hj => cases hj; omega
      | 6, hj => exact h6
      | 7, hj => cases hj
      | _ + 8, hj => cases hj
    | 1, h => cases h
    | 2, h => cases h
    | 3, h => cases h
    | 4, h => cases h
    | 5, h => cases h
    | _ + 6, h => cases h
theorem stW_tr {SH : List sm_Sh} {a b c : sm_S} (h1 : sm_stW id SH a b) (h2 : sm_stW id SH b c) : sm_stW id SH a c :=
  ⟨fun k q h i hi => (h2.1 k q h i hi).trans (h1.1 k q h i hi), fun k ci fl j t h hj ht => (h2.2 k ci fl j t h hj ht).trans (h1.2 k ci fl j t h hj ht)⟩
/-- a call that leaves the store as it is -/
theorem x_liftI {j : Nat} {as : List Value} {σ : sm_S} {P : Int32 → Prop} (h : xC xM j as σ (sm_I (fun x σ' => P x ∧ σ' = σ))) : xC xN j as σ (sm_I (fun x σ' => P x ∧ σ' = σ)) := by
  refine x_lift shMN h ?_
  rintro r σ' ⟨x, rfl, -, rfl⟩ a i -
  rfl
theorem n_canGo (a1 : Int32) (σ : sm_S) : xC xN j_M_canGo [.ref 0, .int a1] σ (sm_I (fun x σ' => (x = 0 ∨ (x = 1 ∧ ∃ s : Nat, s < 8 ∧ a1.toInt = s ∧ σ 1 (2358 + 8 * s) = 1 ∧ onElse (σ 1) 0 a1)) ∧ σ' = σ)) := x_liftI (c_canGo a1 σ)
theorem n_spanState {s : Int32} {n : Nat} (hs : s.toInt = n) (hn : n < 8) (σ : sm_S) : xC xN j_M_spanState [.ref 0, .int s] σ (sm_I (fun x σ' => x = σ 1 (2358 + 8 * n) ∧ σ' = σ)) := x_liftI (c_spanState hs hn σ)
theorem n_isIn (a b c : Int32) (σ : sm_S) : xC xN j_M_isIn [.ref 0, .int a, .int b, .int c] σ (sm_I (fun x σ' => ((x = 1 ∧ b.toInt ≤ a.toInt ∧ a.toInt ≤ c.toInt) ∨ (x = 0 ∧ (a.toInt < b.toInt ∨ c.toInt < a.toInt))) ∧ σ' = σ)) := x_liftI (c_isIn a b c σ)
theorem n_thinks (σ : sm_S) : xC xN j_M_thinks [.ref 0] σ (sm_V (fun σ' => ∃ f, σ' = sm_set σ 2 f ∧ ∀ i, i < 2662 → f i = σ 1 i)) := by
  refine x_lift shMN (c_thinks σ) ?_
  rintro r σ' ⟨rfl, f, rfl, -⟩ a i hv
  rw [s_ne (nvM2 hv)]
theorem n_forgets (σ : sm_S) : xC xN j_M_forgets [.ref 0] σ (sm_V (fun σ' => ∃ f, σ' = sm_set σ 1 f ∧ ∀ i, i < 2662 → f i = σ 2 i)) := by
  refine x_lift shMN (c_forgets σ) ?_
  rintro r σ' ⟨rfl, f, rfl, -⟩ a i hv
  rw [s_ne (nvM hv)]
theorem n_goesAway {a1 : Int32} {s N : Nat} (h1 : a1.toInt = s) (hs : s < 8) (hN : N < 1730000000) (σ : sm_S) (hj : jj N (σ 1)) (hon : σ 1 (2358 + 8 * s) = 1) (hel : onElse (σ 1) 0 a1) : xC xN j_M_goesAway [.ref 0, .int a1] σ (sm_I (fun x σ' => (∃ w N', σ' = sm_set σ 1 w ∧ jj N' w ∧ N ≤ N' ∧ N' ≤ N + 12400001 ∧ offs (σ 1) w) ∧ ∀ τ, sm_stW id xM σ τ → xC xN j_M_goesAway [.ref 0, .int a1] τ (sm_I (fun _ τ' => sm_stW id xM σ' τ')))) := by
  refine (x_lift shMN (x_det shMN (c_goesAway h1 hs hN σ hj hon hel)) ?_).mono ?_
  · rintro r σ' ⟨⟨x, rfl, w, N', rfl, -⟩, -⟩ a i hv
    rw [s_ne (nvM hv)]
  · rintro r σ' ⟨⟨x, rfl, hP⟩, hd⟩
    refine ⟨x, rfl, hP, fun τ hτ => (hd τ hτ).mono ?_⟩
    rintro r2 τ' ⟨rfl, h2⟩
    exact ⟨x, rfl, h2⟩
theorem onElse_eq {v v' : Nat → Int32} {z b : Int32} (h : ∀ i, i < 2662 → v' i = v i) (ho : onElse v z b) : onElse v' z b := by
  obtain ⟨s, h1, h2, h3, h4⟩ := ho
  exact ⟨s, h1, h2, by rw [h _ (by omega)]; exact h3, by rw [h _ (by omega)]; exact h4⟩
def esI (σ0 σ : sm_S) : Prop := (∀ k, 2 ≤ k → σ k = σ0 k) ∧ (∀ i, i < 2662 → σ 1 i = σ0 1 i) ∧ ∀ i, i ≠ 5 → σ 0 i = σ0 0 i
theorem esI.ag {σ0 σ : sm_S} (h : esI σ0 σ) : sm_stW id xM σ0 σ := agM (h.2.2 0 (by decide)) (h.2.2 6 (by decide)) h.2.1 h.1
theorem esI.ga {σ0 σ : sm_S} (h : esI σ0 σ) : sm_stW id xM σ σ0 := agM (h.2.2 0 (by decide)).symm (h.2.2 6 (by decide)).symm (fun i hi => (h.2.1 i hi).symm) (fun k hk => (h.1 k hk).symm)
def esG (σ0 : sm_S) (x : Int32) : Prop := x = -1 ∨ ∃ s : Nat, s < 8 ∧ x.toInt = s ∧ σ0 1 (2358 + 8 * s) = 1 ∧ onElse (σ0 1) 0 x ∧ ∀ τ, sm_stW id xM σ0 τ → xC xN j_M_goesAway [.ref 0, .int x] τ (sm_I (fun _ τ' => τ' 1 (2358 + 8 * s) = 0))
theorem l_en72 {σ0 : sm_S} {a1 a2 a3 a4 : Int32} {Q : Option Value → sm_S → Prop} (h3 : ∀ i, i < 2662 → σ0 3 i = σ0 1 i) (hb : esG σ0 a1) (hn : a4 ≠ 0 → esG σ0 a2) (K : ∀ (b : Int32) (v3 v4 v5 : Value) (σ' : sm_S), esI σ0 σ' → esG σ0 b → xE xN m_M_easiestNow 31 [.ref 0, .int b, .int (a2 + 1), v3, v4, v5] [] σ' Q) : ∀ (d k : Nat) (a5 : Int32) (σ : sm_S), a5.toInt = k → k + d = 2662 → (∀ k, 2 ≤ k → σ k = σ0 k) → (∀ i, i < k → σ 1 i = σ0 1 i) → (∀ i, i ≠ 5 → σ 0 i = σ0 0 i) → xE xN m_M_easiestNow 72 [.ref 0, .int a1, .int a2, .int a3, .int a4, .int a5] [] σ Q := by
  intro d
  induction d with
  | zero =>
    intro k a5 σ h5 hk g2 g1 g0
    have hI : esI σ0 σ := ⟨g2, fun i hi => g1 i (by omega), g0⟩
    have hI' : ∀ σ1, σ1 = sm_set σ 0 (upd (σ 0) 5 a3) → esI σ0 σ1 := by
      rintro _ rfl
      exact ⟨fun k hk => by rw [s_ne (by omega)]; exact g2 k hk, fun i hi => by rw [s_ne (by decide)]; exact hI.2.1 i hi, fun i hi => by rw [s_at, u_ne hi]; exact g0 i hi⟩
    refine w_N_easiestNow_72 a1 a2 a3 a4 a5 σ Q ⟨fun _ => ⟨fun _ => K _ _ _ _ _ hI hb, fun n4 => ⟨fun _ σ1 e1 => K _ _ _ _ _ (hI' σ1 e1) (hn n4), fun _ => ⟨fun _ σ1 e1 => K _ _ _ _ _ (hI' σ1 e1) (hn n4), fun _ => K _ _ _ _ _ hI hb⟩⟩⟩, fun h => absurd ?_ h⟩
    rw [t_le, h5]
    show (2662 : Int) ≤ _
    omega
  | succ d ih =>
    intro k a5 σ h5 hk g2 g1 g0
    have h5' : (a5 + 1).toInt = ((k + 1 : Nat) : Int) := by
      rw [t_add h5 (y := 1) rfl (by omega) (by omega)]
      omega
    refine w_N_easiestNow_72 a1 a2 a3 a4 a5 σ Q ⟨fun h => ?_, fun _ => ⟨t_vp h5 (by omega), t_vp h5 (by omega), fun σ1 e1 => ?_⟩⟩
    · rw [t_le, h5] at h
      have h : (2662 : Int) ≤ k := h
      omega
    · rw [t_nat h5] at e1
      subst e1
      refine ih (k + 1) (a5 + 1) _ h5' (by omega) (fun k hk => by rw [s_ne (by omega)]; exact g2 k hk) (fun i hi => ?_) (fun i hi => by rw [s_ne (by decide)]; exact g0 i hi)
      rw [s_at]
      rcases Nat.lt_or_ge i k with hl | hl
      · rw [u_ne (by omega)]; exact g1 i hl
      · have hik : i = k := by omega
        subst hik
        rw [u_at, g2 3 (by omega)]
        exact h3 i (by omega)
theorem l_en31 {σ0 : sm_S} {N : Nat} (hN : N < 1730000000) (hj : jj N (σ0 1)) (h3 : ∀ i, i < 2662 → σ0 3 i = σ0 1 i) : ∀ (d k : Nat) (a1 a2 : Int32) (v3 v4 v5 : Value) (σ : sm_S), a2.toInt = k → k + d = 8 → esI σ0 σ → esG σ0 a1 → xE xN m_M_easiestNow 31 [.ref 0, .int a1, .int a2, v3, v4, v5] [] σ (sm_I (fun x σ' => esI σ0 σ' ∧ esG σ0 x)) := by
  intro d
  induction d with
  | zero =>
    intro k a1 a2 v3 v4 v5 σ h2 hk hI hG
    refine w_N_easiestNow_31 a1 a2 v3 v4 v5 σ _ ⟨fun _ => ⟨a1, rfl, hI, hG⟩, fun h => absurd ?_ h⟩
    rw [t_le, h2]
    show (8 : Int) ≤ _
    omega
  | succ d ih =>
    intro k a1 a2 v3 v4 v5 σ h2 hk hI hG
    have h2' : (a2 + 1).toInt = ((k + 1 : Nat) : Int) := by
      rw [t_add h2 (y := 1) rfl (by omega) (by omega)]
      omega
    have K : ∀ (b : Int32) (v3 v4 v5 : Value) (σ' : sm_S), esI σ0 σ' → esG σ0 b → xE xN m_M_easiestNow 31 [.ref 0, .int b, .int (a2 + 1), v3, v4, v5] [] σ' (sm_I (fun x σ' => esI σ0 σ' ∧ esG σ0 x)) := fun b v3 v4 v5 σ' hI' hG' => ih (k + 1) b (a2 + 1) v3 v4 v5 σ' h2' (by omega) hI' hG'
    refine w_N_easiestNow_31 a1 a2 v3 v4 v5 σ _ ⟨fun h => ?_, fun _ => (n_canGo a2 σ).int ?_⟩
    · rw [t_le, h2] at h
      have h : (8 : Int) ≤ k := h
      omega
    · rintro x2 σ ⟨hx2, rfl⟩
      refine ⟨fun n2 => ?_, fun _ => K _ _ _ _ _ hI hG⟩
      obtain ⟨-, s, hs, hs2, hon, hel⟩ := hx2.resolve_left n2
      refine (n_goesAway (N := N) hs2 hs hN σ (jj_eq hI.2.1 hj) hon hel).int ?_
      rintro x4 _ ⟨⟨w, N', rfl, hw, -⟩, hd⟩
      refine (n_spanState hs2 hs _).int ?_
      rintro x6 σ6 ⟨hx6, rfl⟩
      have m2 : ∀ k, 2 ≤ k → (sm_set σ 1 w) k = σ0 k := fun k hk => by rw [s_ne (by omega)]; exact hI.1 k hk
      have m0 : ∀ i, i ≠ 5 → (sm_set σ 1 w) 0 i = σ0 0 i := fun i hi => by rw [s_ne (by decide)]; exact hI.2.2 i hi
      refine ⟨fun _ => ?_, fun n6 => ?_⟩
      · exact l_en72 h3 hG (fun z => absurd rfl z) K 2662 0 0 _ rfl (Nat.zero_add _) m2 (fun i hi => by omega) m0
      · refine l_en72 h3 hG (fun _ => Or.inr ⟨s, hs, hs2, ?_, ?_, fun τ hτ => ?_⟩) K 2662 0 0 _ rfl (Nat.zero_add _) m2 (fun i hi => by omega) m0
        · rw [← hI.2.1 _ (by omega)]; exact hon
        · exact onElse_eq (fun i hi => (hI.2.1 i hi).symm) hel
        · refine (hd τ (stW_tr hI.ga hτ)).mono ?_
          rintro r τ' ⟨y, rfl, hy⟩
          refine ⟨y, rfl, ?_⟩
          have := hy.1 1 (0, 2662) rfl (2358 + 8 * s) (by show _ < 2662; omega)
          exact this.trans (hx6.symm.trans (Classical.not_not.mp n6))
theorem l_en4 : ∀ (d k : Nat) (a1 a2 : Int32) (v3 v4 v5 : Value) (σ : sm_S) (Q : Option Value → sm_S → Prop), a2.toInt = k → k + d = 2662 → (∀ f, (∀ i, k ≤ i → i < 2662 → f i = σ 1 i) → (∀ i, i < k → f i = σ 3 i) → xE xN m_M_easiestNow 31 [.ref 0, .int a1, .int 0, v3, v4, v5] [] (sm_set σ 3 f) Q) → xE xN m_M_easiestNow 4 [.ref 0, .int a1, .int a2, v3, v4, v5] [] σ Q := by
  intro d
  induction d with
  | zero =>
    intro k a1 a2 v3 v4 v5 σ Q h2 hk K
    refine w_N_easiestNow_4 a1 a2 v3 v4 v5 σ Q ⟨fun _ => ?_, fun h => absurd ?_ h⟩
    · have := K (σ 3) (fun i _ _ => by omega) (fun _ _ => rfl)
      rw [s_id] at this
      exact this
    · rw [t_le, h2]
      show (2662 : Int) ≤ _
      omega
  | succ d ih =>
    intro k a1 a2 v3 v4 v5 σ Q h2 hk K
    have h2' : (a2 + 1).toInt = ((k + 1 : Nat) : Int) := by
      rw [t_add h2 (y := 1) rfl (by omega) (by omega)]
      omega
    refine w_N_easiestNow_4 a1 a2 v3 v4 v5 σ Q ⟨fun h => ?_, fun _ => ⟨t_vp h2 (by omega), t_vp h2 (by omega), fun σ1 e1 => ?_⟩⟩
    · rw [t_le, h2] at h
      have h : (2662 : Int) ≤ k := h
      omega
    · rw [t_nat h2] at e1
      subst e1
      refine ih (k + 1) a1 (a2 + 1) v3 v4 v5 _ Q h2' (by omega) (fun f f1 f2 => ?_)
      rw [s_ss]
      refine K f (fun i i1 i2 => ?_) (fun i i1 => ?_)
      · rcases Nat.lt_or_ge k i with hl | hl
        · rw [f1 i hl i2, s_ne (by decide)]
        · have hik : i = k := by omega
          rw [f2 i (by omega), s_at, hik, u_at]
      · rw [f2 i (by omega), s_at, u_ne (by omega)]
theorem n_easiestNow {N : Nat} (hN : N < 1730000000) (σ : sm_S) (hj : jj N (σ 1)) : xC xN j_M_easiestNow [.ref 0] σ (sm_I (fun x σ' => ∃ f, esI (sm_set σ 3 f) σ' ∧ esG (sm_set σ 3 f) x)) := by
  refine w_N_easiestNow σ _ (l_en4 2662 0 _ 0 _ _ _ σ _ rfl (Nat.zero_add _) (fun f f1 _ => ?_))
  refine (l_en31 hN (by rw [s_ne (by decide)]; exact hj) (fun i hi => by rw [s_at, s_ne (by decide)]; exact f1 i (Nat.zero_le i) hi) 8 0 (-1) 0 _ _ _ _ rfl rfl ⟨fun _ _ => rfl, fun _ _ => rfl, fun _ _ => rfl⟩ (Or.inl rfl)).mono ?_
  rintro r σ' ⟨x, rfl, h1, h2⟩
  exact ⟨x, rfl, f, h1, h2⟩
theorem n_easiest {N : Nat} (a1 : Int32) (hN : N < 1600000000) (σ : sm_S) (hj : jj N (σ 1)) : xC xN j_M_easiest [.ref 0, .int a1] σ (sm_I (pubX N 0 σ)) := by
  refine w_N_easiest a1 σ _ (fun σ1 e1 => (n_isIn a1 0 1 σ1).int ?_)
  have hj1 : jj N (σ1 1) := by rw [e1, s_ne (by decide)]; exact hj
  rintro x3 σ1 ⟨-, rfl⟩
  refine ⟨fun _ => (n_easiestNow (N := N) (by omega) σ1 hj1).int ?_, fun _ => ⟨_, rfl, pub_X (pub_keep hj e1)⟩⟩
  rintro x5 σ5 ⟨f, hI, -⟩
  have fin : pubX N 0 σ x5 σ5 := by
    refine ⟨N, jj_eq hI.2.1 (by rw [s_ne (by decide)]; exact hj1), Nat.le_refl N, by omega, ?_, ?_, fun k hk => ?_⟩
    · rw [hI.1 5 (by decide), s_ne (by decide), e1, s_ne (by decide)]
    · rw [hI.2.2 6 (by decide), s_ne (by decide), e1, s_at, u_ne (by decide)]
    · rw [hI.1 k (by omega), s_ne (by omega), e1, s_ne (by omega)]
  exact ⟨fun _ => ⟨fun _ => ⟨_, rfl, fin⟩, fun _ => ⟨_, rfl, fin⟩⟩, fun _ => ⟨_, rfl, fin⟩⟩
theorem l_gb {N : Nat} {σ0 σ1 : sm_S} {f : Nat → Int32} (hj0 : jj N (σ0 1)) (e1 : σ1 = sm_set σ0 0 (upd (σ0 0) 0 0)) (hf : ∀ i, i < 2662 → f i = σ0 1 i) : ∀ (m N1 : Nat) (a1 a2 : Int32) (σ σp : sm_S), cn (fun s => !decide (σ 1 (2358 + 8 * s) = 0)) 8 ≤ m → jj N1 (σ 1) → N1 + 12400001 * m < 1720000000 → σ 2 = f → (∀ k, 5 ≤ k → σ k = σ1 k) → σ 0 6 = σ1 0 6 → esI σp σ → esG σp a2 → xE xN m_M_givenBack 16 [.ref 0, .int a1, .int a2] [] σ (sm_I (pubX N 0 σ0)) := by
  have fin : ∀ (y : Int32) (σ : sm_S), σ 2 = f → (∀ k, 5 ≤ k → σ k = σ1 k) → σ 0 6 = σ1 0 6 → xC xN j_M_forgets [.ref 0] σ (sm_rv False (fun σ9 => sm_I (pubX N 0 σ0) (some (.int y)) σ9)) := by
    intro y σ h2 h3 h6
    refine (n_forgets _).void ?_
    rintro _ ⟨g, rfl, hg⟩
    refine ⟨y, rfl, N, ?_, Nat.le_refl N, by omega, ?_, ?_, fun k hk => ?_⟩
    · rw [s_at]
      exact jj_eq (fun i hi => by rw [hg i hi, h2, hf i hi]) hj0
    · rw [s_ne (by decide), h3 5 (by decide), e1, s_ne (by decide)]
    · rw [s_ne (by decide), h6, e1, s_at, u_ne (by decide)]
    · rw [s_ne (by omega), h3 k (by omega), e1, s_ne (by omega)]
  intro m
  induction m with
  | zero =>
    intro N1 a1 a2 σ σp hm hj hN h2 h3 h6 hI hG
    refine w_N_givenBack_16 a1 a2 σ _ ⟨fun _ => fin _ _ h2 h3 h6, fun n2 => ?_⟩
    obtain ⟨s, hs, hs2, hon, -⟩ := hG.resolve_left n2
    rw [← hI.2.1 _ (by omega)] at hon
    have := cn_lt (P := fun s => !decide (σ 1 (2358 + 8 * s) = 0)) (P' := fun _ => false) (j := s) (by rw [hon]; rfl) rfl (N := 8) hs (fun i _ h => by cases h)
    omega
  | succ m ih =>
    intro N1 a1 a2 σ σp hm hj hN h2 h3 h6 hI hG
    refine w_N_givenBack_16 a1 a2 σ _ ⟨fun _ => fin _ _ h2 h3 h6, fun n2 => ?_⟩
    obtain ⟨s, hs, hs2, hon, hel, hga⟩ := hG.resolve_left n2
    rw [← hI.2.1 _ (by omega)] at hon
    refine ((n_goesAway (N := N1) hs2 hs (by omega) σ hj hon (onElse_eq hI.2.1 hel)).and (hga σ hI.ag)).mono ?_
    rintro r _ ⟨⟨x3, rfl, ⟨w, N', rfl, hw, l1, l2, l3⟩, -⟩, y, -, hoff⟩
    rw [s_at] at hoff
    refine (n_easiestNow (N := N') (by omega) _ (by rw [s_at]; exact hw)).int ?_
    rintro x5 σ5 ⟨g, hI5, hG5⟩
    have e51 : ∀ i, i < 2662 → σ5 1 i = w i := fun i hi => by rw [hI5.2.1 i hi, s_ne (by decide), s_at]
    refine ih N' (a1 + 1) x5 σ5 _ ?_ (jj_eq e51 hw) (by omega) ?_ (fun k hk => ?_) ?_ hI5 hG5
    · have := cn_lt (P := fun s => !decide (σ 1 (2358 + 8 * s) = 0)) (P' := fun s => !decide (σ5 1 (2358 + 8 * s) = 0)) (j := s) (by rw [hon]; rfl) (by rw [e51 _ (by omega), hoff]; rfl) (N := 8) hs (fun i hi h => by
        cases hd : decide (σ 1 (2358 + 8 * i) = 0) with
        | false => rfl
        | true =>
          rw [e51 _ (by omega), l3 i hi (of_decide_eq_true hd)] at h
          cases h)
      omega
    · rw [hI5.1 2 (by omega), s_ne (by decide), s_ne (by decide)]; exact h2
    · rw [hI5.1 k (by omega), s_ne (by omega), s_ne (by omega)]; exact h3 k hk
    · rw [hI5.2.2 6 (by decide), s_ne (by decide), s_ne (by decide)]; exact h6
theorem n_givenBack {N : Nat} (hN : N < 1600000000) (σ : sm_S) (hj : jj N (σ 1)) : xC xN j_M_givenBack [.ref 0] σ (sm_I (pubX N 0 σ)) := by
  refine w_N_givenBack σ _ (fun σ1 e1 => (n_thinks σ1).void ?_)
  have hj1 : jj N (σ1 1) := by rw [e1, s_ne (by decide)]; exact hj
  rintro _ ⟨f, rfl, hf⟩
  have hf' : ∀ i, i < 2662 → f i = σ 1 i := fun i hi => by rw [hf i hi, e1, s_ne (by decide)]
  refine (n_easiestNow (N := N) (by omega) _ (by rw [s_ne (by decide)]; exact hj1)).int ?_
  rintro x4 σ4 ⟨g, hI4, hG4⟩
  refine l_gb hj e1 hf' 8 N 0 x4 σ4 _ cn_bd (jj_eq hI4.2.1 (by rw [s_ne (by decide), s_ne (by decide)]; exact hj1)) (by omega) ?_ (fun k hk => ?_) ?_ hI4 hG4
  · rw [hI4.1 2 (by omega), s_ne (by decide), s_at]
  · rw [hI4.1 k (by omega), s_ne (by omega), s_ne (by omega)]
  · rw [hI4.2.2 6 (by decide), s_ne (by decide), s_ne (by decide)]
end
section
/-! ===== the model: what is told ===== -/
theorem in_n {a c : Int32} {C : Nat} (hc : c.toInt = C) (h : (0 : Int32).toInt ≤ a.toInt) (h2 : a.toInt ≤ c.toInt) : ∃ n : Nat, a.toInt = n ∧ n ≤ C := by
  have h : (0 : Int) ≤ a.toInt := h
  obtain ⟨n, hn⟩ := t_of h
  exact ⟨n, hn, by omega⟩
theorem c_frame {N : Nat} (a1 a2 : Int32) (σ : sm_S) (hj : jj N (σ 1)) : xC xM j_M_frame [.ref 0, .int a1, .int a2] σ (sm_I (pubX N 0 σ)) := by
  refine w_M_frame a1 a2 σ _ (fun σ1 e1 => (c_isIn a1 0 255 σ1).int ?_)
  rintro x3 σ1 ⟨hx3, rfl⟩
  have keep : ∀ y : Int32, sm_I (pubX N 0 σ) (some (.int y)) σ1 := fun y => ⟨_, rfl, pub_X (pub_keep hj e1)⟩
  refine ⟨fun _ => keep _, fun n3 => (c_isIn a2 0 2 _).int ?_⟩
  obtain ⟨-, g1, g2⟩ := hx3.resolve_right (fun z => n3 z.1)
  obtain ⟨n, hn, hn2⟩ := in_n (C := 255) rfl g1 g2
  rintro x5 σ1 ⟨hx5, rfl⟩
  refine ⟨fun n5 => (c_frameAt a1 _).int ?_, fun _ => keep _⟩
  obtain ⟨-, g3, g4⟩ := hx5.resolve_right (fun z => n5 z.1)
  obtain ⟨m, hm, hm2⟩ := in_n (C := 2) rfl g3 g4
  rintro x7 σ1 ⟨rfl, rfl⟩
  exact ⟨t_vp (t_ix (C := 18) (M := 3) rfl rfl hn hm (by omega)) (by omega), fun _ => keep _, fun _ => keep _⟩
theorem c_block {N : Nat} (a1 a2 : Int32) (σ : sm_S) (hj : jj N (σ 1)) : xC xM j_M_block [.ref 0, .int a1, .int a2] σ (sm_I (pubX N 0 σ)) := by
  refine w_M_block a1 a2 σ _ (fun σ1 e1 => (c_isBlock a1 σ1).int ?_)
  rintro x3 σ1 ⟨hx3, rfl⟩
  have keep : ∀ y : Int32, sm_I (pubX N 0 σ) (some (.int y)) σ1 := fun y => ⟨_, rfl, pub_X (pub_keep hj e1)⟩
  refine ⟨fun _ => keep _, fun n3 => (c_isIn a2 0 8 _).int ?_⟩
  obtain ⟨-, n, hn2, hn, -⟩ := hx3.resolve_right (fun z => n3 z.1)
  rintro x5 σ1 ⟨hx5, rfl⟩
  refine ⟨fun n5 => ?_, fun _ => keep _⟩
  obtain ⟨-, g3, g4⟩ := hx5.resolve_right (fun z => n5 z.1)
  obtain ⟨m, hm, hm2⟩ := in_n (C := 8) rfl g3 g4
  have hm1 : (a2 + 1).toInt = ((m + 1 : Nat) : Int) := by
    rw [t_add hm (y := 1) rfl (by omega) (by omega)]
    omega
  refine (c_of hn hm1 (by omega) _).int ?_
  rintro x7 σ1 ⟨-, rfl⟩
  exact ⟨fun _ => keep _, fun _ => keep _⟩
theorem c_span {N : Nat} (a1 a2 : Int32) (σ : sm_S) (hj : jj N (σ 1)) : xC xM j_M_span [.ref 0, .int a1, .int a2] σ (sm_I (pubX N 0 σ)) := by
  refine w_M_span a1 a2 σ _ (fun σ1 e1 => (c_isSpan a1 σ1).int ?_)
  rintro x3 σ1 ⟨hx3, rfl⟩
  have keep : ∀ y : Int32, sm_I (pubX N 0 σ) (some (.int y)) σ1 := fun y => ⟨_, rfl, pub_X (pub_keep hj e1)⟩
  refine ⟨fun _ => keep _, fun n3 => (c_isIn a2 0 10 _).int ?_⟩
  obtain ⟨-, n, hn2, hn⟩ := hx3.resolve_right (fun z => n3 z.1)
  have vs : ∀ (c : Int32) (j : Nat), c.toInt = j → j < 8 → vp_in (2358 + 8 * a1 + c) 2662 := fun c j hc hj => t_vp (t_ix (C := 2358) (M := 8) rfl rfl hn hc (by omega)) (by omega)
  rintro x5 σ1 ⟨-, rfl⟩
  refine ⟨fun n5 => (c_spanAt a1 _).int ?_, fun _ => keep _⟩
  rintro x7 σ1 ⟨rfl, rfl⟩
  refine ⟨fun _ => ⟨fun _ => ⟨fun _ => ⟨fun _ => ⟨fun _ => ⟨fun _ => ⟨fun _ => ⟨vs 7 7 rfl (by omega), keep _⟩, fun _ => ⟨vs 6 6 rfl (by omega), keep _⟩⟩, fun _ => ⟨vs 4 4 rfl (by omega), keep _⟩⟩, fun _ => ⟨vs 3 3 rfl (by omega), keep _⟩⟩, fun _ => ⟨vs 2 2 rfl (by omega), keep _⟩⟩, fun _ => (c_manyIn hn hn2 _ _).int ?_⟩, fun _ => (c_zoneOf hn hn2 _).int ?_⟩, fun _ => ⟨vs 0 0 rfl (by omega), keep _⟩⟩
  · rintro x9 σ1 rfl; exact keep _
  · rintro x9 σ1 ⟨-, rfl⟩; exact keep _
theorem l_ownsMany (a1 a2 : Int32) (σ : sm_S) : ∀ (d k : Nat) (a3 a4 : Int32), a4.toInt = k → k + d = 96 → xE xM m_M_ownsMany 5 [.ref 0, .int a1, .int a2, .int a3, .int a4] [] σ (sm_I (fun _ σ' => σ' = σ)) := by
  intro d
  induction d with
  | zero =>
    intro k a3 a4 h4 hk
    refine w_M_ownsMany_5 a1 a2 a3 a4 σ _ ⟨fun _ => ⟨_, rfl, rfl⟩, fun h => absurd ?_ h⟩
    rw [t_le, h4]
    show (96 : Int) ≤ _
    omega
  | succ d ih =>
    intro k a3 a4 h4 hk
    have h4' : (a4 + 1).toInt = ((k + 1 : Nat) : Int) := by
      rw [t_add h4 (y := 1) rfl (by omega) (by omega)]
      omega
    have next : ∀ b : Int32, xE xM m_M_ownsMany 5 [.ref 0, .int a1, .int a2, .int b, .int (a4 + 1)] [] σ (sm_I (fun _ σ' => σ' = σ)) := fun b => ih (k + 1) b _ h4' (by omega)
    refine w_M_ownsMany_5 a1 a2 a3 a4 σ _ ⟨fun _ => ⟨_, rfl, rfl⟩, fun _ => (c_isBlock a4 σ).int ?_⟩
    rintro x2 σ ⟨-, rfl⟩
    refine ⟨fun _ => next _, fun _ => ⟨fun _ => (c_hasPin h4 (by omega) _).int ?_, fun _ => (c_of (k := 4) (j := 4) h4 rfl (by omega) _).int ?_⟩⟩
    · rintro x4 σ ⟨-, rfl⟩
      exact ⟨fun _ => next _, fun _ => next _⟩
    · rintro x4 σ ⟨-, rfl⟩
      exact ⟨fun _ => next _, fun _ => next _⟩
theorem c_ownsMany (a1 a2 : Int32) (σ : sm_S) : xC xM j_M_ownsMany [.ref 0, .int a1, .int a2] σ (sm_I (fun _ σ' => σ' = σ)) := w_M_ownsMany a1 a2 σ _ (l_ownsMany a1 a2 σ 96 0 0 0 rfl rfl)
theorem c_task {N : Nat} (a1 a2 : Int32) (σ : sm_S) (hj : jj N (σ 1)) : xC xM j_M_task [.ref 0, .int a1, .int a2] σ (sm_I (pubX N 0 σ)) := by
  refine w_M_task a1 a2 σ _ (fun σ1 e1 => (c_isTask a1 σ1).int ?_)
  rintro x3 σ1 ⟨hx3, rfl⟩
  have keep : ∀ y : Int32, sm_I (pubX N 0 σ) (some (.int y)) σ1 := fun y => ⟨_, rfl, pub_X (pub_keep hj e1)⟩
  refine ⟨fun _ => keep _, fun n3 => (c_isIn a2 0 5 _).int ?_⟩
  obtain ⟨-, n, hn2, hn⟩ := hx3.resolve_right (fun z => n3 z.1)
  have vs : ∀ (c : Int32) (j : Nat), c.toInt = j → j < 6 → vp_in (2322 + 6 * a1 + c) 2662 := fun c j hc hj => t_vp (t_ix (C := 2322) (M := 6) rfl rfl hn hc (by omega)) (by omega)
  rintro x5 σ1 ⟨-, rfl⟩
  refine ⟨fun n5 => (c_taskAt a1 _).int ?_, fun _ => keep _⟩
  rintro x7 σ1 ⟨rfl, rfl⟩
  refine ⟨fun _ => ⟨fun _ => ⟨fun _ => ⟨fun _ => ⟨fun _ => (c_ownsMany _ _ _).int ?_, fun _ => (c_ownsMany _ _ _).int ?_⟩, fun _ => ⟨vs 5 5 rfl (by omega), keep _⟩⟩, fun _ => ⟨vs 1 1 rfl (by omega), keep _⟩⟩, fun _ => ⟨vs 1 1 rfl (by omega), fun _ => keep _, fun _ => keep _⟩⟩, fun _ => ⟨vs 0 0 rfl (by omega), keep _⟩⟩
  · rintro x9 σ1 rfl; exact keep _
  · rintro x9 σ1 rfl; exact keep _
theorem l_freeIn (a1 : Int32) (σ : sm_S) : ∀ (d k : Nat) (a2 a3 : Int32), a3.toInt = k → k + d = 256 → xE xM m_M_freeIn 4 [.ref 0, .int a1, .int a2, .int a3] [] σ (sm_I (fun _ σ' => σ' = σ)) := by
  intro d
  induction d with
  | zero =>
    intro k a2 a3 h4 hk
    refine w_M_freeIn_4 a1 a2 a3 σ _ ⟨fun _ => ⟨_, rfl, rfl⟩, fun h => absurd ?_ h⟩
    rw [t_le, h4]
    show (256 : Int) ≤ _
    omega
  | succ d ih =>
    intro k a2 a3 h4 hk
    have h4' : (a3 + 1).toInt = ((k + 1 : Nat) : Int) := by
      rw [t_add h4 (y := 1) rfl (by omega) (by omega)]
      omega
    have next : ∀ b : Int32, xE xM m_M_freeIn 4 [.ref 0, .int a1, .int b, .int (a3 + 1)] [] σ (sm_I (fun _ σ' => σ' = σ)) := fun b => ih (k + 1) b _ h4' (by omega)
    refine w_M_freeIn_4 a1 a2 a3 σ _ ⟨fun _ => ⟨_, rfl, rfl⟩, fun _ => (c_isFree h4 (by omega) σ).int ?_⟩
    rintro x2 σ ⟨-, rfl⟩
    refine ⟨fun _ => next _, fun _ => (c_spanOf h4 _).int ?_⟩
    rintro x4 σ ⟨hx4, rfl⟩
    refine (c_zoneOf hx4 (by omega) _).int ?_
    rintro x6 σ ⟨-, rfl⟩
    exact ⟨fun _ => next _, fun _ => next _⟩
theorem c_freeIn (a1 : Int32) (σ : sm_S) : xC xM j_M_freeIn [.ref 0, .int a1] σ (sm_I (fun _ σ' => σ' = σ)) := w_M_freeIn a1 σ _ (l_freeIn a1 σ 256 0 0 0 rfl rfl)
theorem l_zone (a1 a2 : Int32) (σ : sm_S) : ∀ (d k : Nat) (a3 a4 : Int32), a4.toInt = k → k + d = 8 → xE xM m_M_zone 56 [.ref 0, .int a1, .int a2, .int a3, .int a4] [] σ (sm_I (fun _ σ' => σ' = σ)) := by
  intro d
  induction d with
  | zero =>
    intro k a3 a4 h4 hk
    refine w_M_zone_56 a1 a2 a3 a4 σ _ ⟨fun _ => ⟨_, rfl, rfl⟩, fun h => absurd ?_ h⟩
    rw [t_le, h4]
    show (8 : Int) ≤ _
    omega
  | succ d ih =>
    intro k a3 a4 h4 hk
    have h4' : (a4 + 1).toInt = ((k + 1 : Nat) : Int) := by
      rw [t_add h4 (y := 1) rfl (by omega) (by omega)]
      omega
    have next : ∀ b : Int32, xE xM m_M_zone 56 [.ref 0, .int a1, .int a2, .int b, .int (a4 + 1)] [] σ (sm_I (fun _ σ' => σ' = σ)) := fun b => ih (k + 1) b _ h4' (by omega)
    refine w_M_zone_56 a1 a2 a3 a4 σ _ ⟨fun _ => ⟨_, rfl, rfl⟩, fun _ => (c_zoneOf h4 (by omega) σ).int ?_⟩
    rintro x2 σ ⟨-, rfl⟩
    refine ⟨fun _ => next _, fun _ => (c_greatestIn h4 (by omega) _).int ?_⟩
    rintro x4 σ rfl
    refine ⟨fun _ => next _, fun _ => (c_greatestIn h4 (by omega) _).int ?_⟩
    rintro x6 σ rfl
    exact next _
theorem c_zone {N : Nat} (a1 a2 : Int32) (σ : sm_S) (hj : jj N (σ 1)) : xC xM j_M_zone [.ref 0, .int a1, .int a2] σ (sm_I (pubX N 0 σ)) := by
  refine w_M_zone a1 a2 σ _ (fun σ1 e1 => (c_isIn a1 0 1 σ1).int ?_)
  rintro x3 σ1 ⟨-, rfl⟩
  have keep : ∀ y : Int32, sm_I (pubX N 0 σ) (some (.int y)) σ1 := fun y => ⟨_, rfl, pub_X (pub_keep hj e1)⟩
  refine ⟨fun _ => keep _, fun n3 => (c_isIn a2 0 2 _).int ?_⟩
  rintro x5 σ1 ⟨-, rfl⟩
  refine ⟨fun _ => ⟨fun _ => ⟨fun _ => (l_zone a1 a2 _ 8 0 _ 0 rfl rfl).mono ?_, fun _ => (c_freeIn a1 _).int ?_⟩, fun _ => (c_framesOf a1 _).int ?_⟩, fun _ => keep _⟩
  · rintro r σ1 ⟨x, rfl, rfl⟩; exact keep _
  · rintro r σ1 rfl; exact keep _
  · rintro r σ1 ⟨-, rfl⟩; exact ⟨by decide, keep _⟩
theorem l_loose {a2 : Int32} {o : Nat} (h2 : a2.toInt = o) (ho : o ≤ 5) (a1 : Int32) (σ : sm_S) : ∀ (d k : Nat) (a3 a4 : Int32), a4.toInt = k → k + d = 256 → xE xM m_M_loose 32 [.ref 0, .int a1, .int a2, .int a3, .int a4] [] σ (sm_I (fun _ σ' => σ' = σ)) := by
  intro d
  induction d with
  | zero =>
    intro k a3 a4 h4 hk
    refine w_M_loose_32 a1 a2 a3 a4 σ _ ⟨fun _ => ⟨_, rfl, rfl⟩, fun h => absurd ?_ h⟩
    rw [t_le, h4]
    show (256 : Int) ≤ _
    omega
  | succ d ih =>
    intro k a3 a4 h4 hk
    have h4' : (a4 + 1).toInt = ((k + 1 : Nat) : Int) := by
      rw [t_add h4 (y := 1) rfl (by omega) (by omega)]
      omega
    have next : ∀ b : Int32, xE xM m_M_loose 32 [.ref 0, .int a1, .int a2, .int b, .int (a4 + 1)] [] σ (sm_I (fun _ σ' => σ' = σ)) := fun b => ih (k + 1) b _ h4' (by omega)
    refine w_M_loose_32 a1 a2 a3 a4 σ _ ⟨fun _ => ⟨_, rfl, rfl⟩, fun _ => (c_isFree h4 (by omega) σ).int ?_⟩
    rintro x2 σ ⟨-, rfl⟩
    refine ⟨fun _ => next _, fun _ => (c_spanOf h4 _).int ?_⟩
    rintro x4 σ ⟨hx4, rfl⟩
    refine (c_zoneOf hx4 (by omega) _).int ?_
    rintro x6 σ ⟨-, rfl⟩
    refine ⟨fun _ => next _, fun _ => (c_areFree h4 (by omega) h2 ho _).int ?_⟩
    rintro x8 σ ⟨-, rfl⟩
    exact ⟨fun _ => next _, fun _ => next _⟩
theorem c_loose {N : Nat} (a1 a2 : Int32) (σ : sm_S) (hj : jj N (σ 1)) : xC xM j_M_loose [.ref 0, .int a1, .int a2] σ (sm_I (pubX N 0 σ)) := by
  refine w_M_loose a1 a2 σ _ (fun σ1 e1 => (c_isIn a1 0 1 σ1).int ?_)
  rintro x3 σ1 ⟨-, rfl⟩
  have keep : ∀ y : Int32, sm_I (pubX N 0 σ) (some (.int y)) σ1 := fun y => ⟨_, rfl, pub_X (pub_keep hj e1)⟩
  refine ⟨fun _ => keep _, fun n3 => (c_isIn a2 0 5 _).int ?_⟩
  rintro x5 σ1 ⟨hx5, rfl⟩
  refine ⟨fun n5 => ?_, fun _ => keep _⟩
  obtain ⟨-, g3, g4⟩ := hx5.resolve_right (fun z => n5 z.1)
  obtain ⟨m, hm, hm2⟩ := in_n (C := 5) rfl g3 g4
  refine (l_loose hm hm2 a1 _ 256 0 _ 0 rfl rfl).mono ?_
  rintro r σ1 ⟨x, rfl, rfl⟩; exact keep _
theorem c_place {N : Nat} (a1 a2 a3 : Int32) (σ : sm_S) (hj : jj N (σ 1)) : xC xM j_M_place [.ref 0, .int a1, .int a2, .int a3] σ (sm_I (pubX N 0 σ)) := by
  refine w_M_place a1 a2 a3 σ _ (fun σ1 e1 => (c_isTask a1 σ1).int ?_)
  rintro x3 σ1 ⟨hx3, rfl⟩
  have keep : ∀ y : Int32, sm_I (pubX N 0 σ) (some (.int y)) σ1 := fun y => ⟨_, rfl, pub_X (pub_keep hj e1)⟩
  refine ⟨fun _ => keep _, fun n3 => (c_isIn a2 0 2 _).int ?_⟩
  obtain ⟨-, n, hn2, hn⟩ := hx3.resolve_right (fun z => n3 z.1)
  rintro x5 σ1 ⟨-, rfl⟩
  refine ⟨fun _ => keep _, fun n5 => (c_isIn a3 0 4 _).int ?_⟩
  rintro x7 σ1 ⟨hx7, rfl⟩
  refine ⟨fun _ => keep _, fun n7 => ?_⟩
  obtain ⟨-, g3, g4⟩ := hx7.resolve_right (fun z => n7 z.1)
  obtain ⟨m, hm, hm2⟩ := in_n (C := 4) rfl g3 g4
  refine (c_bestPlace hn hn2 hm hm2 _).int ?_
  rintro x9 σ1 ⟨-, rfl⟩; exact keep _
theorem c_hole {N : Nat} (a1 : Int32) (σ : sm_S) (hj : jj N (σ 1)) : xC xM j_M_hole [.ref 0, .int a1] σ (sm_I (pubX N 0 σ)) := by
  refine w_M_hole a1 σ _ (fun σ1 e1 => (c_isIn a1 0 255 σ1).int ?_)
  rintro x3 σ1 ⟨hx3, rfl⟩
  have keep : ∀ y : Int32, sm_I (pubX N 0 σ) (some (.int y)) σ1 := fun y => ⟨_, rfl, pub_X (pub_keep hj e1)⟩
  refine ⟨fun _ => keep _, fun n3 => ?_⟩
  obtain ⟨-, g3, g4⟩ := hx3.resolve_right (fun z => n3 z.1)
  obtain ⟨m, hm, hm2⟩ := in_n (C := 255) rfl g3 g4
  refine (c_isFree hm (by omega) _).int ?_
  rintro x5 σ1 ⟨-, rfl⟩
  refine ⟨fun _ => keep _, fun n5 => (c_holeOf hm (by omega) _).int ?_⟩
  rintro x9 σ1 ⟨-, rfl⟩; exact keep _
theorem l_at {N : Nat} (a1 a2 : Int32) (σ : sm_S) (hj : jj N (σ 1)) : ∀ (d k : Nat) (a3 a4 : Int32), a4.toInt = k → k + d = 256 → xE xM m_M_at 30 [.ref 0, .int a1, .int a2, .int a3, .int a4] [] σ (sm_I (fun _ σ' => σ' = σ)) := by
  intro d
  induction d with
  | zero =>
    intro k a3 a4 h4 hk
    refine w_M_at_30 a1 a2 a3 a4 σ _ ⟨fun _ => ⟨_, rfl, rfl⟩, fun h => absurd ?_ h⟩
    rw [t_le, h4]
    show (256 : Int) ≤ _
    omega
  | succ d ih =>
    intro k a3 a4 h4 hk
    have h4' : (a4 + 1).toInt = ((k + 1 : Nat) : Int) := by
      rw [t_add h4 (y := 1) rfl (by omega) (by omega)]
      omega
    have next : ∀ b : Int32, xE xM m_M_at 30 [.ref 0, .int a1, .int a2, .int b, .int (a4 + 1)] [] σ (sm_I (fun _ σ' => σ' = σ)) := fun b => ih (k + 1) b _ h4' (by omega)
    refine w_M_at_30 a1 a2 a3 a4 σ _ ⟨fun _ => ⟨_, rfl, rfl⟩, fun _ => (c_spanOf h4 σ).int ?_⟩
    rintro x2 σ ⟨-, rfl⟩
    refine ⟨by decide, fun _ => next _, fun _ => (c_stateOf h4 (by omega) _).int ?_⟩
    rintro x4 σ ⟨-, rfl⟩
    refine ⟨fun _ => next _, fun _ => (c_frameAt a4 _).int ?_⟩
    rintro x6 σ ⟨rfl, rfl⟩
    have hi := t_ix (C := 18) (M := 3) (c := 18) (m := 3) (k := 1) (j := 1) rfl rfl h4 rfl (by omega)
    obtain ⟨f1, f2⟩ := hj.1.1 k (by omega)
    obtain ⟨q, hq⟩ := t_of f1
    refine ⟨t_vp hi (by omega), (c_ofm (m := q) (k := 4) (j := 4) ?_ (by omega) rfl (by omega) _).int ?_⟩
    · rw [t_nat hi, t_sub hq (y := 1) rfl (by omega) (by omega)]
    · rintro x8 σ ⟨-, rfl⟩
      exact ⟨fun _ => next _, fun _ => next _⟩
theorem c_at {N : Nat} (a1 a2 : Int32) (σ : sm_S) (hj : jj N (σ 1)) : xC xM j_M_at [.ref 0, .int a1, .int a2] σ (sm_I (pubX N 0 σ)) := by
  refine w_M_at a1 a2 σ _ (fun σ1 e1 => (c_isTask a1 σ1).int ?_)
  have hj1 : jj N (σ1 1) := by rw [e1, s_ne (by decide)]; exact hj
  rintro x3 σ1 ⟨-, rfl⟩
  have keep : ∀ y : Int32, sm_I (pubX N 0 σ) (some (.int y)) σ1 := fun y => ⟨_, rfl, pub_X (pub_keep hj e1)⟩
  refine ⟨fun _ => keep _, fun n3 => (c_isIn a2 0 1 _).int ?_⟩
  rintro x5 σ1 ⟨-, rfl⟩
  refine ⟨fun n5 => (l_at a1 a2 _ hj1 256 0 _ 0 rfl rfl).mono ?_, fun _ => keep _⟩
  rintro r σ1 ⟨x, rfl, rfl⟩; exact keep _
theorem c_log {N : Nat} (a1 a2 : Int32) (σ : sm_S) (hj : jj N (σ 1)) : xC xM j_M_log [.ref 0, .int a1, .int a2] σ (sm_I (pubX N 0 σ)) := by
  refine w_M_log a1 a2 σ _ (fun σ1 e1 => ?_)
  have hj1 : jj N (σ1 1) := by rw [e1, s_ne (by decide)]; exact hj
  have keep : ∀ y : Int32, sm_I (pubX N 0 σ) (some (.int y)) σ1 := fun y => ⟨_, rfl, pub_X (pub_keep hj e1)⟩
  have h5 : (σ1 1 ((5 : Int32)).toNatClampNeg).toInt = N := hj1.2.2
  refine ⟨fun _ => keep _, fun n1 => ⟨fun _ => keep _, fun n2 => ⟨t_vp (n := 5) rfl (by omega), fun _ => keep _, fun n5 => (c_isIn a2 0 3 _).int ?_⟩⟩⟩
  rw [t_lt] at n1
  rw [t_le] at n2
  rw [t_le, h5] at n5
  have n1 : ¬ a1.toInt < (0 : Int) := n1
  have n2 : ¬ (60 : Int) ≤ a1.toInt := n2
  obtain ⟨n, hn⟩ := t_of (x := a1) (by omega)
  have bN := t_bd (σ1 1 ((5 : Int32)).toNatClampNeg)
  rintro x3 σ1 ⟨hx3, rfl⟩
  refine ⟨fun n3 => ?_, fun _ => keep _⟩
  obtain ⟨-, g3, g4⟩ := hx3.resolve_right (fun z => n3 z.1)
  obtain ⟨m, hm, hm2⟩ := in_n (C := 3) rfl g3 g4
  have q1 := t_sub h5 (y := 1) (b := 1) rfl (by omega) (by omega)
  have q2 := t_sub q1 hn (by omega) (by omega)
  have q2' : (σ1 1 ((5 : Int32)).toNatClampNeg - 1 - a1).toInt = ((N - 1 - n : Nat) : Int) := by rw [q2]; omega
  have q3 := t_rem (d := 60) (b := 60) q2' rfl (by decide)
  exact ⟨t_vp (n := 5) rfl (by omega), by decide, t_vp (t_ix (C := 2422) (M := 4) rfl rfl q3 hm (by omega)) (by omega), keep _⟩
theorem c_count {N : Nat} (a1 : Int32) (σ : sm_S) (hj : jj N (σ 1)) : xC xM j_M_count [.ref 0, .int a1] σ (sm_I (pubX N 0 σ)) := by
  refine w_M_count a1 σ _ (fun σ1 e1 => (c_isIn a1 0 10 σ1).int ?_)
  rintro x3 σ1 ⟨hx3, rfl⟩
  have keep : ∀ y : Int32, sm_I (pubX N 0 σ) (some (.int y)) σ1 := fun y => ⟨_, rfl, pub_X (pub_keep hj e1)⟩
  refine ⟨fun _ => keep _, fun n3 => ?_⟩
  obtain ⟨-, g3, g4⟩ := hx3.resolve_right (fun z => n3 z.1)
  obtain ⟨m, hm, hm2⟩ := in_n (C := 10) rfl g3 g4
  have q : (7 + a1).toInt = ((7 + m : Nat) : Int) := by
    rw [t_add (x := 7) rfl hm (by omega) (by omega)]
    omega
  exact ⟨t_vp q (by omega), keep _⟩
theorem l_framesIn (a1 : Int32) (σ : sm_S) : ∀ (d k : Nat) (a2 a3 : Int32), a3.toInt = k → k + d = 8 → xE xM m_M_framesIn 4 [.ref 0, .int a1, .int a2, .int a3] [] σ (sm_I (fun _ σ' => σ' = σ)) := by
  intro d
  induction d with
  | zero =>
    intro k a2 a3 h4 hk
    refine w_M_framesIn_4 a1 a2 a3 σ _ ⟨fun _ => ⟨_, rfl, rfl⟩, fun h => absurd ?_ h⟩
    rw [t_le, h4]
    show (8 : Int) ≤ _
    omega
  | succ d ih =>
    intro k a2 a3 h4 hk
    have h4' : (a3 + 1).toInt = ((k + 1 : Nat) : Int) := by
      rw [t_add h4 (y := 1) rfl (by omega) (by omega)]
      omega
    refine w_M_framesIn_4 a1 a2 a3 σ _ ⟨fun _ => ⟨_, rfl, rfl⟩, fun _ => (c_manyIn h4 (by omega) _ σ).int ?_⟩
    rintro x2 σ rfl
    exact ih (k + 1) _ _ h4' (by omega)
theorem c_framesIn (a1 : Int32) (σ : sm_S) : xC xM j_M_framesIn [.ref 0, .int a1] σ (sm_I (fun _ σ' => σ' = σ)) := w_M_framesIn a1 σ _ (l_framesIn a1 σ 8 0 0 0 rfl rfl)
theorem l_blocks (σ : sm_S) : ∀ (d k : Nat) (a1 a2 : Int32), a2.toInt = k → k + d = 96 → xE xM m_M_blocks 4 [.ref 0, .int a1, .int a2] [] σ (sm_I (fun _ σ' => σ' = σ)) := by
  intro d
  induction d with
  | zero =>
    intro k a1 a2 h4 hk
    refine w_M_blocks_4 a1 a2 σ _ ⟨fun _ => ⟨_, rfl, rfl⟩, fun h => absurd ?_ h⟩
    rw [t_le, h4]
    show (96 : Int) ≤ _
    omega
  | succ d ih =>
    intro k a1 a2 h4 hk
    have h4' : (a2 + 1).toInt = ((k + 1 : Nat) : Int) := by
      rw [t_add h4 (y := 1) rfl (by omega) (by omega)]
      omega
    refine w_M_blocks_4 a1 a2 σ _ ⟨fun _ => ⟨_, rfl, rfl⟩, fun _ => (c_of (k := 0) (j := 0) h4 rfl (by omega) σ).int ?_⟩
    rintro x2 σ ⟨-, rfl⟩
    exact ih (k + 1) _ _ h4' (by omega)
theorem c_blocks (σ : sm_S) : xC xM j_M_blocks [.ref 0] σ (sm_I (fun _ σ' => σ' = σ)) := w_M_blocks σ _ (l_blocks σ 96 0 0 0 rfl rfl)
theorem l_waiters (σ : sm_S) : ∀ (d k : Nat) (a1 a2 : Int32), a2.toInt = k → k + d = 6 → xE xM m_M_waiters 4 [.ref 0, .int a1, .int a2] [] σ (sm_I (fun _ σ' => σ' = σ)) := by
  intro d
  induction d with
  | zero =>
    intro k a1 a2 h4 hk
    refine w_M_waiters_4 a1 a2 σ _ ⟨fun _ => ⟨_, rfl, rfl⟩, fun h => absurd ?_ h⟩
    rw [t_le, h4]
    show (6 : Int) ≤ _
    omega
  | succ d ih =>
    intro k a1 a2 h4 hk
    have h4' : (a2 + 1).toInt = ((k + 1 : Nat) : Int) := by
      rw [t_add h4 (y := 1) rfl (by omega) (by omega)]
      omega
    refine w_M_waiters_4 a1 a2 σ _ ⟨fun _ => ⟨_, rfl, rfl⟩, fun _ => (c_taskAt a2 σ).int ?_⟩
    rintro x2 σ ⟨rfl, rfl⟩
    exact ⟨t_vp (t_ix (C := 2322) (M := 6) (j := 1) rfl rfl h4 rfl (by omega)) (by omega), fun _ => ih (k + 1) _ _ h4' (by omega), fun _ => ih (k + 1) _ _ h4' (by omega)⟩
theorem c_waiters (σ : sm_S) : xC xM j_M_waiters [.ref 0] σ (sm_I (fun _ σ' => σ' = σ)) := w_M_waiters σ _ (l_waiters σ 6 0 0 0 rfl rfl)
theorem l_goers (σ : sm_S) : ∀ (d k : Nat) (a1 a2 : Int32), a2.toInt = k → k + d = 8 → xE xM m_M_goers 4 [.ref 0, .int a1, .int a2] [] σ (sm_I (fun _ σ' => σ' = σ)) := by
  intro d
  induction d with
  | zero =>
    intro k a1 a2 h4 hk
    refine w_M_goers_4 a1 a2 σ _ ⟨fun _ => ⟨_, rfl, rfl⟩, fun h => absurd ?_ h⟩
    rw [t_le, h4]
    show (8 : Int) ≤ _
    omega
  | succ d ih =>
    intro k a1 a2 h4 hk
    have h4' : (a2 + 1).toInt = ((k + 1 : Nat) : Int) := by
      rw [t_add h4 (y := 1) rfl (by omega) (by omega)]
      omega
    refine w_M_goers_4 a1 a2 σ _ ⟨fun _ => ⟨_, rfl, rfl⟩, fun _ => (c_isGoing h4 (by omega) σ).int ?_⟩
    rintro x2 σ ⟨-, rfl⟩
    exact ⟨fun _ => ih (k + 1) _ _ h4' (by omega), fun _ => ih (k + 1) _ _ h4' (by omega)⟩
theorem c_goers (σ : sm_S) : xC xM j_M_goers [.ref 0] σ (sm_I (fun _ σ' => σ' = σ)) := w_M_goers σ _ (l_goers σ 8 0 0 0 rfl rfl)
theorem c_look {N : Nat} (a1 : Int32) (σ : sm_S) (hj : jj N (σ 1)) : xC xM j_M_look [.ref 0, .int a1] σ (sm_I (pubX N 0 σ)) := by
  refine w_M_look a1 σ _ (fun σ1 e1 => (c_isIn a1 0 3 σ1).int ?_)
  have hj1 : jj N (σ1 1) := by rw [e1, s_ne (by decide)]; exact hj
  rintro x3 σ1 ⟨hx3, rfl⟩
  have keep : ∀ y : Int32, sm_I (pubX N 0 σ) (some (.int y)) σ1 := fun y => ⟨_, rfl, pub_X (pub_keep hj e1)⟩
  refine ⟨fun _ => ⟨fun _ => ⟨fun _ => ⟨fun _ => (c_isIn a1 7 10 _).int ?_, fun _ => (c_framesOf 0 _).int ?_⟩, fun _ => (c_blocks _).int ?_⟩, fun _ => ⟨t_vp (n := 4) rfl (by omega), keep _⟩⟩, fun n3 => ?_⟩
  · rintro x5 σ1 ⟨-, rfl⟩
    refine ⟨fun _ => ⟨fun _ => ⟨fun _ => ⟨fun _ => ⟨fun _ => keep _, fun _ => (c_framesOf 1 _).int ?_⟩, fun _ => ⟨t_vp (n := 5) rfl (by omega), keep _⟩⟩, fun _ => (c_goers _).int ?_⟩, fun _ => (c_waiters _).int ?_⟩, fun _ => (c_framesIn _ _).int ?_⟩
    · rintro x7 σ1 ⟨-, rfl⟩
      refine (c_framesOf 0 _).int ?_
      rintro x9 σ1 ⟨⟨c, hc, -, hc1⟩, rfl⟩
      obtain ⟨s, hs, z1, z2⟩ := hj1.2.1.2.2.2.2
      have := hc1 s hs (fun z => by rw [show 2358 + 8 * s = 2358 + 8 * s + 0 from rfl, z1] at z; exact absurd z (by decide)) z2
      refine ⟨fun z => ?_, keep _⟩
      rw [z] at hc
      have hc : (0 : Int) = ((32 * c : Nat) : Int) := hc
      omega
    · rintro x7 σ1 rfl; exact keep _
    · rintro x7 σ1 rfl; exact keep _
    · rintro x7 σ1 rfl; exact keep _
  · rintro x7 σ1 ⟨-, rfl⟩
    refine (c_framesOf 1 _).int ?_
    rintro x9 σ1 ⟨-, rfl⟩
    exact ⟨by decide, keep _⟩
  · rintro x7 σ1 rfl; exact keep _
  · obtain ⟨-, g3, g4⟩ := hx3.resolve_right (fun z => n3 z.1)
    obtain ⟨m, hm, hm2⟩ := in_n (C := 3) rfl g3 g4
    refine (c_settingOf hm (by omega) _).int ?_
    rintro x7 σ1 rfl; exact keep _
/-- what holds between the calls: at most B lines in the log, now and in the image -/
def lw (B : Nat) (σ : sm_S) : Prop := (∃ N, N ≤ B ∧ jj N (σ 1)) ∧ (σ 0 6 ≠ 0 → ∃ N, N ≤ B ∧ jj N (σ 5))
theorem lw.pub {B D N : Nat} {σ σ' : sm_S} {x : Int32} (h : lw B σ) (hN : N ≤ B) (hp : pubX N D σ x σ') : lw (B + D) σ' := by
  obtain ⟨N', h1, h2, h3, h4, h5, -⟩ := hp
  refine ⟨⟨N', by omega, h1⟩, fun h0 => ?_⟩
  rw [h5] at h0
  obtain ⟨M, m1, m2⟩ := h.2 h0
  exact ⟨M, by omega, by rw [h4]; exact m2⟩
theorem l_imageT {a1 : Int32} (h1 : a1 ≠ 0) : ∀ (d k : Nat) (a2 : Int32) (σ : sm_S), a2.toInt = k → k + d = 2662 → xE xM m_M_image 25 [.ref 0, .int a1, .int a2] [] σ (sm_I (fun _ σ' => ∃ f, σ' = sm_set σ 5 f ∧ (∀ i, k ≤ i → i < 2662 → f i = σ 1 i) ∧ ∀ i, i < k → f i = σ 5 i)) := by
  intro d
  induction d with
  | zero =>
    intro k a2 σ h2 hk
    refine w_M_image_25 a1 a2 σ _ ⟨fun _ => ⟨Or.inr rfl, _, rfl, σ 5, s_id.symm, fun i _ _ => by omega, fun _ _ => rfl⟩, fun h => absurd ?_ h⟩
    rw [t_le, h2]
    show (2662 : Int) ≤ _
    omega
  | succ d ih =>
    intro k a2 σ h2 hk
    have h2' : (a2 + 1).toInt = ((k + 1 : Nat) : Int) := by
      rw [t_add h2 (y := 1) rfl (by omega) (by omega)]
      omega
    refine w_M_image_25 a1 a2 σ _ ⟨fun h => ?_, fun _ => ⟨fun z => absurd z h1, fun _ => ⟨t_vp h2 (by omega), t_vp h2 (by omega), fun σ1 e1 => ?_⟩⟩⟩
    · rw [t_le, h2] at h
      have h : (2662 : Int) ≤ k := h
      omega
    · rw [t_nat h2] at e1
      refine (ih (k + 1) (a2 + 1) σ1 h2' (by omega)).mono ?_
      rintro r σ' ⟨x, rfl, f, rfl, g1, g2⟩
      subst e1
      refine ⟨x, rfl, f, s_ss, fun i i1 i2 => ?_, fun i i1 => ?_⟩
      · rcases Nat.lt_or_ge k i with hl | hl
        · rw [g1 i hl i2, s_ne (by decide)]
        · have hik : i = k := by omega
          rw [g2 i (by omega), s_at, hik, u_at]
      · rw [g2 i (by omega), s_at, u_ne (by omega)]
theorem l_imageF {a1 : Int32} (h1 : ¬ a1 ≠ 0) : ∀ (d k : Nat) (a2 : Int32) (σ : sm_S), a2.toInt = k → k + d = 2662 → xE xM m_M_image 25 [.ref 0, .int a1, .int a2] [] σ (sm_I (fun _ σ' => ∃ f, σ' = sm_set σ 1 f ∧ (∀ i, k ≤ i → i < 2662 → f i = σ 5 i) ∧ ∀ i, i < k → f i = σ 1 i)) := by
  intro d
  induction d with
  | zero =>
    intro k a2 σ h2 hk
    refine w_M_image_25 a1 a2 σ _ ⟨fun _ => ⟨Or.inr rfl, _, rfl, σ 1, s_id.symm, fun i _ _ => by omega, fun _ _ => rfl⟩, fun h => absurd ?_ h⟩
    rw [t_le, h2]
    show (2662 : Int) ≤ _
    omega
  | succ d ih =>
    intro k a2 σ h2 hk
    have h2' : (a2 + 1).toInt = ((k + 1 : Nat) : Int) := by
      rw [t_add h2 (y := 1) rfl (by omega) (by omega)]
      omega
    refine w_M_image_25 a1 a2 σ _ ⟨fun h => ?_, fun _ => ⟨fun _ => ⟨t_vp h2 (by omega), t_vp h2 (by omega), fun σ1 e1 => ?_⟩, fun z => absurd (Classical.not_not.mp h1) z⟩⟩
    · rw [t_le, h2] at h
      have h : (2662 : Int) ≤ k := h
      omega
    · rw [t_nat h2] at e1
      refine (ih (k + 1) (a2 + 1) σ1 h2' (by omega)).mono ?_
      rintro r σ' ⟨x, rfl, f, rfl, g1, g2⟩
      subst e1
      refine ⟨x, rfl, f, s_ss, fun i i1 i2 => ?_, fun i i1 => ?_⟩
      · rcases Nat.lt_or_ge k i with hl | hl
        · rw [g1 i hl i2, s_ne (by decide)]
        · have hik : i = k := by omega
          rw [g2 i (by omega), s_at, hik, u_at]
      · rw [g2 i (by omega), s_at, u_ne (by omega)]
theorem c_image {B : Nat} (a1 : Int32) (σ : sm_S) (hj : lw B σ) : xC xM j_M_image [.ref 0, .int a1] σ (sm_I (fun _ σ' => lw B σ' ∧ ∀ k, 5 < k → σ' k = σ k)) := by
  obtain ⟨⟨N, hN, hj1⟩, hj5⟩ := hj
  refine w_M_image a1 σ _ (fun σ1 e1 => ⟨fun n1 => ⟨Or.inr rfl, fun σ2 e2 => ?_⟩, fun n1 => ⟨fun n6 => ⟨Or.inr rfl, fun σ2 e2 => ?_⟩, fun n6 => ⟨Or.inl rfl, _, rfl, ?_⟩⟩⟩)
  · refine (l_imageT n1 2662 0 0 σ2 rfl (Nat.zero_add _)).mono ?_
    rintro r σ' ⟨x, rfl, f, rfl, g1, -⟩
    have e21 : σ2 1 = σ 1 := by rw [e2, s_ne (by decide), e1, s_ne (by decide)]
    refine ⟨x, rfl, ⟨⟨N, hN, ?_⟩, fun _ => ⟨N, hN, ?_⟩⟩, fun k hk => ?_⟩
    · rw [s_ne (by decide), e21]; exact hj1
    · rw [s_at]; exact jj_eq (fun i hi => by rw [g1 i (Nat.zero_le i) hi, e21]) hj1
    · rw [s_ne (by omega), e2, s_ne (by omega), e1, s_ne (by omega)]
  · refine (l_imageF n1 2662 0 0 σ2 rfl (Nat.zero_add _)).mono ?_
    rintro r σ' ⟨x, rfl, f, rfl, g1, -⟩
    have e25 : σ2 5 = σ 5 := by rw [e2, s_ne (by decide), e1, s_ne (by decide)]
    obtain ⟨M, hM, hj5'⟩ := hj5 (by rw [e1, s_at, u_ne (by decide)] at n6; exact n6)
    refine ⟨x, rfl, ⟨⟨M, hM, ?_⟩, fun _ => ⟨M, hM, ?_⟩⟩, fun k hk => ?_⟩
    · rw [s_at]; exact jj_eq (fun i hi => by rw [g1 i (Nat.zero_le i) hi, e25]) hj5'
    · rw [s_ne (by decide), e25]; exact hj5'
    · rw [s_ne (by omega), e2, s_ne (by omega), e1, s_ne (by omega)]
  · refine ⟨⟨⟨N, hN, ?_⟩, fun z => ?_⟩, fun k hk => ?_⟩
    · rw [e1, s_ne (by decide)]; exact hj1
    · exact absurd z n6
    · rw [e1, s_ne (by omega)]
end
section
/-! ===== the model: how it begins ===== -/
def bgS (i : Nat) : Prop := i = 2358 ∨ i = 2366 ∨ ∃ f, f < 256 ∧ i = 18 + 3 * f
def bg (w : Nat → Int32) : Prop := ∀ i, w i = 0 ∨ (w i = 1 ∧ bgS i)
theorem bg0 {w : Nat → Int32} (h : bg w) {i : Nat} (hi : ¬ bgS i) : w i = 0 := (h i).resolve_right (fun z => hi z.2)
theorem bg_up {w : Nat → Int32} (h : bg w) {i : Nat} (hi : bgS i) : bg (upd w i 1) := by
  intro j
  by_cases hj : j = i
  · subst hj; exact Or.inr ⟨u_at, hi⟩
  · rw [u_ne hj]; exact h j
theorem bg_jj {w : Nat → Int32} (h : bg w) (hs : w 2358 = 1) : jj 0 w := by
  have hb : ∀ b k, b < 96 → k < 16 → w (786 + 16 * b + k) = 0 := fun b k hb hk => bg0 h (by
    rintro (z | z | ⟨f, hf, z⟩) <;> omega)
  have z0 : (0 : Int32).toInt = ((0 : Nat) : Int) := rfl
  have h2 : ∀ s k, s < 8 → 0 < k → k < 8 → w (2358 + 8 * s + k) = 0 := fun s k hs hk hk2 => bg0 h (by
    rintro (z | z | ⟨f, hf, z⟩) <;> omega)
  refine ⟨⟨fun f hf => ?_, fun n hn => Or.inr (fun fr hfr _ _ => ?_)⟩, ⟨fun b hb' => ?_, fun b hb' => ?_, fun s hs' => ?_, fun b hb' hne => ?_, 0, by omega, hs, ?_⟩, ?_⟩
  · rw [bg0 h (i := 18 + 3 * f + 1) (by rintro (z | z | ⟨f, hf, z⟩) <;> omega)]
    exact ⟨by decide, by decide⟩
  · rw [bg0 h (i := 18 + 3 * fr + 1) (by rintro (z | z | ⟨f, hf, z⟩) <;> omega), z0]
    omega
  · refine ⟨0, 0, ?_, by omega, ?_, by omega, rfl, ⟨0, ?_, by omega⟩, ⟨0, ?_, Or.inl rfl⟩, ?_⟩
    · rw [hb b 2 hb' (by omega)]; rfl
    · rw [hb b 1 hb' (by omega)]; rfl
    · rw [hb b 4 hb' (by omega)]; rfl
    · rw [hb b 6 hb' (by omega)]; rfl
    · rw [hb b 7 hb' (by omega)]; decide
  · refine ⟨0, 0, ?_, by omega, ?_, fun z => absurd z (by decide), fun n hn => absurd hn (by omega), fun n m h1 h2 => absurd h2 (by omega)⟩
    · rw [hb b 9 hb' (by omega)]; rfl
    · rw [hb b 2 hb' (by omega)]; rfl
  · have hst : ∃ st : Nat, (w (2358 + 8 * s + 0)).toInt = st ∧ st ≤ 1 := by
      rcases h (2358 + 8 * s + 0) with z | ⟨z, -⟩
      · exact ⟨0, by rw [z]; rfl, by omega⟩
      · exact ⟨1, by rw [z]; rfl, by omega⟩
    obtain ⟨st, q1, q2⟩ := hst
    refine ⟨st, 0, 0, 0, q1, by omega, ?_, by omega, fun _ => by omega, ?_, by omega, ?_, Or.inl rfl⟩
    · rw [h2 s 2 hs' (by omega) (by omega)]; rfl
    · rw [h2 s 5 hs' (by omega) (by omega)]; rfl
    · rw [h2 s 6 hs' (by omega) (by omega)]; rfl
  · exact absurd (hb b 6 hb' (by omega)) hne
  · exact h2 0 1 (by omega) (by omega) (by omega)
  · rw [bg0 h (i := 5) (by rintro (z | z | ⟨f, hf, z⟩) <;> omega)]; rfl
theorem l_begins25 {σ0 : sm_S} {a1 : Int32} {s : Nat} (h1 : a1.toInt = s) (hs : s < 2) {Q : Option Value → sm_S → Prop} (K : ∀ (v2 : Value) (w : Nat → Int32), bg w → w 2358 = 1 → xE xM m_M_begins 2 [.ref 0, .int (a1 + 1), v2] [] (sm_set σ0 1 w) Q) : ∀ (d k : Nat) (a2 : Int32) (w : Nat → Int32), a2.toInt = k → k + d = 32 * s + 32 → bg w → w 2358 = 1 → xE xM m_M_begins 25 [.ref 0, .int a1, .int a2] [] (sm_set σ0 1 w) Q := by
  have hb : (32 * a1 + 32).toInt = ((32 * s + 32 : Nat) : Int) := by
    rw [t_add (t_32s h1 (by omega)) (y := 32) rfl (by omega) (by omega)]
    omega
  intro d
  induction d with
  | zero =>
    intro k a2 w h2 hk hb1 hb2
    exact w_M_begins_25 a1 a2 _ _ ⟨fun _ => K _ _ hb1 hb2, fun h => absurd (by rw [t_le, hb, h2]; omega) h⟩
  | succ d ih =>
    intro k a2 w h2 hk hb1 hb2
    have h2' : (a2 + 1).toInt = ((k + 1 : Nat) : Int) := by
      rw [t_add h2 (y := 1) rfl (by omega) (by omega)]
      omega
    refine w_M_begins_25 a1 a2 _ _ ⟨fun h => ?_, fun _ => (c_frameAt a2 _).int ?_⟩
    · rw [t_le, hb, h2] at h; omega
    · rintro x2 σ ⟨rfl, rfl⟩
      have hi := t_ix (C := 18) (M := 3) (c := 18) (m := 3) (k := 0) (j := 0) rfl rfl h2 rfl (by omega)
      refine ⟨t_vp hi (by omega), fun σ3 e3 => ?_⟩
      rw [t_nat hi, s_at, s_ss] at e3
      subst e3
      refine ih (k + 1) (a2 + 1) _ h2' (by omega) ?_ ?_
      · exact bg_up hb1 (Or.inr (Or.inr ⟨k, by omega, by omega⟩))
      · rw [u_ne (by omega)]; exact hb2
theorem l_begins2 {σ0 : sm_S} : ∀ (d k : Nat) (a1 : Int32) (v2 : Value) (w : Nat → Int32), a1.toInt = k → k + d = 2 → bg w → (0 < k → w 2358 = 1) → xE xM m_M_begins 2 [.ref 0, .int a1, v2] [] (sm_set σ0 1 w) (sm_V (fun σ' => ∃ w, σ' = sm_set σ0 1 w ∧ jj 0 w)) := by
  intro d
  induction d with
  | zero =>
    intro k a1 v2 w h1 hk hb hb2
    refine w_M_begins_2 a1 v2 _ _ ⟨fun _ => ⟨rfl, w, rfl, bg_jj hb (hb2 (by omega))⟩, fun h => absurd ?_ h⟩
    rw [t_le, h1]
    show (2 : Int) ≤ _
    omega
  | succ d ih =>
    intro k a1 v2 w h1 hk hb hb2
    have h1' : (a1 + 1).toInt = ((k + 1 : Nat) : Int) := by
      rw [t_add h1 (y := 1) rfl (by omega) (by omega)]
      omega
    refine w_M_begins_2 a1 v2 _ _ ⟨fun h => ?_, fun _ => (c_spanAt a1 _).int ?_⟩
    · rw [t_le, h1] at h
      have h : (2 : Int) ≤ k := h
      omega
    · rintro x2 σ ⟨rfl, rfl⟩
      have hi := t_ix (C := 2358) (M := 8) (c := 2358) (m := 8) (k := 0) (j := 0) rfl rfl h1 rfl (by omega)
      refine ⟨t_vp hi (by omega), fun σ3 e3 => ?_⟩
      rw [t_nat hi, s_at, s_ss] at e3
      subst e3
      refine l_begins25 h1 (by omega) (fun v w hw hw2 => ih (k + 1) (a1 + 1) v w h1' (by omega) hw (fun _ => hw2)) 32 (32 * k) (32 * a1) _ (t_32s h1 (by omega)) rfl ?_ ?_
      · exact bg_up hb (by rcases (show k = 0 ∨ k = 1 by omega) with rfl | rfl; exact Or.inl rfl; exact Or.inr (Or.inl rfl))
      · rcases Nat.eq_zero_or_pos k with hk0 | hk0
        · subst hk0; exact u_at
        · rw [u_ne (by omega)]; exact hb2 hk0
theorem c_begins (σ : sm_S) (h : ∀ i, σ 1 i = 0) : xC xM j_M_begins [.ref 0] σ (sm_V (fun σ' => ∃ w, σ' = sm_set σ 1 w ∧ jj 0 w)) := by
  refine w_M_begins σ _ ?_
  have := l_begins2 (σ0 := σ) 2 0 0 .null (σ 1) rfl rfl (fun i => Or.inl (h i)) (fun z => absurd z (by decide))
  rw [s_id] at this
  exact this
end
