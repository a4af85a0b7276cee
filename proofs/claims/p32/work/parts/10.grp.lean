section
/-! ===== THE STORE MACHINE: ints alone change; who points where stands in a table of shapes ===== -/
abbrev sm_S : Type := Nat → Nat → Int32
def sm_set (σ : sm_S) (k : Nat) (f : Nat → Int32) : sm_S := fun a => if a = k then f else σ a
/-- a slot: inl 0 an int, inl 1 a boolean (inl of more: not to be touched); inr k the cell k -/
abbrev sm_Sl : Type := Nat ⊕ Nat
/-- a cell: inl (0 ints | 1 booleans, length); inr (class, slots) -/
abbrev sm_Sh : Type := (Nat × Nat) ⊕ (Nat × List sm_Sl)
/-- an instruction: itself, its int, its number (target, slot, callee), its count, its switch -/
abbrev sm_R : Type := Instr × Int32 × Nat × Nat × List (Int32 × Nat)
/-- a method: name, code, locals, what it answers, (frames, locals, own class, how many it takes + 100 times its object's class), instructions by pc -/
abbrev sm_M : Type := MethodName × ByteArray × Nat × Option FieldType × (Nat × Nat × Nat × Nat) × List (Nat × sm_R)
def sm_find : List (Nat × sm_R) → Nat → Option sm_R
  | [], _ => none
  | (a, r) :: t, pc => bif Nat.beq a pc then some r else sm_find t pc
def sm_pop : Nat → List Value → List Value → Option (List Value × List Value)
  | 0, acc, st => some (acc, st)
  | _ + 1, _, [] => none
  | n + 1, acc, v :: st => sm_pop n (v :: acc) st
/-- an array: its kind and length (tables stand from 1000 on) -/
def sm_arr (SH : List sm_Sh) (a : Nat) : Option (Nat × Nat) := match SH[a]? with
  | some (.inl q) => some q
  | _ => none
def sm_sw {α : Type} (br : Prop → α → α → α) (K : Nat → α) (x : Int32) (d : Nat) : List (Int32 × Nat) → α
  | [] => K d
  | (v, t) :: r => br (x = v) (K t) (sm_sw br K x d r)
def sm_cnd (c : ClassFile.Cond) (x y : Int32) : Prop := match c with
  | .eq => x = y
  | .ne => x ≠ y
  | .lt => x < y
  | .ge => y ≤ x
  | .gt => y < x
  | .le => x ≤ y
/-- what goes on behind a call that answers an int; behind one that answers nothing -/
def sm_ri {α : Type} (bad : α) (R : Int32 → sm_S → α) (r : Option Value) (σ : sm_S) : α := match r with
  | some (.int x) => R x σ
  | _ => bad
def sm_rv {α : Type} (bad : α) (R : sm_S → α) (r : Option Value) (σ : sm_S) : α := match r with
  | none => R σ
  | _ => bad
/-- the first is an object of class ci -/
def sm_rc (SH : List sm_Sh) (ci : Nat) (as : List Value) : Bool := match as with
  | .ref a :: _ => (match SH[a]? with
    | some (.inr (c, _)) => Nat.beq c ci
    | _ => false)
  | _ => false
def sm_irs : List Value → Bool
  | [] => true
  | .int _ :: t => sm_irs t
  | .ref _ :: t => sm_irs t
  | _ :: _ => false
section G
variable {α : Type} (TB : List (List Int32)) (SH : List sm_Sh) (M : sm_M) (bad : α) (need : Prop → α → α) (nam : sm_S → (sm_S → α) → α) (br : Prop → α → α → α) (call : Nat → List Value → sm_S → (Option Value → sm_S → α) → α) (ret : Option Value → sm_S → α) (K : Nat → List Value → List Value → sm_S → α)
def sm_bin (f : Int32 → Int32 → Int32) (pc : Nat) (ls st : List Value) (σ : sm_S) : α := match st with
  | .int y :: .int x :: r => K (pc + 1) ls (.int (f x y) :: r) σ
  | _ => bad
def sm_ld (pc i : Nat) (ls st : List Value) (σ : sm_S) : α := match ls[i]? with
  | some (.int x) => K pc ls (.int x :: st) σ
  | _ => bad
def sm_la (pc i : Nat) (ls st : List Value) (σ : sm_S) : α := match ls[i]? with
  | some (.ref x) => K pc ls (.ref x :: st) σ
  | _ => bad
def sm_sti (pc i : Nat) (ls st : List Value) (σ : sm_S) : α := match st with
  | .int x :: r => bif Nat.blt i ls.length then K pc (ls.set i (.int x)) r σ else bad
  | _ => bad
def sm_sta (pc i : Nat) (ls st : List Value) (σ : sm_S) : α := match st with
  | .ref x :: r => bif Nat.blt i ls.length then K pc (ls.set i (.ref x)) r σ else bad
  | _ => bad
def sm_getf (pc tgt : Nat) (ls st : List Value) (σ : sm_S) : α := match st with
  | .ref a :: r => match SH[a]? with
    | some (.inr (ci, fl)) => bif Nat.beq ci (tgt / 100) then (match fl[tgt % 100]? with
      | some (.inl t) => bif Nat.ble t 1 then K (pc + 3) ls (.int (σ a (tgt % 100)) :: r) σ else bad
      | some (.inr k) => K (pc + 3) ls (.ref k :: r) σ
      | none => bad) else bad
    | _ => bad
  | _ => bad
def sm_putf (pc tgt : Nat) (ls st : List Value) (σ : sm_S) : α := match st with
  | .int x :: .ref a :: r => match SH[a]? with
    | some (.inr (ci, fl)) => bif Nat.beq ci (tgt / 100) then (match fl[tgt % 100]? with
      | some (.inl 0) => nam (sm_set σ a (upd (σ a) (tgt % 100) x)) (fun σ' => K (pc + 3) ls r σ')
      | some (.inl 1) => need (x = 0 ∨ x = 1) (nam (sm_set σ a (upd (σ a) (tgt % 100) x)) (fun σ' => K (pc + 3) ls r σ'))
      | _ => bad) else bad
    | _ => bad
  | _ => bad
def sm_ald (ty pc : Nat) (ls st : List Value) (σ : sm_S) : α := match st with
  | .int i :: .ref a :: r => match sm_arr SH a with
    | some (t, n) => bif Nat.beq t ty then need (vp_in i n) (K (pc + 1) ls (.int (σ a i.toNatClampNeg) :: r) σ) else bad
    | none => match TB[a - 1000]? with
      | some l => bif Nat.ble 1000 a && Nat.beq ty 0 then need (vp_in i l.length) (K (pc + 1) ls (.int (l.getD i.toNatClampNeg 0) :: r) σ) else bad
      | none => bad
  | _ => bad
def sm_ast (ty pc : Nat) (ls st : List Value) (σ : sm_S) : α := match st with
  | .int x :: .int i :: .ref a :: r => match sm_arr SH a with
    | some (t, n) => bif Nat.beq t ty then need (vp_in i n) (bif Nat.beq ty 0 then nam (sm_set σ a (upd (σ a) i.toNatClampNeg x)) (fun σ' => K (pc + 1) ls r σ') else need (x = 0 ∨ x = 1) (nam (sm_set σ a (upd (σ a) i.toNatClampNeg x)) (fun σ' => K (pc + 1) ls r σ'))) else bad
    | none => bad
  | _ => bad
def sm_len (pc : Nat) (ls st : List Value) (σ : sm_S) : α := match st with
  | .ref a :: r => match sm_arr SH a with
    | some (_, n) => K (pc + 1) ls (.int (Int32.ofNat n) :: r) σ
    | none => bad
  | _ => bad
def sm_cpy (pc : Nat) (ls st : List Value) (σ : sm_S) : α := match st with
  | [.int n, .int dp, .ref b, .int sp, .ref a] => match sm_arr SH b with
    | some (0, nb) => (match sm_arr SH a with
      | some (0, na) => need (¬ sp < 0 ∧ ¬ dp < 0 ∧ ¬ n < 0 ∧ sp.toNatClampNeg + n.toNatClampNeg ≤ na ∧ dp.toNatClampNeg + n.toNatClampNeg ≤ nb) (nam (sm_set σ b (va_cpy (σ a) (σ b) sp.toNatClampNeg dp.toNatClampNeg n.toNatClampNeg)) (fun σ' => K (pc + 3) ls [] σ'))
      | _ => bad)
    | _ => bad
  | _ => bad
/-- Math.min, Math.max -/
def sm_mm (f : Int32 → Int32 → Int32) (pc : Nat) (ls st : List Value) (σ : sm_S) : α := match st with
  | .int y :: .int x :: r => bif sm_irs r && Nat.ble r.length 8 then K (pc + 3) ls (.int (f x y) :: r) σ else bad
  | _ => bad
/-- a call: 'ok' of what it takes; sw empty: it answers nothing; else an int -/
def sm_inv (ok : List Value → Bool) (pc tgt n : Nat) (sw : List (Int32 × Nat)) (ls st : List Value) (σ : sm_S) : α := match sm_pop n [] st with
  | some (as, r) => bif ok as && (sm_irs as && (sm_irs r && Nat.ble r.length 8)) then (match sw with
    | [] => call tgt as σ (sm_rv bad (fun σ' => K (pc + 3) ls r σ'))
    | _ :: _ => call tgt as σ (sm_ri bad (fun x σ' => K (pc + 3) ls (.int x :: r) σ'))) else bad
  | none => bad
/-- one instruction, whatever is made of it -/
def sm_g (pc : Nat) (ls st : List Value) (σ : sm_S) : α := match sm_find M.2.2.2.2.2 pc with
  | none => bad
  | some (ins, aux, tgt, n, sw) => match ins with
    | .iconst _ => K (pc + 1) ls (.int aux :: st) σ
    | .bipush _ => K (pc + 2) ls (.int aux :: st) σ
    | .sipush _ => K (pc + 3) ls (.int aux :: st) σ
    | .ldc_w _ => K (pc + 3) ls (.int aux :: st) σ
    | .iload i => sm_ld bad K (pc + 2) i ls st σ
    | .iload_n i => sm_ld bad K (pc + 1) i.val ls st σ
    | .aload i => sm_la bad K (pc + 2) i ls st σ
    | .aload_n i => sm_la bad K (pc + 1) i.val ls st σ
    | .istore i => sm_sti bad K (pc + 2) i ls st σ
    | .istore_n i => sm_sti bad K (pc + 1) i.val ls st σ
    | .astore i => sm_sta bad K (pc + 2) i ls st σ
    | .astore_n i => sm_sta bad K (pc + 1) i.val ls st σ
    | .iinc i _ => (match ls[i]? with
      | some (.int x) => bif Nat.blt i ls.length then K (pc + 3) (ls.set i (.int (x + aux))) st σ else bad
      | _ => bad)
    | .iadd => sm_bin bad K (fun x y => x + y) pc ls st σ
    | .isub => sm_bin bad K (fun x y => x - y) pc ls st σ
    | .imul => sm_bin bad K (fun x y => x * y) pc ls st σ
    | .iand => sm_bin bad K (fun x y => x &&& y) pc ls st σ
    | .ior => sm_bin bad K (fun x y => x ||| y) pc ls st σ
    | .ixor => sm_bin bad K (fun x y => x ^^^ y) pc ls st σ
    | .ishl => sm_bin bad K (fun x y => x <<< (y &&& 31)) pc ls st σ
    | .ishr => sm_bin bad K (fun x y => x >>> (y &&& 31)) pc ls st σ
    | .iushr => sm_bin bad K (fun x y => (x.toUInt32 >>> (y.toUInt32 &&& Int32.toUInt32 31)).toInt32) pc ls st σ
    | .idiv => (match st with
      | .int y :: .int x :: r => need (¬ y = 0) (K (pc + 1) ls (.int (x / y) :: r) σ)
      | _ => bad)
    | .irem => (match st with
      | .int y :: .int x :: r => need (¬ y = 0) (K (pc + 1) ls (.int (x - x / y * y) :: r) σ)
      | _ => bad)
    | .ineg => (match st with
      | .int x :: r => K (pc + 1) ls (.int (-x) :: r) σ
      | _ => bad)
    | .dup => (match st with
      | .int x :: r => K (pc + 1) ls (.int x :: .int x :: r) σ
      | .ref x :: r => K (pc + 1) ls (.ref x :: .ref x :: r) σ
      | _ => bad)
    | .dup2 => (match st with
      | .int i :: .ref a :: r => K (pc + 1) ls (.int i :: .ref a :: .int i :: .ref a :: r) σ
      | _ => bad)
    | .pop => (match st with
      | .int _ :: r => K (pc + 1) ls r σ
      | _ => bad)
    | .ifCond c _ => (match st with
      | .int x :: r => br (sm_cnd c x 0) (K tgt ls r σ) (K (pc + 3) ls r σ)
      | _ => bad)
    | .if_icmp c _ => (match st with
      | .int y :: .int x :: r => br (sm_cnd c x y) (K tgt ls r σ) (K (pc + 3) ls r σ)
      | _ => bad)
    | .goto _ => K tgt ls st σ
    | .tableswitch _ _ _ _ => (match st with
      | .int x :: r => sm_sw br (fun t => K t ls r σ) x tgt sw
      | _ => bad)
    | .getfield _ => sm_getf SH bad K pc tgt ls st σ
    | .putfield _ => sm_putf SH bad need nam K pc tgt ls st σ
    | .getstatic _ => K (pc + 3) ls (.ref tgt :: st) σ
    | .iaload => sm_ald TB SH bad need K 0 pc ls st σ
    | .baload => sm_ald TB SH bad need K 1 pc ls st σ
    | .iastore => sm_ast SH bad need nam K 0 pc ls st σ
    | .bastore => sm_ast SH bad need nam K 1 pc ls st σ
    | .arraylength => sm_len SH bad K pc ls st σ
    | .invokevirtual _ => sm_inv bad call K (sm_rc SH (n / 100)) pc tgt (n % 100) sw ls st σ
    | .invokestatic _ => bif Nat.beq tgt 9999 then sm_cpy SH bad need nam K pc ls st σ else bif Nat.beq tgt 9998 then sm_mm bad K (fun x y => if y < x then y else x) pc ls st σ else bif Nat.beq tgt 9997 then sm_mm bad K (fun x y => if x < y then y else x) pc ls st σ else sm_inv bad call K (fun _ => true) pc tgt n sw ls st σ
    | .ireturn => (match st with
      | [.int x] => (match M.2.2.2.1 with
        | some .int => ret (some (.int x)) σ
        | some .boolean => need (x = 0 ∨ x = 1) (ret (some (.int x)) σ)
        | _ => bad)
      | _ => bad)
    | .return_ => (match st with
      | [] => (match M.2.2.2.1 with
        | none => ret none σ
        | _ => bad)
      | _ => bad)
    | _ => bad
end G
end
section
/-! ===== two makings of one instruction, side by side ===== -/
section PAR
variable {α β : Type} {TB : List (List Int32)} {SH : List sm_Sh} {M : sm_M} {bad : α} {need : Prop → α → α} {nam : sm_S → (sm_S → α) → α} {br : Prop → α → α → α} {call : Nat → List Value → sm_S → (Option Value → sm_S → α) → α} {ret : Option Value → sm_S → α} {K : Nat → List Value → List Value → sm_S → α}
  {bad' : β} {need' : Prop → β → β} {nam' : sm_S → (sm_S → β) → β} {br' : Prop → β → β → β} {call' : Nat → List Value → sm_S → (Option Value → sm_S → β) → β} {ret' : Option Value → sm_S → β} {K' : Nat → List Value → List Value → sm_S → β}
theorem sm_sw_par (ρ : α → β → Prop) (hbr : ∀ c a a' b b', ρ a b → ρ a' b' → ρ (br c a a') (br' c b b')) {J : Nat → α} {J' : Nat → β} (hJ : ∀ t, ρ (J t) (J' t)) (x : Int32) (d : Nat) : ∀ sw : List (Int32 × Nat), ρ (sm_sw br J x d sw) (sm_sw br' J' x d sw)
  | [] => hJ d
  | (v, t) :: r => hbr _ _ _ _ _ (hJ t) (sm_sw_par ρ hbr hJ x d r)
set_option maxHeartbeats 4000000 in
theorem sm_g_par (ρ : α → β → Prop) (hbad : ρ bad bad') (hneed : ∀ c a b, ρ a b → ρ (need c a) (need' c b)) (hnam : ∀ σ k k', (∀ σ', ρ (k σ') (k' σ')) → ρ (nam σ k) (nam' σ k')) (hbr : ∀ c a a' b b', ρ a b → ρ a' b' → ρ (br c a a') (br' c b b'))
    (hcall : ∀ j as σ k k', (∀ r σ', ρ (k r σ') (k' r σ')) → ρ (call j as σ k) (call' j as σ k')) (hret : ∀ r σ, ρ (ret r σ) (ret' r σ)) (hK : ∀ pc ls st σ, ρ (K pc ls st σ) (K' pc ls st σ)) (pc : Nat) (ls st : List Value) (σ : sm_S) :
    ρ (sm_g TB SH M bad need nam br call ret K pc ls st σ) (sm_g TB SH M bad' need' nam' br' call' ret' K' pc ls st σ) := by
  have hc : ∀ (b : Bool) (x x' : α) (z z' : β), ρ x z → ρ x' z' → ρ (bif b then x else x') (bif b then z else z') := fun b x x' z z' h h' => by cases b <;> assumption
  have hri : ∀ (R : Int32 → sm_S → α) (R' : Int32 → sm_S → β), (∀ x σ', ρ (R x σ') (R' x σ')) → ∀ r σ', ρ (sm_ri bad R r σ') (sm_ri bad' R' r σ') := fun R R' h r σ' => by unfold sm_ri; split <;> first | exact h _ _ | exact hbad
  have hrv : ∀ (R : sm_S → α) (R' : sm_S → β), (∀ σ', ρ (R σ') (R' σ')) → ∀ r σ', ρ (sm_rv bad R r σ') (sm_rv bad' R' r σ') := fun R R' h r σ' => by unfold sm_rv; split <;> first | exact h _ | exact hbad
  have hN : ∀ pc ls st σ, ρ (nam σ (fun σ' => K pc ls st σ')) (nam' σ (fun σ' => K' pc ls st σ')) := fun pc ls st σ => hnam _ _ _ (fun _ => hK _ _ _ _)
  have hI : ∀ ok pc tgt n sw ls st σ, ρ (sm_inv bad call K ok pc tgt n sw ls st σ) (sm_inv bad' call' K' ok pc tgt n sw ls st σ) := fun ok pc tgt n sw ls st σ => by
    unfold sm_inv
    split
    · refine hc _ _ _ _ _ ?_ hbad
      split
      · exact hcall _ _ _ _ _ (hrv _ _ (fun _ => hK _ _ _ _))
      · exact hcall _ _ _ _ _ (hri _ _ (fun _ _ => hK _ _ _ _))
    · exact hbad
  unfold sm_g
  split
  · exact hbad
  · split
    all_goals first
      | exact hbad
      | exact hK _ _ _ _
      | exact hret _ _
      | (unfold sm_ld; split <;> first | exact hK _ _ _ _ | exact hbad)
      | (unfold sm_la; split <;> first | exact hK _ _ _ _ | exact hbad)
      | (unfold sm_bin; split <;> first | exact hK _ _ _ _ | exact hbad)
      | (unfold sm_sti; split <;> first | exact hbad | exact hc _ _ _ _ _ (hK _ _ _ _) hbad)
      | (unfold sm_sta; split <;> first | exact hbad | exact hc _ _ _ _ _ (hK _ _ _ _) hbad)
      | exact hI _ _ _ _ _ _ _ _
      | (split <;> first | exact hbad | exact hK _ _ _ _ | exact hc _ _ _ _ _ (hK _ _ _ _) hbad | exact hneed _ _ _ (hK _ _ _ _) | exact hbr _ _ _ _ _ (hK _ _ _ _) (hK _ _ _ _) | exact sm_sw_par ρ hbr (fun t => hK _ _ _ _) _ _ _ | (split <;> first | exact hret _ _ | exact hneed _ _ _ (hret _ _) | exact hbad))
      | (unfold sm_getf; split <;> first | exact hbad | (split <;> first | exact hbad | (refine hc _ _ _ _ _ ?_ hbad; split <;> first | exact hbad | exact hK _ _ _ _ | exact hc _ _ _ _ _ (hK _ _ _ _) hbad)))
      | (unfold sm_putf; split <;> first | exact hbad | (split <;> first | exact hbad | (refine hc _ _ _ _ _ ?_ hbad; split <;> first | exact hbad | exact hN _ _ _ _ | exact hneed _ _ _ (hN _ _ _ _))))
      | (unfold sm_ald; split <;> first | exact hbad | (split <;> first | exact hc _ _ _ _ _ (hneed _ _ _ (hK _ _ _ _)) hbad | (split <;> first | exact hbad | exact hc _ _ _ _ _ (hneed _ _ _ (hK _ _ _ _)) hbad)))
      | (unfold sm_ast; split <;> first | exact hbad | (split <;> first | exact hbad | exact hc _ _ _ _ _ (hneed _ _ _ (hc _ _ _ _ _ (hN _ _ _ _) (hneed _ _ _ (hN _ _ _ _)))) hbad))
      | (unfold sm_len; split <;> first | exact hbad | (split <;> first | exact hK _ _ _ _ | exact hbad))
      | (refine hc _ _ _ _ _ ?_ ?_
         · unfold sm_cpy; split <;> first | exact hbad | (split <;> first | exact hbad | (split <;> first | exact hbad | exact hneed _ _ _ (hN _ _ _ _)))
         · refine hc _ _ _ _ _ ?_ (hc _ _ _ _ _ ?_ (hI _ _ _ _ _ _ _ _))
           · unfold sm_mm; split <;> first | exact hbad | exact hc _ _ _ _ _ (hK _ _ _ _) hbad
           · unfold sm_mm; split <;> first | exact hbad | exact hc _ _ _ _ _ (hK _ _ _ _) hbad)
end PAR
end
section
/-! ===== what it comes to (sm_run), that it comes to something good (sm_E, sm_C), and how that is shown (sm_wp) ===== -/
def sm_ent (M : sm_M) (as : List Value) : List Value := as ++ List.replicate (M.2.2.1 - as.length) .null
noncomputable def sm_if {α : Type} (c : Prop) (a b : α) : α := @ite α c (Classical.propDecidable c) a b
theorem sm_if_t {α : Type} {c : Prop} {a b : α} (h : c) : sm_if c a b = a := if_pos h
theorem sm_if_f {α : Type} {c : Prop} {a b : α} (h : ¬ c) : sm_if c a b = b := if_neg h
abbrev sm_X : Type := Option (Option Value × sm_S)
noncomputable def sm_cll (MS : List sm_M) (run : sm_M → Nat → List Value → List Value → sm_S → sm_X) (j : Nat) (as : List Value) (σ : sm_S) (k : Option Value → sm_S → sm_X) : sm_X := match MS[j]? with
  | none => none
  | some M' => match run M' 0 (sm_ent M' as) [] σ with
    | none => none
    | some (r, σ') => k r σ'
noncomputable def sm_run (TB : List (List Int32)) (MS : List sm_M) (SH : List sm_Sh) : Nat → sm_M → Nat → List Value → List Value → sm_S → sm_X
  | 0, _, _, _, _, _ => none
  | n + 1, M, pc, ls, st, σ => sm_g TB SH M none (fun c a => sm_if c a none) (fun σ k => k σ) (fun c a b => sm_if c a b)
      (sm_cll MS (sm_run TB MS SH n)) (fun r σ => some (r, σ)) (fun pc ls st σ => sm_run TB MS SH n M pc ls st σ) pc ls st σ
section RUN
variable {TB : List (List Int32)} {MS : List sm_M} {SH : List sm_Sh}
/-- more steps change nothing -/
theorem sm_run_up : ∀ (n : Nat) (M : sm_M) (pc : Nat) (ls st : List Value) (σ : sm_S) (x : Option Value × sm_S), sm_run TB MS SH n M pc ls st σ = some x → sm_run TB MS SH (n + 1) M pc ls st σ = some x
  | 0, _, _, _, _, _, _, h => by cases h
  | n + 1, M, pc, ls, st, σ, x, h => by
    have ih := sm_run_up n
    have key := sm_g_par (TB := TB) (SH := SH) (M := M) (ρ := fun (a b : sm_X) => ∀ x, a = some x → b = some x)
      (bad := none) (need := fun c a => sm_if c a none) (nam := fun σ k => k σ) (br := fun c a b => sm_if c a b) (call := sm_cll MS (sm_run TB MS SH n)) (ret := fun r σ => some (r, σ)) (K := fun pc ls st σ => sm_run TB MS SH n M pc ls st σ)
      (bad' := none) (need' := fun c a => sm_if c a none) (nam' := fun σ k => k σ) (br' := fun c a b => sm_if c a b) (call' := sm_cll MS (sm_run TB MS SH (n + 1))) (ret' := fun r σ => some (r, σ)) (K' := fun pc ls st σ => sm_run TB MS SH (n + 1) M pc ls st σ)
      (fun _ h => h) (fun c a b hab x h => by
        by_cases hc : c
        · rw [sm_if_t hc] at h ⊢; exact hab x h
        · rw [sm_if_f hc] at h; cases h)
      (fun σ k k' hk x h => hk σ x h)
      (fun c a a' b b' h1 h2 x h => by
        by_cases hc : c
        · rw [sm_if_t hc] at h ⊢; exact h1 x h
        · rw [sm_if_f hc] at h ⊢; exact h2 x h)
      (fun j as σ k k' hk x h => by
        unfold sm_cll at h ⊢
        split at h
        · cases h
        · next M' hM =>
          split at h
          · cases h
          · next r σ' hr =>
            simp only [ih _ _ _ _ _ _ hr]
            exact hk r σ' x h)
      (fun _ _ _ h => h) (fun _ _ _ _ _ h => ih _ _ _ _ _ _ h) pc ls st σ
    exact key x h
theorem sm_run_le {n n' : Nat} (hn : n ≤ n') {M : sm_M} {pc : Nat} {ls st : List Value} {σ : sm_S} {x : Option Value × sm_S} (h : sm_run TB MS SH n M pc ls st σ = some x) : sm_run TB MS SH n' M pc ls st σ = some x := by
  induction hn with
  | refl => exact h
  | step _ ih => exact sm_run_up _ _ _ _ _ _ _ ih
end RUN
/-- from here the method comes to an end, with Q -/
def sm_E (TB : List (List Int32)) (MS : List sm_M) (SH : List sm_Sh) (M : sm_M) (pc : Nat) (ls st : List Value) (σ : sm_S) (Q : Option Value → sm_S → Prop) : Prop :=
  ∃ n r σ', sm_run TB MS SH n M pc ls st σ = some (r, σ') ∧ Q r σ'
/-- the call of method j comes to an end, with Q -/
def sm_C (TB : List (List Int32)) (MS : List sm_M) (SH : List sm_Sh) (j : Nat) (as : List Value) (σ : sm_S) (Q : Option Value → sm_S → Prop) : Prop :=
  ∃ M, MS[j]? = some M ∧ sm_E TB MS SH M 0 (sm_ent M as) [] σ Q
section EC
variable {TB : List (List Int32)} {MS : List sm_M} {SH : List sm_Sh} {M : sm_M} {pc j : Nat} {ls st as : List Value} {σ : sm_S} {Q Q' : Option Value → sm_S → Prop}
theorem sm_E.mono (h : sm_E TB MS SH M pc ls st σ Q) (hq : ∀ r σ', Q r σ' → Q' r σ') : sm_E TB MS SH M pc ls st σ Q' := by
  obtain ⟨n, r, σ', h1, h2⟩ := h
  exact ⟨n, r, σ', h1, hq _ _ h2⟩
theorem sm_E.and (h : sm_E TB MS SH M pc ls st σ Q) (h' : sm_E TB MS SH M pc ls st σ Q') : sm_E TB MS SH M pc ls st σ (fun r σ' => Q r σ' ∧ Q' r σ') := by
  obtain ⟨n, r, σ', h1, h2⟩ := h
  obtain ⟨m, r2, σ2, h3, h4⟩ := h'
  have e1 := sm_run_le (Nat.le_add_right n m) h1
  have e2 := sm_run_le (Nat.le_add_left m n) h3
  rw [e1] at e2
  cases e2
  exact ⟨n, r, σ', h1, h2, h4⟩
theorem sm_C.mono (h : sm_C TB MS SH j as σ Q) (hq : ∀ r σ', Q r σ' → Q' r σ') : sm_C TB MS SH j as σ Q' := by
  obtain ⟨M, h1, h2⟩ := h
  exact ⟨M, h1, h2.mono hq⟩
theorem sm_C.and (h : sm_C TB MS SH j as σ Q) (h' : sm_C TB MS SH j as σ Q') : sm_C TB MS SH j as σ (fun r σ' => Q r σ' ∧ Q' r σ') := by
  obtain ⟨M, h1, h2⟩ := h
  obtain ⟨M', h3, h4⟩ := h'
  rw [h1] at h3
  cases h3
  exact ⟨M, h1, h2.and h4⟩
end EC
/-- it answers an int, with P; it answers nothing, with P -/
def sm_I (P : Int32 → sm_S → Prop) (r : Option Value) (σ : sm_S) : Prop := ∃ x, r = some (.int x) ∧ P x σ
def sm_V (P : sm_S → Prop) (r : Option Value) (σ : sm_S) : Prop := r = none ∧ P σ
theorem sm_C.int {TB : List (List Int32)} {MS : List sm_M} {SH : List sm_Sh} {j : Nat} {as : List Value} {σ : sm_S} {P R : Int32 → sm_S → Prop} (h : sm_C TB MS SH j as σ (sm_I P)) (k : ∀ x σ', P x σ' → R x σ') : sm_C TB MS SH j as σ (sm_ri False R) :=
  h.mono (by rintro r σ' ⟨x, rfl, hx⟩; exact k x σ' hx)
theorem sm_C.void {TB : List (List Int32)} {MS : List sm_M} {SH : List sm_Sh} {j : Nat} {as : List Value} {σ : sm_S} {P R : sm_S → Prop} (h : sm_C TB MS SH j as σ (sm_V P)) (k : ∀ σ', P σ' → R σ') : sm_C TB MS SH j as σ (sm_rv False R) :=
  h.mono (by rintro r σ' ⟨rfl, hx⟩; exact k σ' hx)
def sm_mem : List Nat → Nat → Bool
  | [], _ => false
  | a :: t, x => bif Nat.beq a x then true else sm_mem t x
/-- enough for sm_E: n instructions further, or up to the first place in cs, or to the end -/
def sm_wp (TB : List (List Int32)) (MS : List sm_M) (SH : List sm_Sh) (cs : List Nat) : Nat → sm_M → Nat → List Value → List Value → sm_S → (Option Value → sm_S → Prop) → Prop
  | 0, M, pc, ls, st, σ, Q => sm_E TB MS SH M pc ls st σ Q
  | n + 1, M, pc, ls, st, σ, Q => sm_g TB SH M False (fun c a => c ∧ a) (fun σ k => ∀ σ', σ' = σ → k σ') (fun c a b => (c → a) ∧ (¬ c → b))
      (fun j as σ k => sm_C TB MS SH j as σ k) (fun r σ => Q r σ)
      (fun pc ls st σ => bif sm_mem cs pc then sm_E TB MS SH M pc ls st σ Q else sm_wp TB MS SH cs n M pc ls st σ Q) pc ls st σ
section WP
variable {TB : List (List Int32)} {MS : List sm_M} {SH : List sm_Sh}
/-- A is enough for the runs B to come to Q -/
def sm_Rel (Q : Option Value → sm_S → Prop) (A : Prop) (B : Nat → sm_X) : Prop := A → ∃ n r σ', (∀ n', n ≤ n' → B n' = some (r, σ')) ∧ Q r σ'
theorem sm_wp_E (cs : List Nat) : ∀ (n : Nat) {M : sm_M} {pc : Nat} {ls st : List Value} {σ : sm_S} {Q : Option Value → sm_S → Prop}, sm_wp TB MS SH cs n M pc ls st σ Q → sm_E TB MS SH M pc ls st σ Q
  | 0, _, _, _, _, _, _, h => h
  | n + 1, M, pc, ls, st, σ, Q, h => by
    have ih := fun {pc : Nat} {ls st : List Value} {σ : sm_S} => sm_wp_E cs n (M := M) (pc := pc) (ls := ls) (st := st) (σ := σ) (Q := Q)
    have key := sm_g_par (TB := TB) (SH := SH) (M := M) (ρ := sm_Rel Q)
      (bad := False) (need := fun c a => c ∧ a) (nam := fun σ k => ∀ σ', σ' = σ → k σ') (br := fun c a b => (c → a) ∧ (¬ c → b)) (call := fun j as σ k => sm_C TB MS SH j as σ k) (ret := fun r σ => Q r σ) (K := fun pc ls st σ => bif sm_mem cs pc then sm_E TB MS SH M pc ls st σ Q else sm_wp TB MS SH cs n M pc ls st σ Q)
      (bad' := fun _ => none) (need' := fun c a n => sm_if c (a n) none) (nam' := fun σ k => k σ) (br' := fun c a b n => sm_if c (a n) (b n)) (call' := fun j as σ k n => sm_cll MS (sm_run TB MS SH n) j as σ (fun r σ' => k r σ' n)) (ret' := fun r σ _ => some (r, σ)) (K' := fun pc ls st σ n => sm_run TB MS SH n M pc ls st σ)
      (fun h => h.elim) (fun c a b hab h => by
        obtain ⟨hc, ha⟩ := h
        obtain ⟨n, r, σ', h1, h2⟩ := hab ha
        exact ⟨n, r, σ', fun n' hn => (sm_if_t hc).trans (h1 n' hn), h2⟩)
      (fun σ k k' hk h => hk σ (h σ rfl))
      (fun c a a' b b' h1 h2 h => by
        by_cases hc : c
        · obtain ⟨n, r, σ', g1, g2⟩ := h1 (h.1 hc)
          exact ⟨n, r, σ', fun n' hn => (sm_if_t hc).trans (g1 n' hn), g2⟩
        · obtain ⟨n, r, σ', g1, g2⟩ := h2 (h.2 hc)
          exact ⟨n, r, σ', fun n' hn => (sm_if_f hc).trans (g1 n' hn), g2⟩)
      (fun j as σ k k' hk h => by
        obtain ⟨M', hM, n1, r1, σ1, g1, g2⟩ := h
        obtain ⟨n2, r, σ', g3, g4⟩ := hk r1 σ1 g2
        refine ⟨n1 + n2, r, σ', fun n' hn => ?_, g4⟩
        unfold sm_cll
        simp only [hM, sm_run_le (show n1 ≤ n' by omega) g1]
        exact g3 n' (by omega))
      (fun r σ h => ⟨0, r, σ, fun _ _ => rfl, h⟩)
      (fun pc ls st σ h => by
        have hE : sm_E TB MS SH M pc ls st σ Q := by
          revert h
          cases sm_mem cs pc
          · exact fun h => ih h
          · exact fun h => h
        obtain ⟨n, r, σ', g1, g2⟩ := hE
        exact ⟨n, r, σ', fun n' hn => sm_run_le hn g1, g2⟩) pc ls st σ
    obtain ⟨n1, r, σ', h1, h2⟩ := key h
    have eq := sm_g_par (TB := TB) (SH := SH) (M := M) (ρ := fun (a : Nat → sm_X) (b : sm_X) => a n1 = b)
      (bad := fun _ => none) (need := fun c a n => sm_if c (a n) none) (nam := fun σ k => k σ) (br := fun c a b n => sm_if c (a n) (b n)) (call := fun j as σ k n => sm_cll MS (sm_run TB MS SH n) j as σ (fun r σ' => k r σ' n)) (ret := fun r σ _ => some (r, σ)) (K := fun pc ls st σ n => sm_run TB MS SH n M pc ls st σ)
      (bad' := none) (need' := fun c a => sm_if c a none) (nam' := fun σ k => k σ) (br' := fun c a b => sm_if c a b) (call' := sm_cll MS (sm_run TB MS SH n1)) (ret' := fun r σ => some (r, σ)) (K' := fun pc ls st σ => sm_run TB MS SH n1 M pc ls st σ)
      rfl (fun c a b h => by simp only [h]) (fun σ k k' h => h σ) (fun c a a' b b' h1 h2 => by simp only [h1, h2])
      (fun j as σ k k' h => by
        show sm_cll MS (sm_run TB MS SH n1) j as σ (fun r σ' => k r σ' n1) = _
        congr 1
        funext r σ'
        exact h r σ') (fun _ _ => rfl) (fun _ _ _ _ => rfl) pc ls st σ
    exact ⟨n1 + 1, r, σ', eq.symm.trans (h1 n1 (Nat.le_refl n1)), h2⟩
/-- a call, by its method's instructions -/
theorem sm_wp_C {j : Nat} {M : sm_M} (hj : MS[j]? = some M) (cs : List Nat) (n : Nat) {as : List Value} {σ : sm_S} {Q : Option Value → sm_S → Prop} (h : sm_wp TB MS SH cs n M 0 (sm_ent M as) [] σ Q) : sm_C TB MS SH j as σ Q := ⟨M, hj, sm_wp_E cs n h⟩
end WP
end
section
def RX0 : String := "SpansAway$Blocks"
def TX0 : u_T := fun k => match k with
  | 0 => ("SpansAway$Blocks", "first", "[I", true)
  | 1 => ("SpansAway$Blocks", "order", "[I", true)
  | 2 => ("SpansAway$Blocks", "kind", "[I", true)
  | 3 => ("SpansAway$Blocks", "owner", "[I", true)
  | 4 => ("SpansAway$Blocks", "pins", "[I", true)
  | 5 => ("SpansAway$Blocks", "target", "[I", true)
  | 6 => ("SpansAway$Blocks", "copied", "[I", true)
  | 7 => ("SpansAway$Blocks", "used", "[I", true)
  | _ => ("SpansAway$Blocks", "uses", "I", false)
def tyX0 : Nat → FieldType := fun k => match k with
  | 0 => .array .int
  | 1 => .array .int
  | 2 => .array .int
  | 3 => .array .int
  | 4 => .array .int
  | 5 => .array .int
  | 6 => .array .int
  | 7 => .array .int
  | _ => .int
abbrev wsX00 : List Cond := u_ws RX0 TX0 9
theorem nmX0 : ∀ a, a < 9 → ∀ b, b < 9 → a ≠ b → (TX0 a).2.1 ≠ (TX0 b).2.1 := by decide +kernel
theorem tyX0_ok : ∀ k, k < 9 → parseFieldDescriptor (TX0 k).2.2.1 = some (tyX0 k) := by decide +kernel
def RX1 : String := "SpansAway$Frames"
def TX1 : u_T := fun k => match k with
  | 0 => ("SpansAway$Frames", "free", "[I", true)
  | 1 => ("SpansAway$Frames", "apart", "[I", true)
  | 2 => ("SpansAway$Frames", "taken", "[I", true)
  | 3 => ("SpansAway$Frames", "held", "[I", true)
  | 4 => ("SpansAway$Frames", "blockOf", "[I", true)
  | _ => ("SpansAway$Frames", "value", "[I", true)
def tyX1 : Nat → FieldType := fun k => match k with
  | 0 => .array .int
  | 1 => .array .int
  | 2 => .array .int
  | 3 => .array .int
  | 4 => .array .int
  | _ => .array .int
abbrev wsX10 : List Cond := u_ws RX1 TX1 6
theorem nmX1 : ∀ a, a < 6 → ∀ b, b < 6 → a ≠ b → (TX1 a).2.1 ≠ (TX1 b).2.1 := by decide +kernel
theorem tyX1_ok : ∀ k, k < 6 → parseFieldDescriptor (TX1 k).2.2.1 = some (tyX1 k) := by decide +kernel
def RX2 : String := "SpansAway$Going"
def TX2 : u_T := fun k => match k with
  | 0 => ("SpansAway$Going", "memory", "LSpansAway$Memory;", true)
  | 1 => ("SpansAway$Going", "frames", "LSpansAway$Frames;", true)
  | 2 => ("SpansAway$Going", "blocks", "LSpansAway$Blocks;", true)
  | _ => ("SpansAway$Going", "spans", "LSpansAway$Spans;", true)
def tyX2 : Nat → FieldType := fun k => match k with
  | 0 => .object "SpansAway$Memory"
  | 1 => .object "SpansAway$Frames"
  | 2 => .object "SpansAway$Blocks"
  | _ => .object "SpansAway$Spans"
abbrev wsX20 : List Cond := u_ws RX2 TX2 4
theorem nmX2 : ∀ a, a < 4 → ∀ b, b < 4 → a ≠ b → (TX2 a).2.1 ≠ (TX2 b).2.1 := by decide +kernel
theorem tyX2_ok : ∀ k, k < 4 → parseFieldDescriptor (TX2 k).2.2.1 = some (tyX2 k) := by decide +kernel
def RX3 : String := "SpansAway$Log"
def TX3 : u_T := fun k => match k with
  | 0 => ("SpansAway$Log", "tick", "[I", true)
  | 1 => ("SpansAway$Log", "what", "[I", true)
  | 2 => ("SpansAway$Log", "one", "[I", true)
  | 3 => ("SpansAway$Log", "other", "[I", true)
  | 4 => ("SpansAway$Log", "lines", "I", false)
  | _ => ("SpansAway$Log", "next", "I", false)
def tyX3 : Nat → FieldType := fun k => match k with
  | 0 => .array .int
  | 1 => .array .int
  | 2 => .array .int
  | 3 => .array .int
  | 4 => .int
  | _ => .int
abbrev wsX30 : List Cond := u_ws RX3 TX3 6
theorem nmX3 : ∀ a, a < 6 → ∀ b, b < 6 → a ≠ b → (TX3 a).2.1 ≠ (TX3 b).2.1 := by decide +kernel
theorem tyX3_ok : ∀ k, k < 6 → parseFieldDescriptor (TX3 k).2.2.1 = some (tyX3 k) := by decide +kernel
def RX4 : String := "SpansAway$Memory"
def TX4 : u_T := fun k => match k with
  | 0 => ("SpansAway$Memory", "frames", "LSpansAway$Frames;", true)
  | 1 => ("SpansAway$Memory", "blocks", "LSpansAway$Blocks;", true)
  | 2 => ("SpansAway$Memory", "spans", "LSpansAway$Spans;", true)
  | 3 => ("SpansAway$Memory", "tasks", "LSpansAway$Tasks;", true)
  | 4 => ("SpansAway$Memory", "log", "LSpansAway$Log;", true)
  | 5 => ("SpansAway$Memory", "told", "[I", true)
  | 6 => ("SpansAway$Memory", "counts", "[I", true)
  | _ => ("SpansAway$Memory", "tick", "I", false)
def tyX4 : Nat → FieldType := fun k => match k with
  | 0 => .object "SpansAway$Frames"
  | 1 => .object "SpansAway$Blocks"
  | 2 => .object "SpansAway$Spans"
  | 3 => .object "SpansAway$Tasks"
  | 4 => .object "SpansAway$Log"
  | 5 => .array .int
  | 6 => .array .int
  | _ => .int
abbrev wsX40 : List Cond := u_ws RX4 TX4 8
theorem nmX4 : ∀ a, a < 8 → ∀ b, b < 8 → a ≠ b → (TX4 a).2.1 ≠ (TX4 b).2.1 := by decide +kernel
theorem tyX4_ok : ∀ k, k < 8 → parseFieldDescriptor (TX4 k).2.2.1 = some (tyX4 k) := by decide +kernel
def RX5 : String := "SpansAway$Rows"
def TX5 : u_T := fun k => match k with
  | _ => ("", "", "", false)
def tyX5 : Nat → FieldType := fun k => match k with
  | _ => .int
abbrev wsX50 : List Cond := u_ws RX5 TX5 0
theorem nmX5 : ∀ a, a < 0 → ∀ b, b < 0 → a ≠ b → (TX5 a).2.1 ≠ (TX5 b).2.1 := by decide +kernel
theorem tyX5_ok : ∀ k, k < 0 → parseFieldDescriptor (TX5 k).2.2.1 = some (tyX5 k) := by decide +kernel
def RX6 : String := "SpansAway$Spans"
def TX6 : u_T := fun k => match k with
  | 0 => ("SpansAway$Spans", "state", "[I", true)
  | 1 => ("SpansAway$Spans", "zone", "[I", true)
  | 2 => ("SpansAway$Spans", "shut", "[I", true)
  | 3 => ("SpansAway$Spans", "pass", "[I", true)
  | 4 => ("SpansAway$Spans", "pause", "[I", true)
  | 5 => ("SpansAway$Spans", "reached", "[I", true)
  | 6 => ("SpansAway$Spans", "leaving", "[I", true)
  | _ => ("SpansAway$Spans", "why", "[I", true)
def tyX6 : Nat → FieldType := fun k => match k with
  | 0 => .array .int
  | 1 => .array .int
  | 2 => .array .int
  | 3 => .array .int
  | 4 => .array .int
  | 5 => .array .int
  | 6 => .array .int
  | _ => .array .int
abbrev wsX60 : List Cond := u_ws RX6 TX6 8
theorem nmX6 : ∀ a, a < 8 → ∀ b, b < 8 → a ≠ b → (TX6 a).2.1 ≠ (TX6 b).2.1 := by decide +kernel
theorem tyX6_ok : ∀ k, k < 8 → parseFieldDescriptor (TX6 k).2.2.1 = some (tyX6 k) := by decide +kernel
def RX7 : String := "SpansAway$Tasks"
def TX7 : u_T := fun k => match k with
  | 0 => ("SpansAway$Tasks", "home", "[I", true)
  | 1 => ("SpansAway$Tasks", "waitsFor", "[I", true)
  | 2 => ("SpansAway$Tasks", "lastRead", "[I", true)
  | 3 => ("SpansAway$Tasks", "wish", "[I", true)
  | 4 => ("SpansAway$Tasks", "wishAt", "[I", true)
  | 5 => ("SpansAway$Tasks", "wishValue", "[I", true)
  | 6 => ("SpansAway$Tasks", "line", "[I", true)
  | _ => ("SpansAway$Tasks", "inLine", "I", false)
def tyX7 : Nat → FieldType := fun k => match k with
  | 0 => .array .int
  | 1 => .array .int
  | 2 => .array .int
  | 3 => .array .int
  | 4 => .array .int
  | 5 => .array .int
  | 6 => .array .int
  | _ => .int
abbrev wsX70 : List Cond := u_ws RX7 TX7 8
theorem nmX7 : ∀ a, a < 8 → ∀ b, b < 8 → a ≠ b → (TX7 a).2.1 ≠ (TX7 b).2.1 := by decide +kernel
theorem tyX7_ok : ∀ k, k < 8 → parseFieldDescriptor (TX7 k).2.2.1 = some (tyX7 k) := by decide +kernel
def RX8 : String := "SpansAway$Thought"
def TX8 : u_T := fun k => match k with
  | 0 => ("SpansAway$Thought", "going", "LSpansAway$Going;", true)
  | 1 => ("SpansAway$Thought", "trial", "LSpansAway$Memory;", true)
  | 2 => ("SpansAway$Thought", "then", "LSpansAway$Memory;", true)
  | 3 => ("SpansAway$Thought", "ticks", "I", false)
  | _ => ("SpansAway$Thought", "fewest", "I", false)
def tyX8 : Nat → FieldType := fun k => match k with
  | 0 => .object "SpansAway$Going"
  | 1 => .object "SpansAway$Memory"
  | 2 => .object "SpansAway$Memory"
  | 3 => .int
  | _ => .int
abbrev wsX80 : List Cond := u_ws RX8 TX8 5
theorem nmX8 : ∀ a, a < 5 → ∀ b, b < 5 → a ≠ b → (TX8 a).2.1 ≠ (TX8 b).2.1 := by decide +kernel
theorem tyX8_ok : ∀ k, k < 5 → parseFieldDescriptor (TX8 k).2.2.1 = some (tyX8 k) := by decide +kernel
def RX9 : String := "SpansAway"
def TX9 : u_T := fun k => match k with
  | 0 => ("SpansAway", "going", "LSpansAway$Going;", true)
  | 1 => ("SpansAway", "now", "LSpansAway$Memory;", true)
  | 2 => ("SpansAway", "kept", "LSpansAway$Memory;", true)
  | 3 => ("SpansAway", "thought", "LSpansAway$Thought;", true)
  | _ => ("SpansAway", "isKept", "Z", false)
def tyX9 : Nat → FieldType := fun k => match k with
  | 0 => .object "SpansAway$Going"
  | 1 => .object "SpansAway$Memory"
  | 2 => .object "SpansAway$Memory"
  | 3 => .object "SpansAway$Thought"
  | _ => .boolean
abbrev wsX90 : List Cond := u_ws RX9 TX9 5
theorem nmX9 : ∀ a, a < 5 → ∀ b, b < 5 → a ≠ b → (TX9 a).2.1 ≠ (TX9 b).2.1 := by decide +kernel
theorem tyX9_ok : ∀ k, k < 5 → parseFieldDescriptor (TX9 k).2.2.1 = some (tyX9 k) := by decide +kernel
def RX10 : String := "SpansAwayModel"
def TX10 : u_T := fun k => match k with
  | 0 => ("SpansAwayModel", "told", "I", false)
  | 1 => ("SpansAwayModel", "now", "[I", true)
  | 2 => ("SpansAwayModel", "waiting", "[I", true)
  | 3 => ("SpansAwayModel", "deeper", "[I", true)
  | 4 => ("SpansAwayModel", "isDone", "[Z", true)
  | 5 => ("SpansAwayModel", "easiestTicks", "I", false)
  | 6 => ("SpansAwayModel", "hasImage", "Z", false)
  | _ => ("SpansAwayModel", "images", "[I", true)
def tyX10 : Nat → FieldType := fun k => match k with
  | 0 => .int
  | 1 => .array .int
  | 2 => .array .int
  | 3 => .array .int
  | 4 => .array .boolean
  | 5 => .int
  | 6 => .boolean
  | _ => .array .int
abbrev wsX100 : List Cond := u_ws RX10 TX10 8
theorem nmX10 : ∀ a, a < 8 → ∀ b, b < 8 → a ≠ b → (TX10 a).2.1 ≠ (TX10 b).2.1 := by decide +kernel
theorem tyX10_ok : ∀ k, k < 8 → parseFieldDescriptor (TX10 k).2.2.1 = some (tyX10 k) := by decide +kernel
abbrev vwCl : List vw_C := [(RX0, TX0, 9), (RX1, TX1, 6), (RX2, TX2, 4), (RX3, TX3, 6), (RX4, TX4, 8), (RX6, TX6, 8), (RX7, TX7, 8), (RX8, TX8, 5), (RX9, TX9, 5), (RX10, TX10, 8)]
end
