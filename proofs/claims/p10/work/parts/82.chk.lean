/-! ===== what a table's rows must say, decided by the kernel, method by method ===== -/
def sm_in3 : List (Nat × Nat × Nat) → Nat → Nat → Nat → Bool
  | [], _, _, _ => false
  | (a, b, c) :: t, x, y, z => (Nat.beq a x && (Nat.beq b y && Nat.beq c z)) || sm_in3 t x y z
theorem sm_in3_mem : ∀ {l : List (Nat × Nat × Nat)} {x y z : Nat}, sm_in3 l x y z = true → (x, y, z) ∈ l
  | [], _, _, _, h => by cases h
  | (a, b, c) :: t, x, y, z, h => by
    rcases Bool.or_eq_true _ _ ▸ h with h | h
    · simp only [Bool.and_eq_true] at h
      obtain ⟨h1, h2, h3⟩ := h
      rw [Nat.eq_of_beq_eq_true h1, Nat.eq_of_beq_eq_true h2, Nat.eq_of_beq_eq_true h3]
      exact List.mem_cons_self
    · exact List.mem_cons_of_mem _ (sm_in3_mem h)
def sm_in1 : List Nat → Nat → Bool
  | [], _ => false
  | a :: t, x => Nat.beq a x || sm_in1 t x
theorem sm_in1_mem : ∀ {l : List Nat} {x : Nat}, sm_in1 l x = true → x ∈ l
  | [], _, h => by cases h
  | a :: t, x, h => by
    rcases Bool.or_eq_true _ _ ▸ h with h | h
    · rw [Nat.eq_of_beq_eq_true h]
      exact List.mem_cons_self
    · exact List.mem_cons_of_mem _ (sm_in1_mem h)
def sm_ln (i : Instr) (n : Nat) : Nat := match i with
  | .iload _ | .istore _ | .aload _ | .astore _ | .bipush _ => 2
  | .sipush _ | .ldc_w _ | .iinc _ _ | .ifCond _ _ | .if_icmp _ _ | .goto _ | .getfield _ | .putfield _ | .getstatic _ | .invokevirtual _ | .invokestatic _ => 3
  | .tableswitch _ _ _ _ => n
  | _ => 1
/-- the callee's room fits -/
def sm_rmB (M : sm_M) (j : Nat) (n : Nat) : Bool := match sm_MS[j]? with
  | some M' => Nat.ble (M'.2.2.2.2.1.1 + 1) M.2.2.2.2.1.1 && (Nat.ble (8 + (M'.2.2.1 + 11) + M'.2.2.2.2.1.2.1) M.2.2.2.2.1.2.1 && Nat.beq M'.2.2.2.2.1.2.2.2 n)
  | none => false
def sm_rok (M : sm_M) (pc : Nat) (R : sm_R) : Bool := decide (decode M.2.1 pc = .ok (R.1, sm_ln R.1 R.2.2.2.1)) && (match R.1 with
  | .iconst k => decide (Int32.ofInt k = R.2.1)
  | .bipush k => decide ((Int8.ofInt k).toInt32 = R.2.1)
  | .sipush k => decide ((Int16.ofInt k).toInt32 = R.2.1)
  | .ldc_w i => decide ((M.2.2.2.2.1.2.2.1, i, R.2.1) ∈ sm_kc)
  | .iinc _ k => decide (Int32.ofInt k = R.2.1)
  | .ifCond _ off => decide ((pc : Int) + off = (R.2.2.1 : Int))
  | .if_icmp _ off => decide ((pc : Int) + off = (R.2.2.1 : Int))
  | .goto off => decide ((pc : Int) + off = (R.2.2.1 : Int))
  | .tableswitch d lo hi offs => decide ((pc : Int) + d = (R.2.2.1 : Int)) && (decide (hi = lo + offs.size - 1) && decide (R.2.2.2.2.map (fun q => (q.1.toInt, (q.2 : Int))) = offs.toList.zipIdx.map (fun q => (lo + (q.2 : Int), (pc : Int) + q.1))))
  | .getfield i => sm_in3 sm_fl M.2.2.2.2.1.2.2.1 i R.2.2.1 && Nat.blt (R.2.2.1 % 100) (sm_cT R.2.2.1).2.2
  | .putfield i => sm_in3 sm_fl M.2.2.2.2.1.2.2.1 i R.2.2.1 && (Nat.blt (R.2.2.1 % 100) (sm_cT R.2.2.1).2.2 && decide ((sm_fT R.2.2.1).2.2.2 = false))
  | .getstatic i => sm_in3 sm_gl M.2.2.2.2.1.2.2.1 i R.2.2.1
  | .invokevirtual i => sm_in3 sm_vl M.2.2.2.2.1.2.2.1 i R.2.2.1 && (sm_in1 sm_vm R.2.2.1 && sm_rmB M R.2.2.1 R.2.2.2.1)
  | .invokestatic i => bif Nat.beq R.2.2.1 9999 then sm_in3 sm_ac M.2.2.2.2.1.2.2.1 i 0 && (Nat.ble 1 M.2.2.2.2.1.1 && Nat.ble 26 M.2.2.2.2.1.2.1) else bif Nat.beq R.2.2.1 9998 then sm_in3 sm_mnl M.2.2.2.2.1.2.2.1 i 0 && (Nat.ble 1 M.2.2.2.2.1.1 && Nat.ble 26 M.2.2.2.2.1.2.1) else bif Nat.beq R.2.2.1 9997 then sm_in3 sm_mxl M.2.2.2.2.1.2.2.1 i 0 && (Nat.ble 1 M.2.2.2.2.1.1 && Nat.ble 26 M.2.2.2.2.1.2.1) else sm_in3 sm_sl M.2.2.2.2.1.2.2.1 i R.2.2.1 && (sm_in1 sm_st R.2.2.1 && sm_rmB M R.2.2.1 R.2.2.2.1)
  | _ => true)
/-- of a method as a whole: its own class by number and by name -/
def sm_mok (M : sm_M) : Bool := decide (M.1.cls = sm_own M.2.2.2.2.1.2.2.1) && (decide (M.1.cls ≠ "java/lang/invoke/MethodHandle") && (decide (M.1.cls ≠ "java/lang/invoke/VarHandle") && (plainName M.1.cls && Nat.ble (M.2.2.2.2.1.2.2.2 % 100) M.2.2.1)))
def sm_vok (j : Nat) : Bool := match sm_MS[j]? with
  | some M => decide (M.1.cls = (sm_cT M.2.2.2.2.1.2.2.2).1) && (Nat.blt (M.2.2.2.2.1.2.2.2 / 100) vwCl.length && decide ((parseMethodDescriptor M.1.desc).map (fun d => d.parameters.length + 1) = some (M.2.2.2.2.1.2.2.2 % 100)))
  | none => false
def sm_sok (j : Nat) : Bool := match sm_MS[j]? with
  | some M => Nat.blt M.2.2.2.2.1.2.2.2 100 && decide ((parseMethodDescriptor M.1.desc).map (fun d => d.parameters.length) = some M.2.2.2.2.1.2.2.2)
  | none => false
set_option maxRecDepth 100000 in
theorem sm_vm_ok : sm_vm.all sm_vok = true := by decide +kernel
set_option maxRecDepth 100000 in
theorem sm_st_ok2 : sm_st.all sm_sok = true := by decide +kernel
def sm_chk (M : sm_M) : Bool := sm_mok M && M.2.2.2.2.2.all (fun r => sm_rok M r.1 r.2)
