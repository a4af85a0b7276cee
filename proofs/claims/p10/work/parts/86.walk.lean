/-! ===== the walk ===== -/
set_option maxHeartbeats 16000000 in
set_option maxRecDepth 100000 in
theorem sm_snd {l : Launch} {SH : List sm_Sh} {ad : Nat → Nat} {cA : Nat → ClassId} {D : va_G} (hSH : ∀ s ∈ SH, sm_shB s = true) (hinj : ∀ i j, i < SH.length → j < SH.length → ad i = ad j → i = j) :
    ∀ (n : Nat) (M : sm_M), M ∈ sm_MS → ∀ (pc : Nat) (ls st : List Value) (σ : sm_S) (r : Option Value) (σ' : sm_S), sm_run sm_TB sm_MS SH n M pc ls st σ = some (r, σ') → ls.length = M.2.2.1 →
    ∀ p e s m args below meth c, sm_Cx SH ad cA D M p s m args meth c → sm_G l SH ad cA D M r σ' p e s m args below meth c pc ls st σ
  | 0, M, hM, pc, ls, st, σ, r, σ', h, hlen, p, e, s, m, args, below, meth, c, C => by cases h
  | n + 1, M, hM, pc, ls, st, σ, r, σ', h, hlen, p, e, s, m, args, below, meth, c, C => by
    have ih := sm_snd (l := l) (ad := ad) (cA := cA) (D := D) hSH hinj n
    obtain ⟨hx, hb, hr, hlk, hml, hown, hts, hK, hZ⟩ := id C
    intro H locs L hP hS hl
    have hD : va_D (sm_A SH ad) (sm_W SH ad cA σ) := sm_D hinj
    have go : ∀ (pc : Nat) (ls st : List Value) (σ : sm_S), sm_run sm_TB sm_MS SH n M pc ls st σ = some (r, σ') → ls.length = M.2.2.1 → sm_G l SH ad cA D M r σ' p e s m args below meth c pc ls st σ := fun pc ls st σ h hlen => ih M hM pc ls st σ r σ' h hlen p e s m args below meth c C
    have hce := sm_ck_ok M hM
    simp only [sm_chk, sm_mok, Bool.and_eq_true, decide_eq_true_eq] at hce
    have hcn : M.1.cls = sm_own M.2.2.2.2.1.2.2.1 := hce.1.1
    simp only [sm_run] at h
    unfold sm_g at h
    split at h
    · cases h
    next ins aux tgt nn sw hf =>
    have hok := sm_row hM hf
    simp only [sm_rok, Bool.and_eq_true, decide_eq_true_eq] at hok
    obtain ⟨hd, hok⟩ := hok
    cases ins with
    | iconst k => exact lv_iconst hx hb hd (of_decide_eq_true hok) (go _ _ (.int aux :: st) _ h hlen H locs L hP hS hl)
    | bipush k => exact lv_bipush hx hb hd (of_decide_eq_true hok) (go _ _ (.int aux :: st) _ h hlen H locs L hP hS hl)
    | sipush k => exact lv_sipush hx hb hd (of_decide_eq_true hok) (go _ _ (.int aux :: st) _ h hlen H locs L hP hS hl)
    | ldc_w i =>
      dsimp only at h
      have hw := hts _ (sm_ws_of (sm_kc_ok _ (of_decide_eq_true hok)) rfl)
      rw [← hcn] at hw
      exact lv_ldcw hx hb hown hw hd (go _ _ (.int aux :: st) _ h hlen H locs L hP hS hl)
    | iload i =>
      dsimp only at h
      unfold sm_ld at h
      split at h
      · next x hi => exact lv_iload hx hb hd (sm_lv_at hl hi (Or.inl ⟨_, rfl⟩)) (go _ _ (.int _ :: _) _ h hlen H locs L hP hS hl)
      · cases h
    | iload_n i =>
      dsimp only at h
      unfold sm_ld at h
      split at h
      · next x hi => exact lv_iload_n hx hb hd rfl (sm_lv_at hl hi (Or.inl ⟨_, rfl⟩)) (go _ _ (.int _ :: _) _ h hlen H locs L hP hS hl)
      · cases h
    | aload i =>
      dsimp only at h
      unfold sm_la at h
      split at h
      · next x hi => exact lv_aload hx hb hd (sm_lv_at hl hi (Or.inr ⟨_, rfl⟩)) (go _ _ (.ref _ :: _) _ h hlen H locs L hP hS hl)
      · cases h
    | aload_n i =>
      dsimp only at h
      unfold sm_la at h
      split at h
      · next x hi => exact lv_aload_n hx hb hd rfl (sm_lv_at hl hi (Or.inr ⟨_, rfl⟩)) (go _ _ (.ref _ :: _) _ h hlen H locs L hP hS hl)
      · cases h
    | istore i =>
      dsimp only at h
      unfold sm_sti at h
      split at h
      · next x r0 =>
        cases hq : Nat.blt i ls.length with
        | false => rw [hq] at h; cases h
        | true =>
          rw [hq] at h
          have hi : i < M.2.2.1 := by rw [← hlen]; exact Nat.le_of_ble_eq_true hq
          exact lv_istore (lv' := _) hx hb hd hl hi rfl (fun L' hl' => go _ (ls.set i (.int x)) _ _ h (by rw [List.length_set]; exact hlen) H locs L' hP hS (sm_lv_set (Or.inl ⟨_, rfl⟩) hl'))
      · cases h
    | istore_n i =>
      dsimp only at h
      unfold sm_sti at h
      split at h
      · next x r0 =>
        cases hq : Nat.blt i.val ls.length with
        | false => rw [hq] at h; cases h
        | true =>
          rw [hq] at h
          have hi : i.val < M.2.2.1 := by rw [← hlen]; exact Nat.le_of_ble_eq_true hq
          exact lv_istore_n (lv' := _) hx hb hd rfl hl hi rfl (fun L' hl' => go _ (ls.set i.val (.int x)) _ _ h (by rw [List.length_set]; exact hlen) H locs L' hP hS (sm_lv_set (Or.inl ⟨_, rfl⟩) hl'))
      · cases h
    | astore i =>
      dsimp only at h
      unfold sm_sta at h
      split at h
      · next x r0 =>
        cases hq : Nat.blt i ls.length with
        | false => rw [hq] at h; cases h
        | true =>
          rw [hq] at h
          have hi : i < M.2.2.1 := by rw [← hlen]; exact Nat.le_of_ble_eq_true hq
          exact lv_astore (lv' := _) hx hb hd hl hi rfl (fun L' hl' => go _ (ls.set i (.ref x)) _ _ h (by rw [List.length_set]; exact hlen) H locs L' hP hS (sm_lv_set (Or.inr ⟨_, rfl⟩) hl'))
      · cases h
    | astore_n i =>
      dsimp only at h
      unfold sm_sta at h
      split at h
      · next x r0 =>
        cases hq : Nat.blt i.val ls.length with
        | false => rw [hq] at h; cases h
        | true =>
          rw [hq] at h
          have hi : i.val < M.2.2.1 := by rw [← hlen]; exact Nat.le_of_ble_eq_true hq
          exact lv_astore_n (lv' := _) hx hb hd rfl hl hi rfl (fun L' hl' => go _ (ls.set i.val (.ref x)) _ _ h (by rw [List.length_set]; exact hlen) H locs L' hP hS (sm_lv_set (Or.inr ⟨_, rfl⟩) hl'))
      · cases h
    | iinc i k =>
      dsimp only at h
      split at h
      · next x hi =>
        cases hq : Nat.blt i ls.length with
        | false => rw [hq] at h; cases h
        | true =>
          rw [hq] at h
          have hi2 : i < M.2.2.1 := by rw [← hlen]; exact Nat.le_of_ble_eq_true hq
          obtain ⟨k2, hk2⟩ := List.getElem?_of_mem (sm_lv_mem.mpr ⟨_, hi, Or.inl ⟨_, rfl⟩, rfl⟩ : (i, sm_cv ad (.int x)) ∈ sm_lv ad ls)
          exact lv_iinc (lv' := _) hx hb hd hl hk2 (by rw [of_decide_eq_true hok]) hi2 rfl (fun L' hl' => go _ (ls.set i (.int (x + aux))) _ _ h (by rw [List.length_set]; exact hlen) H locs L' hP hS (sm_lv_set (Or.inl ⟨_, rfl⟩) hl'))
      · cases h
    | iadd =>
      dsimp only at h
      unfold sm_bin at h
      split at h
      · exact lv_iadd hx hb hd (go _ _ (.int _ :: _) _ h hlen H locs L hP hS hl)
      · cases h
    | isub =>
      dsimp only at h
      unfold sm_bin at h
      split at h
      · exact lv_isub hx hb hd (go _ _ (.int _ :: _) _ h hlen H locs L hP hS hl)
      · cases h
    | imul =>
      dsimp only at h
      unfold sm_bin at h
      split at h
      · exact lv_imul hx hb hd (go _ _ (.int _ :: _) _ h hlen H locs L hP hS hl)
      · cases h
    | iand =>
      dsimp only at h
      unfold sm_bin at h
      split at h
      · exact lv_iand hx hb hd (go _ _ (.int _ :: _) _ h hlen H locs L hP hS hl)
      · cases h
    | ior =>
      dsimp only at h
      unfold sm_bin at h
      split at h
      · exact lv_ior hx hb hd (go _ _ (.int _ :: _) _ h hlen H locs L hP hS hl)
      · cases h
    | ixor =>
      dsimp only at h
      unfold sm_bin at h
      split at h
      · exact lv_ixor hx hb hd (go _ _ (.int _ :: _) _ h hlen H locs L hP hS hl)
      · cases h
    | ishl =>
      dsimp only at h
      unfold sm_bin at h
      split at h
      · exact lv_ishl hx hb hd (go _ _ (.int _ :: _) _ h hlen H locs L hP hS hl)
      · cases h
    | ishr =>
      dsimp only at h
      unfold sm_bin at h
      split at h
      · exact lv_ishr hx hb hd (go _ _ (.int _ :: _) _ h hlen H locs L hP hS hl)
      · cases h
    | iushr =>
      dsimp only at h
      unfold sm_bin at h
      split at h
      · exact lv_iushr hx hb hd rfl (go _ _ (.int _ :: _) _ h hlen H locs L hP hS hl)
      · cases h
    | idiv =>
      dsimp only at h
      split at h
      · next y x r0 =>
        by_cases hy : ¬ y = 0
        · rw [sm_if_t hy] at h
          exact lv_idiv hx hb hd hy (go _ _ (.int _ :: _) _ h hlen H locs L hP hS hl)
        · rw [sm_if_f hy] at h; cases h
      · cases h
    | irem =>
      dsimp only at h
      split at h
      · next y x r0 =>
        by_cases hy : ¬ y = 0
        · rw [sm_if_t hy] at h
          exact lv_irem hx hb hd hy (go _ _ (.int _ :: _) _ h hlen H locs L hP hS hl)
        · rw [sm_if_f hy] at h; cases h
      · cases h
    | ineg =>
      dsimp only at h
      split at h
      · exact lv_ineg hx hb hd (go _ _ (.int _ :: _) _ h hlen H locs L hP hS hl)
      · cases h
    | dup =>
      dsimp only at h
      split at h
      · exact lv_dup hx hb hd rfl (go _ _ (.int _ :: .int _ :: _) _ h hlen H locs L hP hS hl)
      · exact lv_dup hx hb hd rfl (go _ _ (.ref _ :: .ref _ :: _) _ h hlen H locs L hP hS hl)
      · cases h
    | dup2 =>
      dsimp only at h
      split at h
      · exact lv_dup2_11 hx hb hd rfl rfl (go _ _ (.int _ :: .ref _ :: .int _ :: .ref _ :: _) _ h hlen H locs L hP hS hl)
      · cases h
    | pop =>
      dsimp only at h
      split at h
      · exact lv_pop hx hb hd rfl (go _ _ _ _ h hlen H locs L hP hS hl)
      · cases h
    | ifCond cc off =>
      dsimp only at h
      split at h
      · next x r0 =>
        cases cc
        · exact lv_if_eq hx hb hd (of_decide_eq_true hok) (fun hc => go _ _ _ _ ((sm_if_t (c := sm_cnd .eq x 0) hc).symm.trans h) hlen H locs L hP hS hl) (fun hc => go _ _ _ _ ((sm_if_f (c := sm_cnd .eq x 0) hc).symm.trans h) hlen H locs L hP hS hl)
        · exact lv_if_ne hx hb hd (of_decide_eq_true hok) (fun hc => go _ _ _ _ ((sm_if_t (c := sm_cnd .ne x 0) hc).symm.trans h) hlen H locs L hP hS hl) (fun hc => go _ _ _ _ ((sm_if_f (c := sm_cnd .ne x 0) (fun z => z hc)).symm.trans h) hlen H locs L hP hS hl)
        · exact lv_if_lt hx hb hd (of_decide_eq_true hok) (fun hc => go _ _ _ _ ((sm_if_t (c := sm_cnd .lt x 0) hc).symm.trans h) hlen H locs L hP hS hl) (fun hc => go _ _ _ _ ((sm_if_f (c := sm_cnd .lt x 0) hc).symm.trans h) hlen H locs L hP hS hl)
        · exact lv_if_ge hx hb hd (of_decide_eq_true hok) (fun hc => go _ _ _ _ ((sm_if_t (c := sm_cnd .ge x 0) hc).symm.trans h) hlen H locs L hP hS hl) (fun hc => go _ _ _ _ ((sm_if_f (c := sm_cnd .ge x 0) hc).symm.trans h) hlen H locs L hP hS hl)
        · exact lv_if_gt hx hb hd (of_decide_eq_true hok) (fun hc => go _ _ _ _ ((sm_if_t (c := sm_cnd .gt x 0) hc).symm.trans h) hlen H locs L hP hS hl) (fun hc => go _ _ _ _ ((sm_if_f (c := sm_cnd .gt x 0) hc).symm.trans h) hlen H locs L hP hS hl)
        · exact lv_if_le hx hb hd (of_decide_eq_true hok) (fun hc => go _ _ _ _ ((sm_if_t (c := sm_cnd .le x 0) hc).symm.trans h) hlen H locs L hP hS hl) (fun hc => go _ _ _ _ ((sm_if_f (c := sm_cnd .le x 0) hc).symm.trans h) hlen H locs L hP hS hl)
      · cases h
    | if_icmp cc off =>
      dsimp only at h
      split at h
      · next y x r0 =>
        cases cc
        · exact lv_icmp_eq hx hb hd (of_decide_eq_true hok) (fun hc => go _ _ _ _ ((sm_if_t (c := sm_cnd .eq x y) hc).symm.trans h) hlen H locs L hP hS hl) (fun hc => go _ _ _ _ ((sm_if_f (c := sm_cnd .eq x y) hc).symm.trans h) hlen H locs L hP hS hl)
        · exact lv_icmp_ne hx hb hd (of_decide_eq_true hok) (fun hc => go _ _ _ _ ((sm_if_t (c := sm_cnd .ne x y) hc).symm.trans h) hlen H locs L hP hS hl) (fun hc => go _ _ _ _ ((sm_if_f (c := sm_cnd .ne x y) (fun z => z hc)).symm.trans h) hlen H locs L hP hS hl)
        · exact lv_icmp_lt hx hb hd (of_decide_eq_true hok) (fun hc => go _ _ _ _ ((sm_if_t (c := sm_cnd .lt x y) hc).symm.trans h) hlen H locs L hP hS hl) (fun hc => go _ _ _ _ ((sm_if_f (c := sm_cnd .lt x y) hc).symm.trans h) hlen H locs L hP hS hl)
        · exact lv_icmp_ge hx hb hd (of_decide_eq_true hok) (fun hc => go _ _ _ _ ((sm_if_t (c := sm_cnd .ge x y) hc).symm.trans h) hlen H locs L hP hS hl) (fun hc => go _ _ _ _ ((sm_if_f (c := sm_cnd .ge x y) hc).symm.trans h) hlen H locs L hP hS hl)
        · exact lv_icmp_gt hx hb hd (of_decide_eq_true hok) (fun hc => go _ _ _ _ ((sm_if_t (c := sm_cnd .gt x y) hc).symm.trans h) hlen H locs L hP hS hl) (fun hc => go _ _ _ _ ((sm_if_f (c := sm_cnd .gt x y) hc).symm.trans h) hlen H locs L hP hS hl)
        · exact lv_icmp_le hx hb hd (of_decide_eq_true hok) (fun hc => go _ _ _ _ ((sm_if_t (c := sm_cnd .le x y) hc).symm.trans h) hlen H locs L hP hS hl) (fun hc => go _ _ _ _ ((sm_if_f (c := sm_cnd .le x y) hc).symm.trans h) hlen H locs L hP hS hl)
      · cases h
    | goto off => exact lv_goto hx hb hd (of_decide_eq_true hok) (go _ _ _ _ h hlen H locs L hP hS hl)
    | tableswitch df lo hi offs =>
      dsimp only at h
      split at h
      · next x r0 =>
        simp only [Bool.and_eq_true, decide_eq_true_eq] at hok
        obtain ⟨o1, o2, o3⟩ := hok
        have hlen2 : sw.length = offs.size := by
          have := congrArg List.length o3
          simpa using this
        have hat : ∀ (i : Nat) (q : Int32 × Nat), sw[i]? = some q → ∃ o, offs[i]? = some o ∧ q.1.toInt = lo + (i : Int) ∧ (pc : Int) + o = (q.2 : Int) := by
          intro i q hq
          have h1 : (sw.map (fun q => (q.1.toInt, (q.2 : Int))))[i]? = some (q.1.toInt, (q.2 : Int)) := by rw [List.getElem?_map, hq]; rfl
          rw [o3, List.getElem?_map] at h1
          cases hz : offs.toList.zipIdx[i]? with
          | none => rw [hz] at h1; cases h1
          | some z =>
            rw [hz] at h1
            rw [List.getElem?_zipIdx] at hz
            cases hw : offs.toList[i]? with
            | none => rw [hw] at hz; cases hz
            | some o =>
              rw [hw] at hz
              simp only [Option.map_some, Option.some.injEq] at hz
              rw [← hz] at h1
              simp only [Option.map_some, Option.some.injEq, Prod.mk.injEq, Nat.zero_add] at h1
              exact ⟨o, by rw [← Array.getElem?_toList]; exact hw, h1.1.symm, h1.2⟩
        rcases sm_sw_run sw h with ⟨t, h1, h2⟩ | ⟨h1, h2⟩
        · obtain ⟨i, hi⟩ := List.getElem?_of_mem h1
          obtain ⟨o, q1, q2, q3⟩ := hat i _ hi
          have hil : i < sw.length := (List.getElem?_eq_some_iff.mp hi).1
          exact lv_tableIn hx hb hd (by simp only at q2; omega) (by simp only at q2; omega) (off := o) (by simp only at q2; rw [show (x.toInt - lo).toNat = i by omega]; exact q1) q3 (go _ _ _ _ h2 hlen H locs L hP hS hl)
        · refine lv_tableOut hx hb hd ?_ o1 (go _ _ _ _ h2 hlen H locs L hP hS hl)
          rcases (show x.toInt < lo ∨ lo ≤ x.toInt by omega) with q | q
          · exact Or.inl q
          · rcases (show hi < x.toInt ∨ x.toInt ≤ hi by omega) with q2 | q2
            · exact Or.inr q2
            · exfalso
              have hil : (x.toInt - lo).toNat < sw.length := by omega
              obtain ⟨o, -, e2, -⟩ := hat _ _ (List.getElem?_eq_getElem hil)
              exact h1 _ (List.getElem_mem hil) (Int32.toInt_inj.mp (by rw [e2]; omega))
      · cases h
    | getfield i =>
      dsimp only at h
      unfold sm_getf at h
      split at h
      · next a r0 =>
        split at h
        · next ci fl ha =>
          cases hq : Nat.beq ci (tgt / 100) with
          | false => rw [hq] at h; cases h
          | true =>
            rw [hq] at h
            have hq := Nat.eq_of_beq_eq_true hq
            subst hq
            simp only [Bool.and_eq_true] at hok
            obtain ⟨hc, hk⟩ := sm_cT_at hok.2
            have hw := hts _ (sm_ws_of (sm_fl_ok _ (sm_in3_mem hok.1)) rfl)
            simp only [← hcn] at hw
            have he := sm_W_at (ad := ad) (cA := cA) (σ := σ) ha
            split at h
            · next t0 ht =>
              cases hq : Nat.ble t0 1 with
              | false => rw [hq] at h; cases h
              | true =>
                rw [hq] at h
                exact va_get hx hb hts (sm_la_ws hc) hown hK hP a he hc (tgt % 100) hk hw (fun _ z => z) (v := .int (σ a (tgt % 100))) (by rw [List.getElem?_mapIdx, ht]; rfl) hd (go _ _ (.int _ :: _) _ h hlen H locs L hP hS hl)
            · next k ht => exact va_get hx hb hts (sm_la_ws hc) hown hK hP a he hc (tgt % 100) hk hw (fun _ z => z) (v := .ref (ad k)) (by rw [List.getElem?_mapIdx, ht]; rfl) hd (go _ _ (.ref _ :: _) _ h hlen H locs L hP hS hl)
            · cases h
        · cases h
      · cases h
    | putfield i =>
      dsimp only at h
      unfold sm_putf at h
      split at h
      · next x a r0 =>
        split at h
        · next ci fl ha =>
          cases hq : Nat.beq ci (tgt / 100) with
          | false => rw [hq] at h; cases h
          | true =>
            rw [hq] at h
            have hq := Nat.eq_of_beq_eq_true hq
            subst hq
            simp only [Bool.and_eq_true, decide_eq_true_eq] at hok
            obtain ⟨o1, o2, o3⟩ := hok
            obtain ⟨hc, hk⟩ := sm_cT_at o2
            have hw := hts _ (sm_ws_of (sm_fl_ok _ (sm_in3_mem o1)) rfl)
            simp only [← hcn] at hw
            have he := sm_W_at (ad := ad) (cA := cA) (σ := σ) ha
            obtain ⟨ty0, hty, hnm⟩ := sm_tyn _ _ hc
            have hsh := hSH _ (List.mem_of_getElem? ha)
            simp only [sm_shB, hc, Bool.and_eq_true] at hsh
            have hsl : ∀ o, fl[tgt % 100]? = some o → sm_slB (sm_fT tgt) o = true := by
              intro o ho
              refine List.all_eq_true.mp hsh.2 _ (List.mem_of_getElem? (i := tgt % 100) ?_)
              rw [List.getElem?_mapIdx, ho]
              rfl
            have hset : ∀ o, fl[tgt % 100]? = some (Sum.inl o) → (sm_W SH ad cA σ).set a (ad a, .inr (tgt / 100, (fl.mapIdx (sm_fs ad (σ a))).set (tgt % 100) (.int x))) = sm_W SH ad cA (sm_set σ a (upd (σ a) (tgt % 100) x)) := by
              intro o ho
              refine sm_W_set ha ?_
              show _ = Sum.inr (tgt / 100, fl.mapIdx (sm_fs ad (upd (σ a) (tgt % 100) x)))
              congr 2
              apply List.ext_getElem?
              intro j
              have hl2 : tgt % 100 < (fl.mapIdx (sm_fs ad (σ a))).length := by
                rw [List.length_mapIdx]; exact (List.getElem?_eq_some_iff.mp ho).1
              by_cases hj : j = tgt % 100
              · subst hj
                rw [List.getElem?_set_self hl2, List.getElem?_mapIdx, ho]
                simp [sm_fs, upd]
              · rw [List.getElem?_set_ne (Ne.symm hj), List.getElem?_mapIdx, List.getElem?_mapIdx]
                cases fl[j]? with
                | none => rfl
                | some o2 =>
                  cases o2 with
                  | inl _ => simp [sm_fs, upd, hj]
                  | inr _ => simp [sm_fs]
            have hlf : tgt % 100 < (fl.mapIdx (sm_fs ad (σ a))).length := by
              rw [List.length_mapIdx, Nat.eq_of_beq_eq_true hsh.1]; exact hk
            split at h
            · next ht =>
              have hI : (sm_fT tgt).2.2.1 = "I" := of_decide_eq_true (hsl _ ht)
              exact va_put hx hb hts (sm_la_ws hc) ty0 hty hnm hown hK hP hD hS a he hc (tgt % 100) hk hw (fun _ z => z) o3 (ty := .int) (by show parseFieldDescriptor (sm_fT tgt).2.2.1 = _; rw [hI]; decide +kernel) rfl rfl hlf hd (fun H1 locs1 hP1 _ hS1 => by
                have hP2 : va_P D vwCl (sm_W SH ad cA (sm_set σ a (upd (σ a) (tgt % 100) x))) H1 := by rw [← hset _ ht]; exact hP1
                exact go _ _ _ _ h hlen H1 locs1 L hP2 hS1 hl)
            · next ht =>
              have hI : (sm_fT tgt).2.2.1 = "Z" := of_decide_eq_true (hsl _ ht)
              by_cases hx01 : x = 0 ∨ x = 1
              · replace h := (sm_if_t hx01).symm.trans h
                exact va_put hx hb hts (sm_la_ws hc) ty0 hty hnm hown hK hP hD hS a he hc (tgt % 100) hk hw (fun _ z => z) o3 (ty := .boolean) (by show parseFieldDescriptor (sm_fT tgt).2.2.1 = _; rw [hI]; decide +kernel) (by rcases hx01 with rfl | rfl <;> rfl) (by rcases hx01 with rfl | rfl <;> rfl) hlf hd (fun H1 locs1 hP1 _ hS1 => by
                  have hP2 : va_P D vwCl (sm_W SH ad cA (sm_set σ a (upd (σ a) (tgt % 100) x))) H1 := by rw [← hset _ ht]; exact hP1
                  exact go _ _ _ _ h hlen H1 locs1 L hP2 hS1 hl)
              · replace h := (sm_if_f hx01).symm.trans h
                cases h
            · cases h
        · cases h
      · cases h
    | getstatic i =>
      dsimp only at h
      have hm := sm_in3_mem hok
      have hw := hts _ (sm_ws_of (sm_gl_ok _ hm) rfl)
      simp only [← hcn] at hw
      have ht : ∃ t q, tgt = 1000 + t ∧ sm_TB[t]? = some q := by
        have key : ∀ q ∈ sm_gl, ∃ t z, q.2.2 = 1000 + t ∧ sm_TB[t]? = some z := by
          intro q hq
          have h1 : q.2.2 = 1000 ∨ q.2.2 = 1001 ∨ q.2.2 = 1002 := by
            revert q
            decide +kernel
          rcases h1 with h1 | h1 | h1
          · exact ⟨0, _, h1, rfl⟩
          · exact ⟨1, _, h1, rfl⟩
          · exact ⟨2, _, h1, rfl⟩
        exact key _ hm
      obtain ⟨t, q, rfl, hq⟩ := ht
      exact va_gets hx hb (hZ t q hq).1 hS hown hw (fun _ z => z) hd (go _ _ (.ref _ :: _) _ h hlen H locs L hP hS hl)
    | iaload =>
      dsimp only at h
      unfold sm_ald at h
      split at h
      · next i a r0 =>
        split at h
        · next t nn2 ha =>
          cases hq : Nat.beq t 0 with
          | false => rw [hq] at h; cases h
          | true =>
            rw [hq] at h
            have hq := Nat.eq_of_beq_eq_true hq
            subst hq
            by_cases hin : vp_in i nn2
            · replace h := (sm_if_t hin).symm.trans h
              exact va_iald hx hb hK hP a 0 (sm_W_at (sm_arr_at ha)) rfl hin hd (go _ _ (.int _ :: _) _ h hlen H locs L hP hS hl)
            · replace h := (sm_if_f hin).symm.trans h
              cases h
        · split at h
          · next q ht =>
            cases hq : (Nat.ble 1000 a && Nat.beq 0 0) with
            | false => rw [hq] at h; cases h
            | true =>
              rw [hq] at h
              simp only [Bool.and_eq_true] at hq
              have ha : 1000 + (a - 1000) = a := Nat.add_sub_cancel' (Nat.le_of_ble_eq_true hq.1)
              by_cases hin : vp_in i q.length
              · replace h := (sm_if_t hin).symm.trans h
                have hT := (hZ _ q ht).2
                rw [ha] at hT
                exact va_ti hx hb hT hS hin rfl hd (go _ _ (.int _ :: _) _ h hlen H locs L hP hS hl)
              · replace h := (sm_if_f hin).symm.trans h
                cases h
          · cases h
      · cases h
    | baload =>
      dsimp only at h
      unfold sm_ald at h
      split at h
      · next i a r0 =>
        split at h
        · next t nn2 ha =>
          cases hq : Nat.beq t 1 with
          | false => rw [hq] at h; cases h
          | true =>
            rw [hq] at h
            have hq := Nat.eq_of_beq_eq_true hq
            subst hq
            by_cases hin : vp_in i nn2
            · replace h := (sm_if_t hin).symm.trans h
              exact va_zald hx hb hK hP a 1 (sm_W_at (sm_arr_at ha)) rfl hin hd (go _ _ (.int _ :: _) _ h hlen H locs L hP hS hl)
            · replace h := (sm_if_f hin).symm.trans h
              cases h
        · split at h
          · next q ht =>
            cases hq : (Nat.ble 1000 a && Nat.beq 1 0) with
            | false => rw [hq] at h; cases h
            | true =>
              simp only [Bool.and_eq_true] at hq
              cases hq.2
          · cases h
      · cases h
    | iastore =>
      dsimp only at h
      unfold sm_ast at h
      split at h
      · next x i a r0 =>
        split at h
        · next t nn2 ha =>
          cases hq : Nat.beq t 0 with
          | false => rw [hq] at h; cases h
          | true =>
            rw [hq] at h
            have hq := Nat.eq_of_beq_eq_true hq
            subst hq
            by_cases hin : vp_in i nn2
            · replace h := (sm_if_t hin).symm.trans h
              exact va_iast hx hb hK hP hD hS a 0 (sm_W_at (sm_arr_at ha)) rfl hin hd (fun H1 locs1 hP1 _ hS1 => by
                have hP2 : va_P D vwCl (sm_W SH ad cA (sm_set σ a (upd (σ a) i.toNatClampNeg x))) H1 := by rw [← sm_W_set (sm_arr_at ha) (e := .inl (cA 0, nn2, .inl (upd (σ a) i.toNatClampNeg x))) rfl]; exact hP1
                exact go _ _ _ _ h hlen H1 locs1 L hP2 hS1 hl)
            · replace h := (sm_if_f hin).symm.trans h
              cases h
        · cases h
      · cases h
    | bastore =>
      dsimp only at h
      unfold sm_ast at h
      split at h
      · next x i a r0 =>
        split at h
        · next t nn2 ha =>
          cases hq : Nat.beq t 1 with
          | false => rw [hq] at h; cases h
          | true =>
            rw [hq] at h
            have hq := Nat.eq_of_beq_eq_true hq
            subst hq
            by_cases hin : vp_in i nn2
            · replace h := (sm_if_t hin).symm.trans h
              by_cases hx01 : x = 0 ∨ x = 1
              · replace h := (sm_if_t hx01).symm.trans h
                have hxx : vp_nar .boolean x = x := by rcases hx01 with rfl | rfl <;> rfl
                exact va_zast hx hb hK hP hD hS a 1 (sm_W_at (sm_arr_at ha)) rfl hin hd (fun H1 locs1 hP1 _ hS1 => by
                  rw [hxx] at hP1
                  have hP2 : va_P D vwCl (sm_W SH ad cA (sm_set σ a (upd (σ a) i.toNatClampNeg x))) H1 := by rw [← sm_W_set (sm_arr_at ha) (e := .inl (cA 1, nn2, .inl (upd (σ a) i.toNatClampNeg x))) rfl]; exact hP1
                  exact go _ _ _ _ h hlen H1 locs1 L hP2 hS1 hl)
              · replace h := (sm_if_f hx01).symm.trans h
                cases h
            · replace h := (sm_if_f hin).symm.trans h
              cases h
        · cases h
      · cases h
    | arraylength =>
      dsimp only at h
      unfold sm_len at h
      split at h
      · next a r0 =>
        split at h
        · next t nn2 ha =>
          have hs := hSH _ (List.mem_of_getElem? (sm_arr_at ha))
          have ht : t = 0 ∨ t = 1 := by
            have := Nat.le_of_ble_eq_true (show Nat.ble t 1 = true from hs)
            omega
          rcases ht with rfl | rfl
          · exact va_alen hx hb hK hP a 0 (sm_W_at (sm_arr_at ha)) (ty := .int) rfl rfl hd (go _ _ (.int _ :: _) _ h hlen H locs L hP hS hl)
          · exact va_alen hx hb hK hP a 1 (sm_W_at (sm_arr_at ha)) (ty := .boolean) rfl rfl hd (go _ _ (.int _ :: _) _ h hlen H locs L hP hS hl)
        · cases h
      · cases h
    | invokevirtual i =>
      dsimp only at h
      simp only [Bool.and_eq_true] at hok
      obtain ⟨o1, o2, o3⟩ := hok
      unfold sm_inv at h
      split at h
      · next as r0 hpop =>
        cases hq : (sm_rc SH (nn / 100) as && (sm_irs as && (sm_irs r0 && Nat.ble r0.length 8))) with
        | false => rw [hq] at h; cases h
        | true =>
          rw [hq] at h
          simp only [Bool.and_eq_true] at hq
          obtain ⟨q1, q2, q3, q4⟩ := hq
          have hias := sm_irs_mem q2
          have hir := sm_irs_mem q3
          obtain ⟨e1, e2⟩ := sm_pop_eq _ _ _ _ _ hpop
          simp only [List.reverse_nil, List.nil_append, List.length_nil, Nat.zero_add] at e1 e2
          unfold sm_rmB at o3
          cases hj : sm_MS[tgt]? with
          | none => rw [hj] at o3; cases o3
          | some M' =>
            rw [hj] at o3
            simp only [Bool.and_eq_true] at o3
            obtain ⟨r1, r2, r3⟩ := o3
            have r1 := Nat.le_of_ble_eq_true r1
            have r2 := Nat.le_of_ble_eq_true r2
            have r3 := Nat.eq_of_beq_eq_true r3
            have hM' : M' ∈ sm_MS := List.mem_of_getElem? hj
            have hy : sm_y tgt = M'.1 := by unfold sm_y; rw [hj]
            have hvm := sm_in1_mem o2
            have hvo := List.all_eq_true.mp sm_vm_ok tgt hvm
            unfold sm_vok at hvo
            rw [hj] at hvo
            simp only [Bool.and_eq_true, decide_eq_true_eq] at hvo
            obtain ⟨v1, v2, v3⟩ := hvo
            rw [r3] at v1 v2 v3
            have hmo := sm_ck_ok M' hM'
            simp only [sm_chk, sm_mok, Bool.and_eq_true, decide_eq_true_eq] at hmo
            obtain ⟨⟨-, m1, m2, -, m3⟩, -⟩ := hmo
            have m3 := Nat.le_of_ble_eq_true m3
            have hcall : ∃ r1 σ1, sm_run sm_TB sm_MS SH n M' 0 (sm_ent M' as) [] σ = some (r1, σ1) ∧ sm_run sm_TB sm_MS SH n M (pc + 3) ls (r1.toList ++ r0) σ1 = some (r, σ') := by
              have key : ∀ (k : Option Value → sm_S → sm_X), sm_cll sm_MS (sm_run sm_TB sm_MS SH n) tgt as σ k = some (r, σ') → ∃ r1 σ1, sm_run sm_TB sm_MS SH n M' 0 (sm_ent M' as) [] σ = some (r1, σ1) ∧ k r1 σ1 = some (r, σ') := by
                intro k hk
                unfold sm_cll at hk
                rw [hj] at hk
                dsimp only at hk
                split at hk
                · cases hk
                · next r1 σ1 h1 => exact ⟨r1, σ1, h1, hk⟩
              dsimp only [cond] at h
              split at h
              · obtain ⟨r1, σ1, h1, h2⟩ := key _ h
                unfold sm_rv at h2
                split at h2
                · exact ⟨_, σ1, h1, h2⟩
                · cases h2
              · obtain ⟨r1, σ1, h1, h2⟩ := key _ h
                unfold sm_ri at h2
                split at h2
                · exact ⟨_, σ1, h1, h2⟩
                · cases h2
            obtain ⟨rr, σ1, h1, h2⟩ := hcall
            have hlen1 : (sm_ent M' as).length = M'.2.2.1 := by
              unfold sm_ent
              rw [List.length_append, List.length_replicate]
              rw [r3] at m3
              omega
            have hMet := sm_toMet (l := l) (SH := SH) (ad := ad) (cA := cA) (D := D) hM' (as := as) (σ := σ) (σ' := σ1) (r := rr) hias (by rw [r3] at m3; omega) (fun p e s m args below meth c C => ih M' hM' 0 _ _ _ _ _ h1 hlen1 p e s m args below meth c C)
            have hc : vwCl[nn / 100]? = some (sm_cT nn) := by
              unfold sm_cT
              rw [List.getD_eq_getElem?_getD, List.getElem?_eq_getElem (Nat.le_of_ble_eq_true v2)]
              rfl
            cases as with
            | nil => cases q1
            | cons v as' =>
              cases v with
              | ref a =>
                simp only [sm_rc] at q1
                split at q1
                · next c2 fl ha =>
                  have q1 := Nat.eq_of_beq_eq_true q1
                  subst q1
                  have hst : st.map (sm_cv ad) = (as'.map (sm_cv ad)).reverse ++ .ref (ad a) :: r0.map (sm_cv ad) := by
                    rw [← e1]
                    simp [sm_cv]
                  rw [hst]
                  have hlk2 : Cond.methodLink M.1.cls i M'.1 ∈ lw_tbl := by rw [hcn, ← hy]; exact sm_vl_ok _ (sm_in3_mem o1)
                  have hG : GoodIn (sm_ws M) (wsV M.1.cls i M'.1.cls M'.1 (sm_ws M')) := by
                    intro w hw
                    unfold wsV at hw
                    rcases List.mem_append.mp hw with hw | hw
                    · simp only [List.mem_cons, List.not_mem_nil, or_false] at hw
                      rcases hw with rfl | rfl | rfl | rfl
                      · exact sm_good hlk2 rfl
                      · exact sm_good (by rw [← hy]; exact sm_im_ok _ hvm) rfl
                      · exact sm_good (by rw [← hy]; exact sm_se_ok _ hvm) rfl
                      · exact sm_good (sm_in_ok _ hM') rfl
                    · exact sm_goodM hM' w hw
                  have hpd : (parseMethodDescriptor M'.1.desc).map (fun d => d.parameters.length) = some as'.length := by
                    cases hz : parseMethodDescriptor M'.1.desc with
                    | none => rw [hz] at v3; cases v3
                    | some d =>
                      rw [hz] at v3
                      simp only [Option.map_some, Option.some.injEq] at v3 ⊢
                      simp only [List.length_cons] at e2
                      omega
                  refine sm_callx (va_runV (As := as'.map (sm_cv ad)) (rest := r0.map (sm_cv ad)) ⟨hx, hb, hml, hown, hts⟩ hMet (cwV as'.length hts hG rfl rfl rfl ⟨rfl, m1, m2, hpd⟩ ⟨r1, r2⟩) ⟨sm_blind, ?_, fun U hU hW => ⟨rfl, sm_preB hK hZ hP hS hU hW⟩⟩ rfl (by simp) hl.1 rfl (lv_room (by rw [sm_cats r0 hir]; exact Nat.le_of_ble_eq_true q4)) hd ⟨Nat.le_refl 0, Nat.le_refl 0⟩) hS (fun H1 locs1 hP1 hS1 => ?_)
                  · have := va_recv hK hP hc (sm_W_at (ad := ad) (cA := cA) (σ := σ) ha)
                    rw [← v1] at this
                    exact this
                  · have := go _ _ _ _ h2 hlen H1 locs1 L hP1 hS1 hl
                    rw [List.map_append] at this
                    have e3 : rr.toList.map (sm_cv ad) = (rr.map (sm_cv ad)).toList := by cases rr <;> rfl
                    rw [e3] at this
                    exact this
                · cases q1
              | _ => cases q1
      · cases h
    | invokestatic i =>
      dsimp only at h
      cases hac : Nat.beq tgt 9999 with
      | true =>
        rw [hac] at h hok
        simp only [cond_true, Bool.and_eq_true] at hok
        obtain ⟨o1, o2, o3⟩ := hok
        have o2 := Nat.le_of_ble_eq_true o2
        have o3 := Nat.le_of_ble_eq_true o3
        dsimp only [cond] at h
        unfold sm_cpy at h
        split at h
        · next nc dp b sp a =>
          split at h
          · next nb hbb =>
            split at h
            · next na haa =>
              by_cases hin : ¬ sp < 0 ∧ ¬ dp < 0 ∧ ¬ nc < 0 ∧ sp.toNatClampNeg + nc.toNatClampNeg ≤ na ∧ dp.toNatClampNeg + nc.toNatClampNeg ≤ nb
              · replace h := (sm_if_t hin).symm.trans h
                obtain ⟨p1, p2, p3, p4, p5⟩ := hin
                have hw : (Cond.methodLink M.1.cls i arraycopyName).before args s = true := hts _ (sm_ws_of (by rw [hcn]; exact sm_ac_ok _ (sm_in3_mem o1)) rfl)
                have w1 : (Cond.native arraycopyName).before args s = true := hts _ (sm_ws_of (sm_aw_ok _ (by simp)) rfl)
                have w2 : (Cond.static arraycopyName).before args s = true := hts _ (sm_ws_of (sm_aw_ok _ (by simp)) rfl)
                have w3 : (Cond.initialized "java/lang/System").before args s = true := hts _ (sm_ws_of (sm_aw_ok _ (by simp)) rfl)
                exact va_copyi hx hb (by rw [hml]; exact hl.1.symm) hown hw w1 w2 w3 hK hP hD hS a b 0 0 (sm_W_at (sm_arr_at haa)) (sm_W_at (sm_arr_at hbb)) (ty := .int) rfl rfl rfl p1 p2 p3 p4 p5 (fun _ _ => rfl) o2 (Nat.le_trans (Nat.le_of_ble_eq_true rfl) o3) hd (fun H1 locs1 hP1 _ hS1 => by
                    have hP2 : va_P D vwCl (sm_W SH ad cA (sm_set σ b (va_cpy (σ a) (σ b) sp.toNatClampNeg dp.toNatClampNeg nc.toNatClampNeg))) H1 := by rw [← sm_W_set (sm_arr_at hbb) (e := .inl (cA 0, nb, .inl (va_cpy (σ a) (σ b) sp.toNatClampNeg dp.toNatClampNeg nc.toNatClampNeg))) rfl]; exact hP1
                    exact go _ _ _ _ h hlen H1 locs1 L hP2 hS1 hl)
              · replace h := (sm_if_f hin).symm.trans h
                cases h
            · cases h
          · cases h
        · cases h
      | false =>
        rw [hac] at h hok
        simp only [cond_false] at hok
        dsimp only [cond] at h
        cases h9998 : Nat.beq tgt 9998 with
        | true =>
          rw [h9998] at h hok
          simp only [cond_true, Bool.and_eq_true] at hok
          obtain ⟨o1, o2, o3⟩ := hok
          have o2 := Nat.le_of_ble_eq_true o2
          have o3 := Nat.le_of_ble_eq_true o3
          dsimp only [cond] at h
          unfold sm_mm at h
          split at h
          · next y x r0 =>
            cases hq : (sm_irs r0 && Nat.ble r0.length 8) with
            | false => rw [hq] at h; cases h
            | true =>
              rw [hq] at h
              simp only [Bool.and_eq_true] at hq
              have q4 := Nat.le_of_ble_eq_true hq.2
              have hir := sm_irs_mem hq.1
              have hw : (Cond.methodLink M.1.cls i Lib.Math.min.name).before args s = true := hts _ (sm_ws_of (by rw [hcn]; exact sm_mn_ok _ (sm_in3_mem o1)) rfl)
              have w1 : (Cond.static Lib.Math.min.name).before args s = true := hts _ (sm_ws_of (sm_mw_ok _ (by simp)) rfl)
              have w2 : (Cond.initialized "java/lang/Math").before args s = true := hts _ (sm_ws_of (sm_mw_ok _ (by simp)) rfl)
              have w3 : (Cond.code Lib.Math.min.name Lib.Math.min.code 2 (some .int)).before args s = true := hts _ (sm_ws_of (sm_mw_ok _ (by simp)) rfl)
              exact va_mmin hx hb (by rw [hml]; exact hl.1.symm) hown hw w1 w2 w3 o2 (by rw [sm_cats r0 hir]; show r0.length + 13 ≤ M.2.2.2.2.1.2.1; omega) (Nat.le_refl 0) (Nat.le_refl 0) hd (go _ _ (.int _ :: _) _ h hlen H locs L hP hS hl)
          · cases h
        | false =>
        rw [h9998] at h hok
        simp only [cond_false] at hok
        dsimp only [cond] at h
        cases h9997 : Nat.beq tgt 9997 with
        | true =>
          rw [h9997] at h hok
          simp only [cond_true, Bool.and_eq_true] at hok
          obtain ⟨o1, o2, o3⟩ := hok
          have o2 := Nat.le_of_ble_eq_true o2
          have o3 := Nat.le_of_ble_eq_true o3
          dsimp only [cond] at h
          unfold sm_mm at h
          split at h
          · next y x r0 =>
            cases hq : (sm_irs r0 && Nat.ble r0.length 8) with
            | false => rw [hq] at h; cases h
            | true =>
              rw [hq] at h
              simp only [Bool.and_eq_true] at hq
              have q4 := Nat.le_of_ble_eq_true hq.2
              have hir := sm_irs_mem hq.1
              have hw : (Cond.methodLink M.1.cls i Lib.Math.max.name).before args s = true := hts _ (sm_ws_of (by rw [hcn]; exact sm_mx_ok _ (sm_in3_mem o1)) rfl)
              have w1 : (Cond.static Lib.Math.max.name).before args s = true := hts _ (sm_ws_of (sm_mw_ok _ (by simp)) rfl)
              have w2 : (Cond.initialized "java/lang/Math").before args s = true := hts _ (sm_ws_of (sm_mw_ok _ (by simp)) rfl)
              have w3 : (Cond.code Lib.Math.max.name Lib.Math.max.code 2 (some .int)).before args s = true := hts _ (sm_ws_of (sm_mw_ok _ (by simp)) rfl)
              exact va_mmax hx hb (by rw [hml]; exact hl.1.symm) hown hw w1 w2 w3 o2 (by rw [sm_cats r0 hir]; show r0.length + 13 ≤ M.2.2.2.2.1.2.1; omega) (Nat.le_refl 0) (Nat.le_refl 0) hd (go _ _ (.int _ :: _) _ h hlen H locs L hP hS hl)
          · cases h
        | false =>
        rw [h9997] at h hok
        simp only [cond_false] at hok
        simp only [Bool.and_eq_true] at hok
        obtain ⟨o1, o2, o3⟩ := hok
        dsimp only [cond] at h
        unfold sm_inv at h
        split at h
        · next as r0 hpop =>
          cases hq : ((fun _ => true) as && (sm_irs as && (sm_irs r0 && Nat.ble r0.length 8))) with
          | false => rw [hq] at h; cases h
          | true =>
            rw [hq] at h
            simp only [Bool.and_eq_true] at hq
            obtain ⟨-, q2, q3, q4⟩ := hq
            have hias := sm_irs_mem q2
            have hir := sm_irs_mem q3
            obtain ⟨e1, e2⟩ := sm_pop_eq _ _ _ _ _ hpop
            simp only [List.reverse_nil, List.nil_append, List.length_nil, Nat.zero_add] at e1 e2
            unfold sm_rmB at o3
            cases hj : sm_MS[tgt]? with
            | none => rw [hj] at o3; cases o3
            | some M' =>
              rw [hj] at o3
              simp only [Bool.and_eq_true] at o3
              obtain ⟨r1, r2, r3⟩ := o3
              have r1 := Nat.le_of_ble_eq_true r1
              have r2 := Nat.le_of_ble_eq_true r2
              have r3 := Nat.eq_of_beq_eq_true r3
              have hM' : M' ∈ sm_MS := List.mem_of_getElem? hj
              have hy : sm_y tgt = M'.1 := by unfold sm_y; rw [hj]
              have hvm := sm_in1_mem o2
              have hvo := List.all_eq_true.mp sm_st_ok2 tgt hvm
              unfold sm_sok at hvo
              rw [hj] at hvo
              simp only [Bool.and_eq_true, decide_eq_true_eq] at hvo
              obtain ⟨v2, v3⟩ := hvo
              rw [r3] at v2 v3
              have hmo := sm_ck_ok M' hM'
              simp only [sm_chk, sm_mok, Bool.and_eq_true, decide_eq_true_eq] at hmo
              obtain ⟨⟨-, m1, m2, -, m3⟩, -⟩ := hmo
              have m3 := Nat.le_of_ble_eq_true m3
              have v2 : nn < 100 := Nat.le_of_ble_eq_true v2
              rw [r3, Nat.mod_eq_of_lt v2] at m3
              have hcall : ∃ r1 σ1, sm_run sm_TB sm_MS SH n M' 0 (sm_ent M' as) [] σ = some (r1, σ1) ∧ sm_run sm_TB sm_MS SH n M (pc + 3) ls (r1.toList ++ r0) σ1 = some (r, σ') := by
                have key : ∀ (k : Option Value → sm_S → sm_X), sm_cll sm_MS (sm_run sm_TB sm_MS SH n) tgt as σ k = some (r, σ') → ∃ r1 σ1, sm_run sm_TB sm_MS SH n M' 0 (sm_ent M' as) [] σ = some (r1, σ1) ∧ k r1 σ1 = some (r, σ') := by
                  intro k hk
                  unfold sm_cll at hk
                  rw [hj] at hk
                  dsimp only at hk
                  split at hk
                  · cases hk
                  · next r1 σ1 h1 => exact ⟨r1, σ1, h1, hk⟩
                dsimp only [cond] at h
                split at h
                · obtain ⟨r1, σ1, h1, h2⟩ := key _ h
                  unfold sm_rv at h2
                  split at h2
                  · exact ⟨_, σ1, h1, h2⟩
                  · cases h2
                · obtain ⟨r1, σ1, h1, h2⟩ := key _ h
                  unfold sm_ri at h2
                  split at h2
                  · exact ⟨_, σ1, h1, h2⟩
                  · cases h2
              obtain ⟨rr, σ1, h1, h2⟩ := hcall
              have hlen1 : (sm_ent M' as).length = M'.2.2.1 := by
                unfold sm_ent
                rw [List.length_append, List.length_replicate]
                omega
              have hMet := sm_toMet (l := l) (SH := SH) (ad := ad) (cA := cA) (D := D) hM' (as := as) (σ := σ) (σ' := σ1) (r := rr) hias (by omega) (fun p e s m args below meth c C => ih M' hM' 0 _ _ _ _ _ h1 hlen1 p e s m args below meth c C)
              have hst : st.map (sm_cv ad) = (as.map (sm_cv ad)).reverse ++ r0.map (sm_cv ad) := by
                rw [← e1]
                simp
              rw [hst]
              have hlk2 : Cond.methodLink M.1.cls i M'.1 ∈ lw_tbl := by rw [hcn, ← hy]; exact sm_sl_ok _ (sm_in3_mem o1)
              have hG : GoodIn (sm_ws M) (va_wsS M.1.cls i M'.1 (sm_ws M')) := by
                intro w hw
                unfold va_wsS at hw
                rcases List.mem_append.mp hw with hw | hw
                · simp only [List.mem_cons, List.not_mem_nil, or_false] at hw
                  rcases hw with rfl | rfl | rfl
                  · exact sm_good hlk2 rfl
                  · exact sm_good (by rw [← hy]; exact sm_st_ok _ hvm) rfl
                  · exact sm_good (sm_in_ok _ hM') rfl
                · exact sm_goodM hM' w hw
              refine sm_callx (va_runS (As := as.map (sm_cv ad)) (rest := r0.map (sm_cv ad)) ⟨hx, hb, hml, hown, hts⟩ hMet (va_cwS as.length hts hG rfl rfl rfl ⟨m1, m2, by rw [v3, e2]⟩ ⟨r1, r2⟩) ⟨sm_blind, fun U hU hW => ⟨rfl, sm_preB hK hZ hP hS hU hW⟩⟩ rfl (by simp) hl.1 rfl (lv_room (by rw [sm_cats r0 hir]; exact Nat.le_of_ble_eq_true q4)) hd ⟨Nat.le_refl 0, Nat.le_refl 0⟩) hS (fun H1 locs1 hP1 hS1 => ?_)
              have := go _ _ _ _ h2 hlen H1 locs1 L hP1 hS1 hl
              rw [List.map_append] at this
              have e3 : rr.toList.map (sm_cv ad) = (rr.map (sm_cv ad)).toList := by cases rr <;> rfl
              rw [e3] at this
              exact this
        · cases h
    | ireturn =>
      dsimp only at h
      split at h
      · next x =>
        split at h
        · next hrt =>
          cases h
          exact W.iret hx hb (by rw [hr]; exact hrt) (fun t ht hW => ⟨rfl, by rw [ht]; exact hP, hS.F ht⟩) (fun q hq => hS.2.2 q hq) hd hlk
        · next hrt =>
          by_cases hx01 : x = 0 ∨ x = 1
          · replace h := (sm_if_t hx01).symm.trans h
            cases h
            exact W.zret hx hb (ty := .boolean) (by rw [hr]; exact hrt) (by rcases hx01 with rfl | rfl <;> rfl) (fun t ht hW => ⟨rfl, by rw [ht]; exact hP, hS.F ht⟩) (fun q hq => hS.2.2 q hq) hd hlk
          · replace h := (sm_if_f hx01).symm.trans h
            cases h
        · cases h
      · cases h
    | return_ =>
      dsimp only at h
      split at h
      · split at h
        · next hrt =>
          cases h
          exact W.vret hx hb (by rw [hr]; exact hrt) (fun t ht hW => ⟨rfl, by rw [ht]; exact hP, hS.F ht⟩) (fun q hq => hS.2.2 q hq) hd hlk
        · cases h
      · cases h
    | _ => cases h
