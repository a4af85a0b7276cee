/-! ===== the simulation: in the world of all; the calls that change something ===== -/
def arK (k : Nat) : Prop := k < 41 ∧ k ≠ 0 ∧ k ≠ 1 ∧ k ≠ 8 ∧ k ≠ 17 ∧ k ≠ 26 ∧ k ≠ 34
/-- where both are the same, as far as arrays go -/
def eqT (c c' : sm_S) : Prop := (∀ k, arK k → ∀ i, i < ln k → c' k i = c k i) ∧ c' 0 7 = c 0 7 ∧ c' 8 8 = c 8 8 ∧ c' 26 7 = c 26 7 ∧ c' 34 4 = c 34 4 ∧ c' 34 5 = c 34 5
theorem eqT.at {c c' : sm_S} (h : eqT c c') {k i : Nat} (n : Nat) (hk : ln k = n := by rfl) (ha : arK k := by unfold arK; omega) (hi : i < n := by omega) : c' k i = c k i := h.1 k ha i (by rw [hk]; exact hi)
theorem sim0.eq {c c' : sm_S} {v v' : Nat → Int32} (h : sim0 c v) (e : eqT c c') (hv : ∀ i, i < 2662 → v' i = v i) (hk : ∀ b, b < 96 → bk_ok v b) : sim0 c' v' := by
  refine ⟨fun f hf => ?_, fun b hb => ?_, fun s hs => ?_, fun t ht => ?_, ?_, ?_, ?_⟩
  · exact (h.F f hf).cg (e.at 8) (e.at 8) (e.at 8) (e.at 8) (e.at 256) (e.at 256) (hv _ (by omega)) (hv _ (by omega)) (hv _ (by omega))
  · exact (h.B b hb).cg (e.at 96) (e.at 96) (e.at 96) (e.at 96) (e.at 96) (e.at 96) (e.at 96) (e.at 96) (fun k hk => hv _ (by omega))
  · refine (h.S s hs).cg (fun k h1 h2 => ?_) (fun k hk => hv _ (by omega))
    rcases (show k = 18 ∨ k = 19 ∨ k = 20 ∨ k = 21 ∨ k = 22 ∨ k = 23 ∨ k = 24 ∨ k = 25 by omega) with q | q | q | q | q | q | q | q <;> subst q <;> exact e.at 8
  · refine (h.T t ht).cg (fun k h1 h2 => ?_) (fun k hk => hv _ (by omega))
    rcases (show k = 27 ∨ k = 28 ∨ k = 29 ∨ k = 30 ∨ k = 31 ∨ k = 32 by omega) with q | q | q | q | q | q <;> subst q <;> exact e.at 6
  · obtain ⟨L, q⟩ := h.Q
    have l6 := q.le6
    have e28 : ∀ t, t < 6 → c' 28 t = c 28 t := fun t ht => e.at 6
    have e33 : ∀ k, k < L → c' 33 k = c 33 k := fun k hk => e.at 6
    have hl : lnC c' L = lnC c L := lnC_cg e33
    refine ⟨L, by rw [e.2.2.2.1]; exact q.len, l6, fun k hk => ?_, by rw [hl]; exact q.nod, fun t ht hw => ?_, fun b hb => ?_⟩
    · obtain ⟨t, t1, t2, t3⟩ := q.tsk k hk
      exact ⟨t, t1, by rw [e33 k hk]; exact t2, by rw [e28 t t1]; exact t3⟩
    · rw [e28 t ht] at hw
      obtain ⟨k, k1, k2⟩ := q.all t ht hw
      exact ⟨k, k1, by rw [e33 k k1]; exact k2⟩
    · obtain ⟨m, g1, -⟩ := q.lin b hb
      obtain ⟨g3, g2⟩ := q.m_le hb g1
      refine ⟨m, by rw [hv _ (by omega)]; exact g1, ?_⟩
      rw [lnV_cg (fun n hn => hv _ (by omega)), hl, g2]
      refine List.filter_congr (fun x hx => ?_)
      obtain ⟨t, t1, t2, -⟩ := q.mem hx
      rw [t_nat t2, e28 t t1]
  · have g := h.N
    exact ⟨by rw [e.at 4, hv 0 (by omega)]; exact g.rat, by rw [e.at 4, hv 1 (by omega)]; exact g.tri, by rw [e.at 4, hv 2 (by omega)]; exact g.rto, by rw [e.at 4, hv 3 (by omega)]; exact g.pau, fun k hk => by rw [e.at 11, hv _ (by omega)]; exact g.cnt k hk, by rw [e.2.1, hv 4 (by omega)]; exact g.tic, by rw [e.2.2.1, hv 6 (by omega)]; exact g.use⟩
  · exact h.O.cg (fun i h1 h2 _ => hv i (by omega)) (fun b k h1 h2 => hv _ (by omega)) (fun s hs => hv _ (by omega)) hk
theorem tie.eq {g : Prop} {N : Nat} {c c' : sm_S} {v v' : Nat → Int32} (h : tie g N c v) (e : eqT c c') (hv : ∀ i, i < 2662 → v' i = v i) : tie g N c' v' := by
  refine ⟨h.s.eq e hv h.b, fun q => ?_, ?_, fun b hb => bk_cong (fun k _ _ _ _ => hv _ (by omega)) (h.b b hb), by rw [hv 5 (by omega)]; exact h.n⟩
  · have l := h.l q
    refine ⟨by rw [e.2.2.2.2.1, hv 5 (by omega)]; exact l.lns, by rw [e.2.2.2.2.2, hv 5 (by omega)]; exact l.nxt, fun k hk => ?_⟩
    rw [e.at (k := 35) 60, e.at (k := 36) 60, e.at (k := 37) 60, e.at (k := 38) 60, hv _ (by omega), hv _ (by omega), hv _ (by omega), hv _ (by omega)]
    exact l.ent k hk
  · unfold kl
    rw [e.2.2.2.2.2]
    exact h.k
theorem jx.eq {v v' : Nat → Int32} (h : jx v) (hv : ∀ i, i < 2662 → v' i = v i) : jx v' := h.cg (fun b k _ _ => hv _ (by omega)) (fun s hs z => ⟨fun y => z ((hv _ (by omega)).trans y), hv _ (by omega)⟩) (hv 0 (by omega)) (fun i i1 i2 => hv i (by omega))
theorem eqT.of {c c' : sm_S} (h : ∀ k, k < 41 → c' k = c k) : eqT c c' := ⟨fun k hk i _ => by rw [h k hk.1], by rw [h 0 (by omega)], by rw [h 8 (by omega)], by rw [h 26 (by omega)], by rw [h 34 (by omega)], by rw [h 34 (by omega)]⟩
theorem eqT.st {τ σ' : sm_S} (h : sm_stR id xD τ σ') : eqT τ σ' := by
  have arr : ∀ (k : Nat) (q : Nat × Nat), xD[k]? = some (.inl q) → σ' k = τ k := fun k q hk => h.1 k q hk
  refine ⟨fun k hk i _ => ?_, h.2 0 4 _ 7 0 rfl rfl (by omega), h.2 8 0 _ 8 0 rfl rfl (by omega), h.2 26 6 _ 7 0 rfl rfl (by omega), h.2 34 3 _ 4 0 rfl rfl (by omega), h.2 34 3 _ 5 0 rfl rfl (by omega)⟩
  obtain ⟨h1, h2, h3, h4, h5, h6, h7⟩ := hk
  have : ∃ q : Nat × Nat, xD[k]? = some (.inl q) := by
    have dec : ∀ k, k < 41 → (k ≠ 0 ∧ k ≠ 1 ∧ k ≠ 8 ∧ k ≠ 17 ∧ k ≠ 26 ∧ k ≠ 34) → (match xD[k]? with | some (.inl _) => true | _ => false) = true := by decide +kernel
    have := dec k h1 ⟨h2, h3, h4, h5, h6, h7⟩
    revert this
    split
    · rename_i q hq
      exact fun _ => ⟨q, hq⟩
    · exact fun z => absurd z (by decide)
  obtain ⟨q, hq⟩ := this
  rw [arr k q hq]
theorem nwT {g : Prop} {N j : Nat} {as : List Value} {σ c' : sm_S} {r : Int32} {v' : Nat → Int32} (h : xC xD j as σ (sm_I (fun y σ' => y = r ∧ σ' = c'))) (t : tie g N c' v') : xC xF j as σ (sm_I (fun y σ' => y = r ∧ tie g N σ' v' ∧ ∀ a, 42 ≤ a → σ' a = σ a)) := by
  refine sm_C.mono (sm_cv_ids as ▸ x_up shDF h) ?_
  rintro r1 σ' ⟨r2, τ, rfl, ⟨x, rfl, hx, rfl⟩, hs, ho⟩
  exact ⟨x, rfl, hx, t.eq (eqT.st hs) (fun _ _ => rfl), fun a ha => off_out (n := 42) rfl ho (fun k hk z => by have z : k = a := z; omega)⟩
theorem nwTV {g : Prop} {N j : Nat} {as : List Value} {σ c' : sm_S} {v' : Nat → Int32} (h : xC xD j as σ (sm_V (fun σ' => σ' = c'))) (t : tie g N c' v') : xC xF j as σ (sm_V (fun σ' => tie g N σ' v' ∧ ∀ a, 42 ≤ a → σ' a = σ a)) := by
  refine sm_C.mono (sm_cv_ids as ▸ x_up shDF h) ?_
  rintro r1 σ' ⟨r2, τ, rfl, ⟨rfl, rfl⟩, hs, ho⟩
  exact ⟨rfl, t.eq (eqT.st hs) (fun _ _ => rfl), fun a ha => off_out (n := 42) rfl ho (fun k hk z => by have z : k = a := z; omega)⟩
/-- a public call of the reference -/
def rp (j : Nat) (as : List Value) (v u : Nat → Int32) (r : Int32) (v' : Nat → Int32) : Prop := ∀ σ : sm_S, σ 1 = v → σ 4 = u → xC xM j as σ (sm_I (fun y σ' => y = r ∧ σ' 1 = v' ∧ σ' 5 = σ 5))
theorem rp.up {j : Nat} {as as' : List Value} {v u v' : Nat → Int32} {r : Int32} (h : rp j as v u r v') (ha : as.map (sm_cv rM) = as') : ∀ σ : sm_S, σ 169 = v → σ 172 = u → xC xF j as' σ (sm_I (fun y σ' => y = r ∧ σ' 169 = v' ∧ σ' 173 = σ 173)) := fun σ e e4 => by
  subst ha
  refine (x_up shMF (h (sh rM σ) e e4)).mono ?_
  rintro r1 σ' ⟨r2, τ, rfl, ⟨x, rfl, hx, h1, h5⟩, hs, ho⟩
  refine ⟨x, rfl, hx, ?_, ?_⟩
  · have e1 : σ' 169 = τ 1 := hs.1 1 (0, 2662) rfl
    rw [e1, h1]
  · have e5 : σ' 173 = τ 5 := hs.1 5 (0, 2662) rfl
    rw [e5, h5]
    rfl
/-- the call on both sides, with one answer -/
def prC (jA jM : Nat) (asA asM : List Value) (N : Nat) (σ : sm_S) : Prop := ∃ (r : Int32) (v' : Nat → Int32) (N' : Nat), N' ≤ N + 1488000 ∧ jj N' v' ∧ jx v' ∧ xC xF jA asA σ (sm_I (fun x σ' => x = r ∧ tie True N' σ' v' ∧ ∀ a, 42 ≤ a → σ' a = σ a)) ∧ rp jM asM (σ 169) (σ 172) r v'
theorem isYes.b {P : Prop} {x : Int32} (h : isYes P x) : (x = 0 ↔ ¬ P) ∧ (x ≠ 0 ↔ P) := by
  rcases h with ⟨h1, h2⟩ | ⟨h1, h2⟩
  · subst h1
    exact ⟨⟨fun z => absurd z (by decide), fun z => absurd h2 z⟩, ⟨fun _ => h2, fun _ => by decide⟩⟩
  · subst h1
    exact ⟨⟨fun _ => h2, fun _ => rfl⟩, ⟨fun z => absurd rfl z, fun z => absurd z h2⟩⟩
theorem e_isRng {a C : Int32} {K : Nat} (hC : C.toInt = K) {Q : Option Value → sm_S → Prop} {σ : sm_S} (h1 : (0 ≤ a.toInt ∧ a.toInt < K) → Q (some (.int 1)) σ) (h0 : ¬ (0 ≤ a.toInt ∧ a.toInt < K) → Q (some (.int 0)) σ) : (a < 0 → (((0 : Int32) = 0 ∨ (0 : Int32) = 1) ∧ Q (some (.int 0)) σ)) ∧ (¬ (a < 0) → ((C ≤ a → (((0 : Int32) = 0 ∨ (0 : Int32) = 1) ∧ Q (some (.int 0)) σ)) ∧ (¬ (C ≤ a) → (((1 : Int32) = 0 ∨ (1 : Int32) = 1) ∧ Q (some (.int 1)) σ)))) := by
  refine ⟨fun q => ⟨Or.inl rfl, h0 ?_⟩, fun q => ⟨fun q2 => ⟨Or.inl rfl, h0 ?_⟩, fun q2 => ⟨Or.inr rfl, h1 ?_⟩⟩⟩
  · rw [t_lt] at q
    have q : a.toInt < (0 : Int) := q
    omega
  · rw [t_le, hC] at q2
    omega
  · rw [t_lt] at q
    rw [t_le, hC] at q2
    have q : ¬ a.toInt < (0 : Int) := q
    omega
theorem e_isSpanX (a : Int32) (σ : sm_S) : xC xD j_A_isSpan [.int a] σ (sm_I (fun x σ' => isYes (0 ≤ a.toInt ∧ a.toInt < 8) x ∧ σ' = σ)) := d_A_isSpan a σ _ (e_isRng (K := 8) rfl (fun z => ⟨_, rfl, Or.inl ⟨rfl, z⟩, rfl⟩) (fun z => ⟨_, rfl, Or.inr ⟨rfl, z⟩, rfl⟩))
theorem e_isKindX (a : Int32) (σ : sm_S) : xC xD j_A_isKind [.int a] σ (sm_I (fun x σ' => isYes (0 ≤ a.toInt ∧ a.toInt < 3) x ∧ σ' = σ)) := d_A_isKind a σ _ (e_isRng (K := 3) rfl (fun z => ⟨_, rfl, Or.inl ⟨rfl, z⟩, rfl⟩) (fun z => ⟨_, rfl, Or.inr ⟨rfl, z⟩, rfl⟩))
theorem e_isOrderX (a : Int32) (σ : sm_S) : xC xD j_A_isBlockOrder [.int a] σ (sm_I (fun x σ' => isYes (0 ≤ a.toInt ∧ a.toInt < 5) x ∧ σ' = σ)) := d_A_isBlockOrder a σ _ (e_isRng (K := 5) rfl (fun z => ⟨_, rfl, Or.inl ⟨rfl, z⟩, rfl⟩) (fun z => ⟨_, rfl, Or.inr ⟨rfl, z⟩, rfl⟩))
theorem c_isTaskX (a : Int32) (σ : sm_S) : xC xM j_M_isTask [.ref 0, .int a] σ (sm_I (fun x σ' => isYes (0 ≤ a.toInt ∧ a.toInt < 6) x ∧ σ' = σ)) := (c_isTask a σ).mono (by
  rintro r σ' ⟨y, rfl, hy, rfl⟩
  refine ⟨y, rfl, ?_, rfl⟩
  rcases hy with ⟨y1, n, n1, n2⟩ | ⟨y0, n⟩
  · exact Or.inl ⟨y1, by omega⟩
  · exact Or.inr ⟨y0, by omega⟩)
theorem c_isSpanX (a : Int32) (σ : sm_S) : xC xM j_M_isSpan [.ref 0, .int a] σ (sm_I (fun x σ' => isYes (0 ≤ a.toInt ∧ a.toInt < 8) x ∧ σ' = σ)) := (c_isSpan a σ).mono (by
  rintro r σ' ⟨y, rfl, hy, rfl⟩
  refine ⟨y, rfl, ?_, rfl⟩
  rcases hy with ⟨y1, n, n1, n2⟩ | ⟨y0, n⟩
  · exact Or.inl ⟨y1, by omega⟩
  · exact Or.inr ⟨y0, by omega⟩)
theorem c_isInX {lo hi : Int32} {L H : Int} (hl : lo.toInt = L) (hh : hi.toInt = H) (a : Int32) (σ : sm_S) : xC xM j_M_isIn [.ref 0, .int a, .int lo, .int hi] σ (sm_I (fun x σ' => isYes (L ≤ a.toInt ∧ a.toInt ≤ H) x ∧ σ' = σ)) := (c_isIn a lo hi σ).mono (by
  rintro r σ' ⟨y, rfl, hy, rfl⟩
  rw [hl, hh] at hy
  refine ⟨y, rfl, ?_, rfl⟩
  rcases hy with ⟨y1, n⟩ | ⟨y0, n⟩
  · exact Or.inl ⟨y1, n⟩
  · exact Or.inr ⟨y0, by omega⟩)
/-- nothing changes on both sides -/
theorem sameC {N : Nat} {σ : sm_S} (h : tie True N σ (σ 169)) {r : Int32} : sm_I (fun x σ' => x = r ∧ tie True N σ' (σ 169) ∧ ∀ a, 42 ≤ a → σ' a = σ a) (some (.int r)) σ := ⟨r, rfl, rfl, h, fun _ _ => rfl⟩
theorem sameR {σ σ1 : sm_S} {v : Nat → Int32} {r : Int32} (e : σ 1 = v) (e1 : σ1 = sm_set σ 0 (upd (σ 0) 0 0)) : sm_I (fun y σ' => y = r ∧ σ' 1 = v ∧ σ' 5 = σ 5) (some (.int r)) σ1 := ⟨r, rfl, rfl, by rw [e1, s_ne (by decide)]; exact e, by rw [e1, s_ne (by decide)]⟩
theorem told1 {σ σ1 : sm_S} {v : Nat → Int32} (e : σ 1 = v) (e1 : σ1 = sm_set σ 0 (upd (σ 0) 0 0)) : σ1 1 = v ∧ σ1 5 = σ 5 := ⟨by rw [e1, s_ne (by decide)]; exact e, by rw [e1, s_ne (by decide)]⟩
theorem t_kind {a : Int32} (h : 0 ≤ a.toInt ∧ a.toInt < 3) : a = 0 ∨ a = 1 ∨ a = 2 := by
  rcases (show a.toInt = 0 ∨ a.toInt = 1 ∨ a.toInt = 2 by omega) with q | q | q
  · exact Or.inl (t_inj q)
  · exact Or.inr (Or.inl (t_inj q))
  · exact Or.inr (Or.inr (t_inj q))
theorem pr_take {N : Nat} {σ : sm_S} (a1 a2 a3 a4 : Int32) (h : tie True N σ (σ 169)) (hj : jj N (σ 169)) (hx : jx (σ 169)) (hN : N < 1999000000) : prC j_A_take j_M_take [.ref 42, .int a1, .int a2, .int a3, .int a4] [.ref 0, .int a1, .int a2, .int a3, .int a4] N σ := by
  by_cases ok : (0 ≤ a1.toInt ∧ a1.toInt < 6) ∧ (0 ≤ a2.toInt ∧ a2.toInt < 3) ∧ (0 ≤ a3.toInt ∧ a3.toInt < 5)
  · obtain ⟨k1, k2, k3⟩ := ok
    obtain ⟨m, hm⟩ := t_of k1.1
    obtain ⟨o, ho⟩ := t_of k3.1
    obtain ⟨y, ry, rcy, hB⟩ := p_best (a1 := a1) (a2 := a2) (a3 := a3) (a4 := 0) h.s hx hm (by omega) ho (by omega)
    obtain ⟨v', c', N', r, qr, qc, t', j', x', n'⟩ := l_take2 (g := True) (a4 := a4) hm (by omega) (t_kind k2) ho (by omega) 96 N 0 y 0 σ (σ 169) h hj hx cn_bd (by omega) rfl (by omega) hB
    refine ⟨r, v', N', by omega, j', x', ?_, fun σ2 e2 _ => ?_⟩
    · refine f_A_take a1 a2 a3 a4 σ _ ((nw0 (e_isTaskX a1 σ)).int ?_)
      rintro x2 σ1 ⟨hx2, es⟩
      rw [es]
      refine ⟨fun z => absurd k1 (hx2.b.1.mp z), fun _ => (nw0 (e_isKindX a2 σ)).int ?_⟩
      rintro x4 σ3 ⟨hx4, es3⟩
      rw [es3]
      refine ⟨fun z => absurd k2 (hx4.b.1.mp z), fun _ => (nw0 (e_isOrderX a3 σ)).int ?_⟩
      rintro x6 σ5 ⟨hx6, es5⟩
      rw [es5]
      have run : xC xD j_Y_bring [.ref 0, .int a1, .int a2, .int a3, .int a4] σ (sm_I (fun y σ' => y = r ∧ σ' = c')) := d_Y_bring a1 a2 a3 a4 σ _ (rcy.int (by
        rintro z1 σ7 ⟨ez1, es7⟩
        rw [ez1, es7]
        exact qc _))
      refine ⟨fun _ => (nwT run t').int ?_, fun z => absurd (hx6.b.2.mpr k3) z⟩
      rintro z1 σ7 ⟨ez1, t7, o7⟩
      exact ⟨_, rfl, ez1, t7, o7⟩
    · refine w_M_take a1 a2 a3 a4 σ2 _ (fun σ1 e1 => (c_isTaskX a1 σ1).int ?_)
      obtain ⟨f1, f5⟩ := told1 e2 e1
      rintro x2 σ3 ⟨hx2, es⟩
      rw [es]
      refine ⟨fun z => absurd k1 (hx2.b.1.mp z), fun _ => (c_isInX (L := 0) (H := 2) rfl rfl a2 σ1).int ?_⟩
      rintro x4 σ4 ⟨hx4, es4⟩
      rw [es4]
      refine ⟨fun z => absurd ⟨k2.1, by omega⟩ (hx4.b.1.mp z), fun _ => (c_isInX (L := 0) (H := 4) rfl rfl a3 σ1).int ?_⟩
      rintro x6 σ5 ⟨hx6, es5⟩
      rw [es5]
      refine ⟨fun _ => (ry σ1 f1).int ?_, fun z => absurd (hx6.b.2.mpr ⟨k3.1, by omega⟩) z⟩
      rintro z1 σ6 ⟨ez1, es6⟩
      have es6' : σ6 = σ1 := by rw [es6, ← f1, s_id]
      rw [ez1, es6']
      refine (qr σ1 _ _ f1).mono ?_
      rintro r0 σ7 ⟨z2, rfl, hz2, hs7⟩
      exact ⟨z2, rfl, hz2, by rw [hs7, s_at], by rw [hs7, s_ne (by decide)]; exact f5⟩
  · refine ⟨-2, σ 169, N, by omega, hj, hx, ?_, fun σ2 e2 _ => ?_⟩
    · refine f_A_take a1 a2 a3 a4 σ _ ((nw0 (e_isTaskX a1 σ)).int ?_)
      rintro x2 σ1 ⟨hx2, es⟩
      rw [es]
      refine ⟨fun z => sameC h, fun n2 => (nw0 (e_isKindX a2 σ)).int ?_⟩
      rintro x4 σ3 ⟨hx4, es3⟩
      rw [es3]
      refine ⟨fun z => sameC h, fun n4 => (nw0 (e_isOrderX a3 σ)).int ?_⟩
      rintro x6 σ5 ⟨hx6, es5⟩
      rw [es5]
      exact ⟨fun n6 => absurd ⟨hx2.b.2.mp n2, hx4.b.2.mp n4, hx6.b.2.mp n6⟩ ok, fun _ => sameC h⟩
    · refine w_M_take a1 a2 a3 a4 σ2 _ (fun σ1 e1 => (c_isTaskX a1 σ1).int ?_)
      rintro x2 σ3 ⟨hx2, es⟩
      rw [es]
      refine ⟨fun z => sameR e2 e1, fun n2 => (c_isInX (L := 0) (H := 2) rfl rfl a2 σ1).int ?_⟩
      rintro x4 σ4 ⟨hx4, es4⟩
      rw [es4]
      refine ⟨fun z => sameR e2 e1, fun n4 => (c_isInX (L := 0) (H := 4) rfl rfl a3 σ1).int ?_⟩
      rintro x6 σ5 ⟨hx6, es5⟩
      rw [es5]
      refine ⟨fun n6 => absurd ⟨hx2.b.2.mp n2, ?_, ?_⟩ ok, fun _ => sameR e2 e1⟩
      · have := hx4.b.2.mp n4
        omega
      · have := hx6.b.2.mp n6
        omega
