section
/-! ===== the simulation: in the world of all; the calls that change something ===== -/
def arK (k : Nat) : Prop := k < 41 ∧ k ≠ 0 ∧ k ≠ 1 ∧ k ≠ 8 ∧ k ≠ 17 ∧ k ≠ 26 ∧ k ≠ 34
/-- where both are the same, as far as arrays go -/
def eqT (c c' : sm_S) : Prop := (∀ k, arK k → ∀ i, i < ln k → c' k i = c k i) ∧ c' 0 7 = c 0 7 ∧ c' 8 8 = c 8 8 ∧ c' 26 7 = c 26 7 ∧ c' 34 4 = c 34 4 ∧ c' 34 5 = c 34 5
theorem eqT.at {c c' : sm_S} (h : eqT c c') {k i : Nat} (n : Nat) (hk : ln k = n := by rfl) (ha : arK k := by unfold arK; omega) (hi : i < n := by omega) : c' k i = c k i := h.1 k ha i (by rw [hk]; exact hi)
theorem sim0.eq {c c' : sm_S} {v v' : Nat → Int32} (h : sim0 c v) (e : eqT c c') (hv : ∀ i, i < 2662 → v' i = v i) (hk : ∀ b, b < 96 → bk_ok v b) : sim0 c' v' := by
  refine ⟨fun f hf => ?_, fun b hb => ?_, fun s hs => ?_, fun t ht => ?_, ?_, ?_, ?_⟩
  · exact (h.F f hf).cg (e.at 8) (e.at 8) (e.at 8) (e.at 8) (e.at 256) (e.at 256) (hv _ (by omega)) (hv _ (by omega)) (hv _ (by omega))
  · exact (h.B b hb).cg (e.at 96) (e.at 96) (e.at 96) (e.at 96) (e.at 96) (e.at 96) (e.at 96) (e.at 96) (fun k hk => hv _ (by omega))
  · refine (h.S s hs).cg (fun k h1 h2 => ?_) (fun k hk => hv _ (by omega))
    rcases (show k = 18 ∨ k = 19 ∨ k = 20 ∨ k = 21 ∨ k = 22 ∨ k = 23 ∨ k = 24 ∨ k = 25 by omega) with q | q | q | q | q | q | q | q <;> subst q <;> exact e.at 8
  · refine (h.T t ht).cg (fun k h1 h2 => ?_) (fun k hk => hv _ (by omega))
    rcases (show k = 27 ∨ k = 28 ∨ k = 29 ∨ k = 30 ∨ k = 31 ∨ k = 32 by omega) with q | q | q | q | q | q <;> subst q <;> exact e.at 6
  · obtain ⟨L, q⟩ := h.Q
    have l6 := q.le6
    have e28 : ∀ t, t < 6 → c' 28 t = c 28 t := fun t ht => e.at 6
    have e33 : ∀ k, k < L → c' 33 k = c 33 k := fun k hk => e.at 6
    have hl : lnC c' L = lnC c L := lnC_cg e33
    refine ⟨L, by rw [e.2.2.2.1]; exact q.len, l6, fun k hk => ?_, by rw [hl]; exact q.nod, fun t ht hw => ?_, fun b hb => ?_⟩
    · obtain ⟨t, t1, t2, t3⟩ := q.tsk k hk
      exact ⟨t, t1, by rw [e33 k hk]; exact t2, by rw [e28 t t1]; exact t3⟩
    · rw [e28 t ht] at hw
      obtain ⟨k, k1, k2⟩ := q.all t ht hw
      exact ⟨k, k1, by rw [e33 k k1]; exact k2⟩
    · obtain ⟨m, g1, -⟩ := q.lin b hb
      obtain ⟨g3, g2⟩ := q.m_le hb g1
      refine ⟨m, by rw [hv _ (by omega)]; exact g1, ?_⟩
      rw [lnV_cg (fun n hn => hv _ (by omega)), hl, g2]
      refine List.filter_congr (fun x hx => ?_)
      obtain ⟨t, t1, t2, -⟩ := q.mem hx
      rw [t_nat t2, e28 t t1]
  · have g := h.N
    exact ⟨by rw [e.at 4, hv 0 (by omega)]; exact g.rat, by rw [e.at 4, hv 1 (by omega)]; exact g.tri, by rw [e.at 4, hv 2 (by omega)]; exact g.rto, by rw [e.at 4, hv 3 (by omega)]; exact g.pau, fun k hk => by rw [e.at 11, hv _ (by omega)]; exact g.cnt k hk, by rw [e.2.1, hv 4 (by omega)]; exact g.tic, by rw [e.2.2.1, hv 6 (by omega)]; exact g.use⟩
  · exact h.O.cg (fun i h1 h2 _ => hv i (by omega)) (fun b k h1 h2 => hv _ (by omega)) (fun s hs => hv _ (by omega)) hk
theorem tie.eq {g : Prop} {N : Nat} {c c' : sm_S} {v v' : Nat → Int32} (h : tie g N c v) (e : eqT c c') (hv : ∀ i, i < 2662 → v' i = v i) : tie g N c' v' := by
  refine ⟨h.s.eq e hv h.b, fun q => ?_, ?_, fun b hb => bk_cong (fun k _ _ _ _ => hv _ (by omega)) (h.b b hb), by rw [hv 5 (by omega)]; exact h.n⟩
  · have l := h.l q
    refine ⟨by rw [e.2.2.2.2.1, hv 5 (by omega)]; exact l.lns, by rw [e.2.2.2.2.2, hv 5 (by omega)]; exact l.nxt, fun k hk => ?_⟩
    rw [e.at (k := 35) 60, e.at (k := 36) 60, e.at (k := 37) 60, e.at (k := 38) 60, hv _ (by omega), hv _ (by omega), hv _ (by omega), hv _ (by omega)]
    exact l.ent k hk
  · unfold kl
    rw [e.2.2.2.2.2]
    exact h.k
theorem jx.eq {v v' : Nat → Int32} (h : jx v) (hv : ∀ i, i < 2662 → v' i = v i) : jx v' := h.cg (fun b k _ _ => hv _ (by omega)) (fun s hs z => ⟨fun y => z ((hv _ (by omega)).trans y), hv _ (by omega)⟩) (hv 0 (by omega)) (fun i i1 i2 => hv i (by omega))
theorem eqT.of {c c' : sm_S} (h : ∀ k, k < 41 → c' k = c k) : eqT c c' := ⟨fun k hk i _ => by rw [h k hk.1], by rw [h 0 (by omega)], by rw [h 8 (by omega)], by rw [h 26 (by omega)], by rw [h 34 (by omega)], by rw [h 34 (by omega)]⟩
theorem eqT.st {τ σ' : sm_S} (h : sm_stR id xD τ σ') : eqT τ σ' := by
  have arr : ∀ (k : Nat) (q : Nat × Nat), xD[k]? = some (.inl q) → σ' k = τ k := fun k q hk => h.1 k q hk
  refine ⟨fun k hk i _ => ?_, h.2 0 4 _ 7 0 rfl rfl (by omega), h.2 8 0 _ 8 0 rfl rfl (by omega), h.2 26 6 _ 7 0 rfl rfl (by omega), h.2 34 3 _ 4 0 rfl rfl (by omega), h.2 34 3 _ 5 0 rfl rfl (by omega)⟩
  obtain ⟨h1, h2, h3, h4, h5, h6, h7⟩ := hk
  have : ∃ q : Nat × Nat, xD[k]? = some (.inl q) := by
    have dec : ∀ k, k < 41 → (k ≠ 0 ∧ k ≠ 1 ∧ k ≠ 8 ∧ k ≠ 17 ∧ k ≠ 26 ∧ k ≠ 34) → (match xD[k]? with | some (.inl _) => true | _ => false) = true := by decide +kernel
    have := dec k h1 ⟨h2, h3, h4, h5, h6, h7⟩
    revert this
    split
    · rename_i q hq
      exact fun _ => ⟨q, hq⟩
    · exact fun z => absurd z (by decide)
  obtain ⟨q, hq⟩ := this
  rw [arr k q hq]
theorem nwT {g : Prop} {N j : Nat} {as : List Value} {σ c' : sm_S} {r : Int32} {v' : Nat → Int32} (h : xC xD j as σ (sm_I (fun y σ' => y = r ∧ σ' = c'))) (t : tie g N c' v') : xC xF j as σ (sm_I (fun y σ' => y = r ∧ tie g N σ' v' ∧ ∀ a, 42 ≤ a → σ' a = σ a)) := by
  refine sm_C.mono (sm_cv_ids as ▸ x_up shDF h) ?_
  rintro r1 σ' ⟨r2, τ, rfl, ⟨x, rfl, hx, rfl⟩, hs, ho⟩
  exact ⟨x, rfl, hx, t.eq (eqT.st hs) (fun _ _ => rfl), fun a ha => off_out (n := 42) rfl ho (fun k hk z => by have z : k = a := z; omega)⟩
theorem nwTV {g : Prop} {N j : Nat} {as : List Value} {σ c' : sm_S} {v' : Nat → Int32} (h : xC xD j as σ (sm_V (fun σ' => σ' = c'))) (t : tie g N c' v') : xC xF j as σ (sm_V (fun σ' => tie g N σ' v' ∧ ∀ a, 42 ≤ a → σ' a = σ a)) := by
  refine sm_C.mono (sm_cv_ids as ▸ x_up shDF h) ?_
  rintro r1 σ' ⟨r2, τ, rfl, ⟨rfl, rfl⟩, hs, ho⟩
  exact ⟨rfl, t.eq (eqT.st hs) (fun _ _ => rfl), fun a ha => off_out (n := 42) rfl ho (fun k hk z => by have z : k = a := z; omega)⟩
/-- a public call of the reference -/
def rp (j : Nat) (as : List Value) (v u : Nat → Int32) (r : Int32) (v' : Nat → Int32) : Prop := ∀ σ : sm_S, σ 1 = v → σ 4 = u → xC xM j as σ (sm_I (fun y σ' => y = r ∧ σ' 1 = v' ∧ σ' 5 = σ 5))
theorem rp.up {j : Nat} {as as' : List Value} {v u v' : Nat → Int32} {r : Int32} (h : rp j as v u r v') (ha : as.map (sm_cv rM) = as') : ∀ σ : sm_S, σ 169 = v → σ 172 = u → xC xF j as' σ (sm_I (fun y σ' => y = r ∧ σ' 169 = v' ∧ σ' 173 = σ 173)) := fun σ e e4 => by
  subst ha
  refine (x_up shMF (h (sh rM σ) e e4)).mono ?_
  rintro r1 σ' ⟨r2, τ, rfl, ⟨x, rfl, hx, h1, h5⟩, hs, ho⟩
  refine ⟨x, rfl, hx, ?_, ?_⟩
  · have e1 : σ' 169 = τ 1 := hs.1 1 (0, 2662) rfl
    rw [e1, h1]
  · have e5 : σ' 173 = τ 5 := hs.1 5 (0, 2662) rfl
    rw [e5, h5]
    rfl
/-- the call on both sides, with one answer -/
def prC (jA jM : Nat) (asA asM : List Value) (N : Nat) (σ : sm_S) : Prop := ∃ (r : Int32) (v' : Nat → Int32) (N' : Nat), N' ≤ N + 1488000 ∧ jj N' v' ∧ jx v' ∧ xC xF jA asA σ (sm_I (fun x σ' => x = r ∧ tie True N' σ' v' ∧ ∀ a, 42 ≤ a → σ' a = σ a)) ∧ rp jM asM (σ 169) (σ 172) r v'
theorem isYes.b {P : Prop} {x : Int32} (h : isYes P x) : (x = 0 ↔ ¬ P) ∧ (x ≠ 0 ↔ P) := by
  rcases h with ⟨h1, h2⟩ | ⟨h1, h2⟩
  · subst h1
    exact ⟨⟨fun z => absurd z (by decide), fun z => absurd h2 z⟩, ⟨fun _ => h2, fun _ => by decide⟩⟩
  · subst h1
    exact ⟨⟨fun _ => h2, fun _ => rfl⟩, ⟨fun z => absurd rfl z, fun z => absurd z h2⟩⟩
theorem e_isRng {a C : Int32} {K : Nat} (hC : C.toInt = K) {Q : Option Value → sm_S → Prop} {σ : sm_S} (h1 : (0 ≤ a.toInt ∧ a.toInt < K) → Q (some (.int 1)) σ) (h0 : ¬ (0 ≤ a.toInt ∧ a.toInt < K) → Q (some (.int 0)) σ) : (a < 0 → (((0 : Int32) = 0 ∨ (0 : Int32) = 1) ∧ Q (some (.int 0)) σ)) ∧ (¬ (a < 0) → ((C ≤ a → (((0 : Int32) = 0 ∨ (0 : Int32) = 1) ∧ Q (some (.int 0)) σ)) ∧ (¬ (C ≤ a) → (((1 : Int32) = 0 ∨ (1 : Int32) = 1) ∧ Q (some (.int 1)) σ)))) := by
  refine ⟨fun q => ⟨Or.inl rfl, h0 ?_⟩, fun q => ⟨fun q2 => ⟨Or.inl rfl, h0 ?_⟩, fun q2 => ⟨Or.inr rfl, h1 ?_⟩⟩⟩
  · rw [t_lt] at q
    have q : a.toInt < (0 : Int) := q
    omega
  · rw [t_le, hC] at q2
    omega
  · rw [t_lt] at q
    rw [t_le, hC] at q2
    have q : ¬ a.toInt < (0 : Int) := q
    omega
theorem e_isSpanX (a : Int32) (σ : sm_S) : xC xD j_A_isSpan [.int a] σ (sm_I (fun x σ' => isYes (0 ≤ a.toInt ∧ a.toInt < 8) x ∧ σ' = σ)) := d_A_isSpan a σ _ (e_isRng (K := 8) rfl (fun z => ⟨_, rfl, Or.inl ⟨rfl, z⟩, rfl⟩) (fun z => ⟨_, rfl, Or.inr ⟨rfl, z⟩, rfl⟩))
theorem e_isKindX (a : Int32) (σ : sm_S) : xC xD j_A_isKind [.int a] σ (sm_I (fun x σ' => isYes (0 ≤ a.toInt ∧ a.toInt < 3) x ∧ σ' = σ)) := d_A_isKind a σ _ (e_isRng (K := 3) rfl (fun z => ⟨_, rfl, Or.inl ⟨rfl, z⟩, rfl⟩) (fun z => ⟨_, rfl, Or.inr ⟨rfl, z⟩, rfl⟩))
theorem e_isOrderX (a : Int32) (σ : sm_S) : xC xD j_A_isBlockOrder [.int a] σ (sm_I (fun x σ' => isYes (0 ≤ a.toInt ∧ a.toInt < 5) x ∧ σ' = σ)) := d_A_isBlockOrder a σ _ (e_isRng (K := 5) rfl (fun z => ⟨_, rfl, Or.inl ⟨rfl, z⟩, rfl⟩) (fun z => ⟨_, rfl, Or.inr ⟨rfl, z⟩, rfl⟩))
theorem c_isTaskX (a : Int32) (σ : sm_S) : xC xM j_M_isTask [.ref 0, .int a] σ (sm_I (fun x σ' => isYes (0 ≤ a.toInt ∧ a.toInt < 6) x ∧ σ' = σ)) := (c_isTask a σ).mono (by
  rintro r σ' ⟨y, rfl, hy, rfl⟩
  refine ⟨y, rfl, ?_, rfl⟩
  rcases hy with ⟨y1, n, n1, n2⟩ | ⟨y0, n⟩
  · exact Or.inl ⟨y1, by omega⟩
  · exact Or.inr ⟨y0, by omega⟩)
theorem c_isSpanX (a : Int32) (σ : sm_S) : xC xM j_M_isSpan [.ref 0, .int a] σ (sm_I (fun x σ' => isYes (0 ≤ a.toInt ∧ a.toInt < 8) x ∧ σ' = σ)) := (c_isSpan a σ).mono (by
  rintro r σ' ⟨y, rfl, hy, rfl⟩
  refine ⟨y, rfl, ?_, rfl⟩
  rcases hy with ⟨y1, n, n1, n2⟩ | ⟨y0, n⟩
  · exact Or.inl ⟨y1, by omega⟩
  · exact Or.inr ⟨y0, by omega⟩)
theorem c_isInX {lo hi : Int32} {L H : Int} (hl : lo.toInt = L) (hh : hi.toInt = H) (a : Int32) (σ : sm_S) : xC xM j_M_isIn [.ref 0, .int a, .int lo, .int hi] σ (sm_I (fun x σ' => isYes (L ≤ a.toInt ∧ a.toInt ≤ H) x ∧ σ' = σ)) := (c_isIn a lo hi σ).mono (by
  rintro r σ' ⟨y, rfl, hy, rfl⟩
  rw [hl, hh] at hy
  refine ⟨y, rfl, ?_, rfl⟩
  rcases hy with ⟨y1, n⟩ | ⟨y0, n⟩
  · exact Or.inl ⟨y1, n⟩
  · exact Or.inr ⟨y0, by omega⟩)
/-- nothing changes on both sides -/
theorem sameC {N : Nat} {σ : sm_S} (h : tie True N σ (σ 169)) {r : Int32} : sm_I (fun x σ' => x = r ∧ tie True N σ' (σ 169) ∧ ∀ a, 42 ≤ a → σ' a = σ a) (some (.int r)) σ := ⟨r, rfl, rfl, h, fun _ _ => rfl⟩
theorem sameR {σ σ1 : sm_S} {v : Nat → Int32} {r : Int32} (e : σ 1 = v) (e1 : σ1 = sm_set σ 0 (upd (σ 0) 0 0)) : sm_I (fun y σ' => y = r ∧ σ' 1 = v ∧ σ' 5 = σ 5) (some (.int r)) σ1 := ⟨r, rfl, rfl, by rw [e1, s_ne (by decide)]; exact e, by rw [e1, s_ne (by decide)]⟩
theorem told1 {σ σ1 : sm_S} {v : Nat → Int32} (e : σ 1 = v) (e1 : σ1 = sm_set σ 0 (upd (σ 0) 0 0)) : σ1 1 = v ∧ σ1 5 = σ 5 := ⟨by rw [e1, s_ne (by decide)]; exact e, by rw [e1, s_ne (by decide)]⟩
theorem t_kind {a : Int32} (h : 0 ≤ a.toInt ∧ a.toInt < 3) : a = 0 ∨ a = 1 ∨ a = 2 := by
  rcases (show a.toInt = 0 ∨ a.toInt = 1 ∨ a.toInt = 2 by omega) with q | q | q
  · exact Or.inl (t_inj q)
  · exact Or.inr (Or.inl (t_inj q))
  · exact Or.inr (Or.inr (t_inj q))
theorem pr_take {N : Nat} {σ : sm_S} (a1 a2 a3 a4 : Int32) (h : tie True N σ (σ 169)) (hj : jj N (σ 169)) (hx : jx (σ 169)) (hN : N < 1999000000) : prC j_A_take j_M_take [.ref 42, .int a1, .int a2, .int a3, .int a4] [.ref 0, .int a1, .int a2, .int a3, .int a4] N σ := by
  by_cases ok : (0 ≤ a1.toInt ∧ a1.toInt < 6) ∧ (0 ≤ a2.toInt ∧ a2.toInt < 3) ∧ (0 ≤ a3.toInt ∧ a3.toInt < 5)
  · obtain ⟨k1, k2, k3⟩ := ok
    obtain ⟨m, hm⟩ := t_of k1.1
    obtain ⟨o, ho⟩ := t_of k3.1
    obtain ⟨y, ry, rcy, hB⟩ := p_best (a1 := a1) (a2 := a2) (a3 := a3) (a4 := 0) h.s hx hm (by omega) ho (by omega)
    obtain ⟨v', c', N', r, qr, qc, t', j', x', n'⟩ := l_take2 (g := True) (a4 := a4) hm (by omega) (t_kind k2) ho (by omega) 96 N 0 y 0 σ (σ 169) h hj hx cn_bd (by omega) rfl (by omega) hB
    refine ⟨r, v', N', by omega, j', x', ?_, fun σ2 e2 _ => ?_⟩
    · refine f_A_take a1 a2 a3 a4 σ _ ((nw0 (e_isTaskX a1 σ)).int ?_)
      rintro x2 σ1 ⟨hx2, es⟩
      rw [es]
      refine ⟨fun z => absurd k1 (hx2.b.1.mp z), fun _ => (nw0 (e_isKindX a2 σ)).int ?_⟩
      rintro x4 σ3 ⟨hx4, es3⟩
      rw [es3]
      refine ⟨fun z => absurd k2 (hx4.b.1.mp z), fun _ => (nw0 (e_isOrderX a3 σ)).int ?_⟩
      rintro x6 σ5 ⟨hx6, es5⟩
      rw [es5]
      have run : xC xD j_Y_bring [.ref 0, .int a1, .int a2, .int a3, .int a4] σ (sm_I (fun y σ' => y = r ∧ σ' = c')) := d_Y_bring a1 a2 a3 a4 σ _ (rcy.int (by
        rintro z1 σ7 ⟨ez1, es7⟩
        rw [ez1, es7]
        exact qc _))
      refine ⟨fun _ => (nwT run t').int ?_, fun z => absurd (hx6.b.2.mpr k3) z⟩
      rintro z1 σ7 ⟨ez1, t7, o7⟩
      exact ⟨_, rfl, ez1, t7, o7⟩
    · refine w_M_take a1 a2 a3 a4 σ2 _ (fun σ1 e1 => (c_isTaskX a1 σ1).int ?_)
      obtain ⟨f1, f5⟩ := told1 e2 e1
      rintro x2 σ3 ⟨hx2, es⟩
      rw [es]
      refine ⟨fun z => absurd k1 (hx2.b.1.mp z), fun _ => (c_isInX (L := 0) (H := 2) rfl rfl a2 σ1).int ?_⟩
      rintro x4 σ4 ⟨hx4, es4⟩
      rw [es4]
      refine ⟨fun z => absurd ⟨k2.1, by omega⟩ (hx4.b.1.mp z), fun _ => (c_isInX (L := 0) (H := 4) rfl rfl a3 σ1).int ?_⟩
      rintro x6 σ5 ⟨hx6, es5⟩
      rw [es5]
      refine ⟨fun _ => (ry σ1 f1).int ?_, fun z => absurd (hx6.b.2.mpr ⟨k3.1, by omega⟩) z⟩
      rintro z1 σ6 ⟨ez1, es6⟩
      have es6' : σ6 = σ1 := by rw [es6, ← f1, s_id]
      rw [ez1, es6']
      refine (qr σ1 _ _ f1).mono ?_
      rintro r0 σ7 ⟨z2, rfl, hz2, hs7⟩
      exact ⟨z2, rfl, hz2, by rw [hs7, s_at], by rw [hs7, s_ne (by decide)]; exact f5⟩
  · refine ⟨-2, σ 169, N, by omega, hj, hx, ?_, fun σ2 e2 _ => ?_⟩
    · refine f_A_take a1 a2 a3 a4 σ _ ((nw0 (e_isTaskX a1 σ)).int ?_)
      rintro x2 σ1 ⟨hx2, es⟩
      rw [es]
      refine ⟨fun z => sameC h, fun n2 => (nw0 (e_isKindX a2 σ)).int ?_⟩
      rintro x4 σ3 ⟨hx4, es3⟩
      rw [es3]
      refine ⟨fun z => sameC h, fun n4 => (nw0 (e_isOrderX a3 σ)).int ?_⟩
      rintro x6 σ5 ⟨hx6, es5⟩
      rw [es5]
      exact ⟨fun n6 => absurd ⟨hx2.b.2.mp n2, hx4.b.2.mp n4, hx6.b.2.mp n6⟩ ok, fun _ => sameC h⟩
    · refine w_M_take a1 a2 a3 a4 σ2 _ (fun σ1 e1 => (c_isTaskX a1 σ1).int ?_)
      rintro x2 σ3 ⟨hx2, es⟩
      rw [es]
      refine ⟨fun z => sameR e2 e1, fun n2 => (c_isInX (L := 0) (H := 2) rfl rfl a2 σ1).int ?_⟩
      rintro x4 σ4 ⟨hx4, es4⟩
      rw [es4]
      refine ⟨fun z => sameR e2 e1, fun n4 => (c_isInX (L := 0) (H := 4) rfl rfl a3 σ1).int ?_⟩
      rintro x6 σ5 ⟨hx6, es5⟩
      rw [es5]
      refine ⟨fun n6 => absurd ⟨hx2.b.2.mp n2, ?_, ?_⟩ ok, fun _ => sameR e2 e1⟩
      · have := hx4.b.2.mp n4
        omega
      · have := hx6.b.2.mp n6
        omega
end
section
/-! ===== the simulation: gather, press, come ===== -/
theorem rdI.s {j : Nat} {as : List Value} {v : Nat → Int32} {x : Int32} (h : rdI j as v x v) {σ : sm_S} (e : σ 1 = v) : xC xM j as σ (sm_I (fun y σ' => y = x ∧ σ' = σ)) := (h σ e).mono (by
  rintro r σ' ⟨y, rfl, hy, hs⟩
  exact ⟨y, rfl, hy, by rw [hs, ← e, s_id]⟩)
theorem pubR {σ σ1 σ2 : sm_S} {v' : Nat → Int32} {r : Int32} (f5 : σ1 5 = σ 5) (e : σ2 = sm_set σ1 1 v') : sm_I (fun y σ' => y = r ∧ σ' 1 = v' ∧ σ' 5 = σ 5) (some (.int r)) σ2 := ⟨r, rfl, rfl, by rw [e, s_at], by rw [e, s_ne (by decide)]; exact f5⟩
theorem pr_gather {N : Nat} {σ : sm_S} (a1 : Int32) (h : tie True N σ (σ 169)) (hj : jj N (σ 169)) (hx : jx (σ 169)) : prC j_A_gather j_M_gather [.ref 42, .int a1] [.ref 0, .int a1] N σ := by
  by_cases k1 : 0 ≤ a1.toInt ∧ a1.toInt < 6
  · obtain ⟨m, hm⟩ := t_of k1.1
    obtain ⟨v', c', y, qr, qc, t', j', x'⟩ := l_gather2 (g := True) hm (by omega) 96 0 N 0 0 σ (σ 169) h hj hx rfl (by omega)
    refine ⟨y, v', N, by omega, j', x', ?_, fun σ2 e2 _ => ?_⟩
    · refine f_A_gather a1 σ _ ((nw0 (e_isTaskX a1 σ)).int ?_)
      rintro x2 σ1 ⟨hx2, es⟩
      rw [es]
      have run : xC xD j_Y_bringNearer [.ref 0, .int a1] σ (sm_I (fun z σ' => z = y ∧ σ' = c')) := d_Y_bringNearer a1 σ _ (qc _)
      refine ⟨fun _ => (nwT run t').int ?_, fun z => absurd (hx2.b.2.mpr k1) z⟩
      rintro z1 σ7 ⟨ez1, t7, o7⟩
      exact ⟨_, rfl, ez1, t7, o7⟩
    · refine w_M_gather a1 σ2 _ (fun σ1 e1 => (c_isTaskX a1 σ1).int ?_)
      obtain ⟨f1, f5⟩ := told1 e2 e1
      rintro x2 σ3 ⟨hx2, es⟩
      rw [es]
      refine ⟨fun _ => (qr σ1 _ f1).mono ?_, fun z => absurd (hx2.b.2.mpr k1) z⟩
      rintro r0 σ7 ⟨z2, rfl, hz2, hs7⟩
      rw [hz2]
      exact pubR f5 hs7
  · refine ⟨-1, σ 169, N, by omega, hj, hx, ?_, fun σ2 e2 _ => ?_⟩
    · refine f_A_gather a1 σ _ ((nw0 (e_isTaskX a1 σ)).int ?_)
      rintro x2 σ1 ⟨hx2, es⟩
      rw [es]
      exact ⟨fun z => absurd (hx2.b.2.mp z) k1, fun _ => sameC h⟩
    · refine w_M_gather a1 σ2 _ (fun σ1 e1 => (c_isTaskX a1 σ1).int ?_)
      rintro x2 σ3 ⟨hx2, es⟩
      rw [es]
      exact ⟨fun z => absurd (hx2.b.2.mp z) k1, fun _ => sameR e2 e1⟩
/-- the marks, set back -/
def ckr (u : Nat → Int32) (k : Nat) : Nat → Int32 := fun i => if i < k then 0 else u i
theorem l_prs4 {a1 : Int32} {Q : Option Value → sm_S → Prop} {σ0 : sm_S} (fin : ∀ v4 : Value, xC xM j_M_nextToPress [.ref 0, .int a1] (sm_set σ0 4 (ckr (σ0 4) 96)) (sm_ri False (fun x2 σ1 => xE xM m_M_presses 29 [.ref 0, .int a1, .int 0, .int x2, v4] [] σ1 Q))) : ∀ (d k : Nat) (a3 : Int32) (v4 : Value), k + d = 96 → a3.toInt = k → xE xM m_M_presses 4 [.ref 0, .int a1, .int 0, .int a3, v4] [] (sm_set σ0 4 (ckr (σ0 4) k)) Q := by
  intro d
  induction d with
  | zero =>
    intro k a3 v4 hk h3
    have e : k = 96 := by omega
    subst e
    refine w_M_presses_4 a1 0 a3 v4 _ _ ⟨fun _ => fin v4, fun z => absurd ?_ z⟩
    rw [t_le, h3]
    decide
  | succ d ih =>
    intro k a3 v4 hk h3
    have h3' : (a3 + 1).toInt = ((k + 1 : Nat) : Int) := by
      rw [t_add (y := 1) h3 rfl (by omega) (by omega)]
      rfl
    refine w_M_presses_4 a1 0 a3 v4 _ _ ⟨fun z => ?_, fun _ => ⟨t_vp h3 (by omega), Or.inl rfl, fun σ3 e3 => ?_⟩⟩
    · rw [t_le, h3] at z
      have z : (96 : Int) ≤ _ := z
      omega
    · have := ih (k + 1) (a3 + 1) v4 (by omega) h3'
      have ee : σ3 = sm_set σ0 4 (ckr (σ0 4) (k + 1)) := by
        rw [e3, s_at, s_ss, t_nat h3]
        congr 1
        funext i
        unfold upd ckr
        by_cases q : i = k
        · rw [if_pos q, if_pos (by omega)]
        · rw [if_neg q]
          by_cases q2 : i < k
          · rw [if_pos q2, if_pos (by omega)]
          · rw [if_neg q2, if_neg (by omega)]
      rw [ee]
      exact this
theorem pr_press {N : Nat} {σ : sm_S} (a1 : Int32) (h : tie True N σ (σ 169)) (hj : jj N (σ 169)) (hx : jx (σ 169)) : prC j_A_press j_M_press [.ref 42, .int a1] [.ref 0, .int a1] N σ := by
  by_cases k1 : 0 ≤ a1.toInt ∧ a1.toInt < 8
  · obtain ⟨s, hm⟩ := t_of k1.1
    have hs : s < 8 := by omega
    have gS := (h.s.S s hs).sta
    by_cases st : σ 169 (2358 + 8 * s + 0) = 1
    · obtain ⟨v', c', y, qr, qc, t', j', x', -⟩ := l_pack2 (g := True) hm hs 32 N 0 31 σ (σ 169) (ckr (σ 172) 96) h hj hx st rfl (by omega) ⟨fun b fr _ => Nat.mod_lt _ (by decide), fun b fr o hb _ w => absurd (if_pos hb) w⟩
      refine ⟨y, v', N, by omega, j', x', ?_, fun σ2 e2 u2 => ?_⟩
      · refine f_A_press a1 σ _ ((nw0 (e_isSpanX a1 σ)).int ?_)
        rintro x2 σ1 ⟨hx2, es⟩
        rw [es]
        have run : xC xD j_Y_pack [.ref 0, .int a1] σ (sm_I (fun z σ' => z = y ∧ σ' = c')) := d_Y_pack a1 σ _ (qc _ _ _)
        refine ⟨fun z => absurd k1 (hx2.b.1.mp z), fun _ => ⟨t_vp hm hs, fun _ => (nwT run t').int ?_, fun z => absurd ?_ z⟩⟩
        · rintro z1 σ7 ⟨ez1, t7, o7⟩
          exact ⟨_, rfl, ez1, t7, o7⟩
        · rw [t_nat hm, ← gS]
          exact st
      · refine w_M_press a1 σ2 _ (fun σ1 e1 => (c_isSpanX a1 σ1).int ?_)
        obtain ⟨f1, f5⟩ := told1 e2 e1
        have f4 : σ1 4 = σ 172 := by rw [e1, s_ne (by decide)]; exact u2
        rintro x2 σ3 ⟨hx2, es⟩
        rw [es]
        refine ⟨fun z => absurd k1 (hx2.b.1.mp z), fun _ => (c_spanState hm hs σ1).int ?_⟩
        rintro x4 σ4 ⟨hx4, es4⟩
        rw [es4, hx4, f1]
        refine ⟨fun z => absurd st z, fun _ => ?_⟩
        have ref : xC xM j_M_presses [.ref 0, .int a1] σ1 (sm_I (fun z σ' => z = y ∧ ∃ w', σ' = sm_set (sm_set (sm_set σ1 4 (ckr (σ1 4) 96)) 4 w') 1 v')) := w_M_presses a1 σ1 _ (by
          have e0 : sm_set σ1 4 (ckr (σ1 4) 0) = σ1 := by
            have : ckr (σ1 4) 0 = σ1 4 := by
              funext i
              exact if_neg (by omega)
            rw [this, s_id]
          have := l_prs4 (a1 := a1) (σ0 := σ1) (fun v4 => qr (sm_set σ1 4 (ckr (σ1 4) 96)) v4 (by rw [s_ne (by decide)]; exact f1) (by rw [s_at, f4])) 96 0 0 .null rfl rfl
          rw [e0] at this
          exact this)
        refine ref.int ?_
        rintro z2 σ7 ⟨hz2, w', hs7⟩
        rw [hz2]
        exact ⟨_, rfl, rfl, by rw [hs7, s_at], by rw [hs7, s_ne (by decide), s_ne (by decide), s_ne (by decide)]; exact f5⟩
    · refine ⟨-1, σ 169, N, by omega, hj, hx, ?_, fun σ2 e2 _ => ?_⟩
      · refine f_A_press a1 σ _ ((nw0 (e_isSpanX a1 σ)).int ?_)
        rintro x2 σ1 ⟨hx2, es⟩
        rw [es]
        refine ⟨fun z => absurd k1 (hx2.b.1.mp z), fun _ => ⟨t_vp hm hs, fun z => absurd ?_ st, fun _ => sameC h⟩⟩
        rw [t_nat hm, ← gS] at z
        exact z
      · refine w_M_press a1 σ2 _ (fun σ1 e1 => (c_isSpanX a1 σ1).int ?_)
        obtain ⟨f1, f5⟩ := told1 e2 e1
        rintro x2 σ3 ⟨hx2, es⟩
        rw [es]
        refine ⟨fun z => absurd k1 (hx2.b.1.mp z), fun _ => (c_spanState hm hs σ1).int ?_⟩
        rintro x4 σ4 ⟨hx4, es4⟩
        rw [es4, hx4, f1]
        exact ⟨fun _ => sameR e2 e1, fun z => absurd st z⟩
  · refine ⟨-1, σ 169, N, by omega, hj, hx, ?_, fun σ2 e2 _ => ?_⟩
    · refine f_A_press a1 σ _ ((nw0 (e_isSpanX a1 σ)).int ?_)
      rintro x2 σ1 ⟨hx2, es⟩
      rw [es]
      exact ⟨fun _ => sameC h, fun z => absurd (hx2.b.2.mp z) k1⟩
    · refine w_M_press a1 σ2 _ (fun σ1 e1 => (c_isSpanX a1 σ1).int ?_)
      rintro x2 σ3 ⟨hx2, es⟩
      rw [es]
      exact ⟨fun _ => sameR e2 e1, fun z => absurd (hx2.b.2.mp z) k1⟩
theorem pr_come {N : Nat} {σ : sm_S} (a1 a2 : Int32) (h : tie True N σ (σ 169)) (hj : jj N (σ 169)) (hx : jx (σ 169)) (hN : N < 1999000000) : prC j_A_come j_M_come [.ref 42, .int a1, .int a2] [.ref 0, .int a1, .int a2] N σ := by
  by_cases k1 : 0 ≤ a1.toInt ∧ a1.toInt < 8
  · obtain ⟨s, hm⟩ := t_of k1.1
    have hs : s < 8 := by omega
    have gS := (h.s.S s hs).sta
    by_cases ok : (0 ≤ a2.toInt ∧ a2.toInt ≤ 2) ∧ σ 169 (2358 + 8 * s + 0) = 0
    · obtain ⟨k2, st⟩ := ok
      have nlt : ¬ a2 < 0 := fun z => by
        rw [t_lt] at z
        have z : _ < (0 : Int) := z
        omega
      have ngt : ¬ 2 < a2 := fun z => by
        rw [t_lt] at z
        have z : (2 : Int) < _ := z
        omega
      have st18 : σ 18 a1.toNatClampNeg = 0 := by rw [t_nat hm, ← gS]; exact st
      obtain ⟨z, rz, cz, hz, -⟩ := p_zbr h.s hx
      have key : ∃ y : Int32, (y = 0 ∨ y = 1) ∧ (a2 ≠ 2 → y = a2) ∧ (a2 = 2 → y = z) := by
        by_cases q : a2 = 2
        · exact ⟨z, hz, fun w => absurd q w, fun _ => rfl⟩
        · refine ⟨a2, ?_, fun _ => rfl, fun w => absurd w q⟩
          rcases (show a2.toInt = 0 ∨ a2.toInt = 1 ∨ a2.toInt = 2 by omega) with w | w | w
          · exact Or.inl (t_inj w)
          · exact Or.inr (t_inj w)
          · exact absurd (t_inj w) q
      obtain ⟨y, hy, y1, y2⟩ := key
      obtain ⟨v', c', ro, co, t', j', x'⟩ := p_on y h hj hx (by omega) hm hs st hy
      refine ⟨y, v', N + 1, by omega, j', x', ?_, fun σ2 e2 u2 => ?_⟩
      · refine f_A_come a1 a2 σ _ ((nw0 (e_isSpanX a1 σ)).int ?_)
        rintro x2 σ1 ⟨hx2, es⟩
        rw [es]
        refine ⟨fun z => absurd k1 (hx2.b.1.mp z), fun _ => ⟨fun z => absurd z nlt, fun _ => ⟨fun z => absurd z ngt, fun _ => ⟨t_vp hm hs, fun _ => ⟨fun q => ?_, fun q => ?_⟩, fun z => absurd st18 z⟩⟩⟩⟩
        · rw [← y1 q]
          refine (nwTV co t').void ?_
          rintro σ7 ⟨t7, o7⟩
          exact ⟨_, rfl, rfl, t7, o7⟩
        · have q := Classical.not_not.mp q
          refine (nw0 cz).int ?_
          rintro z1 σ6 ⟨ez1, es6⟩
          rw [es6, ez1, ← y2 q]
          refine (nwTV co t').void ?_
          rintro σ7 ⟨t7, o7⟩
          exact ⟨_, rfl, rfl, t7, o7⟩
      · refine w_M_come a1 a2 σ2 _ (fun σ1 e1 => (c_isSpanX a1 σ1).int ?_)
        obtain ⟨f1, f5⟩ := told1 e2 e1
        rintro x2 σ3 ⟨hx2, es⟩
        rw [es]
        refine ⟨fun z => absurd k1 (hx2.b.1.mp z), fun _ => (c_spanState hm hs σ1).int ?_⟩
        rintro x4 σ4 ⟨hx4, es4⟩
        rw [es4, hx4, f1]
        refine ⟨fun z => absurd st z, fun _ => (c_isInX (L := 0) (H := 2) rfl rfl a2 σ1).int ?_⟩
        rintro x5 σ5 ⟨hx5, es5⟩
        rw [es5]
        refine ⟨fun _ => ⟨fun q => ?_, fun q => ?_⟩, fun z => absurd (hx5.b.2.mpr k2) z⟩
        · rw [← y1 q]
          refine (ro σ1 f1).int ?_
          rintro z1 σ6 ⟨ez1, es6⟩
          rw [ez1]
          exact pubR f5 es6
        · have q := Classical.not_not.mp q
          refine (rz.s f1).int ?_
          rintro z1 σ6 ⟨ez1, es6⟩
          rw [es6, ez1, ← y2 q]
          refine (ro σ1 f1).int ?_
          rintro z2 σ7 ⟨ez2, es7⟩
          rw [ez2]
          exact pubR f5 es7
    · refine ⟨-1, σ 169, N, by omega, hj, hx, ?_, fun σ2 e2 _ => ?_⟩
      · refine f_A_come a1 a2 σ _ ((nw0 (e_isSpanX a1 σ)).int ?_)
        rintro x2 σ1 ⟨hx2, es⟩
        rw [es]
        refine ⟨fun z => absurd k1 (hx2.b.1.mp z), fun _ => ⟨fun _ => sameC h, fun n1 => ⟨fun _ => sameC h, fun n2 => ⟨t_vp hm hs, fun z => absurd ⟨?_, ?_⟩ ok, fun _ => sameC h⟩⟩⟩⟩
        · rw [t_lt] at n1 n2
          have n1 : ¬ _ < (0 : Int) := n1
          have n2 : ¬ (2 : Int) < _ := n2
          omega
        · rw [t_nat hm, ← gS] at z
          exact z
      · refine w_M_come a1 a2 σ2 _ (fun σ1 e1 => (c_isSpanX a1 σ1).int ?_)
        obtain ⟨f1, f5⟩ := told1 e2 e1
        rintro x2 σ3 ⟨hx2, es⟩
        rw [es]
        refine ⟨fun z => absurd k1 (hx2.b.1.mp z), fun _ => (c_spanState hm hs σ1).int ?_⟩
        rintro x4 σ4 ⟨hx4, es4⟩
        rw [es4, hx4, f1]
        refine ⟨fun _ => sameR e2 e1, fun q => (c_isInX (L := 0) (H := 2) rfl rfl a2 σ1).int ?_⟩
        rintro x5 σ5 ⟨hx5, es5⟩
        rw [es5]
        exact ⟨fun z => absurd ⟨hx5.b.2.mp z, Classical.not_not.mp q⟩ ok, fun _ => sameR e2 e1⟩
  · refine ⟨-1, σ 169, N, by omega, hj, hx, ?_, fun σ2 e2 _ => ?_⟩
    · refine f_A_come a1 a2 σ _ ((nw0 (e_isSpanX a1 σ)).int ?_)
      rintro x2 σ1 ⟨hx2, es⟩
      rw [es]
      exact ⟨fun _ => sameC h, fun z => absurd (hx2.b.2.mp z) k1⟩
    · refine w_M_come a1 a2 σ2 _ (fun σ1 e1 => (c_isSpanX a1 σ1).int ?_)
      rintro x2 σ3 ⟨hx2, es⟩
      rw [es]
      exact ⟨fun _ => sameR e2 e1, fun z => absurd (hx2.b.2.mp z) k1⟩
end
section
/-! ===== the simulation: byTurns, tick ===== -/
def re (M : sm_M) (pc : Nat) (ls : List Value) (v : Nat → Int32) (x : Int32) (v' : Nat → Int32) : Prop := ∀ σ : sm_S, σ 1 = v → xE xM M pc ls [] σ (sm_I (fun y σ' => y = x ∧ σ' = sm_set σ 1 v'))
theorem re.det {M : sm_M} {pc : Nat} {ls : List Value} {v v' v2 : Nat → Int32} {x x2 : Int32} (h : re M pc ls v x v') (h2 : re M pc ls v x2 v2) : x2 = x ∧ v2 = v' := by
  obtain ⟨n, r, σ', -, ⟨y, h3, h4, h5⟩, z, h6, h7, h8⟩ := (h (rz v) s_at).and (h2 (rz v) s_at)
  rw [h3] at h6
  cases h6
  exact ⟨h7.symm.trans h4, rz_eq (h5.symm.trans h8)⟩
theorem l_turns {a1 : Int32} {n : Nat} (h1 : a1.toInt = n) (hn : n ≤ 8) : ∀ (d k N : Nat) (a2 : Int32) (v4 : Value) (σ : sm_S) (v : Nat → Int32), tie True N σ v → jj N v → jx v → a2.toInt = k → k + d = n → N + d < 1999000000 → ∃ y v' N', re m_M_byTurns 20 [.ref 0, .int a1, .int a2] v y v' ∧ jj N' v' ∧ jx v' ∧ N' ≤ N + d ∧ xE xF m_A_byTurns 17 [.ref 42, .int a1, .int a2, .int a2, v4] [] σ (sm_I (fun x σ' => x = y ∧ tie True N' σ' v' ∧ ∀ a, 42 ≤ a → σ' a = σ a)) := by
  intro d
  induction d with
  | zero =>
    intro k N a2 v4 σ v h hj hx h2 hk hN
    have le : a1 ≤ a2 := by
      rw [t_le, h1, h2]
      omega
    refine ⟨a2, v, N, fun σ2 e => w_M_byTurns_20 a1 a2 σ2 _ ⟨fun _ => ⟨_, rfl, rfl, by rw [← e, s_id]⟩, fun z => absurd le z⟩, hj, hx, by omega, f_A_byTurns_17 a1 a2 a2 v4 σ _ ⟨fun _ => ⟨_, rfl, rfl, h, fun _ _ => rfl⟩, fun z => absurd le z⟩⟩
  | succ d ih =>
    intro k N a2 v4 σ v h hj hx h2 hk hN
    have nle : ¬ a1 ≤ a2 := by
      rw [t_le, h1, h2]
      omega
    have h2' : (a2 + 1).toInt = ((k + 1 : Nat) : Int) := by
      rw [t_add h2 (y := 1) rfl (by omega) (by omega)]
      omega
    obtain ⟨x, rx, cx, hxx⟩ := p_turn h.s
    rcases hxx with x1 | ⟨s, hs, hxs, h0⟩
    · refine ⟨a2, v, N, fun σ2 e => w_M_byTurns_20 a1 a2 σ2 _ ⟨fun z => absurd z nle, fun _ => (rx.s e).int ?_⟩, hj, hx, by omega, f_A_byTurns_17 a1 a2 a2 v4 σ _ ⟨fun z => absurd z nle, fun _ => (nw0 cx).int ?_⟩⟩
      · rintro y1 σ1 ⟨ey1, es1⟩
        rw [ey1, es1]
        exact ⟨fun _ => ⟨_, rfl, rfl, by rw [← e, s_id]⟩, fun z => absurd x1 z⟩
      · rintro y1 σ1 ⟨ey1, es1⟩
        rw [ey1, es1]
        exact ⟨fun z => absurd x1 z, fun _ => ⟨_, rfl, rfl, h, fun _ _ => rfl⟩⟩
    · obtain ⟨z, rz, cz, hz, -⟩ := p_zbr h.s hx
      obtain ⟨v1, c1, ro, co, t1, j1, x1⟩ := p_on z h hj hx (by omega) hxs hs h0 hz
      have xn : x ≠ -1 := ne_m1 hxs
      obtain ⟨y, v', N', R1, j', x', n', -⟩ := ih (k + 1) (N + 1) (a2 + 1) v4 c1 v1 t1 j1 x1 h2' (by omega) (by omega)
      refine ⟨y, v', N', fun σ2 e => w_M_byTurns_20 a1 a2 σ2 _ ⟨fun z => absurd z nle, fun _ => (rx.s e).int ?_⟩, j', x', by omega, f_A_byTurns_17 a1 a2 a2 v4 σ _ ⟨fun z => absurd z nle, fun _ => (nw0 cx).int ?_⟩⟩
      · rintro y1 σ1 ⟨ey1, es1⟩
        rw [ey1, es1]
        refine ⟨fun z => absurd z xn, fun _ => (rx.s e).int ?_⟩
        rintro y2 σ3 ⟨ey2, es3⟩
        rw [ey2, es3]
        refine (rz.s e).int ?_
        rintro y3 σ4 ⟨ey3, es4⟩
        rw [ey3, es4]
        refine (ro σ2 e).int ?_
        rintro y4 σ5 ⟨ey4, es5⟩
        rw [es5]
        refine (R1 (sm_set σ2 1 v1) s_at).mono ?_
        rintro r0 σ6 ⟨y5, q0, q1, q2⟩
        exact ⟨y5, q0, q1, by rw [q2, s_ss]⟩
      · rintro y1 σ1 ⟨ey1, es1⟩
        rw [ey1, es1]
        refine ⟨fun _ => (nw0 cz).int ?_, fun z => absurd xn z⟩
        rintro y3 σ4 ⟨ey3, es4⟩
        rw [ey3, es4]
        refine (nwTV co t1).void ?_
        rintro σ5 ⟨t5, o5⟩
        obtain ⟨y5, v5, N5, R5, j5, x5, n5, C5⟩ := ih (k + 1) (N + 1) (a2 + 1) (.int x) σ5 v1 t5 j1 x1 h2' (by omega) (by omega)
        obtain ⟨q1, q2⟩ := R1.det R5
        rw [q1, q2] at C5
        rw [q2] at j5
        have q3 : N5 = N' := by
          have w1 := j5.2.2
          have w2 := j'.2.2
          omega
        rw [q3] at C5
        refine C5.mono ?_
        rintro r0 σ6 ⟨y6, g0, g1, g2, g3⟩
        exact ⟨y6, g0, g1, g2, fun a ha => (g3 a ha).trans (o5 a ha)⟩
theorem pr_byTurns {N : Nat} {σ : sm_S} (a1 : Int32) (h : tie True N σ (σ 169)) (hj : jj N (σ 169)) (hx : jx (σ 169)) (hN : N < 1998000000) : prC j_A_byTurns j_M_byTurns [.ref 42, .int a1] [.ref 0, .int a1] N σ := by
  have b1 : a1 < 1 ↔ a1.toInt < 1 := by rw [t_lt]; exact Iff.rfl
  have b8 : a1 ≤ 8 ↔ a1.toInt ≤ 8 := by rw [t_le]; exact Iff.rfl
  by_cases k1 : 1 ≤ a1.toInt ∧ a1.toInt ≤ 8
  · obtain ⟨n, hm⟩ := t_of (x := a1) (by omega)
    obtain ⟨y, v', N', R1, j', x', n', C⟩ := l_turns hm (by omega) n 0 N 0 (.int 0) σ (σ 169) h hj hx rfl (by omega) (by omega)
    obtain ⟨y5, v5, N5, R5, j5, x5, n5, C5⟩ := l_turns hm (by omega) n 0 N 0 .null σ (σ 169) h hj hx rfl (by omega) (by omega)
    refine ⟨y5, v5, N5, by omega, j5, x5, ?_, fun σ2 e2 _ => ?_⟩
    · exact f_A_byTurns a1 σ _ ⟨fun z => by rw [b1] at z; omega, fun _ => ⟨fun _ => C5, fun z => absurd (b8.mpr k1.2) z⟩⟩
    · refine w_M_byTurns a1 σ2 _ (fun σ1 e1 => (c_isInX (L := 1) (H := 8) rfl rfl a1 σ1).int ?_)
      obtain ⟨f1, f5⟩ := told1 e2 e1
      rintro x2 σ3 ⟨hx2, es⟩
      rw [es]
      refine ⟨fun _ => (R5 σ1 f1).mono ?_, fun z => absurd (hx2.b.2.mpr k1) z⟩
      rintro r0 σ7 ⟨z2, rfl, hz2, hs7⟩
      rw [hz2]
      exact pubR f5 hs7
  · refine ⟨-1, σ 169, N, by omega, hj, hx, ?_, fun σ2 e2 _ => ?_⟩
    · exact f_A_byTurns a1 σ _ ⟨fun _ => sameC h, fun z => ⟨fun w => absurd ⟨by rw [b1] at z; omega, b8.mp w⟩ k1, fun _ => sameC h⟩⟩
    · refine w_M_byTurns a1 σ2 _ (fun σ1 e1 => (c_isInX (L := 1) (H := 8) rfl rfl a1 σ1).int ?_)
      rintro x2 σ3 ⟨hx2, es⟩
      rw [es]
      exact ⟨fun z => absurd (hx2.b.2.mp z) k1, fun _ => sameR e2 e1⟩
theorem l_tks {a1 : Int32} {n : Nat} (h1 : a1.toInt = n) (hn : n ≤ 60) : ∀ (d k N : Nat) (a2 : Int32) (σ : sm_S) (v : Nat → Int32), tie True N σ v → jj N v → jx v → a2.toInt = k → k + d = n → N + 9600 * d + 20000 < 1999990000 → ∃ y v' N', re m_M_tick 34 [.ref 0, .int a1, .int a2] v y v' ∧ jj N' v' ∧ jx v' ∧ N' ≤ N + 9600 * d ∧ xE xF m_A_tick 30 [.ref 42, .int a1, .int a2] [] σ (sm_I (fun x σ' => x = y ∧ tie True N' σ' v' ∧ ∀ a, 42 ≤ a → σ' a = σ a)) := by
  intro d
  induction d with
  | zero =>
    intro k N a2 σ v h hj hx h2 hk hN
    have le : a1 ≤ a2 := by
      rw [t_le, h1, h2]
      omega
    refine ⟨v 4, v, N, fun σ2 e => w_M_tick_34 a1 a2 σ2 _ ⟨fun _ => ⟨t_vp (n := 4) rfl (by decide), _, rfl, by rw [e]; rfl, by rw [← e, s_id]⟩, fun z => absurd le z⟩, hj, hx, by omega, f_A_tick_30 a1 a2 σ _ ⟨fun _ => ⟨_, rfl, h.s.N.tic, h, fun _ _ => rfl⟩, fun z => absurd le z⟩⟩
  | succ d ih =>
    intro k N a2 σ v h hj hx h2 hk hN
    have nle : ¬ a1 ≤ a2 := by
      rw [t_le, h1, h2]
      omega
    have h2' : (a2 + 1).toInt = ((k + 1 : Nat) : Int) := by
      rw [t_add h2 (y := 1) rfl (by omega) (by omega)]
      omega
    obtain ⟨v1, c1, N1, ro, co, t1, j1, x1, n1⟩ := p_ticks h hj hx (by omega)
    obtain ⟨y, v', N', R1, j', x', n', -⟩ := ih (k + 1) N1 (a2 + 1) c1 v1 t1 j1 x1 h2' (by omega) (by omega)
    refine ⟨y, v', N', fun σ2 e => w_M_tick_34 a1 a2 σ2 _ ⟨fun z => absurd z nle, fun _ => (ro σ2 e).void ?_⟩, j', x', by omega, f_A_tick_30 a1 a2 σ _ ⟨fun z => absurd z nle, fun _ => (nwTV co t1).void ?_⟩⟩
    · rintro σ5 es5
      rw [es5]
      refine (R1 (sm_set σ2 1 v1) s_at).mono ?_
      rintro r0 σ6 ⟨y5, q0, q1, q2⟩
      exact ⟨y5, q0, q1, by rw [q2, s_ss]⟩
    · rintro σ5 ⟨t5, o5⟩
      obtain ⟨y5, v5, N5, R5, j5, x5, n5, C5⟩ := ih (k + 1) N1 (a2 + 1) σ5 v1 t5 j1 x1 h2' (by omega) (by omega)
      obtain ⟨q1, q2⟩ := R1.det R5
      rw [q1, q2] at C5
      rw [q2] at j5
      have q3 : N5 = N' := by
        have w1 := j5.2.2
        have w2 := j'.2.2
        omega
      rw [q3] at C5
      refine C5.mono ?_
      rintro r0 σ6 ⟨y6, g0, g1, g2, g3⟩
      exact ⟨y6, g0, g1, g2, fun a ha => (g3 a ha).trans (o5 a ha)⟩
theorem pr_tick {N : Nat} {σ : sm_S} (a1 : Int32) (h : tie True N σ (σ 169)) (hj : jj N (σ 169)) (hx : jx (σ 169)) (hN : N < 1998000000) : prC j_A_tick j_M_tick [.ref 42, .int a1] [.ref 0, .int a1] N σ := by
  have b1 : a1 < 1 ↔ a1.toInt < 1 := by rw [t_lt]; exact Iff.rfl
  have b8 : 60 < a1 ↔ 60 < a1.toInt := by rw [t_lt]; exact Iff.rfl
  have e4 : σ 0 7 = σ 169 4 := h.s.N.tic
  by_cases k1 : 1 ≤ a1.toInt ∧ a1.toInt ≤ 60
  · by_cases k2 : σ 169 4 + a1 ≤ 9999
    · obtain ⟨n, hm⟩ := t_of (x := a1) (by omega)
      obtain ⟨y5, v5, N5, R5, j5, x5, n5, C5⟩ := l_tks hm (by omega) n 0 N 0 σ (σ 169) h hj hx rfl (by omega) (by omega)
      refine ⟨y5, v5, N5, by omega, j5, x5, ?_, fun σ2 e2 _ => ?_⟩
      · refine f_A_tick a1 σ _ ⟨fun z => by rw [b1] at z; omega, fun _ => ⟨fun z => by rw [b8] at z; omega, fun _ => ⟨fun _ => C5, fun z => absurd ?_ z⟩⟩⟩
        rw [e4]
        exact k2
      · refine w_M_tick a1 σ2 _ (fun σ1 e1 => (c_isInX (L := 1) (H := 60) rfl rfl a1 σ1).int ?_)
        obtain ⟨f1, f5⟩ := told1 e2 e1
        rintro x2 σ3 ⟨hx2, es⟩
        rw [es]
        refine ⟨fun z => absurd k1 (hx2.b.1.mp z), fun _ => ⟨t_vp (n := 4) rfl (by decide), fun _ => (R5 σ1 f1).mono ?_, fun z => absurd ?_ z⟩⟩
        · rintro r0 σ7 ⟨z2, rfl, hz2, hs7⟩
          rw [hz2]
          exact pubR f5 hs7
        · rw [f1]
          exact k2
    · refine ⟨-1, σ 169, N, by omega, hj, hx, ?_, fun σ2 e2 _ => ?_⟩
      · refine f_A_tick a1 σ _ ⟨fun _ => sameC h, fun _ => ⟨fun _ => sameC h, fun _ => ⟨fun z => absurd ?_ k2, fun _ => sameC h⟩⟩⟩
        rw [e4] at z
        exact z
      · refine w_M_tick a1 σ2 _ (fun σ1 e1 => (c_isInX (L := 1) (H := 60) rfl rfl a1 σ1).int ?_)
        obtain ⟨f1, f5⟩ := told1 e2 e1
        rintro x2 σ3 ⟨hx2, es⟩
        rw [es]
        refine ⟨fun _ => sameR e2 e1, fun _ => ⟨t_vp (n := 4) rfl (by decide), fun z => absurd ?_ k2, fun _ => sameR e2 e1⟩⟩
        rw [f1] at z
        exact z
  · refine ⟨-1, σ 169, N, by omega, hj, hx, ?_, fun σ2 e2 _ => ?_⟩
    · refine f_A_tick a1 σ _ ⟨fun _ => sameC h, fun z => ⟨fun _ => sameC h, fun w => absurd ⟨?_, ?_⟩ k1⟩⟩
      · rw [b1] at z
        omega
      · rw [b8] at w
        omega
    · refine w_M_tick a1 σ2 _ (fun σ1 e1 => (c_isInX (L := 1) (H := 60) rfl rfl a1 σ1).int ?_)
      rintro x2 σ3 ⟨hx2, es⟩
      rw [es]
      exact ⟨fun _ => sameR e2 e1, fun z => absurd (hx2.b.2.mp z) k1⟩
end
section
/-! ===== the simulation: go, giveUp ===== -/
theorem p_off {g : Prop} {N s : Nat} {c : sm_S} {v : Nat → Int32} {a1 : Int32} (h : tie g N c v) (hj : jj N v) (hx : jx v) (hN : N + 7 < 2000000000) (h1 : a1.toInt = s) (hs : s < 8) (hg : c 18 s ≠ 0) : ∃ v' c' N', rd j_M_fails [.ref 0, .int a1, .int 3] v v' ∧ xC xD j_G_callOff [.ref 41, .int a1] c (sm_V (fun σ' => σ' = c')) ∧ tie g N' c' v' ∧ jj N' v' ∧ jx v' ∧ N' ≤ N + 7 := by
  have gs := h.s.S s hs
  have st0 : v (2358 + 8 * s + 0) ≠ 0 := by rw [gs.sta]; exact hg
  by_cases h6 : v (2358 + 8 * s + 6) = 0
  · obtain ⟨c', e1, t1, j1, -⟩ := p_fail 3 h hj (by omega) h1 hs h6 hg
    have c24 : c 24 s = -1 := by
      have z := gs.lea
      rw [h6] at z
      have z2 : c 24 s = (c 24 s + 1) - 1 := by rw [Int32.add_sub_cancel]
      rw [z2, ← z]
      rfl
    refine ⟨_, c', N + 1, r_fails h1 hs (r_stays0 h1 hs h6) h.n, ?_, t1, j1, jx_fl hx hs st0, by omega⟩
    refine d_G_callOff a1 c _ ⟨t_vp h1 hs, fun _ => e1.void ?_, fun q => absurd (by rw [t_nat h1]; exact c24) q⟩
    rintro _ rfl
    exact ⟨rfl, rfl⟩
  · obtain ⟨n, o, fr, to, hn, e6, h0, e2, ho, e1, hfr, hal, hfs, et, hto, halt, h3⟩ := way_of hj hs h6
    obtain ⟨L, h9⟩ := hj.L hn
    have hle := al_le ho hfr hal
    have hlt := al_le ho hto halt
    obtain ⟨hL6, hline⟩ := line_of hj hn e2 hle h9
    obtain ⟨p, hp, hp4⟩ := hj.pt (s := to / 32) (by omega)
    obtain ⟨gb, -⟩ := (h.s.B n hn).al h0
    have c24 : (c 24 s).toInt = n := m1_add (by rw [← gs.lea]; exact e6) (by omega)
    have c14 : (c 14 n).toInt = to := m1_add (by rw [← gb.tgt]; exact et) (by omega)
    have c10 : (c 10 n).toInt = o := by rw [← gb.ord]; exact e2
    have hpc : (c 20 (to / 32)).toInt = p := by rw [← (h.s.S (to / 32) (by omega)).par]; exact hp
    obtain ⟨x, hsb, sbr⟩ := pick (e_shutBits2 (a1 := c 14 n / (32 : Int32)) (n := to / 32) (t_div c14 (b := 32) rfl (by decide)) (by omega) c hpc hp4)
    have t1 : tie g N (ewC (lgC c to o x) n s) (rlF v n s to o) := by
      refine h.to (sim_rel h.s h.b hn hs h0 et e2 ho hto halt hp hsb) (fun k k1 k2 => ?_) (rlF_o (by omega) (by omega) (by omega) (by omega)) (fun i hi => rlF_o (by omega) (by omega) (by omega) (by omega)) (fun b hb => ?_)
      · unfold ewC
        rw [s_ne (by omega), s_ne (by omega), s_ne (by omega), lgC_o (by omega)]
      · obtain ⟨o1, f1, z1, z2, z3, z4, z5, ⟨w, z6, z6'⟩, ⟨q, z7, z7'⟩, z8⟩ := h.b b hb
        have rk : ∀ k, k < 16 → k ≠ 6 → k ≠ 7 → rlF v n s to o (786 + 16 * b + k) = v (786 + 16 * b + k) := fun k h1 h2 h3 => rlF_o (by omega) (by omega) (by omega) (by omega)
        by_cases e : b = n
        · subst e
          have r6 : rlF v b s to o (786 + 16 * b + 6) = 0 := by
            unfold rlF
            rw [u_ne (by omega), u_ne (by omega), u_at]
          have r7 : rlF v b s to o (786 + 16 * b + 7) = 0 := by
            unfold rlF
            rw [u_ne (by omega), u_at]
          exact ⟨o1, f1, by rw [rk 2 (by decide) (by decide) (by decide)]; exact z1, z2, by rw [rk 1 (by decide) (by decide) (by decide)]; exact z3, z4, z5, ⟨w, by rw [rk 4 (by decide) (by decide) (by decide)]; exact z6, z6'⟩, ⟨0, by rw [r6]; rfl, Or.inl rfl⟩, by rw [r7]; decide⟩
        · refine bk_cong (fun k k1 _ _ _ => rlF_o (by omega) (by omega) (by omega) (by omega)) (h.b b hb)
    have r9 : rlF v n s to o (786 + 16 * n + 9) = v (786 + 16 * n + 9) := rlF_o (by omega) (by omega) (by omega) (by omega)
    have lnE : lnV (rlF v n s to o) n L = lnV v n L := lnV_cg (fun k hk => rlF_o (by omega) (by omega) (by omega) (by omega))
    have hb24 := c24
    obtain ⟨v2, c2, rw2, rc2, t2, -, fx1, fx2⟩ := p_serve (b := c 24 s) (L := L) (fr := fr) t1 (by omega) hn c24 (by rw [r9]; exact h9) (by rw [rlF_o (by omega) (by omega) (by omega) (by omega)]; exact h0) (by rw [rlF_o (by omega) (by omega) (by omega) (by omega)]; exact e1) (fun t ht => by
      rw [lnE] at ht
      obtain ⟨m, a, r1, r2, r3, r4⟩ := hline t ht
      exact ⟨m, a, r1, r2, by rw [rlF_o (by omega) (by omega) (by omega) (by omega)]; exact r3, r4⟩)
    have rst : rd j_M_staysBack [.ref 0, .int a1] v v2 := fun σ e => by
      obtain ⟨p6, q6⟩ := ixS (k := 6) (j := 6) h1 rfl (by omega)
      refine w_M_staysBack a1 σ _ ((c_spanAt a1 σ).int ?_)
      rintro _ σ ⟨rfl, rfl⟩
      refine ⟨p6, ?_⟩
      rw [q6, e]
      have en : (v (2358 + 8 * s + 6) - 1).toInt = n := t_m1 e6 (by omega)
      have ecn : v (2358 + 8 * s + 6) - 1 = c 24 s := by
        rw [gs.lea, Int32.add_sub_cancel]
      refine ⟨fun _ => (c_of (k := 6) (j := 6) en rfl (by omega) σ).int ?_, fun q => absurd (ne_m1 en) q⟩
      rintro _ σ ⟨rfl, rfl⟩
      rw [e]
      have := l_stays2 h1 hs (a2 := v (2358 + 8 * s + 6) - 1) en hn (a3 := v (786 + 16 * n + 6) - 1) (t_m1 et (by omega)) ho hlt e2 (by rw [ecn]; exact rw2) (2 ^ o) 0 0 σ (by rw [lvF_0]; exact e) rfl (by omega)
      exact this
    obtain ⟨w, N', ew, jw, k1, k2, k3, k4⟩ := rst.det (c_staysBack (N := N) h1 hs (by omega) (rz v) (by rw [rz_at]; exact hj))
    rw [rz_eq ew] at jw k3
    have eN : N' = N + L := by have := t2.n; have := jw.2.2; omega
    subst eN
    have st2 : v2 (2358 + 8 * s + 0) = 3 := by
      rw [fx1 (2358 + 8 * s + 0) (Or.inr (Or.inr (Or.inr (Or.inr ⟨by omega, by omega⟩)))) (by omega), rlF_o (by omega) (by omega) (by omega) (by omega)]
      exact h3
    have lo : ∀ i, i < 4 → v2 i = v i := fun i i1 => by
      rw [fx1 i (Or.inl (Or.inl (by omega))) (by omega), rlF_o (by omega) (by omega) (by omega) (by omega)]
    have x2 : jx v2 := by
      refine hx.re (n := n) (fun b k q1 q2 q3 => ?_) (fun _ => ⟨fun _ => ?_, fun to2 fr2 o2 y1 _ _ => ?_⟩) (fun _ => ?_) (fun s' hs' z => ?_) (lo 0 (by omega)) (fun i i1 i2 => lo i i2)
      · rw [fx2 b k q1 (by omega) (by omega) (by omega), rlF_o (by omega) (by omega) (by omega) (by omega)]
      · rw [fx2 n 7 hn (by omega) (by omega) (by omega)]
        unfold rlF
        rw [u_ne (by omega), u_at]
      · rw [fx2 n 6 hn (by omega) (by omega) (by omega)] at y1
        have z : rlF v n s to o (786 + 16 * n + 6) = 0 := by
          unfold rlF
          rw [u_ne (by omega), u_ne (by omega), u_at]
        rw [z] at y1
        have y1 : (0 : Int) = _ := y1
        omega
      · rw [fx2 n 3 hn (by omega) (by omega) (by omega), rlF_o (by omega) (by omega) (by omega) (by omega)]
        exact hx.2.1 n hn h0
      · have w0 : v2 (2358 + 8 * s' + 0) = v (2358 + 8 * s' + 0) := by
          rw [fx1 (2358 + 8 * s' + 0) (Or.inr (Or.inr (Or.inr (Or.inr ⟨by omega, by omega⟩)))) (by omega), rlF_o (by omega) (by omega) (by omega) (by omega)]
        refine ⟨fun y => z (w0.trans y), ?_⟩
        rw [fx1 (2358 + 8 * s' + 1) (Or.inr (Or.inr (Or.inr (Or.inr ⟨by omega, by omega⟩)))) (by omega), rlF_o (by omega) (by omega) (by omega) (by omega)]
    obtain ⟨c', ec', t3, j3, -⟩ := p_fail (a1 := a1) 3 t2 jw (by omega) h1 hs k3 (by rw [← (t2.s.S s hs).sta, st2]; decide)
    refine ⟨_, c', N + L + 1, r_fails h1 hs rst t2.n, ?_, t3, j3, jx_fl x2 hs (by rw [st2]; decide), by omega⟩
    refine d_G_callOff a1 c _ ⟨t_vp h1 hs, fun q => ?_, fun _ => ?_⟩
    · rw [t_nat h1] at q
      exact absurd q (ne_m1 c24)
    · rw [t_nat h1, t_nat c24]
      refine ⟨t_vp c24 hn, (c_size c24 hn c).int ?_⟩
      rintro y1 σ1 ⟨ey1, es1⟩
      rw [ey1, es1]
      refine ⟨by decide, ?_⟩
      refine sbr.int ?_
      rintro y2 σ2 ⟨ey2, es2⟩
      rw [ey2, es2]
      refine (e_letGo2 c14 (t_pow c10 (by omega)) ho hlt x c).void ?_
      rintro _ rfl
      refine (e_endWay2 h1 hs c24 hn _).void ?_
      rintro _ rfl
      refine rc2.void ?_
      rintro _ rfl
      refine ec'.void ?_
      rintro _ rfl
      exact ⟨rfl, rfl⟩
theorem rp.jj {j N D : Nat} {as : List Value} {v u v' : Nat → Int32} {r : Int32} (h : rp j as v u r v') (h2 : ∀ σ : sm_S, σ 1 = v → xC xM j as σ (sm_I (pub N D σ))) : ∃ N', jj N' v' ∧ N ≤ N' ∧ N' ≤ N + D := by
  have e : sm_set (rz v) 4 u 1 = v := by rw [s_ne (by decide)]; exact rz_at v
  obtain ⟨M, -, n, r1, σ', -, ⟨y, h3, h4, h5, h6⟩, z, h7, w, N', h8, h9, h10, h11⟩ := (h (sm_set (rz v) 4 u) e s_at).and (h2 (sm_set (rz v) 4 u) e)
  have ew : v' = w := by rw [← h5, h8, s_at]
  rw [ew]
  exact ⟨N', h9, h10, h11⟩
theorem nwTP {g : Prop} {N j : Nat} {as : List Value} {σ : sm_S} {P : sm_S → Prop} {v' : Nat → Int32} (h : xC xD j as σ (sm_V P)) (t : ∀ c', P c' → tie g N c' v') : xC xF j as σ (sm_V (fun σ' => tie g N σ' v' ∧ ∀ a, 42 ≤ a → σ' a = σ a)) := by
  refine sm_C.mono (sm_cv_ids as ▸ x_up shDF h) ?_
  rintro r1 σ' ⟨r2, τ, rfl, ⟨rfl, hP⟩, hs, ho⟩
  exact ⟨rfl, (t τ hP).eq (eqT.st hs) (fun _ _ => rfl), fun a ha => off_out (n := 42) rfl ho (fun k hk z => by have z : k = a := z; omega)⟩
theorem e_isGoing2 {a1 : Int32} {n : Nat} (h1 : a1.toInt = n) (hn : n < 8) (σ : sm_S) : xC xD j_S_isGoing [.ref 17, .int a1] σ (sm_I (fun x σ' => isYes (σ 18 n = 2 ∨ σ 18 n = 3) x ∧ σ' = σ)) := by
  refine d_S_isGoing a1 σ _ ?_
  rw [t_nat h1]
  exact ⟨t_vp h1 hn, fun q => ⟨Or.inr rfl, _, rfl, Or.inl ⟨rfl, Or.inl q⟩, rfl⟩, fun q => ⟨t_vp h1 hn, fun q2 => ⟨Or.inl rfl, _, rfl, Or.inr ⟨rfl, fun z => z.elim q q2⟩, rfl⟩, fun q2 => ⟨Or.inr rfl, _, rfl, Or.inl ⟨rfl, Or.inr (Classical.not_not.mp q2)⟩, rfl⟩⟩⟩
theorem pr_giveUp {N : Nat} {σ : sm_S} (a1 : Int32) (h : tie True N σ (σ 169)) (hj : jj N (σ 169)) (hx : jx (σ 169)) (hN : N < 1998000000) : prC j_A_giveUp j_M_giveUp [.ref 42, .int a1] [.ref 0, .int a1] N σ := by
  by_cases k1 : 0 ≤ a1.toInt ∧ a1.toInt < 8
  · obtain ⟨s, hm⟩ := t_of k1.1
    have hs : s < 8 := by omega
    have gS := (h.s.S s hs).sta
    obtain ⟨st, pt, at', q, s1, s2, -⟩ := hj.2.1.2.2.1 s hs
    have lt2 : σ 169 (2358 + 8 * s + 0) < 2 ↔ st < 2 := by
      rw [t_lt, s1]
      show (st : Int) < (2 : Int) ↔ _
      omega
    have g23 : (σ 18 s = 2 ∨ σ 18 s = 3) ↔ 2 ≤ st := by
      rw [← gS]
      refine ⟨fun z => ?_, fun z => ?_⟩
      · rcases z with z | z
        · rw [z] at s1
          have s1 : (2 : Int) = _ := s1
          omega
        · rw [z] at s1
          have s1 : (3 : Int) = _ := s1
          omega
      · rcases (show st = 2 ∨ st = 3 by omega) with y | y
        · exact Or.inl (t_inj (by rw [s1, y]; rfl))
        · exact Or.inr (t_inj (by rw [s1, y]; rfl))
    by_cases go : 2 ≤ st
    · have ne0 : σ 18 s ≠ 0 := fun z => by
        rw [← gS] at z
        rw [z] at s1
        have s1 : (0 : Int) = _ := s1
        omega
      obtain ⟨v', c', N', ro, co, t', j', x', n'⟩ := p_off h hj hx (by omega) hm hs ne0
      refine ⟨1, v', N', by omega, j', x', ?_, fun σ2 e2 _ => ?_⟩
      · refine f_A_giveUp a1 σ _ ((nw0 (e_isSpanX a1 σ)).int ?_)
        rintro x2 σ1 ⟨hx2, es⟩
        rw [es]
        refine ⟨fun z => absurd k1 (hx2.b.1.mp z), fun _ => (nw0 (e_isGoing2 hm hs σ)).int ?_⟩
        rintro x3 σ3 ⟨hx3, es3⟩
        rw [es3]
        refine ⟨fun _ => (nwTV co t').void ?_, fun z => absurd (hx3.b.2.mpr (g23.mpr go)) z⟩
        rintro σ7 ⟨t7, o7⟩
        exact ⟨Or.inr rfl, _, rfl, rfl, t7, o7⟩
      · refine w_M_giveUp a1 σ2 _ (fun σ1 e1 => (c_isSpanX a1 σ1).int ?_)
        obtain ⟨f1, f5⟩ := told1 e2 e1
        rintro x2 σ3 ⟨hx2, es⟩
        rw [es]
        refine ⟨fun z => absurd k1 (hx2.b.1.mp z), fun _ => (c_isGoing hm hs σ1).int ?_⟩
        rintro x4 σ4 ⟨hx4, es4⟩
        rw [es4]
        rw [f1] at hx4
        have x41 : x4 = 1 := by
          rcases hx4 with ⟨-, w⟩ | ⟨w, -⟩
          · have := lt2.mp w
            omega
          · exact w
        refine ⟨fun _ => (ro σ1 f1).void ?_, fun z => absurd (by rw [x41]; decide) z⟩
        rintro σ7 es7
        exact ⟨Or.inr rfl, pubR f5 es7⟩
    · refine ⟨0, σ 169, N, by omega, hj, hx, ?_, fun σ2 e2 _ => ?_⟩
      · refine f_A_giveUp a1 σ _ ((nw0 (e_isSpanX a1 σ)).int ?_)
        rintro x2 σ1 ⟨hx2, es⟩
        rw [es]
        refine ⟨fun z => absurd k1 (hx2.b.1.mp z), fun _ => (nw0 (e_isGoing2 hm hs σ)).int ?_⟩
        rintro x3 σ3 ⟨hx3, es3⟩
        rw [es3]
        exact ⟨fun z => absurd (g23.mp (hx3.b.2.mp z)) go, fun _ => ⟨Or.inl rfl, sameC h⟩⟩
      · refine w_M_giveUp a1 σ2 _ (fun σ1 e1 => (c_isSpanX a1 σ1).int ?_)
        obtain ⟨f1, f5⟩ := told1 e2 e1
        rintro x2 σ3 ⟨hx2, es⟩
        rw [es]
        refine ⟨fun z => absurd k1 (hx2.b.1.mp z), fun _ => (c_isGoing hm hs σ1).int ?_⟩
        rintro x4 σ4 ⟨hx4, es4⟩
        rw [es4]
        rw [f1] at hx4
        have x40 : x4 = 0 := by
          rcases hx4 with ⟨w, -⟩ | ⟨-, w⟩
          · exact w
          · exact absurd (lt2.mpr (by omega)) w
        exact ⟨fun z => absurd x40 z, fun _ => ⟨Or.inl rfl, sameR e2 e1⟩⟩
  · refine ⟨0, σ 169, N, by omega, hj, hx, ?_, fun σ2 e2 _ => ?_⟩
    · refine f_A_giveUp a1 σ _ ((nw0 (e_isSpanX a1 σ)).int ?_)
      rintro x2 σ1 ⟨hx2, es⟩
      rw [es]
      exact ⟨fun _ => ⟨Or.inl rfl, sameC h⟩, fun z => absurd (hx2.b.2.mp z) k1⟩
    · refine w_M_giveUp a1 σ2 _ (fun σ1 e1 => (c_isSpanX a1 σ1).int ?_)
      rintro x2 σ3 ⟨hx2, es⟩
      rw [es]
      exact ⟨fun _ => ⟨Or.inl rfl, sameR e2 e1⟩, fun z => absurd (hx2.b.2.mp z) k1⟩
theorem pr_go {N : Nat} {σ : sm_S} (a1 : Int32) (h : tie True N σ (σ 169)) (hj : jj N (σ 169)) (hx : jx (σ 169)) (hN : N < 1998000000) : prC j_A_go j_M_go [.ref 42, .int a1] [.ref 0, .int a1] N σ := by
  by_cases k1 : 0 ≤ a1.toInt ∧ a1.toInt < 8
  · obtain ⟨s, hm⟩ := t_of k1.1
    have hs : s < 8 := by omega
    have gS := (h.s.S s hs).sta
    obtain ⟨x, rx, cx, hxx⟩ := p_canGo h.s hm hs
    rcases hxx with ⟨x1, on⟩ | x0
    · obtain ⟨nl, hnl, h5l, t1⟩ := (h.to (sim_beg h.s h.b hs on) (fun k k1 k2 => s_ne (by omega)) (by unfold bgF; rw [u_ne (by omega), u_ne (by omega), u_ne (by omega), u_ne (by omega), u_ne (by omega), u_ne (by omega)]) (fun i hi => by unfold bgF; rw [u_ne (by omega), u_ne (by omega), u_ne (by omega), u_ne (by omega), u_ne (by omega), u_ne (by omega)]) (fun b hb => bk_cong (fun k _ _ _ _ => by unfold bgF; rw [u_ne (by omega), u_ne (by omega), u_ne (by omega), u_ne (by omega), u_ne (by omega), u_ne (by omega)]) (h.b b hb))).log (by omega) 0 a1 (a1 - a1 / (2 : Int32) * (2 : Int32))
      have h5' : (σ 34 5).toInt = nl := h5l
      have co := e_Gbegin2 hm hs σ h5' hnl
      have R : rp j_M_go [.ref 0, .int a1] (σ 169) (σ 172) 1 (wrF (bgF (σ 169) s) N 0 a1 (a1 - a1 / (2 : Int32) * (2 : Int32))) := fun σ2 e2 _ => by
        refine w_M_go a1 σ2 _ (fun σ1 e1 => ?_)
        obtain ⟨f1, f5⟩ := told1 e2 e1
        refine (rx.s f1).int ?_
        rintro y1 σ3 ⟨ey1, es3⟩
        rw [ey1, es3, x1]
        refine ⟨fun _ => (c_beginsToGo2 hm hs σ1 (by rw [f1]; exact h.n)).void ?_, fun z => absurd (by decide) z⟩
        rintro σ7 es7
        rw [f1] at es7
        exact ⟨Or.inr rfl, pubR f5 es7⟩
      obtain ⟨N', j', -, n2⟩ := R.jj (N := N) (D := 1) (fun σ2 e2 => c_go a1 σ2 (by rw [e2]; exact hj) (by omega))
      have eN : N' = N + 1 := by
        have w1 := j'.2.2
        have w2 := t1.n
        omega
      rw [eN] at j'
      refine ⟨1, _, N + 1, by omega, j', ?_, ?_, R⟩
      · have old : ∀ i, i < 2422 → i ≠ 5 → (i < 2358 + 8 * s ∨ i = 2358 + 8 * s + 1 ∨ 2358 + 8 * s + 7 ≤ i) → wrF (bgF (σ 169) s) N 0 a1 (a1 - a1 / (2 : Int32) * (2 : Int32)) i = σ 169 i := fun i i1 i2 i3 => by
          rw [wrF_lo i1 i2]
          unfold bgF
          rw [u_ne (by omega), u_ne (by omega), u_ne (by omega), u_ne (by omega), u_ne (by omega), u_ne (by omega)]
        refine hx.cg (fun b k hb hk => old _ (by omega) (by omega) (by omega)) (fun s' hs' z => ⟨?_, ?_⟩) (old 0 (by omega) (by omega) (by omega)) (fun i i1 i2 => old i (by omega) (by omega) (by omega))
        · by_cases q : s' = s
          · rw [q, gS, on]
            decide
          · rw [old _ (by omega) (by omega) (by omega)] at z
            exact z
        · by_cases q : s' = s
          · exact old _ (by omega) (by omega) (by omega)
          · exact old _ (by omega) (by omega) (by omega)
      · refine f_A_go a1 σ _ ((nw0 (e_isSpanX a1 σ)).int ?_)
        rintro x2 σ1 ⟨hx2, es⟩
        rw [es]
        refine ⟨fun z => absurd k1 (hx2.b.1.mp z), fun _ => (nw0 cx).int ?_⟩
        rintro y1 σ3 ⟨ey1, es3⟩
        rw [ey1, es3, x1]
        refine ⟨fun _ => (nwTV co t1).void ?_, fun z => absurd (by decide) z⟩
        rintro σ7 ⟨t7, o7⟩
        exact ⟨Or.inr rfl, _, rfl, rfl, t7, o7⟩
    · refine ⟨0, σ 169, N, by omega, hj, hx, ?_, fun σ2 e2 _ => ?_⟩
      · refine f_A_go a1 σ _ ((nw0 (e_isSpanX a1 σ)).int ?_)
        rintro x2 σ1 ⟨hx2, es⟩
        rw [es]
        refine ⟨fun z => absurd k1 (hx2.b.1.mp z), fun _ => (nw0 cx).int ?_⟩
        rintro y1 σ3 ⟨ey1, es3⟩
        rw [ey1, es3]
        exact ⟨fun z => absurd x0 z, fun _ => ⟨Or.inl rfl, sameC h⟩⟩
      · refine w_M_go a1 σ2 _ (fun σ1 e1 => ?_)
        obtain ⟨f1, f5⟩ := told1 e2 e1
        refine (rx.s f1).int ?_
        rintro y1 σ3 ⟨ey1, es3⟩
        rw [ey1, es3]
        exact ⟨fun z => absurd x0 z, fun _ => ⟨Or.inl rfl, sameR e2 e1⟩⟩
  · refine ⟨0, σ 169, N, by omega, hj, hx, ?_, fun σ2 e2 _ => ?_⟩
    · refine f_A_go a1 σ _ ((nw0 (e_isSpanX a1 σ)).int ?_)
      rintro x2 σ1 ⟨hx2, es⟩
      rw [es]
      exact ⟨fun _ => ⟨Or.inl rfl, sameC h⟩, fun z => absurd (hx2.b.2.mp z) k1⟩
    · refine w_M_go a1 σ2 _ (fun σ1 e1 => ?_)
      refine (w_M_canGo a1 σ1 _ ((c_isSpanX a1 σ1).int (R := fun x2 σ3 => _) ?_) : xC xM j_M_canGo [.ref 0, .int a1] σ1 (sm_I (fun y σ' => y = 0 ∧ σ' = σ1))).int ?_
      · rintro x2 σ3 ⟨hx2, es⟩
        rw [es]
        exact ⟨fun _ => ⟨Or.inl rfl, _, rfl, rfl, rfl⟩, fun z => absurd (hx2.b.2.mp z) k1⟩
      · rintro y1 σ3 ⟨ey1, es3⟩
        rw [ey1, es3]
        exact ⟨fun z => absurd rfl z, fun _ => ⟨Or.inl rfl, sameR e2 e1⟩⟩
end
section
/-! ===== the simulation: free, unpin, home, set ===== -/
theorem pr_free {N : Nat} {σ : sm_S} (a1 : Int32) (h : tie True N σ (σ 169)) (hj : jj N (σ 169)) (hx : jx (σ 169)) : prC j_A_free j_M_free [.ref 42, .int a1] [.ref 0, .int a1] N σ := by
  obtain ⟨x, rx, cx, hxx⟩ := p_has a1 h.s
  rcases hxx with ⟨x1, n, hn, hm, h0⟩ | ⟨x0, -⟩
  · obtain ⟨o, fr, b1, b2, b3, b4, b5, -, ⟨q, b7, -⟩, -⟩ := hj.2.1.1 n hn
    have hle := al_le b2 b4 b5
    obtain ⟨gb, gb9⟩ := (h.s.B n hn).al h0
    have c9 : (σ 9 n).toInt = fr := by rw [← gb.fir]; exact b3
    have c10 : (σ 10 n).toInt = o := by rw [← gb.ord]; exact b1
    obtain ⟨p, hpp, hp4⟩ := hj.pt (s := fr / 32) (by omega)
    have hpc : (σ 20 (fr / 32)).toInt = p := by rw [← (h.s.S (fr / 32) (by omega)).par]; exact hpp
    have way : σ 169 (786 + 16 * n + 6) ≤ 0 ↔ σ 169 (786 + 16 * n + 6) = 0 := by
      rw [le0, b7]
      refine ⟨fun z => t_inj (by rw [b7]; show _ = (0 : Int); omega), fun z => ?_⟩
      rw [z] at b7
      have b7 : (0 : Int) = _ := b7
      omega
    have w14 : σ 14 n = -1 ↔ σ 169 (786 + 16 * n + 6) = 0 := by
      rw [gb.tgt]
      refine ⟨fun z => by rw [z]; decide, fun z => ?_⟩
      have e2 : σ 14 n = (σ 14 n + 1) - 1 := by rw [Int32.add_sub_cancel]
      rw [e2, z]
      rfl
    by_cases lo : σ 169 (786 + 16 * n + 5) = 0 ∧ σ 169 (786 + 16 * n + 6) = 0
    · have R : rp j_M_free [.ref 0, .int a1] (σ 169) (σ 172) 1 (upd (lvF (σ 169) fr (2 ^ o)) (786 + 16 * n + 0) 0) := fun σ2 e2 _ => by
        refine w_M_free a1 σ2 _ (fun σ1 e1 => ?_)
        obtain ⟨f1, f5⟩ := told1 e2 e1
        refine (rx.s f1).int ?_
        rintro y1 σ3 ⟨ey1, es3⟩
        rw [ey1, es3, x1]
        refine ⟨fun z => absurd z (by decide), fun _ => (c_isPinned hm hn σ1).int ?_⟩
        rintro y2 σ4 ⟨hy2, es4⟩
        rw [es4]
        rw [f1] at hy2
        refine ⟨fun z => ?_, fun _ => (c_isOnWay hm hn σ1).int ?_⟩
        · rcases hy2 with ⟨w, -⟩ | ⟨-, w⟩
          · exact absurd w z
          · exact absurd lo.1 w
        · rintro y3 σ5 ⟨hy3, es5⟩
          rw [es5]
          rw [f1] at hy3
          refine ⟨fun _ => (c_goes2 hm hn b2 hle σ1 (by rw [f1]; exact b1) (by rw [f1]; exact b3)).void ?_, fun z => ?_⟩
          · rintro σ7 es7
            rw [f1] at es7
            exact ⟨Or.inr rfl, pubR f5 es7⟩
          · rcases hy3 with ⟨w, -⟩ | ⟨-, w⟩
            · exact absurd w z
            · exact absurd (way.mpr lo.2) w
      obtain ⟨N', j', n1, n2⟩ := R.jj (N := N) (D := 0) (fun σ2 e2 => c_free a1 σ2 (by rw [e2]; exact hj))
      have eN : N' = N := by omega
      rw [eN] at j'
      refine ⟨1, _, N, by omega, j', ?_, ?_, R⟩
      · have k3 : upd (lvF (σ 169) fr (2 ^ o)) (786 + 16 * n + 0) 0 (786 + 16 * n + 0) = 0 := u_at
        have old : ∀ i, i < 18 ∨ 786 ≤ i → i ≠ 786 + 16 * n + 0 → upd (lvF (σ 169) fr (2 ^ o)) (786 + 16 * n + 0) 0 i = σ 169 i := fun i i1 i2 => by
          rw [u_ne i2, lvF_out (by omega)]
        refine hx.re (n := n) (fun b k q1 q2 q3 => old _ (by omega) (by omega)) (fun z => ?_) (fun z => ?_) (fun s' hs' z => ?_) (old 0 (by omega) (by omega)) (fun i i1 i2 => old i (by omega) (by omega))
        · rw [k3] at z
          exact absurd z (by decide)
        · rw [k3] at z
          exact absurd z (by decide)
        · exact ⟨fun y => z ((old (2358 + 8 * s' + 0) (by omega) (by omega)).trans y), old (2358 + 8 * s' + 1) (by omega) (by omega)⟩
      · refine f_A_free a1 σ _ ((nw0 cx).int ?_)
        rintro y1 σ3 ⟨ey1, es3⟩
        rw [ey1, es3, x1]
        refine ⟨fun z => absurd z (by decide), fun _ => (nw0 (e_isLoose2 hm hn σ)).int ?_⟩
        rintro y2 σ4 ⟨hy2, es4⟩
        rw [es4]
        refine ⟨fun _ => (nwTP (v' := upd (lvF (σ 169) fr (2 ^ o)) (786 + 16 * n + 0) 0) (N := N) (g := True) (e_remove2 hm hn b2 hle σ c9 c10 hpc hp4) ?_).void ?_, fun z => ?_⟩
        · rintro c' ⟨sb, hsb, ec⟩
          rw [ec]
          refine h.to (sim_goes h.s h.b hn h0 lo.2 b3 b1 b2 b4 b5 hpp hsb) (fun k k1 k2 => ?_) ?_ (fun i hi => ?_) j'.2.1.1
          · rw [s_ne (by omega), lgC_o (by omega)]
          · rw [u_ne (by omega), lvF_out (by omega)]
          · rw [u_ne (by omega), lvF_out (by omega)]
        · rintro σ7 ⟨t7, o7⟩
          exact ⟨Or.inr rfl, _, rfl, rfl, t7, o7⟩
        · rcases hy2 with ⟨w, -⟩ | ⟨-, w⟩
          · exact absurd (by rw [w]; decide) z
          · exact absurd ⟨by rw [← gb.pin]; exact lo.1, w14.mpr lo.2⟩ w
    · refine ⟨0, σ 169, N, by omega, hj, hx, ?_, fun σ2 e2 _ => ?_⟩
      · refine f_A_free a1 σ _ ((nw0 cx).int ?_)
        rintro y1 σ3 ⟨ey1, es3⟩
        rw [ey1, es3]
        refine ⟨fun z => ⟨Or.inl rfl, sameC h⟩, fun _ => (nw0 (e_isLoose2 hm hn σ)).int ?_⟩
        rintro y2 σ4 ⟨hy2, es4⟩
        rw [es4]
        refine ⟨fun z => ?_, fun _ => ⟨Or.inl rfl, sameC h⟩⟩
        rcases hy2 with ⟨-, w1, w2⟩ | ⟨w, -⟩
        · exact absurd ⟨by rw [gb.pin]; exact w1, w14.mp w2⟩ lo
        · exact absurd w z
      · refine w_M_free a1 σ2 _ (fun σ1 e1 => ?_)
        obtain ⟨f1, f5⟩ := told1 e2 e1
        refine (rx.s f1).int ?_
        rintro y1 σ3 ⟨ey1, es3⟩
        rw [ey1, es3]
        refine ⟨fun z => ⟨Or.inl rfl, sameR e2 e1⟩, fun _ => (c_isPinned hm hn σ1).int ?_⟩
        rintro y2 σ4 ⟨hy2, es4⟩
        rw [es4]
        rw [f1] at hy2
        refine ⟨fun z => ⟨Or.inl rfl, sameR e2 e1⟩, fun y20 => (c_isOnWay hm hn σ1).int ?_⟩
        rintro y3 σ5 ⟨hy3, es5⟩
        rw [es5]
        rw [f1] at hy3
        refine ⟨fun z => ?_, fun _ => ⟨Or.inl rfl, sameR e2 e1⟩⟩
        rcases hy3 with ⟨-, w⟩ | ⟨w, -⟩
        · rcases hy2 with ⟨-, u⟩ | ⟨u, -⟩
          · exact absurd ⟨u, way.mp w⟩ lo
          · exact absurd (by rw [u]; decide) y20
        · rw [w] at z
          exact absurd z (by decide)
  · refine ⟨0, σ 169, N, by omega, hj, hx, ?_, fun σ2 e2 _ => ?_⟩
    · refine f_A_free a1 σ _ ((nw0 cx).int ?_)
      rintro y1 σ3 ⟨ey1, es3⟩
      rw [ey1, es3]
      exact ⟨fun _ => ⟨Or.inl rfl, sameC h⟩, fun z => absurd x0 z⟩
    · refine w_M_free a1 σ2 _ (fun σ1 e1 => ?_)
      obtain ⟨f1, f5⟩ := told1 e2 e1
      refine (rx.s f1).int ?_
      rintro y1 σ3 ⟨ey1, es3⟩
      rw [ey1, es3]
      exact ⟨fun _ => ⟨Or.inl rfl, sameR e2 e1⟩, fun z => absurd x0 z⟩
theorem pr_home {N : Nat} {σ : sm_S} (a1 a2 : Int32) (h : tie True N σ (σ 169)) (hj : jj N (σ 169)) (hx : jx (σ 169)) : prC j_A_home j_M_home [.ref 42, .int a1, .int a2] [.ref 0, .int a1, .int a2] N σ := by
  have isN : xC xD j_A_isNode [.int a2] σ (sm_I (fun x σ' => isYes (0 ≤ a2.toInt ∧ a2.toInt < 2) x ∧ σ' = σ)) := d_A_isNode a2 σ _ (e_isRng (K := 2) rfl (fun z => ⟨_, rfl, Or.inl ⟨rfl, z⟩, rfl⟩) (fun z => ⟨_, rfl, Or.inr ⟨rfl, z⟩, rfl⟩))
  by_cases k1 : 0 ≤ a1.toInt ∧ a1.toInt < 6
  · obtain ⟨m, hm⟩ := t_of k1.1
    have hm6 : m < 6 := by omega
    by_cases k2 : 0 ≤ a2.toInt ∧ a2.toInt < 2
    · have R : rp j_M_home [.ref 0, .int a1, .int a2] (σ 169) (σ 172) 1 (upd (σ 169) (2322 + 6 * m + 0) a2) := fun σ2 e2 _ => by
        refine w_M_home a1 a2 σ2 _ (fun σ1 e1 => (c_isTaskX a1 σ1).int ?_)
        obtain ⟨f1, f5⟩ := told1 e2 e1
        rintro x2 σ3 ⟨hx2, es⟩
        rw [es]
        refine ⟨fun z => absurd k1 (hx2.b.1.mp z), fun _ => (c_isInX (L := 0) (H := 1) rfl rfl a2 σ1).int ?_⟩
        rintro x4 σ4 ⟨hx4, es4⟩
        rw [es4]
        refine ⟨fun _ => (c_taskAt a1 σ1).int ?_, fun z => absurd (hx4.b.2.mpr ⟨k2.1, by omega⟩) z⟩
        rintro x5 σ5 ⟨hx5, es5⟩
        obtain ⟨p0, q0⟩ := ixT (k := 0) (j := 0) hm rfl (by omega)
        rw [hx5, es5, q0]
        refine ⟨p0, fun σ7 es7 => ⟨Or.inr rfl, ?_⟩⟩
        rw [f1] at es7
        exact pubR f5 es7
      obtain ⟨N', j', n1, n2⟩ := R.jj (N := N) (D := 0) (fun σ2 e2 => (c_home a1 a2 σ2 (by rw [e2]; exact hj)).mono (by
        rintro r0 σ7 ⟨y, y1, -, y2⟩
        exact ⟨y, y1, y2⟩))
      have eN : N' = N := by omega
      rw [eN] at j'
      have t' : tie True N (sm_set σ 27 (upd (σ 27) m a2)) (upd (σ 169) (2322 + 6 * m + 0) a2) := h.to (sim_home a2 h.s h.b hm6) (fun k k1 k2 => s_ne (by omega)) (u_ne (by omega)) (fun i hi => u_ne (by omega)) j'.2.1.1
      refine ⟨1, _, N, by omega, j', ?_, ?_, R⟩
      · refine hx.cg (fun b k hb hk => u_ne (by omega)) (fun s' hs' z => ⟨?_, u_ne (by omega)⟩) (u_ne (by omega)) (fun i i1 i2 => u_ne (by omega))
        rw [u_ne (by omega)] at z
        exact z
      · refine f_A_home a1 a2 σ _ ((nw0 (e_isTaskX a1 σ)).int ?_)
        rintro x2 σ1 ⟨hx2, es⟩
        rw [es]
        refine ⟨fun z => absurd k1 (hx2.b.1.mp z), fun _ => (nw0 isN).int ?_⟩
        rintro x4 σ4 ⟨hx4, es4⟩
        rw [es4]
        refine ⟨fun _ => ⟨t_vp hm hm6, fun σ5 es5 => ⟨Or.inr rfl, _, rfl, rfl, ?_, fun a ha => ?_⟩⟩, fun z => absurd (hx4.b.2.mpr k2) z⟩
        · rw [es5, t_nat hm]
          exact t'
        · rw [es5, s_ne (by omega)]
    · refine ⟨0, σ 169, N, by omega, hj, hx, ?_, fun σ2 e2 _ => ?_⟩
      · refine f_A_home a1 a2 σ _ ((nw0 (e_isTaskX a1 σ)).int ?_)
        rintro x2 σ1 ⟨hx2, es⟩
        rw [es]
        refine ⟨fun z => absurd k1 (hx2.b.1.mp z), fun _ => (nw0 isN).int ?_⟩
        rintro x4 σ4 ⟨hx4, es4⟩
        rw [es4]
        exact ⟨fun z => absurd (hx4.b.2.mp z) k2, fun _ => ⟨Or.inl rfl, sameC h⟩⟩
      · refine w_M_home a1 a2 σ2 _ (fun σ1 e1 => (c_isTaskX a1 σ1).int ?_)
        rintro x2 σ3 ⟨hx2, es⟩
        rw [es]
        refine ⟨fun z => absurd k1 (hx2.b.1.mp z), fun _ => (c_isInX (L := 0) (H := 1) rfl rfl a2 σ1).int ?_⟩
        rintro x4 σ4 ⟨hx4, es4⟩
        rw [es4]
        refine ⟨fun z => absurd ?_ k2, fun _ => ⟨Or.inl rfl, sameR e2 e1⟩⟩
        have := hx4.b.2.mp z
        omega
  · refine ⟨0, σ 169, N, by omega, hj, hx, ?_, fun σ2 e2 _ => ?_⟩
    · refine f_A_home a1 a2 σ _ ((nw0 (e_isTaskX a1 σ)).int ?_)
      rintro x2 σ1 ⟨hx2, es⟩
      rw [es]
      exact ⟨fun _ => ⟨Or.inl rfl, sameC h⟩, fun z => absurd (hx2.b.2.mp z) k1⟩
    · refine w_M_home a1 a2 σ2 _ (fun σ1 e1 => (c_isTaskX a1 σ1).int ?_)
      rintro x2 σ3 ⟨hx2, es⟩
      rw [es]
      exact ⟨fun _ => ⟨Or.inl rfl, sameR e2 e1⟩, fun z => absurd (hx2.b.2.mp z) k1⟩
end
section
/-! ===== the simulation: doOrWait | wants, unpin ===== -/
theorem bit_1 {i : Nat} (h : i < 32) : bit 1 i ↔ i = 0 := by
  have : ∀ i, i < 32 → ((1 : Int32).toBitVec.getLsbD i = true ↔ i = 0) := by decide
  exact this i h
theorem and01 (x : Int32) : x &&& 1 = 0 ∨ x &&& 1 = 1 := by
  by_cases q : bit x 0
  · refine Or.inr (bit_ext (fun i hi => ?_))
    rw [bit_and, bit_1 hi]
    exact ⟨fun z => z.2, fun z => ⟨by rw [z]; exact q, z⟩⟩
  · refine Or.inl (bit_ext (fun i hi => ?_))
    rw [bit_and, bit_1 hi]
    exact ⟨fun z => absurd (by rw [← z.2]; exact z.1) q, fun z => absurd z bit_0⟩
theorem ws_id {c : sm_S} {t : Nat} {x y z : Int32} (h1 : c 30 t = x) (h2 : c 31 t = y) (h3 : c 32 t = z) : wsC c t x y z = c := by
  unfold wsC
  rw [← h1, ← h2, ← h3, u_id, s_id, u_id, s_id, u_id, s_id]
theorem p_dow {g : Prop} {N m n a o : Nat} {c : sm_S} {v : Nat → Int32} {tI bI what i x : Int32} (h : tie g N c v) (hj : jj N v) (hx : jx v) (hN : N < 1999000000) (ht : tI.toInt = m) (hm : m < 6) (hb : bI.toInt = n) (hn : n < 96) (h0 : v (786 + 16 * n + 0) = 1) (hw : c 28 m = -1) (hi : i.toInt = a) (ho : (v (786 + 16 * n + 2)).toInt = o) (ha : a < 2 ^ o) (e30 : c 30 m = what) (e31 : c 31 m = i) (e32 : c 32 m = x) : ∃ r v' c' N', rdI j_M_wants [.ref 0, .int tI, .int bI, .int what, .int i, .int x] v r v' ∧ xC xD j_Y_doOrWait [.ref 0, .int tI, .int bI] c (sm_I (fun y σ' => y = r ∧ σ' = c')) ∧ tie g N' c' v' ∧ jj N' v' ∧ jx v' ∧ N' ≤ N + 1 := by
  obtain ⟨o2, fr, b1, b2, b3, b4, b5, -, ⟨q, b7, -⟩, -⟩ := hj.2.1.1 n hn
  have hoo : o2 = o := by rw [ho] at b1; omega
  rw [hoo] at b2 b5
  have hle := al_le b2 b4 b5
  obtain ⟨gb, gb9⟩ := (h.s.B n hn).al h0
  have c9 : (c 9 n).toInt = fr := by rw [← gb.fir]; exact b3
  have w28 : v (2322 + 6 * m + 1) = 0 := by rw [(h.s.T m hm).wai, hw]; decide
  have w14 : c 14 n = -1 ↔ v (786 + 16 * n + 6) = 0 := by
    rw [gb.tgt]
    refine ⟨fun z => by rw [z]; decide, fun z => ?_⟩
    have e2 : c 14 n = (c 14 n + 1) - 1 := by rw [Int32.add_sub_cancel]
    rw [e2, z]
    rfl
  have way : v (786 + 16 * n + 6) ≤ 0 ↔ v (786 + 16 * n + 6) = 0 := by
    rw [le0, b7]
    refine ⟨fun z => t_inj (by rw [b7]; show _ = (0 : Int); omega), fun z => ?_⟩
    rw [z] at b7
    have b7 : (0 : Int) = _ := b7
    omega
  have jd : ∀ {r : Int32} {v' : Nat → Int32}, rdI j_M_wants [.ref 0, .int tI, .int bI, .int what, .int i, .int x] v r v' → ∃ N', jj N' v' ∧ N' ≤ N + 1 := fun {r v'} R => by
    obtain ⟨w, N', ew, jw, -, k2⟩ := R.det (c_wants ht hm hb hn hi what x (rz v) (by rw [rz_at]; exact ho) ha (by rw [rz_at]; exact w28) (by rw [rz_at]; exact hj) (by omega))
    rw [rz_eq ew] at jw
    exact ⟨N', jw, k2⟩
  by_cases on : v (786 + 16 * n + 6) = 0
  · have R : rdI j_M_wants [.ref 0, .int tI, .int bI, .int what, .int i, .int x] v 0 (doF v m n fr a tI what x) := fun σ e => by
      refine w_M_wants tI bI what i x σ _ ((c_isOnWay hb hn σ).int ?_)
      rintro y1 σ1 ⟨hy1, es1⟩
      rw [es1]
      rw [e] at hy1
      refine ⟨fun z => ?_, fun _ => (c_does2 ht hm hb hn hi what x σ (by rw [e]; exact b3) (by omega)).void ?_⟩
      · rcases hy1 with ⟨w, -⟩ | ⟨-, w⟩
        · exact absurd w z
        · exact absurd (way.mpr on) w
      · rintro σ7 es7
        rw [e] at es7
        exact ⟨_, rfl, rfl, es7⟩
    obtain ⟨N', j', n'⟩ := jd R
    have t' : tie g N (doC c m n (fr + a) tI what x) (doF v m n fr a tI what x) := h.to (sim_does h.s h.b hm hn (by omega) gb.pin) (fun k k1 k2 => doC_o (by omega)) (doF_o hn hm (by omega) (Or.inr (Or.inl rfl))) (fun k hk => doF_o hn hm (by omega) (Or.inr (Or.inr hk))) j'.2.1.1
    have eN : N' = N := by
      have w1 := j'.2.2
      have w2 := t'.n
      omega
    rw [eN] at j'
    have old : ∀ k, vfx k → doF v m n fr a tI what x k = v k := fun k hk => doF_o hn hm (by omega) (Or.inl hk)
    refine ⟨0, _, _, N, R, ?_, t', j', ?_, by omega⟩
    · refine d_Y_doOrWait tI bI c _ ?_
      rw [t_nat hb]
      refine ⟨t_vp hb hn, fun z => absurd (w14.mpr on) z, fun _ => (e_fulfil2 (a := a) (fr := fr) ht hm hb hn c (fun _ => ⟨by rw [e31]; exact hi, c9, by omega⟩)).void ?_⟩
      rintro σ7 es7
      rw [e30, e32] at es7
      exact ⟨_, rfl, rfl, es7⟩
    · refine hx.cg (fun b k hb hk => old _ (Or.inr (Or.inr (Or.inl ⟨b, k, hb, by omega, by omega, by omega, rfl⟩)))) (fun s' hs' z => ⟨?_, old _ (Or.inr (Or.inr (Or.inr (Or.inr ⟨by omega, by omega⟩))))⟩) (old 0 (Or.inl (Or.inl (by omega)))) (fun k k1 k2 => old k (Or.inl (Or.inl (by omega))))
      rw [old _ (Or.inr (Or.inr (Or.inr (Or.inr ⟨by omega, by omega⟩))))] at z
      exact z
  · obtain ⟨l, h9⟩ := hj.L hn
    obtain ⟨L, hq⟩ := h.s.Q
    obtain ⟨hL6, hl6, s1⟩ := sim_wait (what := what) (i := i) (x := x) h.s h.b ht hm hw hb hn h9 hq.len
    rw [ws_id e30 e31 e32] at s1
    have wo : ∀ k, (k < 2322 + 6 * m + 1 ∨ 2322 + 6 * m + 4 < k) → k ≠ 786 + 16 * n + (10 + l) → k ≠ 786 + 16 * n + 9 → wtF v m n l tI bI what i x k = v k := fun k k1 k2 k3 => wtF_o k1 k2 k3
    have R : rdI j_M_wants [.ref 0, .int tI, .int bI, .int what, .int i, .int x] v 1 (cnF (wrF (wtF v m n l tI bI what i x) N 7 tI bI) 8 1) := fun σ e => by
      refine w_M_wants tI bI what i x σ _ ((c_isOnWay hb hn σ).int ?_)
      rintro y1 σ1 ⟨hy1, es1⟩
      rw [es1]
      rw [e] at hy1
      have y11 : y1 = 1 := by
        rcases hy1 with ⟨-, w⟩ | ⟨w, -⟩
        · exact absurd (way.mp w) on
        · exact w
      refine ⟨fun _ => (c_taskAt tI σ).int ?_, fun z => absurd (by rw [y11]; decide) z⟩
      rintro y2 σ2 ⟨ey2, es2⟩
      obtain ⟨p1, q1⟩ := ixT (k := 1) (j := 1) ht rfl (by omega)
      obtain ⟨p2, q2⟩ := ixT (k := 2) (j := 2) ht rfl (by omega)
      obtain ⟨p3, q3⟩ := ixT (k := 3) (j := 3) ht rfl (by omega)
      obtain ⟨p4, q4⟩ := ixT (k := 4) (j := 4) ht rfl (by omega)
      rw [ey2, es2, q1, q2, q3, q4]
      refine ⟨p1, fun σ5 e5 => ⟨p2, fun σ6 e6 => ⟨p3, fun σ7 e7 => ⟨p4, fun σ8 e8 => ?_⟩⟩⟩⟩
      have e8' : σ8 = sm_set σ 1 (upd (upd (upd (upd v (2322 + 6 * m + 1) (bI + 1)) (2322 + 6 * m + 2) what) (2322 + 6 * m + 3) i) (2322 + 6 * m + 4) x) := by
        rw [e8, e7, e6, e5, e]
        simp only [s_at, s_ss]
      rw [e8']
      refine (c_of (k := 9) (j := 9) hb rfl (by omega) _).int ?_
      rintro y3 σ9 ⟨ey3, es9⟩
      rw [s_at, u_ne (by omega), u_ne (by omega), u_ne (by omega), u_ne (by omega)] at ey3
      rw [ey3, es9]
      refine (c_lay (k := 10 + v (786 + 16 * n + 9)) (j := 10 + l) hb (by rw [t_add (x := 10) rfl h9 (by omega) (by omega)]; omega) (by omega) tI _).void ?_
      rintro σ10 es10
      rw [s_at, s_ss] at es10
      rw [es10]
      refine (c_of (k := 9) (j := 9) hb rfl (by omega) _).int ?_
      rintro y4 σ11 ⟨ey4, es11⟩
      rw [s_at, u_ne (by omega), u_ne (by omega), u_ne (by omega), u_ne (by omega), u_ne (by omega)] at ey4
      rw [ey4, es11]
      refine (c_lay (k := 9) (j := 9) hb rfl (by omega) _ _).void ?_
      rintro σ12 es12
      rw [s_at, s_ss] at es12
      have es12 : σ12 = sm_set σ 1 (wtF v m n l tI bI what i x) := es12
      rw [es12]
      refine (c_writes2 (n := N) 7 tI bI _ (by rw [s_at, wo 5 (by omega) (by omega) (by omega)]; exact h.n)).void ?_
      rintro σ13 es13
      rw [s_at, s_ss] at es13
      rw [es13]
      refine (c_counts (k := 8) (j := 8) rfl (by decide) 1 _).void ?_
      rintro σ14 es14
      rw [s_at, s_ss] at es14
      exact ⟨_, rfl, rfl, es14⟩
    obtain ⟨N', j', n'⟩ := jd R
    have bk1 : ∀ b, b < 96 → bk_ok (wtF v m n l tI bI what i x) b := fun b hb2 => by
      obtain ⟨o1, f1, z1, z2, z3, z4, z5, z6, z7, z8⟩ := h.b b hb2
      have rk : ∀ k, k < 9 → wtF v m n l tI bI what i x (786 + 16 * b + k) = v (786 + 16 * b + k) := fun k k1 => wo _ (by omega) (by omega) (by omega)
      unfold bk_ok
      rw [rk 1 (by omega), rk 2 (by omega), rk 4 (by omega), rk 6 (by omega), rk 7 (by omega)]
      exact ⟨o1, f1, z1, z2, z3, z4, z5, z6, z7, z8⟩
    have t1 : tie g N (quC c m L tI bI) (wtF v m n l tI bI what i x) := h.to s1 (fun k k1 k2 => by unfold quC; rw [s_ne (by omega), s_ne (by omega), s_ne (by omega)]) (wo 5 (by omega) (by omega) (by omega)) (fun k hk => wo k (by omega) (by omega) (by omega)) bk1
    obtain ⟨nl, hnl, h5l, t2⟩ := t1.log (by omega) 7 tI bI
    have t3 := t2.cnt (k := 8) (by decide) 1
    have eN : N' = N + 1 := by
      have w1 := j'.2.2
      have w2 := t3.n
      omega
    rw [eN] at j'
    have old : ∀ k, k < 2422 → (k < 5 ∨ 17 < k) → (k < 2322 + 6 * m + 1 ∨ 2322 + 6 * m + 4 < k) → k ≠ 786 + 16 * n + (10 + l) → k ≠ 786 + 16 * n + 9 → cnF (wrF (wtF v m n l tI bI what i x) N 7 tI bI) 8 1 k = v k := fun k k1 k2 k3 k4 k5 => by
      unfold cnF
      rw [u_ne (by omega), wrF_lo k1 (by omega), wo k k3 k4 k5]
    refine ⟨1, _, _, N + 1, R, ?_, t3, j', ?_, by omega⟩
    · refine d_Y_doOrWait tI bI c _ ?_
      rw [t_nat hb]
      refine ⟨t_vp hb hn, fun _ => (e_queue2 ht hm bI c hq.len hL6).void ?_, fun z => absurd (w14.mp (Classical.not_not.mp z)) on⟩
      rintro σ7 es7
      rw [es7]
      refine ⟨t_vp (n := 8) rfl (by decide), t_vp (n := 8) rfl (by decide), fun σ8 es8 => ?_⟩
      rw [es8]
      refine (e_add2 (n := nl) _ 7 tI bI (sm_set (quC c m L tI bI) 40 (upd (quC c m L tI bI 40) (Int32.toNatClampNeg 8) (quC c m L tI bI 40 (Int32.toNatClampNeg 8) + 1))) h5l hnl).void ?_
      rintro σ9 es9
      refine ⟨_, rfl, rfl, ?_⟩
      rw [es9, laC_s (by omega), laC_o (k := 40) (by omega)]
      rfl
    · refine hx.cg (fun b k hb hk => old _ (by omega) (by omega) (by omega) (by omega) (by omega)) (fun s' hs' z => ⟨?_, old _ (by omega) (by omega) (by omega) (by omega) (by omega)⟩) (old 0 (by omega) (by omega) (by omega) (by omega) (by omega)) (fun k k1 k2 => old k (by omega) (by omega) (by omega) (by omega) (by omega))
      rw [old _ (by omega) (by omega) (by omega) (by omega) (by omega)] at z
      exact z
end
section
/-! ===== the simulation: read, write, pin, unpin ===== -/
theorem nwE {j : Nat} {as : List Value} {σ c' : sm_S} (h : xC xD j as σ (sm_V (fun σ' => σ' = c'))) : xC xF j as σ (sm_V (fun σ' => eqT c' σ' ∧ ∀ a, 42 ≤ a → σ' a = σ a)) := by
  refine sm_C.mono (sm_cv_ids as ▸ x_up shDF h) ?_
  rintro r1 σ' ⟨r2, τ, rfl, ⟨rfl, rfl⟩, hs, ho⟩
  exact ⟨rfl, eqT.st hs, fun a ha => off_out (n := 42) rfl ho (fun k hk z => by have z : k = a := z; omega)⟩
/-- a task that does not wait, and a block -/
def tOk (v : Nat → Int32) (a1 a2 : Int32) : Prop := ∃ m n : Nat, m < 6 ∧ a1.toInt = m ∧ n < 96 ∧ a2.toInt = n ∧ v (786 + 16 * n + 0) = 1 ∧ v (2322 + 6 * m + 1) = 0
theorem c_canDoX (t b : Int32) (σ : sm_S) : xC xM j_M_canDo [.ref 0, .int t, .int b] σ (sm_I (fun x σ' => isYes (tOk (σ 1) t b) x ∧ σ' = σ)) := by
  refine w_M_canDo t b σ _ ((c_isTask t σ).int ?_)
  rintro x1 σ1 ⟨hx1, es1⟩
  rw [es1]
  refine ⟨fun n1 => ⟨Or.inl rfl, _, rfl, Or.inr ⟨rfl, ?_⟩, rfl⟩, fun n1 => (c_taskAt t _).int ?_⟩
  · rintro ⟨m, n, y1, y2, -⟩
    rcases hx1 with ⟨w, -⟩ | ⟨-, w⟩
    · rw [n1] at w
      exact absurd w (by decide)
    · omega
  · obtain ⟨-, m, hm, ht⟩ := hx1.resolve_right (fun z => n1 z.1)
    rintro y2 σ2 ⟨ey2, es2⟩
    obtain ⟨p1, q1⟩ := ixT (k := 1) (j := 1) ht rfl (by omega)
    rw [ey2, es2, q1]
    refine ⟨p1, fun w => ⟨Or.inl rfl, _, rfl, Or.inr ⟨rfl, ?_⟩, rfl⟩, fun hw => (c_isBlock b _).int ?_⟩
    · rintro ⟨m', n, y1, y2, -, -, -, y3⟩
      have e : m' = m := by omega
      rw [e] at y3
      exact w y3
    · rintro x2 σ3 ⟨hx2, es3⟩
      rw [es3]
      refine ⟨fun n2 => ⟨Or.inl rfl, _, rfl, Or.inr ⟨rfl, ?_⟩, rfl⟩, fun n2 => ?_⟩
      · rintro ⟨m', n, -, -, y1, y2, y3, -⟩
        rcases hx2 with ⟨w, -⟩ | ⟨-, w | ⟨n', w1, w2, w3⟩⟩
        · rw [n2] at w
          exact absurd w (by decide)
        · omega
        · have e : n' = n := by omega
          rw [e] at w3
          exact w3 y3
      · obtain ⟨-, n, hn, hb, h0⟩ := hx2.resolve_right (fun z => n2 z.1)
        exact ⟨Or.inr rfl, _, rfl, Or.inl ⟨rfl, m, n, hm, ht, hn, hb, h0, Classical.not_not.mp hw⟩, rfl⟩
theorem p_touch {N : Nat} {σ : sm_S} (a1 a2 a3 a4 a5 : Int32) (h : tie True N σ (σ 169)) (hj : jj N (σ 169)) (hx : jx (σ 169)) (hN : N < 1998000000) : ∃ r v' N', N' ≤ N + 1 ∧ jj N' v' ∧ jx v' ∧ xC xF j_A_touch [.ref 42, .int a1, .int a2, .int a3, .int a4, .int a5] σ (sm_I (fun x σ' => x = r ∧ tie True N' σ' v' ∧ ∀ a, 42 ≤ a → σ' a = σ a)) ∧ ((tOk (σ 169) a1 a2 ∧ 0 ≤ a4.toInt ∧ (∀ n o : Nat, a2.toInt = n → (σ 169 (786 + 16 * n + 2)).toInt = o → a4.toInt < ((2 ^ o : Nat) : Int)) ∧ rdI j_M_wants [.ref 0, .int a1, .int a2, .int a3, .int a4, .int a5] (σ 169) r v') ∨ (¬ (tOk (σ 169) a1 a2 ∧ 0 ≤ a4.toInt ∧ ∀ n o : Nat, a2.toInt = n → (σ 169 (786 + 16 * n + 2)).toInt = o → a4.toInt < ((2 ^ o : Nat) : Int)) ∧ r = -1 ∧ v' = σ 169)) := by
  have lt0 : a4 < 0 ↔ a4.toInt < 0 := by rw [t_lt]; exact Iff.rfl
  obtain ⟨xh, rxh, cxh, hxh⟩ := p_has a2 h.s
  by_cases ok : tOk (σ 169) a1 a2 ∧ 0 ≤ a4.toInt ∧ ∀ n o : Nat, a2.toInt = n → (σ 169 (786 + 16 * n + 2)).toInt = o → a4.toInt < ((2 ^ o : Nat) : Int)
  · obtain ⟨tk, k4, kl4⟩ := ok
    have tk2 := tk
    obtain ⟨m, n, hm, hm1, hn, hn1, h0, hw⟩ := tk2
    obtain ⟨o, fr, b1, b2, -⟩ := hj.2.1.1 n hn
    obtain ⟨a, hi⟩ := t_of k4
    have ha : a < 2 ^ o := by have := kl4 n o hn1 b1; omega
    obtain ⟨gb, gb9⟩ := (h.s.B n hn).al h0
    have gT := (h.s.T m hm).wai
    have hw28 : σ 28 m = -1 := by
      rw [hw] at gT
      have e2 : σ 28 m = (σ 28 m + 1) - 1 := by rw [Int32.add_sub_cancel]
      rw [e2, ← gT]
      rfl
    have xh1 : xh = 1 := by
      rcases hxh with ⟨w, -⟩ | ⟨-, w⟩
      · exact w
      · have := w n hn hn1
        rw [h0] at this
        exact absurd this (by decide)
    have t1 : tie True N (wsC σ m a3 a4 a5) (σ 169) := h.to (sim_wish a3 a4 a5 h.s h.b hm hw28) (fun k k1 k2 => by unfold wsC; rw [s_ne (by omega), s_ne (by omega), s_ne (by omega)]) rfl (fun _ _ => rfl) h.b
    have w28 : wsC σ m a3 a4 a5 28 m = -1 := hw28
    have w30 : wsC σ m a3 a4 a5 30 m = a3 := u_at
    have w31 : wsC σ m a3 a4 a5 31 m = a4 := u_at
    have w32 : wsC σ m a3 a4 a5 32 m = a5 := u_at
    obtain ⟨r, v', c', N', R, -, -, j', x', n'⟩ := p_dow t1 hj hx (by omega) hm1 hm hn1 hn h0 w28 hi b1 ha w30 w31 w32
    refine ⟨r, v', N', n', j', x', ?_, Or.inl ⟨tk, k4, kl4, R⟩⟩
    refine f_A_touch a1 a2 a3 a4 a5 σ _ ((nw0 (e_isTaskX a1 σ)).int ?_)
    rintro x2 σ1 ⟨hx2, es⟩
    rw [es]
    refine ⟨fun z => absurd ⟨by omega, by omega⟩ (hx2.b.1.mp z), fun _ => (nw0 cxh).int ?_⟩
    rintro y1 σ3 ⟨ey1, es3⟩
    rw [ey1, es3, xh1]
    refine ⟨fun z => absurd z (by decide), fun _ => ⟨t_vp hm1 hm, fun _ => ⟨fun z => absurd (lt0.mp z) (by omega), fun _ => (nw0 (e_size hn1 hn σ)).int ?_⟩, fun z => absurd (by rw [t_nat hm1]; exact hw28) z⟩⟩
    rintro y2 σ4 ⟨ey2, es4⟩
    have sz : ((1 : Int32) <<< (σ 10 n &&& 31)).toInt = ((2 ^ o : Nat) : Int) := t_pow (by rw [← gb.ord]; exact b1) (by omega)
    rw [ey2, es4]
    refine ⟨fun _ => (nwE (e_wants2 hm1 hm a3 a4 a5 σ)).void ?_, fun z => absurd ?_ z⟩
    · rintro σ7 ⟨e7, o7⟩
      have t7 : tie True N σ7 (σ 169) := t1.eq e7 (fun _ _ => rfl)
      obtain ⟨r7, v7, c7, N7, R7, C7, T7, j7, x7, n7⟩ := p_dow t7 hj hx (by omega) hm1 hm hn1 hn h0 ((e7.at 6).trans w28) hi b1 ha ((e7.at 6).trans w30) ((e7.at 6).trans w31) ((e7.at 6).trans w32)
      obtain ⟨q1, q2⟩ := R.det (R7 (rz (σ 169)) s_at)
      have q2 : v7 = v' := rz_eq q2
      rw [q2] at T7 j7
      have q3 : N7 = N' := by
        have w1 := j7.2.2
        have w2 := j'.2.2
        omega
      rw [q3] at T7
      refine (nwT C7 T7).int ?_
      rintro y3 σ8 ⟨ey3, t8, o8⟩
      exact ⟨_, rfl, ey3.trans q1.symm, t8, fun a ha => (o8 a ha).trans (o7 a ha)⟩
    · rw [t_lt, sz, hi]
      omega
  · refine ⟨-1, σ 169, N, by omega, hj, hx, ?_, Or.inr ⟨ok, rfl, rfl⟩⟩
    refine f_A_touch a1 a2 a3 a4 a5 σ _ ((nw0 (e_isTaskX a1 σ)).int ?_)
    rintro x2 σ1 ⟨hx2, es⟩
    rw [es]
    refine ⟨fun _ => sameC h, fun z2 => (nw0 cxh).int ?_⟩
    rintro y1 σ3 ⟨ey1, es3⟩
    rw [ey1, es3]
    refine ⟨fun _ => sameC h, fun z3 => ?_⟩
    obtain ⟨k1, k2⟩ := hx2.b.2.mp z2
    obtain ⟨m, hm1⟩ := t_of k1
    have hm : m < 6 := by omega
    rcases hxh with ⟨-, n, hn, hn1, h0⟩ | ⟨w, -⟩
    · refine ⟨t_vp hm1 hm, fun w28 => ⟨fun _ => sameC h, fun z4 => (nw0 (e_size hn1 hn σ)).int ?_⟩, fun _ => sameC h⟩
      rintro y2 σ4 ⟨ey2, es4⟩
      obtain ⟨o, fr, b1, b2, -⟩ := hj.2.1.1 n hn
      obtain ⟨gb, gb9⟩ := (h.s.B n hn).al h0
      have sz : ((1 : Int32) <<< (σ 10 n &&& 31)).toInt = ((2 ^ o : Nat) : Int) := t_pow (by rw [← gb.ord]; exact b1) (by omega)
      rw [ey2, es4]
      refine ⟨fun z5 => absurd ⟨⟨m, n, hm, hm1, hn, hn1, h0, ?_⟩, ?_, fun n' o' y1 y2 => ?_⟩ ok, fun _ => sameC h⟩
      · rw [t_nat hm1] at w28
        rw [(h.s.T m hm).wai, w28]
        decide
      · rw [lt0] at z4
        omega
      · have e : n' = n := by omega
        rw [e] at y2
        have e2 : o' = o := by omega
        rw [t_lt, sz] at z5
        rw [e2]
        exact z5
    · exact absurd w z3
theorem pr_read {N : Nat} {σ : sm_S} (a1 a2 a3 : Int32) (h : tie True N σ (σ 169)) (hj : jj N (σ 169)) (hx : jx (σ 169)) (hN : N < 1998000000) : prC j_A_read j_M_read [.ref 42, .int a1, .int a2, .int a3] [.ref 0, .int a1, .int a2, .int a3] N σ := by
  obtain ⟨r, v', N', n', j', x', C, R⟩ := p_touch a1 a2 0 a3 0 h hj hx hN
  refine ⟨r, v', N', by omega, j', x', ?_, fun σ2 e2 _ => ?_⟩
  · refine f_A_read a1 a2 a3 σ _ (C.int ?_)
    rintro y σ1 hy
    exact ⟨y, rfl, hy⟩
  · refine w_M_read a1 a2 a3 σ2 _ (fun σ1 e1 => (c_canDoX a1 a2 σ1).int ?_)
    obtain ⟨f1, f5⟩ := told1 e2 e1
    rintro x2 σ3 ⟨hx2, es⟩
    rw [es]
    rw [f1] at hx2
    refine ⟨fun z => ?_, fun z => ?_⟩
    · rcases R with ⟨tk, -⟩ | ⟨-, q1, q2⟩
      · exact absurd tk (hx2.b.1.mp z)
      · rw [q1, q2]
        exact sameR e2 e1
    · have tk := hx2.b.2.mp z
      have tk2 := tk
      obtain ⟨m, n, hm, hm1, hn, hn1, h0, hw⟩ := tk2
      obtain ⟨o, fr, b1, b2, -⟩ := hj.2.1.1 n hn
      have hp := t_pw (k := o) (by omega)
      refine (c_longOf hn1 hn σ1).int ?_
      rintro y2 σ4 ⟨ey2, es4⟩
      rw [f1] at ey2
      have sz : (y2 - 1).toInt = ((2 ^ o : Nat) : Int) - 1 := by
        rw [ey2]
        exact t_sub (t_pow b1 (by omega)) rfl (by omega) (by omega)
      rw [es4]
      refine (c_isInX (L := 0) (H := ((2 ^ o : Nat) : Int) - 1) rfl sz a3 σ1).int ?_
      rintro y3 σ5 ⟨hy3, es5⟩
      rw [es5]
      refine ⟨fun z3 => ?_, fun z3 => ?_⟩
      · rcases R with ⟨-, w1, w2, -⟩ | ⟨-, q1, q2⟩
        · exact absurd ⟨w1, by have := w2 n o hn1 b1; omega⟩ (hy3.b.1.mp z3)
        · rw [q1, q2]
          exact sameR e2 e1
      · rcases R with ⟨-, -, -, R⟩ | ⟨q, -⟩
        · refine (R σ1 f1).int ?_
          rintro y4 σ6 ⟨ey4, es6⟩
          rw [ey4]
          exact pubR f5 es6
        · obtain ⟨w1, w2⟩ := hy3.b.2.mp z3
          refine absurd ⟨tk, w1, fun n2 o2 y1 y2 => ?_⟩ q
          have e : n2 = n := by omega
          rw [e] at y2
          have e2 : o2 = o := by omega
          rw [e2]
          omega
theorem pr_write {N : Nat} {σ : sm_S} (a1 a2 a3 a4 : Int32) (h : tie True N σ (σ 169)) (hj : jj N (σ 169)) (hx : jx (σ 169)) (hN : N < 1998000000) : prC j_A_write j_M_write [.ref 42, .int a1, .int a2, .int a3, .int a4] [.ref 0, .int a1, .int a2, .int a3, .int a4] N σ := by
  obtain ⟨r, v', N', n', j', x', C, R⟩ := p_touch a1 a2 1 a3 a4 h hj hx hN
  refine ⟨r, v', N', by omega, j', x', ?_, fun σ2 e2 _ => ?_⟩
  · refine f_A_write a1 a2 a3 a4 σ _ (C.int ?_)
    rintro y σ1 hy
    exact ⟨y, rfl, hy⟩
  · refine w_M_write a1 a2 a3 a4 σ2 _ (fun σ1 e1 => (c_canDoX a1 a2 σ1).int ?_)
    obtain ⟨f1, f5⟩ := told1 e2 e1
    rintro x2 σ3 ⟨hx2, es⟩
    rw [es]
    rw [f1] at hx2
    refine ⟨fun z => ?_, fun z => ?_⟩
    · rcases R with ⟨tk, -⟩ | ⟨-, q1, q2⟩
      · exact absurd tk (hx2.b.1.mp z)
      · rw [q1, q2]
        exact sameR e2 e1
    · have tk := hx2.b.2.mp z
      have tk2 := tk
      obtain ⟨m, n, hm, hm1, hn, hn1, h0, hw⟩ := tk2
      obtain ⟨o, fr, b1, b2, -⟩ := hj.2.1.1 n hn
      have hp := t_pw (k := o) (by omega)
      refine (c_longOf hn1 hn σ1).int ?_
      rintro y2 σ4 ⟨ey2, es4⟩
      rw [f1] at ey2
      have sz : (y2 - 1).toInt = ((2 ^ o : Nat) : Int) - 1 := by
        rw [ey2]
        exact t_sub (t_pow b1 (by omega)) rfl (by omega) (by omega)
      rw [es4]
      refine (c_isInX (L := 0) (H := ((2 ^ o : Nat) : Int) - 1) rfl sz a3 σ1).int ?_
      rintro y3 σ5 ⟨hy3, es5⟩
      rw [es5]
      refine ⟨fun z3 => ?_, fun z3 => ?_⟩
      · rcases R with ⟨-, w1, w2, -⟩ | ⟨-, q1, q2⟩
        · exact absurd ⟨w1, by have := w2 n o hn1 b1; omega⟩ (hy3.b.1.mp z3)
        · rw [q1, q2]
          exact sameR e2 e1
      · rcases R with ⟨-, -, -, R⟩ | ⟨q, -⟩
        · refine (R σ1 f1).int ?_
          rintro y4 σ6 ⟨ey4, es6⟩
          rw [ey4]
          exact pubR f5 es6
        · obtain ⟨w1, w2⟩ := hy3.b.2.mp z3
          refine absurd ⟨tk, w1, fun n2 o2 y1 y2 => ?_⟩ q
          have e : n2 = n := by omega
          rw [e] at y2
          have e2 : o2 = o := by omega
          rw [e2]
          omega
end
section
/-! ===== the simulation: pin, unpin, set ===== -/
def hPin (v : Nat → Int32) (a1 : Int32) (n : Nat) : Prop := ((v (786 + 16 * n + 5) >>> (a1 &&& 31)) &&& 1) ≠ 0
theorem c_hasPinX {t b : Int32} {n : Nat} (hb : b.toInt = n) (hn : n < 96) (σ : sm_S) : xC xM j_M_hasPin [.ref 0, .int t, .int b] σ (sm_I (fun x σ' => isYes (hPin (σ 1) t n) x ∧ σ' = σ)) := by
  refine w_M_hasPin t b σ _ ((c_of (k := 5) (j := 5) hb rfl (by omega) σ).int ?_)
  rintro y σ1 ⟨ey, es⟩
  rw [ey, es]
  refine ⟨fun z => ⟨Or.inl rfl, _, rfl, Or.inr ⟨rfl, fun w => ?_⟩, rfl⟩, fun z => ⟨Or.inr rfl, _, rfl, Or.inl ⟨rfl, ?_⟩, rfl⟩⟩
  · exact (and01 _).elim w z
  · unfold hPin
    rw [Classical.not_not.mp z]
    decide
theorem f_hasPinX {a1 a2 : Int32} {σ : sm_S} {v : Nat → Int32} (h : sim0 σ v) : xC xF j_A_hasPin [.ref 42, .int a1, .int a2] σ (sm_I (fun x σ' => isYes ((0 ≤ a1.toInt ∧ a1.toInt < 6) ∧ ∃ n : Nat, n < 96 ∧ a2.toInt = n ∧ v (786 + 16 * n + 0) = 1 ∧ hPin v a1 n) x ∧ σ' = σ)) := by
  obtain ⟨xh, rxh, cxh, hxh⟩ := p_has a2 h
  refine f_A_hasPin a1 a2 σ _ ((nw0 (e_isTaskX a1 σ)).int ?_)
  rintro x2 σ1 ⟨hx2, es⟩
  rw [es]
  refine ⟨fun z => ⟨Or.inl rfl, _, rfl, Or.inr ⟨rfl, fun w => hx2.b.1.mp z w.1⟩, rfl⟩, fun z => (nw0 cxh).int ?_⟩
  rintro y1 σ3 ⟨ey1, es3⟩
  rw [ey1, es3]
  have k1 := hx2.b.2.mp z
  rcases hxh with ⟨xh1, n, hn, hn1, h0⟩ | ⟨xh0, hno⟩
  · refine ⟨fun z => absurd xh1 (by rw [z]; decide), fun _ => ?_⟩
    obtain ⟨gb, gb9⟩ := (h.B n hn).al h0
    rw [t_nat hn1, ← gb.pin]
    refine ⟨t_vp hn1 hn, fun w => ⟨Or.inl rfl, _, rfl, Or.inr ⟨rfl, ?_⟩, rfl⟩, fun w => ⟨Or.inr rfl, _, rfl, Or.inl ⟨rfl, k1, n, hn, hn1, h0, w⟩, rfl⟩⟩
    rintro ⟨-, n', y1, y2, -, y3⟩
    have e : n' = n := by omega
    rw [e] at y3
    exact y3 w
  · refine ⟨fun _ => ⟨Or.inl rfl, _, rfl, Or.inr ⟨rfl, ?_⟩, rfl⟩, fun z => absurd xh0 z⟩
    rintro ⟨-, n', y1, y2, y3, -⟩
    have := hno n' y1 y2
    rw [y3] at this
    exact absurd this (by decide)
theorem pr_pin {N : Nat} {σ : sm_S} (a1 a2 : Int32) (h : tie True N σ (σ 169)) (hj : jj N (σ 169)) (hx : jx (σ 169)) (hN : N < 1998000000) : prC j_A_pin j_M_pin [.ref 42, .int a1, .int a2] [.ref 0, .int a1, .int a2] N σ := by
  by_cases hp : (0 ≤ a1.toInt ∧ a1.toInt < 6) ∧ ∃ n : Nat, n < 96 ∧ a2.toInt = n ∧ σ 169 (786 + 16 * n + 0) = 1 ∧ hPin (σ 169) a1 n
  · refine ⟨-1, σ 169, N, by omega, hj, hx, ?_, fun σ2 e2 _ => ?_⟩
    · refine f_A_pin a1 a2 σ _ ((f_hasPinX h.s).int ?_)
      rintro x2 σ1 ⟨hx2, es⟩
      rw [es]
      exact ⟨fun z => absurd hp (hx2.b.1.mp z), fun _ => sameC h⟩
    · refine w_M_pin a1 a2 σ2 _ (fun σ1 e1 => (c_canDoX a1 a2 σ1).int ?_)
      obtain ⟨f1, f5⟩ := told1 e2 e1
      rintro x2 σ3 ⟨hx2, es⟩
      rw [es]
      obtain ⟨-, n, hn, hn1, h0, hpn⟩ := hp
      refine ⟨fun _ => sameR e2 e1, fun _ => (c_hasPinX hn1 hn σ1).int ?_⟩
      rintro x4 σ4 ⟨hx4, es4⟩
      rw [f1] at hx4
      rw [es4]
      exact ⟨fun _ => sameR e2 e1, fun z => absurd (hx4.b.2.mpr hpn) z⟩
  · obtain ⟨r, v', N', n', j', x', C, R⟩ := p_touch a1 a2 2 0 0 h hj hx hN
    refine ⟨r, v', N', by omega, j', x', ?_, fun σ2 e2 _ => ?_⟩
    · refine f_A_pin a1 a2 σ _ ((f_hasPinX h.s).int ?_)
      rintro x2 σ1 ⟨hx2, es⟩
      rw [es]
      refine ⟨fun _ => C.int ?_, fun z => absurd (hx2.b.2.mp z) hp⟩
      rintro y σ1 hy
      exact ⟨y, rfl, hy⟩
    · refine w_M_pin a1 a2 σ2 _ (fun σ1 e1 => (c_canDoX a1 a2 σ1).int ?_)
      obtain ⟨f1, f5⟩ := told1 e2 e1
      rintro x2 σ3 ⟨hx2, es⟩
      rw [es]
      rw [f1] at hx2
      refine ⟨fun z => ?_, fun z => ?_⟩
      · rcases R with ⟨tk, -⟩ | ⟨-, q1, q2⟩
        · exact absurd tk (hx2.b.1.mp z)
        · rw [q1, q2]
          exact sameR e2 e1
      · have tk := hx2.b.2.mp z
        have tk2 := tk
        obtain ⟨m, n, hm, hm1, hn, hn1, h0, hw⟩ := tk2
        refine (c_hasPinX hn1 hn σ1).int ?_
        rintro x4 σ4 ⟨hx4, es4⟩
        rw [f1] at hx4
        rw [es4]
        refine ⟨fun z4 => absurd ⟨⟨by omega, by omega⟩, n, hn, hn1, h0, hx4.b.2.mp z4⟩ hp, fun _ => ?_⟩
        rcases R with ⟨-, -, -, R⟩ | ⟨q, -⟩
        · refine (R σ1 f1).int ?_
          rintro y4 σ6 ⟨ey4, es6⟩
          rw [ey4]
          exact pubR f5 es6
        · refine absurd ⟨tk, Int.le_refl _, fun n2 o2 y1 y2 => ?_⟩ q
          have := Nat.two_pow_pos o2
          show (0 : Int) < _
          omega
theorem pr_unpin {N : Nat} {σ : sm_S} (a1 a2 : Int32) (h : tie True N σ (σ 169)) (hj : jj N (σ 169)) (hx : jx (σ 169)) : prC j_A_unpin j_M_unpin [.ref 42, .int a1, .int a2] [.ref 0, .int a1, .int a2] N σ := by
  by_cases hp : (0 ≤ a1.toInt ∧ a1.toInt < 6) ∧ ∃ n : Nat, n < 96 ∧ a2.toInt = n ∧ σ 169 (786 + 16 * n + 0) = 1 ∧ hPin (σ 169) a1 n
  · have hp2 := hp
    obtain ⟨k1, n, hn, hn1, h0, hpn⟩ := hp2
    obtain ⟨gb, gb9⟩ := (h.s.B n hn).al h0
    have R : rp j_M_unpin [.ref 0, .int a1, .int a2] (σ 169) (σ 172) 1 (upd (σ 169) (786 + 16 * n + 5) (σ 13 n &&& (((1 : Int32) <<< (a1 &&& 31)) ^^^ (-1)))) := fun σ2 e2 _ => by
      refine w_M_unpin a1 a2 σ2 _ (fun σ1 e1 => (c_isTaskX a1 σ1).int ?_)
      obtain ⟨f1, f5⟩ := told1 e2 e1
      rintro x2 σ3 ⟨hx2, es⟩
      rw [es]
      refine ⟨fun z => absurd k1 (hx2.b.1.mp z), fun _ => (c_isBlock a2 σ1).int ?_⟩
      rintro x3 σ4 ⟨hx3, es4⟩
      rw [es4]
      refine ⟨fun z => ?_, fun _ => (c_hasPinX hn1 hn σ1).int ?_⟩
      · rcases hx3 with ⟨w, -⟩ | ⟨-, w | ⟨n', w1, w2, w3⟩⟩
        · rw [z] at w
          exact absurd w (by decide)
        · omega
        · have e : n' = n := by omega
          rw [e, f1] at w3
          exact absurd h0 w3
      · rintro x4 σ5 ⟨hx4, es5⟩
        rw [f1] at hx4
        rw [es5]
        refine ⟨fun _ => (c_of (k := 5) (j := 5) hn1 rfl (by omega) σ1).int ?_, fun z => absurd (hx4.b.2.mpr hpn) z⟩
        rintro y5 σ6 ⟨ey5, es6⟩
        rw [ey5, es6, f1, gb.pin]
        refine (c_lay (k := 5) (j := 5) hn1 rfl (by omega) _ σ1).void ?_
        rintro σ7 es7
        rw [f1] at es7
        exact ⟨Or.inr rfl, pubR f5 es7⟩
    obtain ⟨N', j', n1, n2⟩ := R.jj (N := N) (D := 0) (fun σ2 e2 => c_unpin a1 a2 σ2 (by rw [e2]; exact hj))
    have eN : N' = N := by omega
    rw [eN] at j'
    have t' : tie True N (sm_set σ 13 (upd (σ 13) n (σ 13 n &&& (((1 : Int32) <<< (a1 &&& 31)) ^^^ (-1))))) (upd (σ 169) (786 + 16 * n + 5) (σ 13 n &&& (((1 : Int32) <<< (a1 &&& 31)) ^^^ (-1)))) := h.to (sim_pin _ h.s h.b hn) (fun k k1 k2 => s_ne (by omega)) (u_ne (by omega)) (fun i hi => u_ne (by omega)) j'.2.1.1
    refine ⟨1, _, N, by omega, j', ?_, ?_, R⟩
    · refine hx.cg (fun b k hb hk => u_ne (by omega)) (fun s' hs' z => ⟨?_, u_ne (by omega)⟩) (u_ne (by omega)) (fun i i1 i2 => u_ne (by omega))
      rw [u_ne (by omega)] at z
      exact z
    · refine f_A_unpin a1 a2 σ _ ((f_hasPinX h.s).int ?_)
      rintro x2 σ1 ⟨hx2, es⟩
      rw [es, t_nat hn1]
      refine ⟨fun _ => ⟨t_vp hn1 hn, t_vp hn1 hn, fun σ5 es5 => ⟨Or.inr rfl, _, rfl, rfl, by rw [es5]; exact t', fun a ha => by rw [es5, s_ne (by omega)]⟩⟩, fun z => absurd (hx2.b.2.mpr hp) z⟩
  · refine ⟨0, σ 169, N, by omega, hj, hx, ?_, fun σ2 e2 _ => ?_⟩
    · refine f_A_unpin a1 a2 σ _ ((f_hasPinX h.s).int ?_)
      rintro x2 σ1 ⟨hx2, es⟩
      rw [es]
      exact ⟨fun z => absurd (hx2.b.2.mp z) hp, fun _ => ⟨Or.inl rfl, sameC h⟩⟩
    · refine w_M_unpin a1 a2 σ2 _ (fun σ1 e1 => (c_isTaskX a1 σ1).int ?_)
      obtain ⟨f1, f5⟩ := told1 e2 e1
      rintro x2 σ3 ⟨hx2, es⟩
      rw [es]
      refine ⟨fun _ => ⟨Or.inl rfl, sameR e2 e1⟩, fun z2 => (c_isBlock a2 σ1).int ?_⟩
      rintro x3 σ4 ⟨hx3, es4⟩
      rw [es4]
      refine ⟨fun _ => ⟨Or.inl rfl, sameR e2 e1⟩, fun z3 => ?_⟩
      obtain ⟨-, n, hn, hn1, h0⟩ := hx3.resolve_right (fun z => z3 z.1)
      refine (c_hasPinX hn1 hn σ1).int ?_
      rintro x4 σ5 ⟨hx4, es5⟩
      rw [f1] at hx4 h0
      rw [es5]
      exact ⟨fun z => absurd ⟨hx2.b.2.mp z2, n, hn, hn1, h0, hx4.b.2.mp z⟩ hp, fun _ => ⟨Or.inl rfl, sameR e2 e1⟩⟩
end
section
/-! ===== the simulation: set ===== -/
theorem pr_setK {N n : Nat} {σ : sm_S} {a1 a2 lo hi f : Int32} (h : tie True N σ (σ 169)) (hj : jj N (σ 169)) (hx : jx (σ 169)) (hn : a1.toInt = n) (h4 : n < 4) (elo : (xT 0).getD n 0 = lo) (ehi : (xT 1).getD n 0 = hi)
    (hR : ∀ (σ2 : sm_S) (Q : Option Value → sm_S → Prop), (∀ σ1, σ1 = sm_set σ2 0 (upd (σ2 0) 0 0) → xC xM j_M_isIn [.ref 0, .int a2, .int lo, .int hi] σ1 (sm_ri False (fun x5 σ4 => ((x5 ≠ 0 → xC xM j_M_firstOf [.ref 0, .int a1] σ4 (sm_ri False (fun x7 σ6 => (vp_in a1 2662 ∧ ∀ σ8, σ8 = sm_set σ6 1 (upd (σ6 1) (a1).toNatClampNeg (a2 - x7)) → (((1 : Int32) = 0 ∨ (1 : Int32) = 1) ∧ Q (some (.int 1)) σ8))))) ∧ (¬ (x5 ≠ 0) → (((0 : Int32) = 0 ∨ (0 : Int32) = 1) ∧ Q (some (.int 0)) σ4)))))) → xC xM j_M_set [.ref 0, .int a1, .int a2] σ2 Q)
    (hF : ∀ σ2 : sm_S, xC xM j_M_firstOf [.ref 0, .int a1] σ2 (sm_I (fun x σ' => x = f ∧ σ' = σ2)))
    (hS : sN σ (σ 169) → sN (sm_set σ 39 (upd (σ 39) n a2)) (upd (σ 169) n (a2 - f))) (hX : lo.toInt ≤ a2.toInt → a2.toInt ≤ hi.toInt → jx (upd (σ 169) n (a2 - f))) : prC j_A_set j_M_set [.ref 42, .int a1, .int a2] [.ref 0, .int a1, .int a2] N σ := by
  have n0 : ¬ a1 < 0 := fun z => by
    rw [t_lt, hn] at z
    have z : (n : Int) < (0 : Int) := z
    omega
  have n4 : ¬ 4 ≤ a1 := fun z => by
    rw [t_le, hn] at z
    have z : (4 : Int) ≤ (n : Int) := z
    omega
  by_cases ok : lo.toInt ≤ a2.toInt ∧ a2.toInt ≤ hi.toInt
  · have R : rp j_M_set [.ref 0, .int a1, .int a2] (σ 169) (σ 172) 1 (upd (σ 169) n (a2 - f)) := fun σ2 e2 _ => by
      refine hR σ2 _ (fun σ1 e1 => (c_isInX (L := lo.toInt) (H := hi.toInt) rfl rfl a2 σ1).int ?_)
      obtain ⟨f1, f5⟩ := told1 e2 e1
      rintro x2 σ3 ⟨hx2, es⟩
      rw [es]
      refine ⟨fun _ => (hF σ1).int ?_, fun z => absurd (hx2.b.2.mpr ok) z⟩
      rintro y3 σ4 ⟨ey3, es4⟩
      rw [ey3, es4, t_nat hn]
      refine ⟨t_vp hn (by omega), fun σ8 es8 => ⟨Or.inr rfl, ?_⟩⟩
      rw [f1] at es8
      exact pubR f5 es8
    obtain ⟨N', j', n1, n2⟩ := R.jj (N := N) (D := 0) (fun σ2 e2 => (c_set a1 a2 σ2 (by rw [e2]; exact hj)).mono (by
      rintro r0 σ7 ⟨y, y1, -, y2⟩
      exact ⟨y, y1, y2⟩))
    have eN : N' = N := by omega
    rw [eN] at j'
    have t' : tie True N (sm_set σ 39 (upd (σ 39) n a2)) (upd (σ 169) n (a2 - f)) := h.to (h.s.n0 h.b (fun k k1 k2 _ => s_ne (by omega)) (fun i i1 i2 => u_ne (by omega)) (hS h.s.N)) (fun k k1 k2 => s_ne (by omega)) (u_ne (by omega)) (fun i hi => u_ne (by omega)) j'.2.1.1
    refine ⟨1, _, N, by omega, j', hX ok.1 ok.2, ?_, R⟩
    refine f_A_set a1 a2 σ _ ⟨fun z => absurd z n0, fun _ => ⟨fun z => absurd z n4, fun _ => ?_⟩⟩
    rw [t_nat hn, elo, ehi]
    refine ⟨t_vp hn (show n < 4 by omega), fun z => ?_, fun _ => ⟨t_vp hn (show n < 4 by omega), fun _ => ⟨t_vp hn h4, fun σ1 e1 => ⟨Or.inr rfl, _, rfl, rfl, by rw [e1]; exact t', fun a ha => by rw [e1, s_ne (by omega)]⟩⟩, fun z => ?_⟩⟩
    · rw [t_lt] at z
      omega
    · rw [t_le] at z
      exact absurd ok.2 z
  · refine ⟨0, σ 169, N, by omega, hj, hx, ?_, fun σ2 e2 _ => ?_⟩
    · refine f_A_set a1 a2 σ _ ⟨fun z => absurd z n0, fun _ => ⟨fun z => absurd z n4, fun _ => ?_⟩⟩
      rw [t_nat hn, elo, ehi]
      refine ⟨t_vp hn (show n < 4 by omega), fun _ => ⟨Or.inl rfl, sameC h⟩, fun z => ⟨t_vp hn (show n < 4 by omega), fun z2 => absurd ⟨?_, ?_⟩ ok, fun _ => ⟨Or.inl rfl, sameC h⟩⟩⟩
      · rw [t_lt] at z
        omega
      · rw [t_le] at z2
        exact z2
    · refine hR σ2 _ (fun σ1 e1 => (c_isInX (L := lo.toInt) (H := hi.toInt) rfl rfl a2 σ1).int ?_)
      rintro x2 σ3 ⟨hx2, es⟩
      rw [es]
      exact ⟨fun z => absurd (hx2.b.2.mp z) ok, fun _ => ⟨Or.inl rfl, sameR e2 e1⟩⟩
theorem pr_set {N : Nat} {σ : sm_S} (a1 a2 : Int32) (h : tie True N σ (σ 169)) (hj : jj N (σ 169)) (hx : jx (σ 169)) : prC j_A_set j_M_set [.ref 42, .int a1, .int a2] [.ref 0, .int a1, .int a2] N σ := by
  by_cases k1 : 0 ≤ a1.toInt ∧ a1.toInt < 4
  · obtain ⟨n, hn⟩ := t_of k1.1
    have g := h.s.N
    rcases (show n = 0 ∨ n = 1 ∨ n = 2 ∨ n = 3 by omega) with q | q | q | q
    · subst q
      have e : a1 = 0 := t_inj hn
      subst e
      refine pr_setK (n := 0) (lo := 1) (hi := 16) (f := 4) h hj hx rfl (by decide) rfl rfl (fun σ2 Q hq => w_M_set 0 a2 σ2 Q (fun σ1 e1 => (c_isInX (L := 0) (H := 3) rfl rfl 0 σ1).int ?_)) (fun σ2 => w_M_firstOf 0 σ2 _ ⟨fun z => absurd rfl z, fun _ => ⟨_, rfl, rfl, rfl⟩⟩) (fun _ => ⟨by rw [s_at, u_at, u_at, Int32.sub_add_cancel], by rw [s_at, u_ne (by decide), u_ne (by decide)]; exact g.tri, by rw [s_at, u_ne (by decide), u_ne (by decide)]; exact g.rto, by rw [s_at, u_ne (by decide), u_ne (by decide)]; exact g.pau, fun k hk => by rw [s_ne (by decide), u_ne (by omega)]; exact g.cnt k hk, by rw [s_ne (by decide), u_ne (by decide)]; exact g.tic, by rw [s_ne (by decide), u_ne (by decide)]; exact g.use⟩) (fun l1 l2 => ?_)
      · rintro x2 σ3 ⟨hx2, es⟩
        rw [es]
        exact ⟨fun z => absurd (by decide) (hx2.b.1.mp z), fun _ => ⟨fun _ => ⟨fun z => absurd rfl z, fun _ => hq σ1 e1⟩, fun z => absurd (by decide) z⟩⟩
      · have l1 : (1 : Int) ≤ _ := l1
        have l2 : _ ≤ (16 : Int) := l2
        refine ⟨fun b hb => ?_, fun b hb => ?_, fun s hs => ?_, by rw [u_at, Int32.sub_add_cancel]; omega, by rw [u_ne (by decide)]; exact hx.2.2.2.2.1, by rw [u_ne (by decide)]; exact hx.2.2.2.2.2.1, by rw [u_ne (by decide)]; exact hx.2.2.2.2.2.2⟩
        · rw [u_ne (by omega), u_ne (by omega), u_ne (by omega), u_ne (by omega), u_ne (by omega)]
          exact hx.1 b hb
        · rw [u_ne (by omega), u_ne (by omega)]
          exact hx.2.1 b hb
        · rw [u_ne (by omega), u_ne (by omega)]
          exact hx.2.2.1 s hs
    · subst q
      have e : a1 = 1 := t_inj hn
      subst e
      refine pr_setK (n := 1) (lo := 1) (hi := 9) (f := 3) h hj hx rfl (by decide) rfl rfl (fun σ2 Q hq => w_M_set 1 a2 σ2 Q (fun σ1 e1 => (c_isInX (L := 0) (H := 3) rfl rfl 1 σ1).int ?_)) (fun σ2 => w_M_firstOf 1 σ2 _ ⟨fun _ => ⟨fun z => absurd rfl z, fun _ => ⟨_, rfl, rfl, rfl⟩⟩, fun z => absurd (by decide) z⟩) (fun _ => ⟨by rw [s_at, u_ne (by decide), u_ne (by decide)]; exact g.rat, by rw [s_at, u_at, u_at, Int32.sub_add_cancel], by rw [s_at, u_ne (by decide), u_ne (by decide)]; exact g.rto, by rw [s_at, u_ne (by decide), u_ne (by decide)]; exact g.pau, fun k hk => by rw [s_ne (by decide), u_ne (by omega)]; exact g.cnt k hk, by rw [s_ne (by decide), u_ne (by decide)]; exact g.tic, by rw [s_ne (by decide), u_ne (by decide)]; exact g.use⟩) (fun l1 l2 => ?_)
      · rintro x2 σ3 ⟨hx2, es⟩
        rw [es]
        exact ⟨fun z => absurd (by decide) (hx2.b.1.mp z), fun _ => ⟨fun _ => ⟨fun _ => ⟨fun z => absurd rfl z, fun _ => hq σ1 e1⟩, fun z => absurd (by decide) z⟩, fun z => absurd (by decide) z⟩⟩
      · have l1 : (1 : Int) ≤ _ := l1
        have l2 : _ ≤ (9 : Int) := l2
        refine ⟨fun b hb => ?_, fun b hb => ?_, fun s hs => ?_, by rw [u_ne (by decide)]; exact hx.2.2.2.1, by rw [u_ne (by decide)]; exact hx.2.2.2.2.1, by rw [u_ne (by decide)]; exact hx.2.2.2.2.2.1, by rw [u_ne (by decide)]; exact hx.2.2.2.2.2.2⟩
        · rw [u_ne (by omega), u_ne (by omega), u_ne (by omega), u_ne (by omega), u_ne (by omega)]
          exact hx.1 b hb
        · rw [u_ne (by omega), u_ne (by omega)]
          exact hx.2.1 b hb
        · rw [u_ne (by omega), u_ne (by omega)]
          exact hx.2.2.1 s hs
    · subst q
      have e : a1 = 2 := t_inj hn
      subst e
      refine pr_setK (n := 2) (lo := 0) (hi := 400) (f := 150) h hj hx rfl (by decide) rfl rfl (fun σ2 Q hq => w_M_set 2 a2 σ2 Q (fun σ1 e1 => (c_isInX (L := 0) (H := 3) rfl rfl 2 σ1).int ?_)) (fun σ2 => w_M_firstOf 2 σ2 _ ⟨fun _ => ⟨fun _ => ⟨fun z => absurd rfl z, fun _ => ⟨_, rfl, rfl, rfl⟩⟩, fun z => absurd (by decide) z⟩, fun z => absurd (by decide) z⟩) (fun _ => ⟨by rw [s_at, u_ne (by decide), u_ne (by decide)]; exact g.rat, by rw [s_at, u_ne (by decide), u_ne (by decide)]; exact g.tri, by rw [s_at, u_at, u_at, Int32.sub_add_cancel], by rw [s_at, u_ne (by decide), u_ne (by decide)]; exact g.pau, fun k hk => by rw [s_ne (by decide), u_ne (by omega)]; exact g.cnt k hk, by rw [s_ne (by decide), u_ne (by decide)]; exact g.tic, by rw [s_ne (by decide), u_ne (by decide)]; exact g.use⟩) (fun l1 l2 => ?_)
      · rintro x2 σ3 ⟨hx2, es⟩
        rw [es]
        exact ⟨fun z => absurd (by decide) (hx2.b.1.mp z), fun _ => ⟨fun z => absurd rfl z, fun _ => ⟨fun _ => ⟨fun _ => ⟨fun z => absurd rfl z, fun _ => hq σ1 e1⟩, fun z => absurd (by decide) z⟩, fun z => absurd (by decide) z⟩⟩⟩
      · have l1 : (0 : Int) ≤ _ := l1
        have l2 : _ ≤ (400 : Int) := l2
        refine ⟨fun b hb => ?_, fun b hb => ?_, fun s hs => ?_, by rw [u_ne (by decide)]; exact hx.2.2.2.1, by rw [u_ne (by decide)]; exact hx.2.2.2.2.1, by rw [u_at, Int32.sub_add_cancel]; omega, by rw [u_at, Int32.sub_add_cancel]; omega⟩
        · rw [u_ne (by omega), u_ne (by omega), u_ne (by omega), u_ne (by omega), u_ne (by omega)]
          exact hx.1 b hb
        · rw [u_ne (by omega), u_ne (by omega)]
          exact hx.2.1 b hb
        · rw [u_ne (by omega), u_ne (by omega)]
          exact hx.2.2.1 s hs
    · subst q
      have e : a1 = 3 := t_inj hn
      subst e
      refine pr_setK (n := 3) (lo := 1) (hi := 20) (f := 2) h hj hx rfl (by decide) rfl rfl (fun σ2 Q hq => w_M_set 3 a2 σ2 Q (fun σ1 e1 => (c_isInX (L := 0) (H := 3) rfl rfl 3 σ1).int ?_)) (fun σ2 => w_M_firstOf 3 σ2 _ ⟨fun _ => ⟨fun _ => ⟨fun _ => ⟨_, rfl, rfl, rfl⟩, fun z => absurd (by decide) z⟩, fun z => absurd (by decide) z⟩, fun z => absurd (by decide) z⟩) (fun _ => ⟨by rw [s_at, u_ne (by decide), u_ne (by decide)]; exact g.rat, by rw [s_at, u_ne (by decide), u_ne (by decide)]; exact g.tri, by rw [s_at, u_ne (by decide), u_ne (by decide)]; exact g.rto, by rw [s_at, u_at, u_at, Int32.sub_add_cancel], fun k hk => by rw [s_ne (by decide), u_ne (by omega)]; exact g.cnt k hk, by rw [s_ne (by decide), u_ne (by decide)]; exact g.tic, by rw [s_ne (by decide), u_ne (by decide)]; exact g.use⟩) (fun l1 l2 => ?_)
      · rintro x2 σ3 ⟨hx2, es⟩
        rw [es]
        exact ⟨fun z => absurd (by decide) (hx2.b.1.mp z), fun _ => ⟨fun _ => ⟨fun _ => ⟨fun _ => ⟨fun _ => hq σ1 e1, fun z => absurd (by decide) z⟩, fun z => absurd (by decide) z⟩, fun z => absurd (by decide) z⟩, fun z => absurd (by decide) z⟩⟩
      · have l1 : (1 : Int) ≤ _ := l1
        have l2 : _ ≤ (20 : Int) := l2
        refine ⟨fun b hb => ?_, fun b hb => ?_, fun s hs => ?_, by rw [u_ne (by decide)]; exact hx.2.2.2.1, by rw [u_at, Int32.sub_add_cancel]; omega, by rw [u_ne (by decide)]; exact hx.2.2.2.2.2.1, by rw [u_ne (by decide)]; exact hx.2.2.2.2.2.2⟩
        · rw [u_ne (by omega), u_ne (by omega), u_ne (by omega), u_ne (by omega), u_ne (by omega)]
          exact hx.1 b hb
        · rw [u_ne (by omega), u_ne (by omega)]
          exact hx.2.1 b hb
        · rw [u_ne (by omega), u_ne (by omega)]
          exact hx.2.2.1 s hs
  · refine ⟨0, σ 169, N, by omega, hj, hx, ?_, fun σ2 e2 _ => ?_⟩
    · refine f_A_set a1 a2 σ _ ⟨fun _ => ⟨Or.inl rfl, sameC h⟩, fun z => ⟨fun _ => ⟨Or.inl rfl, sameC h⟩, fun w => absurd ⟨?_, ?_⟩ k1⟩⟩
      · rw [t_lt] at z
        have z : ¬ a1.toInt < (0 : Int) := z
        omega
      · rw [t_le] at w
        have w : ¬ (4 : Int) ≤ a1.toInt := w
        omega
    · refine w_M_set a1 a2 σ2 _ (fun σ1 e1 => (c_isInX (L := 0) (H := 3) rfl rfl a1 σ1).int ?_)
      rintro x2 σ3 ⟨hx2, es⟩
      rw [es]
      refine ⟨fun _ => ⟨Or.inl rfl, sameR e2 e1⟩, fun z => absurd ?_ k1⟩
      have := hx2.b.2.mp z
      omega
end
