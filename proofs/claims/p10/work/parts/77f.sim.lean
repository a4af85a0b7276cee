/-! ===== the simulation: one Memory's cells (0 .. 40 of c) and the reference's row v ===== -/
def sF (c : sm_S) (v : Nat → Int32) (f : Nat) : Prop := (v (18 + 3 * f) = 0 ∨ v (18 + 3 * f) = 1 ∨ v (18 + 3 * f) = 2 ∨ v (18 + 3 * f) = 3 ∨ v (18 + 3 * f) = 4) ∧ (bit (c 2 (f / 32)) (f % 32) ↔ v (18 + 3 * f) = 1) ∧ (bit (c 3 (f / 32)) (f % 32) ↔ v (18 + 3 * f) = 2) ∧ (bit (c 4 (f / 32)) (f % 32) ↔ v (18 + 3 * f) = 3) ∧ (bit (c 5 (f / 32)) (f % 32) ↔ v (18 + 3 * f) = 4) ∧ (v (18 + 3 * f + 1) = c 6 f + 1) ∧ (v (18 + 3 * f + 2) = c 7 f)
theorem sF.rng {c : sm_S} {v : Nat → Int32} {f : Nat} (h : sF c v f) : v (18 + 3 * f) = 0 ∨ v (18 + 3 * f) = 1 ∨ v (18 + 3 * f) = 2 ∨ v (18 + 3 * f) = 3 ∨ v (18 + 3 * f) = 4 := h.1
theorem sF.fre {c : sm_S} {v : Nat → Int32} {f : Nat} (h : sF c v f) : bit (c 2 (f / 32)) (f % 32) ↔ v (18 + 3 * f) = 1 := h.2.1
theorem sF.apa {c : sm_S} {v : Nat → Int32} {f : Nat} (h : sF c v f) : bit (c 3 (f / 32)) (f % 32) ↔ v (18 + 3 * f) = 2 := h.2.2.1
theorem sF.tak {c : sm_S} {v : Nat → Int32} {f : Nat} (h : sF c v f) : bit (c 4 (f / 32)) (f % 32) ↔ v (18 + 3 * f) = 3 := h.2.2.2.1
theorem sF.hel {c : sm_S} {v : Nat → Int32} {f : Nat} (h : sF c v f) : bit (c 5 (f / 32)) (f % 32) ↔ v (18 + 3 * f) = 4 := h.2.2.2.2.1
theorem sF.blk {c : sm_S} {v : Nat → Int32} {f : Nat} (h : sF c v f) : v (18 + 3 * f + 1) = c 6 f + 1 := h.2.2.2.2.2.1
theorem sF.val {c : sm_S} {v : Nat → Int32} {f : Nat} (h : sF c v f) : v (18 + 3 * f + 2) = c 7 f := h.2.2.2.2.2.2
/-- a block, where there is one -/
def sBl (c : sm_S) (v : Nat → Int32) (b : Nat) : Prop := (v (786 + 16 * b + 1) = c 9 b) ∧ (v (786 + 16 * b + 2) = c 10 b) ∧ (v (786 + 16 * b + 3) = c 11 b) ∧ (v (786 + 16 * b + 4) = c 12 b) ∧ (v (786 + 16 * b + 5) = c 13 b) ∧ (v (786 + 16 * b + 6) = c 14 b + 1) ∧ (v (786 + 16 * b + 7) = c 15 b) ∧ (v (786 + 16 * b + 8) = c 16 b)
theorem sBl.fir {c : sm_S} {v : Nat → Int32} {b : Nat} (h : sBl c v b) : v (786 + 16 * b + 1) = c 9 b := h.1
theorem sBl.ord {c : sm_S} {v : Nat → Int32} {b : Nat} (h : sBl c v b) : v (786 + 16 * b + 2) = c 10 b := h.2.1
theorem sBl.kin {c : sm_S} {v : Nat → Int32} {b : Nat} (h : sBl c v b) : v (786 + 16 * b + 3) = c 11 b := h.2.2.1
theorem sBl.own {c : sm_S} {v : Nat → Int32} {b : Nat} (h : sBl c v b) : v (786 + 16 * b + 4) = c 12 b := h.2.2.2.1
theorem sBl.pin {c : sm_S} {v : Nat → Int32} {b : Nat} (h : sBl c v b) : v (786 + 16 * b + 5) = c 13 b := h.2.2.2.2.1
theorem sBl.tgt {c : sm_S} {v : Nat → Int32} {b : Nat} (h : sBl c v b) : v (786 + 16 * b + 6) = c 14 b + 1 := h.2.2.2.2.2.1
theorem sBl.cop {c : sm_S} {v : Nat → Int32} {b : Nat} (h : sBl c v b) : v (786 + 16 * b + 7) = c 15 b := h.2.2.2.2.2.2.1
theorem sBl.use {c : sm_S} {v : Nat → Int32} {b : Nat} (h : sBl c v b) : v (786 + 16 * b + 8) = c 16 b := h.2.2.2.2.2.2.2
def sB (c : sm_S) (v : Nat → Int32) (b : Nat) : Prop := (c 9 b = -1 ∧ v (786 + 16 * b + 0) = 0) ∨ (c 9 b ≠ -1 ∧ v (786 + 16 * b + 0) = 1 ∧ sBl c v b)
def sS (c : sm_S) (v : Nat → Int32) (s : Nat) : Prop := (v (2358 + 8 * s + 0) = c 18 s) ∧ (c 18 s = 0 → c 19 s = -1) ∧ (c 18 s ≠ 0 → v (2358 + 8 * s + 1) = c 19 s) ∧ (v (2358 + 8 * s + 2) = c 20 s) ∧ (v (2358 + 8 * s + 3) = c 21 s) ∧ (v (2358 + 8 * s + 4) = c 22 s) ∧ (0 ≤ (c 22 s).toInt) ∧ (c 18 s = 3 → v (2358 + 8 * s + 5) = c 23 s) ∧ (v (2358 + 8 * s + 6) = c 24 s + 1) ∧ (v (2358 + 8 * s + 7) = c 25 s + 1) ∧ (c 18 s = 0 ∨ c 18 s = 1 → c 20 s = 0 ∧ c 21 s = 0 ∧ c 22 s = 0 ∧ c 24 s = -1)
theorem sS.sta {c : sm_S} {v : Nat → Int32} {s : Nat} (h : sS c v s) : v (2358 + 8 * s + 0) = c 18 s := h.1
theorem sS.zof {c : sm_S} {v : Nat → Int32} {s : Nat} (h : sS c v s) : c 18 s = 0 → c 19 s = -1 := h.2.1
theorem sS.zon {c : sm_S} {v : Nat → Int32} {s : Nat} (h : sS c v s) : c 18 s ≠ 0 → v (2358 + 8 * s + 1) = c 19 s := h.2.2.1
theorem sS.par {c : sm_S} {v : Nat → Int32} {s : Nat} (h : sS c v s) : v (2358 + 8 * s + 2) = c 20 s := h.2.2.2.1
theorem sS.pas {c : sm_S} {v : Nat → Int32} {s : Nat} (h : sS c v s) : v (2358 + 8 * s + 3) = c 21 s := h.2.2.2.2.1
theorem sS.pau {c : sm_S} {v : Nat → Int32} {s : Nat} (h : sS c v s) : v (2358 + 8 * s + 4) = c 22 s := h.2.2.2.2.2.1
theorem sS.pag {c : sm_S} {v : Nat → Int32} {s : Nat} (h : sS c v s) : 0 ≤ (c 22 s).toInt := h.2.2.2.2.2.2.1
theorem sS.rea {c : sm_S} {v : Nat → Int32} {s : Nat} (h : sS c v s) : c 18 s = 3 → v (2358 + 8 * s + 5) = c 23 s := h.2.2.2.2.2.2.2.1
theorem sS.lea {c : sm_S} {v : Nat → Int32} {s : Nat} (h : sS c v s) : v (2358 + 8 * s + 6) = c 24 s + 1 := h.2.2.2.2.2.2.2.2.1
theorem sS.why {c : sm_S} {v : Nat → Int32} {s : Nat} (h : sS c v s) : v (2358 + 8 * s + 7) = c 25 s + 1 := h.2.2.2.2.2.2.2.2.2.1
theorem sS.off {c : sm_S} {v : Nat → Int32} {s : Nat} (h : sS c v s) : c 18 s = 0 ∨ c 18 s = 1 → c 20 s = 0 ∧ c 21 s = 0 ∧ c 22 s = 0 ∧ c 24 s = -1 := h.2.2.2.2.2.2.2.2.2.2
def sT (c : sm_S) (v : Nat → Int32) (t : Nat) : Prop := (v (2322 + 6 * t + 0) = c 27 t) ∧ (v (2322 + 6 * t + 1) = c 28 t + 1) ∧ (v (2322 + 6 * t + 5) = c 29 t) ∧ (c 28 t ≠ -1 → v (2322 + 6 * t + 2) = c 30 t) ∧ (c 28 t ≠ -1 → v (2322 + 6 * t + 3) = c 31 t) ∧ (c 28 t ≠ -1 → v (2322 + 6 * t + 4) = c 32 t)
theorem sT.hom {c : sm_S} {v : Nat → Int32} {t : Nat} (h : sT c v t) : v (2322 + 6 * t + 0) = c 27 t := h.1
theorem sT.wai {c : sm_S} {v : Nat → Int32} {t : Nat} (h : sT c v t) : v (2322 + 6 * t + 1) = c 28 t + 1 := h.2.1
theorem sT.rea {c : sm_S} {v : Nat → Int32} {t : Nat} (h : sT c v t) : v (2322 + 6 * t + 5) = c 29 t := h.2.2.1
theorem sT.wis {c : sm_S} {v : Nat → Int32} {t : Nat} (h : sT c v t) : c 28 t ≠ -1 → v (2322 + 6 * t + 2) = c 30 t := h.2.2.2.1
theorem sT.wat {c : sm_S} {v : Nat → Int32} {t : Nat} (h : sT c v t) : c 28 t ≠ -1 → v (2322 + 6 * t + 3) = c 31 t := h.2.2.2.2.1
theorem sT.wva {c : sm_S} {v : Nat → Int32} {t : Nat} (h : sT c v t) : c 28 t ≠ -1 → v (2322 + 6 * t + 4) = c 32 t := h.2.2.2.2.2
/-- the one line -/
def lnC (c : sm_S) (L : Nat) : List Int32 := (List.range L).map (fun k => c 33 k)
/-- the line of a block, in the row -/
def lnV (v : Nat → Int32) (b L : Nat) : List Int32 := (List.range L).map (fun n => v (786 + 16 * b + (10 + n)))
def sQ (c : sm_S) (v : Nat → Int32) (L : Nat) : Prop := ((c 26 7).toInt = L) ∧ (L ≤ 6) ∧ (∀ k, k < L → ∃ t : Nat, t < 6 ∧ (c 33 k).toInt = t ∧ c 28 t ≠ -1) ∧ ((lnC c L).Nodup) ∧ (∀ t, t < 6 → c 28 t ≠ -1 → ∃ k, k < L ∧ (c 33 k).toInt = t) ∧ (∀ b, b < 96 → ∃ m : Nat, (v (786 + 16 * b + 9)).toInt = m ∧ lnV v b m = (lnC c L).filter (fun t => decide ((c 28 t.toNatClampNeg).toInt = b)))
theorem sQ.len {c : sm_S} {v : Nat → Int32} {L : Nat} (h : sQ c v L) : (c 26 7).toInt = L := h.1
theorem sQ.le6 {c : sm_S} {v : Nat → Int32} {L : Nat} (h : sQ c v L) : L ≤ 6 := h.2.1
theorem sQ.tsk {c : sm_S} {v : Nat → Int32} {L : Nat} (h : sQ c v L) : ∀ k, k < L → ∃ t : Nat, t < 6 ∧ (c 33 k).toInt = t ∧ c 28 t ≠ -1 := h.2.2.1
theorem sQ.nod {c : sm_S} {v : Nat → Int32} {L : Nat} (h : sQ c v L) : (lnC c L).Nodup := h.2.2.2.1
theorem sQ.all {c : sm_S} {v : Nat → Int32} {L : Nat} (h : sQ c v L) : ∀ t, t < 6 → c 28 t ≠ -1 → ∃ k, k < L ∧ (c 33 k).toInt = t := h.2.2.2.2.1
theorem sQ.lin {c : sm_S} {v : Nat → Int32} {L : Nat} (h : sQ c v L) : ∀ b, b < 96 → ∃ m : Nat, (v (786 + 16 * b + 9)).toInt = m ∧ lnV v b m = (lnC c L).filter (fun t => decide ((c 28 t.toNatClampNeg).toInt = b)) := h.2.2.2.2.2
def sN (c : sm_S) (v : Nat → Int32) : Prop := (c 39 0 = v 0 + 4) ∧ (c 39 1 = v 1 + 3) ∧ (c 39 2 = v 2 + 150) ∧ (c 39 3 = v 3 + 2) ∧ (∀ k, k < 11 → c 40 k = v (7 + k)) ∧ (c 0 7 = v 4) ∧ (c 8 8 = v 6)
theorem sN.rat {c : sm_S} {v : Nat → Int32} (h : sN c v) : c 39 0 = v 0 + 4 := h.1
theorem sN.tri {c : sm_S} {v : Nat → Int32} (h : sN c v) : c 39 1 = v 1 + 3 := h.2.1
theorem sN.rto {c : sm_S} {v : Nat → Int32} (h : sN c v) : c 39 2 = v 2 + 150 := h.2.2.1
theorem sN.pau {c : sm_S} {v : Nat → Int32} (h : sN c v) : c 39 3 = v 3 + 2 := h.2.2.2.1
theorem sN.cnt {c : sm_S} {v : Nat → Int32} (h : sN c v) : ∀ k, k < 11 → c 40 k = v (7 + k) := h.2.2.2.2.1
theorem sN.tic {c : sm_S} {v : Nat → Int32} (h : sN c v) : c 0 7 = v 4 := h.2.2.2.2.2.1
theorem sN.use {c : sm_S} {v : Nat → Int32} (h : sN c v) : c 8 8 = v 6 := h.2.2.2.2.2.2
def sL (c : sm_S) (v : Nat → Int32) : Prop := (c 34 4 = v 5) ∧ (∃ n : Nat, (v 5).toInt = n ∧ (c 34 5).toInt = ((n % 60 : Nat) : Int)) ∧ (∀ k, k < 60 → v (2422 + 4 * k) = c 35 k ∧ v (2422 + 4 * k + 1) = c 36 k ∧ v (2422 + 4 * k + 2) = c 37 k ∧ v (2422 + 4 * k + 3) = c 38 k)
theorem sL.lns {c : sm_S} {v : Nat → Int32} (h : sL c v) : c 34 4 = v 5 := h.1
theorem sL.nxt {c : sm_S} {v : Nat → Int32} (h : sL c v) : ∃ n : Nat, (v 5).toInt = n ∧ (c 34 5).toInt = ((n % 60 : Nat) : Int) := h.2.1
theorem sL.ent {c : sm_S} {v : Nat → Int32} (h : sL c v) : ∀ k, k < 60 → v (2422 + 4 * k) = c 35 k ∧ v (2422 + 4 * k + 1) = c 36 k ∧ v (2422 + 4 * k + 2) = c 37 k ∧ v (2422 + 4 * k + 3) = c 38 k := h.2.2
/-- whose the frames are -/
def own (v : Nat → Int32) : Prop := (∀ b fr o : Nat, b < 96 → v (786 + 16 * b + 0) = 1 → (v (786 + 16 * b + 1)).toInt = fr → (v (786 + 16 * b + 2)).toInt = o → ∀ j, j < 2 ^ o → v (18 + 3 * (fr + j)) = 3 ∧ (v (18 + 3 * (fr + j) + 1)).toInt = ((b + 1 : Nat) : Int)) ∧ (∀ b t o : Nat, b < 96 → v (786 + 16 * b + 0) = 1 → (v (786 + 16 * b + 6)).toInt = ((t + 1 : Nat) : Int) → (v (786 + 16 * b + 2)).toInt = o → v (786 + 16 * b + 3) = 0 ∧ ∀ j, j < 2 ^ o → v (18 + 3 * (t + j)) = 4 ∧ (v (18 + 3 * (t + j) + 1)).toInt = ((b + 1 : Nat) : Int)) ∧ (∀ f, f < 256 → v (18 + 3 * f) = 3 → ∃ b fr o : Nat, b < 96 ∧ (v (18 + 3 * f + 1)).toInt = ((b + 1 : Nat) : Int) ∧ v (786 + 16 * b + 0) = 1 ∧ (v (786 + 16 * b + 1)).toInt = fr ∧ (v (786 + 16 * b + 2)).toInt = o ∧ fr ≤ f ∧ f < fr + 2 ^ o) ∧ (∀ f, f < 256 → v (18 + 3 * f) = 4 → ∃ b t o : Nat, b < 96 ∧ (v (18 + 3 * f + 1)).toInt = ((b + 1 : Nat) : Int) ∧ v (786 + 16 * b + 0) = 1 ∧ (v (786 + 16 * b + 6)).toInt = ((t + 1 : Nat) : Int) ∧ (v (786 + 16 * b + 2)).toInt = o ∧ t ≤ f ∧ f < t + 2 ^ o) ∧ (∀ f, f < 256 → v (18 + 3 * f) ≠ 3 → v (18 + 3 * f) ≠ 4 → v (18 + 3 * f + 1) = 0) ∧ (∀ f, f < 256 → (v (18 + 3 * f) = 0 ↔ v (2358 + 8 * (f / 32) + 0) = 0))
theorem own.hs {v : Nat → Int32} (h : own v) : ∀ b fr o : Nat, b < 96 → v (786 + 16 * b + 0) = 1 → (v (786 + 16 * b + 1)).toInt = fr → (v (786 + 16 * b + 2)).toInt = o → ∀ j, j < 2 ^ o → v (18 + 3 * (fr + j)) = 3 ∧ (v (18 + 3 * (fr + j) + 1)).toInt = ((b + 1 : Nat) : Int) := h.1
theorem own.hd {v : Nat → Int32} (h : own v) : ∀ b t o : Nat, b < 96 → v (786 + 16 * b + 0) = 1 → (v (786 + 16 * b + 6)).toInt = ((t + 1 : Nat) : Int) → (v (786 + 16 * b + 2)).toInt = o → v (786 + 16 * b + 3) = 0 ∧ ∀ j, j < 2 ^ o → v (18 + 3 * (t + j)) = 4 ∧ (v (18 + 3 * (t + j) + 1)).toInt = ((b + 1 : Nat) : Int) := h.2.1
theorem own.tk {v : Nat → Int32} (h : own v) : ∀ f, f < 256 → v (18 + 3 * f) = 3 → ∃ b fr o : Nat, b < 96 ∧ (v (18 + 3 * f + 1)).toInt = ((b + 1 : Nat) : Int) ∧ v (786 + 16 * b + 0) = 1 ∧ (v (786 + 16 * b + 1)).toInt = fr ∧ (v (786 + 16 * b + 2)).toInt = o ∧ fr ≤ f ∧ f < fr + 2 ^ o := h.2.2.1
theorem own.hl {v : Nat → Int32} (h : own v) : ∀ f, f < 256 → v (18 + 3 * f) = 4 → ∃ b t o : Nat, b < 96 ∧ (v (18 + 3 * f + 1)).toInt = ((b + 1 : Nat) : Int) ∧ v (786 + 16 * b + 0) = 1 ∧ (v (786 + 16 * b + 6)).toInt = ((t + 1 : Nat) : Int) ∧ (v (786 + 16 * b + 2)).toInt = o ∧ t ≤ f ∧ f < t + 2 ^ o := h.2.2.2.1
theorem own.no {v : Nat → Int32} (h : own v) : ∀ f, f < 256 → v (18 + 3 * f) ≠ 3 → v (18 + 3 * f) ≠ 4 → v (18 + 3 * f + 1) = 0 := h.2.2.2.2.1
theorem own.of {v : Nat → Int32} (h : own v) : ∀ f, f < 256 → (v (18 + 3 * f) = 0 ↔ v (2358 + 8 * (f / 32) + 0) = 0) := h.2.2.2.2.2
/-- all but the log, which a thought doesn't take with it -/
def sim0 (c : sm_S) (v : Nat → Int32) : Prop := (∀ f, f < 256 → sF c v f) ∧ (∀ b, b < 96 → sB c v b) ∧ (∀ s, s < 8 → sS c v s) ∧ (∀ t, t < 6 → sT c v t) ∧ (∃ L, sQ c v L) ∧ (sN c v) ∧ (own v)
theorem sim0.F {c : sm_S} {v : Nat → Int32} (h : sim0 c v) : ∀ f, f < 256 → sF c v f := h.1
theorem sim0.B {c : sm_S} {v : Nat → Int32} (h : sim0 c v) : ∀ b, b < 96 → sB c v b := h.2.1
theorem sim0.S {c : sm_S} {v : Nat → Int32} (h : sim0 c v) : ∀ s, s < 8 → sS c v s := h.2.2.1
theorem sim0.T {c : sm_S} {v : Nat → Int32} (h : sim0 c v) : ∀ t, t < 6 → sT c v t := h.2.2.2.1
theorem sim0.Q {c : sm_S} {v : Nat → Int32} (h : sim0 c v) : ∃ L, sQ c v L := h.2.2.2.2.1
theorem sim0.N {c : sm_S} {v : Nat → Int32} (h : sim0 c v) : sN c v := h.2.2.2.2.2.1
theorem sim0.O {c : sm_S} {v : Nat → Int32} (h : sim0 c v) : own v := h.2.2.2.2.2.2
theorem sF.cg {c c' : sm_S} {v v' : Nat → Int32} {f : Nat} (g : sF c v f) (h2 : c' 2 (f / 32) = c 2 (f / 32)) (h3 : c' 3 (f / 32) = c 3 (f / 32)) (h4 : c' 4 (f / 32) = c 4 (f / 32)) (h5 : c' 5 (f / 32) = c 5 (f / 32)) (h6 : c' 6 f = c 6 f) (h7 : c' 7 f = c 7 f) (e0 : v' (18 + 3 * f) = v (18 + 3 * f)) (e1 : v' (18 + 3 * f + 1) = v (18 + 3 * f + 1)) (e2 : v' (18 + 3 * f + 2) = v (18 + 3 * f + 2)) : sF c' v' f :=
  ⟨by rw [e0]; exact g.rng, by rw [h2, e0]; exact g.fre, by rw [h3, e0]; exact g.apa, by rw [h4, e0]; exact g.tak, by rw [h5, e0]; exact g.hel, by rw [h6, e1]; exact g.blk, by rw [h7, e2]; exact g.val⟩
theorem sBl.cg {c c' : sm_S} {v v' : Nat → Int32} {b : Nat} (g : sBl c v b) (h9 : c' 9 b = c 9 b) (h10 : c' 10 b = c 10 b) (h11 : c' 11 b = c 11 b) (h12 : c' 12 b = c 12 b) (h13 : c' 13 b = c 13 b) (h14 : c' 14 b = c 14 b) (h15 : c' 15 b = c 15 b) (h16 : c' 16 b = c 16 b) (e : ∀ k, k < 9 → v' (786 + 16 * b + k) = v (786 + 16 * b + k)) : sBl c' v' b :=
  ⟨by rw [h9, e 1 (by decide)]; exact g.fir, by rw [h10, e 2 (by decide)]; exact g.ord, by rw [h11, e 3 (by decide)]; exact g.kin, by rw [h12, e 4 (by decide)]; exact g.own, by rw [h13, e 5 (by decide)]; exact g.pin, by rw [h14, e 6 (by decide)]; exact g.tgt, by rw [h15, e 7 (by decide)]; exact g.cop, by rw [h16, e 8 (by decide)]; exact g.use⟩
theorem sB.cg {c c' : sm_S} {v v' : Nat → Int32} {b : Nat} (g : sB c v b) (h9 : c' 9 b = c 9 b) (h10 : c' 10 b = c 10 b) (h11 : c' 11 b = c 11 b) (h12 : c' 12 b = c 12 b) (h13 : c' 13 b = c 13 b) (h14 : c' 14 b = c 14 b) (h15 : c' 15 b = c 15 b) (h16 : c' 16 b = c 16 b) (e : ∀ k, k < 9 → v' (786 + 16 * b + k) = v (786 + 16 * b + k)) : sB c' v' b := by
  rcases g with ⟨g1, g2⟩ | ⟨g1, g2, g3⟩
  · exact Or.inl ⟨by rw [h9]; exact g1, by rw [e 0 (by decide)]; exact g2⟩
  · exact Or.inr ⟨by rw [h9]; exact g1, by rw [e 0 (by decide)]; exact g2, g3.cg h9 h10 h11 h12 h13 h14 h15 h16 e⟩
theorem sS.cg {c c' : sm_S} {v v' : Nat → Int32} {s : Nat} (g : sS c v s) (h : ∀ k, 18 ≤ k → k ≤ 25 → c' k s = c k s) (e : ∀ k, k < 8 → v' (2358 + 8 * s + k) = v (2358 + 8 * s + k)) : sS c' v' s := by
  have a18 := h 18 (by decide) (by decide)
  have a19 := h 19 (by decide) (by decide)
  have a20 := h 20 (by decide) (by decide)
  have a21 := h 21 (by decide) (by decide)
  have a22 := h 22 (by decide) (by decide)
  have a23 := h 23 (by decide) (by decide)
  have a24 := h 24 (by decide) (by decide)
  have a25 := h 25 (by decide) (by decide)
  exact ⟨by rw [a18, e 0 (by decide)]; exact g.sta, by rw [a18, a19]; exact g.zof, by rw [a18, a19, e 1 (by decide)]; exact g.zon, by rw [a20, e 2 (by decide)]; exact g.par, by rw [a21, e 3 (by decide)]; exact g.pas, by rw [a22, e 4 (by decide)]; exact g.pau, by rw [a22]; exact g.pag, by rw [a18, a23, e 5 (by decide)]; exact g.rea, by rw [a24, e 6 (by decide)]; exact g.lea, by rw [a25, e 7 (by decide)]; exact g.why, by rw [a18, a20, a21, a22, a24]; exact g.off⟩
theorem sT.cg {c c' : sm_S} {v v' : Nat → Int32} {t : Nat} (g : sT c v t) (h : ∀ k, 27 ≤ k → k ≤ 32 → c' k t = c k t) (e : ∀ k, k < 6 → v' (2322 + 6 * t + k) = v (2322 + 6 * t + k)) : sT c' v' t := by
  have a27 := h 27 (by decide) (by decide)
  have a28 := h 28 (by decide) (by decide)
  have a29 := h 29 (by decide) (by decide)
  have a30 := h 30 (by decide) (by decide)
  have a31 := h 31 (by decide) (by decide)
  have a32 := h 32 (by decide) (by decide)
  exact ⟨by rw [a27, e 0 (by decide)]; exact g.hom, by rw [a28, e 1 (by decide)]; exact g.wai, by rw [a29, e 5 (by decide)]; exact g.rea, by rw [a28, a30, e 2 (by decide)]; exact g.wis, by rw [a28, a31, e 3 (by decide)]; exact g.wat, by rw [a28, a32, e 4 (by decide)]; exact g.wva⟩
theorem lnC_cg {c c' : sm_S} {L : Nat} (h : ∀ k, k < L → c' 33 k = c 33 k) : lnC c' L = lnC c L := by
  unfold lnC
  exact List.map_congr_left (fun k hk => h k (List.mem_range.mp hk))
theorem lnV_cg {v v' : Nat → Int32} {b m : Nat} (h : ∀ n, n < m → v' (786 + 16 * b + (10 + n)) = v (786 + 16 * b + (10 + n))) : lnV v' b m = lnV v b m := by
  unfold lnV
  exact List.map_congr_left (fun k hk => h k (List.mem_range.mp hk))
theorem sQ.cg {c c' : sm_S} {v v' : Nat → Int32} {L : Nat} (g : sQ c v L) (h26 : c' 26 7 = c 26 7) (h28 : c' 28 = c 28) (h33 : c' 33 = c 33) (e : ∀ b k, b < 96 → 9 ≤ k → k < 16 → v' (786 + 16 * b + k) = v (786 + 16 * b + k)) : sQ c' v' L := by
  have hl : lnC c' L = lnC c L := lnC_cg (fun k _ => by rw [h33])
  refine ⟨by rw [h26]; exact g.len, g.le6, by rw [h28, h33]; exact g.tsk, by rw [hl]; exact g.nod, by rw [h28, h33]; exact g.all, fun b hb => ?_⟩
  obtain ⟨m, h1, h2⟩ := g.lin b hb
  have hm : m ≤ 6 := by
    have a := congrArg List.length h2
    have lf := List.length_filter_le (fun t => decide ((c 28 t.toNatClampNeg).toInt = b)) (lnC c L)
    have d : (lnC c L).length = L := by unfold lnC; rw [List.length_map, List.length_range]
    have d2 : (lnV v b m).length = m := by unfold lnV; rw [List.length_map, List.length_range]
    have := g.le6
    omega
  refine ⟨m, by rw [e b 9 hb (by decide) (by decide)]; exact h1, ?_⟩
  rw [lnV_cg (fun n hn => e b (10 + n) hb (by omega) (by omega)), hl, h28]
  exact h2
theorem sN.cg {c c' : sm_S} {v v' : Nat → Int32} (g : sN c v) (h39 : c' 39 = c 39) (h40 : c' 40 = c 40) (h0 : c' 0 7 = c 0 7) (h8 : c' 8 8 = c 8 8) (e : ∀ i, i < 18 → i ≠ 5 → v' i = v i) : sN c' v' :=
  ⟨by rw [h39, e 0 (by decide) (by decide)]; exact g.rat, by rw [h39, e 1 (by decide) (by decide)]; exact g.tri, by rw [h39, e 2 (by decide) (by decide)]; exact g.rto, by rw [h39, e 3 (by decide) (by decide)]; exact g.pau, fun k hk => by rw [h40, e (7 + k) (by omega) (by omega)]; exact g.cnt k hk, by rw [h0, e 4 (by decide) (by decide)]; exact g.tic, by rw [h8, e 6 (by decide) (by decide)]; exact g.use⟩
theorem al_le {fr o : Nat} (ho : o ≤ 4) (h : fr < 256) (ha : fr % 2 ^ o = 0) : fr + 2 ^ o ≤ 256 := by
  have := t_al (k := o) (by omega) ha
  omega
theorem bk_to {v : Nat → Int32} {b t o : Nat} (h : bk_ok v b) (ht : (v (786 + 16 * b + 6)).toInt = ((t + 1 : Nat) : Int)) (ho : (v (786 + 16 * b + 2)).toInt = o) : t + 2 ^ o ≤ 256 := by
  obtain ⟨o', fr, h1, h2, -, -, -, -, ⟨q, hq, hq2⟩, -⟩ := h
  have e : o' = o := by omega
  subst e
  rcases hq2 with hq2 | ⟨a1, a2, a3⟩
  · omega
  · have e : q - 1 = t := by omega
    rw [e] at a3
    exact al_le h2 (by omega) a3
theorem own.cg {v v' : Nat → Int32} (g : own v) (e : ∀ i, 18 ≤ i → i < 786 → i % 3 ≠ 2 → v' i = v i) (eb : ∀ b k, b < 96 → (k = 0 ∨ k = 1 ∨ k = 2 ∨ k = 3 ∨ k = 6) → v' (786 + 16 * b + k) = v (786 + 16 * b + k)) (es : ∀ s, s < 8 → v' (2358 + 8 * s + 0) = v (2358 + 8 * s + 0)) (hb : ∀ b, b < 96 → bk_ok v b) : own v' := by
  have e0 : ∀ f, f < 256 → v' (18 + 3 * f) = v (18 + 3 * f) := fun f hf => e _ (by omega) (by omega) (by omega)
  have e1 : ∀ f, f < 256 → v' (18 + 3 * f + 1) = v (18 + 3 * f + 1) := fun f hf => e _ (by omega) (by omega) (by omega)
  refine ⟨fun b fr o b1 b2 b3 b4 j hj => ?_, fun b t o b1 b2 b3 b4 => ?_, fun f hf h3 => ?_, fun f hf h4 => ?_, fun f hf h3 h4 => ?_, fun f hf => ?_⟩
  · rw [eb b 0 b1 (by omega)] at b2
    rw [eb b 1 b1 (by omega)] at b3
    rw [eb b 2 b1 (by omega)] at b4
    have hx := g.hs b fr o b1 b2 b3 b4 j hj
    obtain ⟨o', fr', p1, p2, p3, p4, p5, -⟩ := hb b b1
    have : o' = o := by omega
    have : fr' = fr := by omega
    subst o' fr'
    have hl : fr + 2 ^ o ≤ 256 := al_le p2 p4 p5
    rw [e0 _ (by omega), e1 _ (by omega)]
    exact hx
  · rw [eb b 0 b1 (by omega)] at b2
    rw [eb b 6 b1 (by omega)] at b3
    rw [eb b 2 b1 (by omega)] at b4
    obtain ⟨k1, k2⟩ := g.hd b t o b1 b2 b3 b4
    refine ⟨by rw [eb b 3 b1 (by omega)]; exact k1, fun j hj => ?_⟩
    have hl := bk_to (hb b b1) b3 b4
    rw [e0 _ (by omega), e1 _ (by omega)]
    exact k2 j hj
  · rw [e0 f hf] at h3
    obtain ⟨b, fr, o, p1, p2, p3, p4, p5, p6, p7⟩ := g.tk f hf h3
    exact ⟨b, fr, o, p1, by rw [e1 f hf]; exact p2, by rw [eb b 0 p1 (by omega)]; exact p3, by rw [eb b 1 p1 (by omega)]; exact p4, by rw [eb b 2 p1 (by omega)]; exact p5, p6, p7⟩
  · rw [e0 f hf] at h4
    obtain ⟨b, fr, o, p1, p2, p3, p4, p5, p6, p7⟩ := g.hl f hf h4
    exact ⟨b, fr, o, p1, by rw [e1 f hf]; exact p2, by rw [eb b 0 p1 (by omega)]; exact p3, by rw [eb b 6 p1 (by omega)]; exact p4, by rw [eb b 2 p1 (by omega)]; exact p5, p6, p7⟩
  · rw [e0 f hf] at h3 h4
    rw [e1 f hf]
    exact g.no f hf h3 h4
  · rw [e0 f hf, es (f / 32) (by omega)]
    exact g.of f hf
