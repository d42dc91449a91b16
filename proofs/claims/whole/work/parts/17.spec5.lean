/-! what the calls answer, and the state behind them -/
/-- width, size, every, how many, samples, how long, tape, the fault's number, place, samples -/
abbrev HT : Type := Nat × Nat × Nat × Nat × (Nat → Nat) × Nat × (Nat → Nat) × Nat × Int32 × Int32
/-- now, the two images, which are kept -/
abbrev AT : Type := HT × HT × HT × Nat
def nbk (sz n : Nat) : Nat := (n + sz - 1) / sz
def pkL (w sz ev n : Nat) (g : Nat → Nat) : List Nat := pks (blkL w sz ev g n) (nbk sz n)
def opRule (A : AT) (what v : Int32) : Int32 × AT :=
  match A with
  | ((w, sz, ev, n, g, L, t, x, y, z), b0, b1, k) =>
    if ¬ (0 ≤ what.toInt ∧ what.toInt ≤ 2) ∨ v.toInt < (if what.toInt = 0 then 2 else 1) ∨ 8 < v.toInt then (-2, A)
    else if what.toInt = 0 ∧ tpW v.toInt.toNat < mxN g n then (-3, A)
    else if what.toInt = 0 then (nI w, (v.toInt.toNat, sz, ev, n, g, L, t, x, y, z), b0, b1, k)
    else if what.toInt = 1 then (nI sz, (w, v.toInt.toNat, ev, n, g, L, t, x, y, z), b0, b1, k)
    else (nI ev, (w, sz, v.toInt.toNat, n, g, L, t, x, y, z), b0, b1, k)
def opAdd (A : AT) (v : Int32) : Int32 × AT :=
  match A with
  | ((w, sz, ev, n, g, L, t, x, y, z), b0, b1, k) =>
    if ¬ (0 ≤ v.toInt ∧ v.toInt ≤ (tpW w : Int)) then (-2, A)
    else if n = 64 then (-4, A)
    else (nI (n + 1), (w, sz, ev, n + 1, va_up g n v.toInt.toNat, L, t, x, y, z), b0, b1, k)
def opClear (A : AT) : Int32 × AT :=
  match A with
  | ((w, sz, ev, n, g, L, t, x, y, z), b0, b1, k) => (nI n, (w, sz, ev, 0, g, L, t, x, y, z), b0, b1, k)
def opSample (A : AT) (i : Int32) : Int32 × AT :=
  match A with
  | ((_, _, _, n, g, _), _, _, _) => (rAt g n i, A)
def opAhead (A : AT) (i way what : Int32) : Int32 × AT :=
  match A with
  | ((w, sz, ev, n, g, _), _, _, _) => (aheadR w sz ev g n i way what, A)
def opCost (A : AT) (b way code : Int32) : Int32 × AT :=
  match A with
  | ((w, sz, ev, n, g, _), _, _, _) =>
    if ¬ (0 ≤ way.toInt ∧ way.toInt < 4) ∨ ¬ (0 ≤ code.toInt ∧ code.toInt ≤ 8) then (-2, A)
    else if ¬ (0 ≤ b.toInt ∧ b.toInt < (nbk sz n : Int)) then (-6, A)
    else (oI (costB w sz ev g n b.toInt.toNat way.toInt.toNat code.toInt.toNat), A)
def opBlock (A : AT) (b what : Int32) : Int32 × AT :=
  match A with
  | ((w, sz, ev, n, g, _), _, _, _) =>
    if ¬ (0 ≤ what.toInt ∧ what.toInt ≤ 5) then (-2, A)
    else if ¬ (0 ≤ b.toInt ∧ b.toInt < (nbk sz n : Int)) then (-6, A)
    else if what.toInt = 0 then (nI (chQ w sz ev g n b.toInt.toNat).2.1, A)
    else if what.toInt = 1 then (nI (chQ w sz ev g n b.toInt.toNat).2.2, A)
    else if what.toInt = 2 then (nI (chQ w sz ev g n b.toInt.toNat).1, A)
    else if what.toInt = 3 then (nI (cntB sz n b.toInt.toNat), A)
    else if what.toInt = 4 then (nI (pks (blkL w sz ev g n) b.toInt.toNat).length, A)
    else (nI (b.toInt.toNat / ev), A)
/-- bit i of n bits; -1: how many -/
def bitR (t : Nat → Nat) (n : Nat) (i : Int32) : Int32 := if i.toInt < -1 then -2 else if i.toInt = -1 then nI n else if i.toInt < (n : Int) then nI (t i.toInt.toNat) else -6
def opPacked (A : AT) (i : Int32) : Int32 × AT :=
  match A with
  | ((w, sz, ev, n, g, _), _, _, _) => (bitR (fun j => (pkL w sz ev n g).getD j 0) (pkL w sz ev n g).length i, A)
def opLost (A : AT) (b : Int32) : Int32 × AT :=
  match A with
  | ((_, sz, ev, n, _, _), _, _, _) => (if ¬ (0 ≤ b.toInt ∧ b.toInt < (nbk sz n : Int)) then -6 else nI (min n ((b.toInt.toNat / ev + 1) * (sz * ev)) - b.toInt.toNat * sz), A)
def opTape (A : AT) : Int32 × AT :=
  match A with
  | ((w, sz, ev, n, g, _, _, x, y, z), b0, b1, k) => (nI (pkL w sz ev n g).length, (w, sz, ev, n, g, (pkL w sz ev n g).length, (fun j => (pkL w sz ev n g).getD j 0), x, y, z), b0, b1, k)
def opPush (A : AT) (v : Int32) : Int32 × AT :=
  match A with
  | ((w, sz, ev, n, g, L, t, x, y, z), b0, b1, k) =>
    if ¬ (0 ≤ v.toInt ∧ v.toInt ≤ 1) then (-2, A)
    else if L = 1000 then (-4, A)
    else (nI (L + 1), (w, sz, ev, n, g, L + 1, va_up t L v.toInt.toNat, x, y, z), b0, b1, k)
def opFlip (A : AT) (i : Int32) : Int32 × AT :=
  match A with
  | ((w, sz, ev, n, g, L, t, x, y, z), b0, b1, k) =>
    if ¬ (0 ≤ i.toInt ∧ i.toInt < (L : Int)) then (-2, A)
    else (nI (1 - t i.toInt.toNat), (w, sz, ev, n, g, L, va_up t i.toInt.toNat (1 - t i.toInt.toNat), x, y, z), b0, b1, k)
def opCut (A : AT) (v : Int32) : Int32 × AT :=
  match A with
  | ((w, sz, ev, n, g, L, t, x, y, z), b0, b1, k) =>
    if ¬ (0 ≤ v.toInt ∧ v.toInt ≤ (L : Int)) then (-2, A)
    else (nI (L - v.toInt.toNat), (w, sz, ev, n, g, v.toInt.toNat, t, x, y, z), b0, b1, k)
def opBit (A : AT) (i : Int32) : Int32 × AT :=
  match A with
  | ((_, _, _, _, _, L, t, _), _, _, _) => (bitR t L i, A)
def opRead (A : AT) (v : Int32) : Int32 × AT :=
  match A with
  | ((w, sz, ev, n, g, L, t, _, _, _), b0, b1, k) =>
    if ¬ (0 ≤ v.toInt ∧ v.toInt ≤ 64) then (-2, A)
    else if (rdF t L w sz ev v.toInt.toNat).1 = 0 then (nI v.toInt.toNat, (w, sz, ev, v.toInt.toNat, (rdF t L w sz ev v.toInt.toNat).2.2.2.1, L, t, 0, -6, -6), b0, b1, k)
    else (-7, (w, sz, ev, n, g, L, t, (rdF t L w sz ev v.toInt.toNat).1, nI (rdF t L w sz ev v.toInt.toNat).2.1, nI (rdF t L w sz ev v.toInt.toNat).2.2.2.2), b0, b1, k)
def opFault (A : AT) (what : Int32) : Int32 × AT :=
  match A with
  | ((_, _, _, _, _, _, _, x, y, z), _, _, _) => (if what.toInt = 0 then nI x else if what.toInt = 1 then y else if what.toInt = 2 then z else -2, A)
def opImage (A : AT) (v : Int32) : Int32 × AT :=
  match A with
  | (a, b0, b1, k) => if v.toInt = 0 then (1, a, a, b1, (if k % 2 = 1 then k else k + 1)) else if v.toInt = 1 then (1, a, b0, a, (if k / 2 % 2 = 1 then k else k + 2)) else (-2, A)
def opRestore (A : AT) (v : Int32) : Int32 × AT :=
  match A with
  | (_, b0, b1, k) => if v.toInt = 0 then (if k % 2 = 1 then (1, b0, b0, b1, k) else (-3, A)) else if v.toInt = 1 then (if k / 2 % 2 = 1 then (1, b1, b0, b1, k) else (-3, A)) else (-2, A)
def opCount (A : AT) (what : Int32) : Int32 × AT :=
  match A with
  | ((w, sz, ev, n, g, L, _), _, _, k) =>
    (if what.toInt = 0 then nI n else if what.toInt = 1 then nI (nbk sz n) else if what.toInt = 2 then nI ((n + sz * ev - 1) / (sz * ev)) else if what.toInt = 3 then nI (pkL w sz ev n g).length else if what.toInt = 4 then nI L
     else if what.toInt = 5 then nI w else if what.toInt = 6 then nI sz else if what.toInt = 7 then nI ev else if what.toInt = 8 then nI (ctN (fun b => (chQ w sz ev g n b).2.2) 0 (nbk sz n)) else if what.toInt = 9 then nI k else -2, A)
/-- a state that can be -/
def HOk (a : HT) : Prop := (2 ≤ a.1 ∧ a.1 ≤ 8) ∧ (1 ≤ a.2.1 ∧ a.2.1 ≤ 8) ∧ (1 ≤ a.2.2.1 ∧ a.2.2.1 ≤ 8) ∧ a.2.2.2.1 ≤ 64 ∧ (∀ j, j < a.2.2.2.1 → a.2.2.2.2.1 j ≤ tpW a.1) ∧ a.2.2.2.2.2.1 ≤ 1000 ∧ (∀ j, j < a.2.2.2.2.2.1 → a.2.2.2.2.2.2.1 j ≤ 1) ∧ a.2.2.2.2.2.2.2.1 < 5
/-- c holds what a says -/
def HAg (a c : HT) : Prop := c.1 = a.1 ∧ c.2.1 = a.2.1 ∧ c.2.2.1 = a.2.2.1 ∧ c.2.2.2.1 = a.2.2.2.1 ∧ (∀ j, j < a.2.2.2.1 → c.2.2.2.2.1 j = a.2.2.2.2.1 j) ∧ c.2.2.2.2.2.1 = a.2.2.2.2.2.1 ∧ (∀ j, j < a.2.2.2.2.2.1 → c.2.2.2.2.2.2.1 j = a.2.2.2.2.2.2.1 j) ∧ c.2.2.2.2.2.2.2.1 = a.2.2.2.2.2.2.2.1 ∧ c.2.2.2.2.2.2.2.2.1 = a.2.2.2.2.2.2.2.2.1 ∧ c.2.2.2.2.2.2.2.2.2 = a.2.2.2.2.2.2.2.2.2
/-- settled, ways, codes, firsts, bits, how many, and the folded block -/
abbrev PT : Type := Nat × (Nat → Nat) × (Nat → Nat) × (Nat → Nat) × (Nat → Nat) × Nat × Nat × Nat × Nat × Nat × Nat × (Nat → Nat)
/-- next, how many, samples, fault -/
abbrev DT : Type := Nat × Nat × (Nat → Nat) × Nat × Int32 × Int32
abbrev CS : Type := HT × HT × HT × Nat × PT × DT
def CRel (A : AT) (X : CS) : Prop := HOk A.1 ∧ HAg A.1 X.1 ∧ (A.2.2.2 % 2 = 1 → HOk A.2.1 ∧ HAg A.2.1 X.2.1) ∧ (A.2.2.2 / 2 % 2 = 1 → HOk A.2.2.1 ∧ HAg A.2.2.1 X.2.2.1) ∧ X.2.2.2.1 = A.2.2.2 ∧ A.2.2.2 < 4 ∧ PI A.1.1 A.1.2.1 A.1.2.2.1 A.1.2.2.2.2.1 A.1.2.2.2.1 X.2.2.2.2.1.1 X.2.2.2.2.1.2.1 X.2.2.2.2.1.2.2.1 X.2.2.2.2.1.2.2.2.1 X.2.2.2.2.1.2.2.2.2.1 X.2.2.2.2.1.2.2.2.2.2.1
def imgF (ad : Nat → Nat) : Nat → Option Nat := va_up (va_up (fun _ => none) 0 (some (ad 9))) 1 (some (ad 16))
/-- the class's 35 cells -/
def wC (cI cH : ClassId) (ad : Nat → Nat) (X : CS) : va_W := [(ad 0, .inr (8, [.ref (ad 1), .ref (ad 8), .int (nI (X.2.2.2.1)), .ref (ad 23), .ref (ad 31)])), (ad 1, .inr (3, [.ref (ad 2), .ref (ad 3), .ref (ad 5), .ref (ad 7)])), (ad 2, .inr (7, [.int (nI (X.1.1)), .int (nI (X.1.2.1)), .int (nI (X.1.2.2.1))])), (ad 3, .inr (6, [.ref (ad 4), .int (nI (X.1.2.2.2.1))])), (ad 4, .inl (cI, 64, .inl (aN (X.1.2.2.2.2.1)))), (ad 5, .inr (0, [.ref (ad 6), .int (nI (X.1.2.2.2.2.2.1))])), (ad 6, .inl (cI, 1000, .inl (aN (X.1.2.2.2.2.2.2.1)))), (ad 7, .inr (1, [.int (nI (X.1.2.2.2.2.2.2.2.1)), .int (X.1.2.2.2.2.2.2.2.2.1), .int (X.1.2.2.2.2.2.2.2.2.2)])), (ad 8, .inl (cH, 2, .inr (.inr (.inr (.inr (imgF ad)))))), (ad 9, .inr (3, [.ref (ad 10), .ref (ad 11), .ref (ad 13), .ref (ad 15)])), (ad 10, .inr (7, [.int (nI (X.2.1.1)), .int (nI (X.2.1.2.1)), .int (nI (X.2.1.2.2.1))])), (ad 11, .inr (6, [.ref (ad 12), .int (nI (X.2.1.2.2.2.1))])), (ad 12, .inl (cI, 64, .inl (aN (X.2.1.2.2.2.2.1)))), (ad 13, .inr (0, [.ref (ad 14), .int (nI (X.2.1.2.2.2.2.2.1))])), (ad 14, .inl (cI, 1000, .inl (aN (X.2.1.2.2.2.2.2.2.1)))), (ad 15, .inr (1, [.int (nI (X.2.1.2.2.2.2.2.2.2.1)), .int (X.2.1.2.2.2.2.2.2.2.2.1), .int (X.2.1.2.2.2.2.2.2.2.2.2)])), (ad 16, .inr (3, [.ref (ad 17), .ref (ad 18), .ref (ad 20), .ref (ad 22)])), (ad 17, .inr (7, [.int (nI (X.2.2.1.1)), .int (nI (X.2.2.1.2.1)), .int (nI (X.2.2.1.2.2.1))])), (ad 18, .inr (6, [.ref (ad 19), .int (nI (X.2.2.1.2.2.2.1))])), (ad 19, .inl (cI, 64, .inl (aN (X.2.2.1.2.2.2.2.1)))), (ad 20, .inr (0, [.ref (ad 21), .int (nI (X.2.2.1.2.2.2.2.2.1))])), (ad 21, .inl (cI, 1000, .inl (aN (X.2.2.1.2.2.2.2.2.2.1)))), (ad 22, .inr (1, [.int (nI (X.2.2.1.2.2.2.2.2.2.2.1)), .int (X.2.2.1.2.2.2.2.2.2.2.2.1), .int (X.2.2.1.2.2.2.2.2.2.2.2.2)])), (ad 23, .inr (4, [.ref (ad 24), .ref (ad 25), .ref (ad 26), .ref (ad 27), .ref (ad 29), .int (nI (X.2.2.2.2.1.1))])), (ad 24, .inl (cI, 64, .inl (aN (X.2.2.2.2.1.2.1)))), (ad 25, .inl (cI, 64, .inl (aN (X.2.2.2.2.1.2.2.1)))), (ad 26, .inl (cI, 65, .inl (aN (X.2.2.2.2.1.2.2.2.1)))), (ad 27, .inr (0, [.ref (ad 28), .int (nI (X.2.2.2.2.1.2.2.2.2.2.1))])), (ad 28, .inl (cI, 1000, .inl (aN (X.2.2.2.2.1.2.2.2.2.1)))), (ad 29, .inr (2, [.ref (ad 30), .int (nI (X.2.2.2.2.1.2.2.2.2.2.2.1)), .int (nI (X.2.2.2.2.1.2.2.2.2.2.2.2.1)), .int (nI (X.2.2.2.2.1.2.2.2.2.2.2.2.2.1)), .int (nI (X.2.2.2.2.1.2.2.2.2.2.2.2.2.2.1)), .int (nI (X.2.2.2.2.1.2.2.2.2.2.2.2.2.2.2.1))])), (ad 30, .inl (cI, 8, .inl (aN (X.2.2.2.2.1.2.2.2.2.2.2.2.2.2.2.2)))), (ad 31, .inr (5, [.ref (ad 32), .ref (ad 34), .int (nI (X.2.2.2.2.2.1))])), (ad 32, .inr (6, [.ref (ad 33), .int (nI (X.2.2.2.2.2.2.1))])), (ad 33, .inl (cI, 64, .inl (aN (X.2.2.2.2.2.2.2.1)))), (ad 34, .inr (1, [.int (nI (X.2.2.2.2.2.2.2.2.1)), .int (X.2.2.2.2.2.2.2.2.2.1), .int (X.2.2.2.2.2.2.2.2.2.2)]))]
