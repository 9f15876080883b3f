def f_String_length (w : Nat) : Option Int32 := if w < 11 then some (nI (slen.getD w 0)) else none
def f_String_charAt (w : Nat) (i : Int32) : Option Int32 := if w < 11 ∧ ck i (slen.getD w 0) = true then some ((sbyt.getD w []).getD i.toNatClampNeg 0) else none
theorem str_lt_String_length {w : Nat} {r : Int32} (h : f_String_length w = some r) : w < 11 := (if_tr h).1
theorem str_lt_String_charAt {w : Nat} {i r : Int32} (h : f_String_charAt w i = some r) : w < 11 := (if_tr h).1.1
def f_Sheet_isMissing (k0 : Nat) (X : Mem) : Option Int32 :=
  lt (gI X k0 1) fun v1 => if v1 = 0 then (some (1 : Int32)) else (some (0 : Int32))
def f_Sheet_renew_b20 (x0 : Nat) (x3 : Int32) (X : Mem) : Option (Mem ⊕ (Int32 × Mem)) :=
  if (40 : Int32) ≤ x3 then (some (.inl (X))) else (wrL X (x0 + 1) 40 x3 (0 : Int64) fun X1 => lt (x3 + (1 : Int32)) fun v2 => some (.inr (v2, X1)))
def f_Sheet_renew_j15 (x0 : Nat) (q0 : Nat) (q1 : Int32) (X : Mem) : Option Mem :=
  lt (sI X q0 2 q1) fun X1 => it (fun a => f_Sheet_renew_b20 x0 a.1 a.2) FU ((0 : Int32), X1)
def f_Sheet_renew (k0 : Nat) (p1 : Int32) (p2 : Int32) (X : Mem) : Option Mem :=
  lt (sI X k0 1 p1) fun X1 => if p1 = 0 then (f_Sheet_renew_j15 k0 k0 (0 : Int32) X1) else (f_Sheet_renew_j15 k0 k0 p2 X1)
def f_Sheet_put (k0 : Nat) (p1 : Int32) (p2 : Int64) (X : Mem) : Option Mem :=
  lt (gI X k0 1) fun v1 => if v1 = (8 : Int32) then (wrL X (k0 + 1) 40 p1 (((p2.toInt32).toInt8.toInt32).toInt64) fun X5 => some X5) else (lt (gI X k0 1) fun v2 => if v2 = (16 : Int32) then (wrL X (k0 + 1) 40 p1 (((p2.toInt32).toInt16.toInt32).toInt64) fun X4 => some X4) else (wrL X (k0 + 1) 40 p1 p2 fun X3 => some X3))
def f_Sheet_hasRun (k0 : Nat) (p1 : Int32) (p2 : Int32) (X : Mem) : Option Int32 :=
  if p1 < 0 then (some (0 : Int32)) else (if p2 < 0 then (some (0 : Int32)) else (lt (gI X k0 2) fun v1 => if v1 < p1 then (some (0 : Int32)) else (lt (gI X k0 2) fun v2 => if (v2 - p1) < p2 then (some (0 : Int32)) else (some (1 : Int32)))))
def f_Thing_become (k0 : Nat) (k1 : Nat) (X : Mem) : Option Mem :=
  lt (gI X k1 0) fun v1 => lt (sI X k0 0 v1) fun X2 => lt (gI X2 k1 1) fun v3 => lt (sI X2 k0 1 v3) fun X4 => lt (gI X4 k1 2) fun v5 => lt (sI X4 k0 2 v5) fun X6 => lt (gI X6 k1 3) fun v7 => lt (sI X6 k0 3 v7) fun X8 => lt (gI X8 k1 4) fun v9 => lt (sI X8 k0 4 v9) fun X10 => lt (gI X10 k1 5) fun v11 => lt (sI X10 k0 5 v11) fun X12 => some X12
def f_Shore_become_b55 (x0 : Nat) (x1 : Nat) (x2 : Int32) (X : Mem) : Option (Mem ⊕ (Int32 × Mem)) :=
  lt (gI X x0 3) fun v1 => if v1 ≤ x2 then (some (.inl (X))) else (rdR 10 x2 fun j2 => rdR 10 x2 fun j3 => bd (f_Thing_become ((x0 + 3) + 1 + j2) ((x1 + 3) + 1 + j3) X) fun X5 => lt (x2 + (1 : Int32)) fun v6 => some (.inr (v6, X5)))
def f_Shore_become (k0 : Nat) (k1 : Nat) (X : Mem) : Option Mem :=
  acI X (k1 + 1) 16 (0 : Int32) (k0 + 1) 16 (0 : Int32) (16 : Int32) fun X1 => acI X1 (k1 + 2) 4 (0 : Int32) (k0 + 2) 4 (0 : Int32) (4 : Int32) fun X2 => lt (gI X2 k1 3) fun v3 => lt (sI X2 k0 3 v3) fun X4 => lt (gI X4 k1 4) fun v5 => lt (sI X4 k0 4 v5) fun X6 => lt (gI X6 k1 5) fun v7 => lt (sI X6 k0 5 v7) fun X8 => it (fun a => f_Shore_become_b55 k0 k1 a.1 a.2) FU ((0 : Int32), X8)
def f_Tide_isBelow (p0 : Int32) (p1 : Int32) : Option Int32 :=
  if p0 < 0 then (some (0 : Int32)) else (if p1 ≤ p0 then (some (0 : Int32)) else (some (1 : Int32)))
def f_Shore_has (k0 : Nat) (p1 : Int32) (X : Mem) : Option Int32 :=
  lt (gI X k0 3) fun v1 => bd (f_Tide_isBelow p1 v1) fun v2 => ckZ v2 (some v2)
def f_Shore_isFull (k0 : Nat) (X : Mem) : Option Int32 :=
  lt (gI X k0 3) fun v1 => if v1 < (10 : Int32) then (some (0 : Int32)) else (some (1 : Int32))
def f_Thing_begin (k0 : Nat) (p1 : Int32) (p2 : Int32) (X : Mem) : Option Mem :=
  lt (sI X k0 0 p1) fun X1 => lt (sI X1 k0 1 p2) fun X2 => lt (sI X2 k0 2 (0 : Int32)) fun X3 => lt (sI X3 k0 3 (10 : Int32)) fun X4 => lt (sI X4 k0 4 (0 : Int32)) fun X5 => lt (sI X5 k0 5 (0 : Int32)) fun X6 => some X6
def f_Shore_add (k0 : Nat) (p1 : Int32) (p2 : Int32) (X : Mem) : Option (Int32 × Mem) :=
  bd (f_Shore_isFull k0 X) fun v1 => if v1 = 0 then (lt (gI X k0 3) fun v3 => rdR 10 v3 fun j4 => bd (f_Thing_begin ((k0 + 3) + 1 + j4) p1 p2 X) fun X6 => lt (gI X6 k0 3) fun v7 => lt (sI X6 k0 3 (v7 + (1 : Int32))) fun X8 => lt (gI X8 k0 3) fun v9 => some ((v9 - (1 : Int32)), X8)) else (some ((-1 : Int32), X))
def f_Shore_laidAt_j44 (x0 : Nat) (x1 : Int32) (x2 : Int32) (x3 : Int32) (X : Mem) : Option (Int32 ⊕ (Int32 × Int32)) :=
  lt (x3 + (1 : Int32)) fun v1 => some (.inr (x2, v1))
def f_Shore_laidAt_b4 (x0 : Nat) (x1 : Int32) (X : Mem) (x2 : Int32) (x3 : Int32) : Option (Int32 ⊕ (Int32 × Int32)) :=
  lt (gI X x0 3) fun v1 => if v1 ≤ x3 then (some (.inl (x2))) else (rdR 10 x3 fun j2 => lt (gI X ((x0 + 3) + 1 + j2) 4) fun v3 => if v3 = (1 : Int32) then (rdR 10 x3 fun j4 => lt (gI X ((x0 + 3) + 1 + j4) 2) fun v5 => if v5 = x1 then (lt (x2 ||| ((1 : Int32) <<< (x3 &&& 31))) fun v6 => f_Shore_laidAt_j44 x0 x1 v6 x3 X) else (f_Shore_laidAt_j44 x0 x1 x2 x3 X)) else (f_Shore_laidAt_j44 x0 x1 x2 x3 X))
def f_Shore_laidAt (k0 : Nat) (p1 : Int32) (X : Mem) : Option Int32 :=
  it (fun a => f_Shore_laidAt_b4 k0 p1 X a.1 a.2) FU ((0 : Int32), (0 : Int32))
def f_Shore_allIn_j31 (x0 : Nat) (x1 : Int32) (x2 : Int32) (x3 : Int32) (X : Mem) : Option (Int32 ⊕ (Int32 × Int32)) :=
  lt (x3 + (1 : Int32)) fun v1 => some (.inr (x2, v1))
def f_Shore_allIn_b4 (x0 : Nat) (x1 : Int32) (X : Mem) (x2 : Int32) (x3 : Int32) : Option (Int32 ⊕ (Int32 × Int32)) :=
  lt (gI X x0 3) fun v1 => if v1 ≤ x3 then (some (.inl (x2))) else (rdR 10 x3 fun j2 => lt (gI X ((x0 + 3) + 1 + j2) 4) fun v3 => if v3 = x1 then (lt (x2 ||| ((1 : Int32) <<< (x3 &&& 31))) fun v4 => f_Shore_allIn_j31 x0 x1 v4 x3 X) else (f_Shore_allIn_j31 x0 x1 x2 x3 X))
def f_Shore_allIn (k0 : Nat) (p1 : Int32) (X : Mem) : Option Int32 :=
  it (fun a => f_Shore_allIn_b4 k0 p1 X a.1 a.2) FU ((0 : Int32), (0 : Int32))
def f_Shore_allWorth_b4 (x0 : Nat) (X : Mem) (x1 : Int32) (x2 : Int32) : Option (Int32 ⊕ (Int32 × Int32)) :=
  lt (gI X x0 3) fun v1 => if v1 ≤ x2 then (some (.inl (x1))) else (rdR 10 x2 fun j2 => lt (gI X ((x0 + 3) + 1 + j2) 3) fun v3 => lt (x1 + v3) fun v4 => lt (x2 + (1 : Int32)) fun v5 => some (.inr (v4, v5)))
def f_Shore_allWorth (k0 : Nat) (X : Mem) : Option Int32 :=
  it (fun a => f_Shore_allWorth_b4 k0 X a.1 a.2) FU ((0 : Int32), (0 : Int32))
def f_Shore_allHeights_b4 (x0 : Nat) (X : Mem) (x1 : Int32) (x2 : Int32) : Option (Int32 ⊕ (Int32 × Int32)) :=
  if (16 : Int32) ≤ x2 then (some (.inl (x1))) else (rdI X (x0 + 1) 16 x2 fun v1 => lt (x1 + v1) fun v2 => lt (x2 + (1 : Int32)) fun v3 => some (.inr (v2, v3)))
def f_Shore_allHeights (k0 : Nat) (X : Mem) : Option Int32 :=
  it (fun a => f_Shore_allHeights_b4 k0 X a.1 a.2) FU ((0 : Int32), (0 : Int32))
def f_Shore_cellsBelow_j23 (x0 : Nat) (x1 : Int32) (x2 : Int32) (x3 : Int32) (X : Mem) : Option (Int32 ⊕ (Int32 × Int32)) :=
  lt (x3 + (1 : Int32)) fun v1 => some (.inr (x2, v1))
def f_Shore_cellsBelow_b4 (x0 : Nat) (x1 : Int32) (X : Mem) (x2 : Int32) (x3 : Int32) : Option (Int32 ⊕ (Int32 × Int32)) :=
  if (16 : Int32) ≤ x3 then (some (.inl (x2))) else (rdI X (x0 + 1) 16 x3 fun v1 => if x1 ≤ v1 then (f_Shore_cellsBelow_j23 x0 x1 x2 x3 X) else (lt (x2 + (1 : Int32)) fun v2 => f_Shore_cellsBelow_j23 x0 x1 v2 x3 X))
def f_Shore_cellsBelow (k0 : Nat) (p1 : Int32) (X : Mem) : Option Int32 :=
  it (fun a => f_Shore_cellsBelow_b4 k0 p1 X a.1 a.2) FU ((0 : Int32), (0 : Int32))
def f_Shore_allPurses_b4 (x0 : Nat) (X : Mem) (x1 : Int64) (x3 : Int32) : Option (Int64 ⊕ (Int64 × Int32)) :=
  if (4 : Int32) ≤ x3 then (some (.inl (x1))) else (rdI X (x0 + 2) 4 x3 fun v1 => lt (x1 + (v1.toInt64)) fun v2 => lt (x3 + (1 : Int32)) fun v3 => some (.inr (v2, v3)))
def f_Shore_allPurses (k0 : Nat) (X : Mem) : Option Int64 :=
  it (fun a => f_Shore_allPurses_b4 k0 X a.1 a.2) FU ((0 : Int64), (0 : Int32))
def f_Tape_put (p1 : Int32) (X : Mem) : Option Mem :=
  lt (gI X 44 1) fun v1 => if (120 : Int32) ≤ v1 then (some X) else (lt (gI X 44 1) fun v2 => wrB X 45 120 v2 p1 fun X3 => lt (gI X3 44 1) fun v4 => lt (sI X3 44 1 (v4 + (1 : Int32))) fun X5 => some X5)
def f_Tape_tokenOf_j28 (x0 : Int32) : Option Int32 :=
  if x0 = (59 : Int32) then (some (3 : Int32)) else (some (4 : Int32))
def f_Tape_tokenOf_j14 (x0 : Int32) : Option Int32 :=
  if x0 < (48 : Int32) then (f_Tape_tokenOf_j28 x0) else (if (57 : Int32) < x0 then (f_Tape_tokenOf_j28 x0) else (some (2 : Int32)))
def f_Tape_tokenOf (p0 : Int32) : Option Int32 :=
  if p0 < (97 : Int32) then (f_Tape_tokenOf_j14 p0) else (if (122 : Int32) < p0 then (f_Tape_tokenOf_j14 p0) else (some (1 : Int32)))
def f_Tape_step_b93 (X : Mem) : Option (Mem ⊕ Mem) :=
  lt (gI X 44 4) fun v1 => lt (gI X 44 1) fun v2 => if v2 ≤ v1 then (some (.inl (X))) else (lt (gI X 44 4) fun v3 => rdI X 45 120 v3 fun v4 => bd (f_Tape_tokenOf v4) fun v5 => lt (gI X 44 2) fun v7 => if v5 = v7 then (lt (gI X 44 4) fun v8 => lt (sI X 44 4 (v8 + (1 : Int32))) fun X9 => some (.inr X9)) else (some (.inl (X))))
def f_Tape_step_j74 (q1 : Int32) (X : Mem) : Option Mem :=
  lt (sI X 44 2 q1) fun X1 => lt (gI X1 44 2) fun v2 => if v2 = (1 : Int32) then (it (fun a => f_Tape_step_b93 a) FU X1) else (lt (gI X1 44 2) fun v3 => if v3 = (2 : Int32) then (it (fun a => f_Tape_step_b93 a) FU X1) else (lt (gI X1 44 2) fun v4 => if v4 = 0 then (some X1) else (lt (gI X1 44 4) fun v5 => lt (sI X1 44 4 (v5 + (1 : Int32))) fun X6 => some X6)))
def f_Tape_step_j38 (X : Mem) : Option Mem :=
  lt (gI X 44 4) fun v1 => lt (sI X 44 3 v1) fun X2 => lt (gI X2 44 4) fun v3 => lt (gI X2 44 1) fun v4 => if v4 ≤ v3 then (f_Tape_step_j74 (0 : Int32) X2) else (lt (gI X2 44 4) fun v5 => rdI X2 45 120 v5 fun v6 => bd (f_Tape_tokenOf v6) fun v7 => f_Tape_step_j74 v7 X2)
def f_Tape_step_b0 (X : Mem) : Option (Mem ⊕ Mem) :=
  lt (gI X 44 4) fun v1 => lt (gI X 44 1) fun v2 => if v2 ≤ v1 then (upc (f_Tape_step_j38 X)) else (lt (gI X 44 4) fun v3 => rdI X 45 120 v3 fun v4 => if v4 = (32 : Int32) then (lt (gI X 44 4) fun v5 => lt (sI X 44 4 (v5 + (1 : Int32))) fun X6 => some (.inr X6)) else (upc (f_Tape_step_j38 X)))
def f_Tape_step (X : Mem) : Option Mem :=
  it (fun a => f_Tape_step_b0 a) FU X
def f_Tape_rewind (X : Mem) : Option Mem :=
  lt (sI X 44 4 (0 : Int32)) fun X1 => bd (f_Tape_step X1) fun X3 => some X3
def f_Tape_isNumberTo_j59 (x1 : Int32) (X : Mem) : Option (Int32 × Mem) :=
  lt (gI X 44 2) fun v1 => if v1 = (2 : Int32) then (lt (gI X 44 5) fun v2 => if x1 < v2 then (some ((0 : Int32), X)) else (some ((1 : Int32), X))) else (some ((0 : Int32), X))
def f_Tape_isNumberTo_b10 (x1 : Int32) (x2 : Int32) (X : Mem) : Option ((Int32 × Mem) ⊕ (Int32 × Mem)) :=
  lt (gI X 44 4) fun v1 => if v1 ≤ x2 then (upc (f_Tape_isNumberTo_j59 x1 X)) else (lt (gI X 44 2) fun v2 => if v2 = (2 : Int32) then (lt (gI X 44 5) fun v3 => rdI X 45 120 x2 fun v4 => lt (if (((v3 * (10 : Int32)) + v4) - (48 : Int32)) < (10000 : Int32) then (((v3 * (10 : Int32)) + v4) - (48 : Int32)) else (10000 : Int32)) fun v5 => lt (sI X 44 5 v5) fun X6 => lt (x2 + (1 : Int32)) fun v7 => some (.inr (v7, X6))) else (upc (f_Tape_isNumberTo_j59 x1 X)))
def f_Tape_isNumberTo (p1 : Int32) (X : Mem) : Option (Int32 × Mem) :=
  lt (sI X 44 5 (0 : Int32)) fun X1 => lt (gI X1 44 3) fun v2 => it (fun a => f_Tape_isNumberTo_b10 p1 a.1 a.2) FU (v2, X1)
def f_Tape_isWord_b28 (x1 : Nat) (X : Mem) (x2 : Int32) : Option (Int32 ⊕ Int32) :=
  bd (f_String_length x1) fun v1 => if v1 ≤ x2 then (some (.inl ((1 : Int32)))) else (lt (gI X 44 3) fun v3 => rdI X 45 120 (v3 + x2) fun v4 => bd (f_String_charAt x1 x2) fun v5 => if v4 = v5 then (lt (x2 + (1 : Int32)) fun v7 => some (.inr v7)) else (some (.inl ((0 : Int32)))))
def f_Tape_isWord (p1 : Nat) (X : Mem) : Option Int32 :=
  lt (gI X 44 2) fun v1 => if v1 = (1 : Int32) then (lt (gI X 44 4) fun v2 => lt (gI X 44 3) fun v3 => bd (f_String_length p1) fun v4 => if (v2 - v3) = v4 then (it (fun a => f_Tape_isWord_b28 p1 X a) FU (0 : Int32)) else (some (0 : Int32))) else (some (0 : Int32))
def f_Tape_nameOf (p0 : Int32) : Option Nat :=
  if p0 = (1 : Int32) then (some 0) else if p0 = (2 : Int32) then (some 1) else if p0 = (3 : Int32) then (some 2) else if p0 = (4 : Int32) then (some 3) else if p0 = (5 : Int32) then (some 4) else (some 5)
def f_Tape_kindNamed_b2 (X : Mem) (x1 : Int32) : Option (Int32 ⊕ Int32) :=
  if (6 : Int32) ≤ x1 then (some (.inl ((-1 : Int32)))) else (bd (f_Tape_nameOf x1) fun v1 => bd (f_Tape_isWord v1 X) fun v3 => if v3 = 0 then (lt (x1 + (1 : Int32)) fun v5 => some (.inr v5)) else (some (.inl (x1))))
def f_Tape_kindNamed (X : Mem) : Option Int32 :=
  it (fun a => f_Tape_kindNamed_b2 X a) FU (0 : Int32)
def f_Thing_layAt (k0 : Nat) (p1 : Int32) (X : Mem) : Option Mem :=
  lt (sI X k0 2 p1) fun X1 => lt (sI X1 k0 4 (1 : Int32)) fun X2 => some X2
def f_Tide_isSpring (p0 : Int32) : Option Int32 :=
  if (p0 - p0 / (14 : Int32) * (14 : Int32)) = 0 then (some (1 : Int32)) else (some (0 : Int32))
def f_Tide_markOf_j21 (q0 : Int32) : Option Int32 :=
  some ((9 : Int32) - q0)
def f_Tide_markOf (p0 : Int32) : Option Int32 :=
  lt (p0 - p0 / (14 : Int32) * (14 : Int32)) fun v1 => if ((14 : Int32) - v1) ≤ v1 then (f_Tide_markOf_j21 ((14 : Int32) - v1)) else (f_Tide_markOf_j21 v1)
def f_Tide_isTaken_0 (p0 : Int32) (p1 : Int32) (p2 : Int32) : Option Int32 :=
  if p0 = (1 : Int32) then (none) else if p0 = (2 : Int32) then (bd (f_Tide_markOf p2) fun v1 => if v1 < p1 then (some (0 : Int32)) else (some (1 : Int32))) else if p0 = (3 : Int32) then (none) else if p0 = (4 : Int32) then (none) else if p0 = (5 : Int32) then (none) else (bd (f_Tide_markOf p2) fun v3 => if v3 ≤ p1 then (some (0 : Int32)) else (some (1 : Int32)))
def f_Tide_isTaken_1 (p0 : Int32) (p1 : Int32) (p2 : Int32) : Option Int32 :=
  if p0 = (1 : Int32) then (bd (f_Tide_isTaken_0 (0 : Int32) p1 p2) fun v1 => if v1 = 0 then (some (0 : Int32)) else (bd (f_Tide_isSpring p2) fun v3 => if v3 = 0 then (some (1 : Int32)) else (some (0 : Int32)))) else if p0 = (2 : Int32) then (bd (f_Tide_markOf p2) fun v5 => if v5 < p1 then (some (0 : Int32)) else (some (1 : Int32))) else if p0 = (3 : Int32) then (bd (f_Tide_isTaken_0 (0 : Int32) p1 p2) fun v7 => ckZ v7 (some v7)) else if p0 = (4 : Int32) then (bd (f_Tide_isTaken_0 (1 : Int32) p1 p2) fun v9 => ckZ v9 (some v9)) else if p0 = (5 : Int32) then (bd (f_Tide_isTaken_0 (2 : Int32) p1 p2) fun v11 => if v11 = 0 then (some (0 : Int32)) else (bd (f_Tide_isSpring p2) fun v13 => if v13 = 0 then (some (0 : Int32)) else (some (1 : Int32)))) else (bd (f_Tide_markOf p2) fun v15 => if v15 ≤ p1 then (some (0 : Int32)) else (some (1 : Int32)))
def f_Tide_isTaken_2 (p0 : Int32) (p1 : Int32) (p2 : Int32) : Option Int32 :=
  if p0 = (1 : Int32) then (bd (f_Tide_isTaken_1 (0 : Int32) p1 p2) fun v1 => if v1 = 0 then (some (0 : Int32)) else (bd (f_Tide_isSpring p2) fun v3 => if v3 = 0 then (some (1 : Int32)) else (some (0 : Int32)))) else if p0 = (2 : Int32) then (bd (f_Tide_markOf p2) fun v5 => if v5 < p1 then (some (0 : Int32)) else (some (1 : Int32))) else if p0 = (3 : Int32) then (bd (f_Tide_isTaken_1 (0 : Int32) p1 p2) fun v7 => ckZ v7 (some v7)) else if p0 = (4 : Int32) then (bd (f_Tide_isTaken_1 (1 : Int32) p1 p2) fun v9 => ckZ v9 (some v9)) else if p0 = (5 : Int32) then (bd (f_Tide_isTaken_1 (2 : Int32) p1 p2) fun v11 => if v11 = 0 then (some (0 : Int32)) else (bd (f_Tide_isSpring p2) fun v13 => if v13 = 0 then (some (0 : Int32)) else (some (1 : Int32)))) else (bd (f_Tide_markOf p2) fun v15 => if v15 ≤ p1 then (some (0 : Int32)) else (some (1 : Int32)))
def f_Way_waitForTide_j58 (x0 : Nat) (x1 : Int32) (x2 : Int32) (x3 : Int32) (x4 : Int32) (x5 : Int32) (X : Mem) : Option (Mem ⊕ (Int32 × Mem)) :=
  lt (x5 + (1 : Int32)) fun v1 => some (.inr (v1, X))
def f_Way_waitForTide_b3 (x0 : Nat) (x1 : Int32) (x2 : Int32) (x3 : Int32) (x4 : Int32) (x5 : Int32) (X : Mem) : Option (Mem ⊕ (Int32 × Mem)) :=
  if x4 ≤ x5 then (some (.inl (X))) else (if (14 : Int32) ≤ x5 then (some (.inl (X))) else (lt (gI X x0 3) fun v1 => if v1 = (1 : Int32) then (bd (f_Tide_isTaken_2 x1 x2 (x3 + x5)) fun v2 => if v2 = 0 then (f_Way_waitForTide_j58 x0 x1 x2 x3 x4 x5 X) else (lt (sI X x0 3 (2 : Int32)) fun X4 => lt (sI X4 x0 4 (x3 + x5)) fun X5 => lt (sI X5 x0 0 (x5 + (1 : Int32))) fun X6 => f_Way_waitForTide_j58 x0 x1 x2 x3 x4 x5 X6)) else (some (.inl (X)))))
def f_Way_waitForTide (k0 : Nat) (p1 : Int32) (p2 : Int32) (p3 : Int32) (p4 : Int32) (X : Mem) : Option Mem :=
  it (fun a => f_Way_waitForTide_b3 k0 p1 p2 p3 p4 a.1 a.2) FU ((0 : Int32), X)
def f_Tide_termOf_0 (p0 : Int32) : Option Int32 :=
  if p0 = (1 : Int32) then (none) else if p0 = (2 : Int32) then (none) else if p0 = (3 : Int32) then (some (28 : Int32)) else if p0 = (4 : Int32) then (none) else if p0 = (5 : Int32) then (none) else (some (1 : Int32))
def f_Tide_termOf_1 (p0 : Int32) : Option Int32 :=
  if p0 = (1 : Int32) then (bd (f_Tide_termOf_0 (0 : Int32)) fun v1 => some (v1 + (7 : Int32))) else if p0 = (2 : Int32) then (bd (f_Tide_termOf_0 (0 : Int32)) fun v3 => some v3) else if p0 = (3 : Int32) then (some (28 : Int32)) else if p0 = (4 : Int32) then (bd (f_Tide_termOf_0 (1 : Int32)) fun v5 => some ((2 : Int32) * v5)) else if p0 = (5 : Int32) then (bd (f_Tide_termOf_0 (2 : Int32)) fun v7 => some (v7 + (14 : Int32))) else (some (1 : Int32))
def f_Tide_termOf_2 (p0 : Int32) : Option Int32 :=
  if p0 = (1 : Int32) then (bd (f_Tide_termOf_1 (0 : Int32)) fun v1 => some (v1 + (7 : Int32))) else if p0 = (2 : Int32) then (bd (f_Tide_termOf_1 (0 : Int32)) fun v3 => some v3) else if p0 = (3 : Int32) then (some (28 : Int32)) else if p0 = (4 : Int32) then (bd (f_Tide_termOf_1 (1 : Int32)) fun v5 => some ((2 : Int32) * v5)) else if p0 = (5 : Int32) then (bd (f_Tide_termOf_1 (2 : Int32)) fun v7 => some (v7 + (14 : Int32))) else (some (1 : Int32))
def f_Tide_springFrom (p0 : Int32) : Option Int32 :=
  some ((((p0 + (14 : Int32)) - (1 : Int32)) / (14 : Int32)) * (14 : Int32))
def f_Way_waitForSpring (k0 : Nat) (p1 : Int32) (p2 : Int32) (p3 : Int32) (X : Mem) : Option Mem :=
  lt (gI X k0 4) fun v1 => bd (f_Tide_termOf_2 p1) fun v2 => lt (if p2 < (v1 + v2) then (v1 + v2) else p2) fun v4 => bd (f_Tide_springFrom v4) fun v5 => if p3 ≤ (v5 - p2) then (some X) else (lt (sI X k0 3 (0 : Int32)) fun X7 => lt (sI X7 k0 1 ((v5 - p2) + (1 : Int32))) fun X8 => lt (gI X8 k0 4) fun v9 => lt (sI X8 k0 2 (v5 - v9)) fun X10 => some X10)
def f_Way_follow_j51 (x0 : Nat) (x1 : Nat) (x3 : Int32) (x4 : Int32) (X : Mem) : Option Mem :=
  lt (gI X x0 3) fun v1 => if v1 = (2 : Int32) then (lt (gI X x1 0) fun v2 => bd (f_Way_waitForSpring x0 v2 x3 x4 X) fun X4 => some X4) else (some X)
def f_Way_follow (k0 : Nat) (k1 : Nat) (p2 : Int32) (p3 : Int32) (p4 : Int32) (X : Mem) : Option Mem :=
  lt (sI X k0 0 (0 : Int32)) fun X1 => lt (sI X1 k0 1 (0 : Int32)) fun X2 => lt (sI X2 k0 2 (0 : Int32)) fun X3 => lt (gI X3 k1 4) fun v4 => lt (sI X3 k0 3 v4) fun X5 => lt (gI X5 k1 5) fun v6 => lt (sI X5 k0 4 v6) fun X7 => lt (gI X7 k0 3) fun v8 => if v8 = (1 : Int32) then (lt (gI X7 k1 0) fun v9 => bd (f_Way_waitForTide k0 v9 p2 p3 p4 X7) fun X11 => f_Way_follow_j51 k0 k1 p3 p4 X11) else (f_Way_follow_j51 k0 k1 p3 p4 X7)
def f_Tide_moonOf (p0 : Int32) : Option Int32 :=
  some (p0 - p0 / (28 : Int32) * (28 : Int32))
def f_Tide_broughtAs_0 (p0 : Int32) (p1 : Int64) (p3 : Int32) : Option Int64 :=
  if p0 = (1 : Int32) then (none) else if p0 = (2 : Int32) then (none) else if p0 = (3 : Int32) then (bd (f_Tide_moonOf p3) fun v1 => if v1 = (14 : Int32) then (some (0 : Int64)) else (none)) else if p0 = (4 : Int32) then (none) else if p0 = (5 : Int32) then (none) else (some p1)
def f_Tide_broughtAs_1 (p0 : Int32) (p1 : Int64) (p3 : Int32) : Option Int64 :=
  if p0 = (1 : Int32) then (bd (f_Tide_broughtAs_0 (0 : Int32) p1 p3) fun v1 => some (v1 + (5 : Int64))) else if p0 = (2 : Int32) then (bd (f_Tide_broughtAs_0 (0 : Int32) p1 p3) fun v3 => some (v3 / (2 : Int64))) else if p0 = (3 : Int32) then (bd (f_Tide_moonOf p3) fun v5 => if v5 = (14 : Int32) then (some (0 : Int64)) else (bd (f_Tide_broughtAs_0 (0 : Int32) p1 p3) fun v7 => some v7)) else if p0 = (4 : Int32) then (bd (f_Tide_broughtAs_0 (1 : Int32) p1 p3) fun v9 => some ((2 : Int64) * v9)) else if p0 = (5 : Int32) then (bd (f_Tide_broughtAs_0 (2 : Int32) p1 p3) fun v11 => some (v11 + (3 : Int64))) else (some p1)
def f_Tide_broughtAs_2 (p0 : Int32) (p1 : Int64) (p3 : Int32) : Option Int64 :=
  if p0 = (1 : Int32) then (bd (f_Tide_broughtAs_1 (0 : Int32) p1 p3) fun v1 => some (v1 + (5 : Int64))) else if p0 = (2 : Int32) then (bd (f_Tide_broughtAs_1 (0 : Int32) p1 p3) fun v3 => some (v3 / (2 : Int64))) else if p0 = (3 : Int32) then (bd (f_Tide_moonOf p3) fun v5 => if v5 = (14 : Int32) then (some (0 : Int64)) else (bd (f_Tide_broughtAs_1 (0 : Int32) p1 p3) fun v7 => some v7)) else if p0 = (4 : Int32) then (bd (f_Tide_broughtAs_1 (1 : Int32) p1 p3) fun v9 => some ((2 : Int64) * v9)) else if p0 = (5 : Int32) then (bd (f_Tide_broughtAs_1 (2 : Int32) p1 p3) fun v11 => some (v11 + (3 : Int64))) else (some p1)
def f_Tide_repaid (k0 : Nat) (p1 : Int32) (p2 : Int32) (p3 : Int32) (X : Mem) : Option Int32 :=
  lt (gI X k0 3) fun v1 => lt (gI X k0 3) fun v2 => lt ((v1.toInt64) + ((((v2.toInt64) * (p1.toInt64)) * (p3.toInt64)) / (100 : Int64))) fun v3 => lt (gI X k0 0) fun v4 => bd (f_Tide_broughtAs_2 v4 v3 p2) fun v5 => lt (if v5 < (99999999 : Int64) then v5 else (99999999 : Int64)) fun v7 => some (v7.toInt32)
def f_Way_brings (k0 : Nat) (k1 : Nat) (p2 : Int32) (X : Mem) : Option Int32 :=
  lt (gI X k0 1) fun v1 => if v1 ≤ 0 then (some (0 : Int32)) else (lt (gI X k0 4) fun v2 => lt (gI X k0 2) fun v3 => bd (f_Tide_repaid k1 p2 v2 v3 X) fun v4 => some v4)
def f_Tide_finding (p1 : Int32) (X : Mem) : Option (Int32 × Mem) :=
  lt ((-1000000001 : Int32) - p1) fun v1 => bd (f_Tide_isBelow v1 (7 : Int32)) fun v2 => if v2 = 0 then (some (p1, X)) else (rdI X 1 7 v1 fun v4 => wrI X 1 7 v1 (v4 + (1 : Int32)) fun X5 => some (p1, X5))
def f_Tide_height_j18 (X : Mem) : Option (Int32 × Mem) :=
  bd2 (f_Tide_finding (-1000000001 : Int32) X) fun v1 X3 => some (v1, X3)
def f_Tide_height (p1 : Int32) (p2 : Int32) (X : Mem) : Option (Int32 × Mem) :=
  bd (f_Tide_isBelow p1 (16 : Int32)) fun v1 => if v1 = 0 then (f_Tide_height_j18 X) else (bd (f_Tide_isBelow p2 (10 : Int32)) fun v3 => if v3 = 0 then (f_Tide_height_j18 X) else (rdI X (2 + 1) 16 p1 fun v5 => wrI X (2 + 1) 16 p1 p2 fun X6 => some (v5, X6)))
def f_Tide_cell_j17 (X : Mem) : Option (Int32 × Mem) :=
  bd2 (f_Tide_finding (-1000000001 : Int32) X) fun v1 X3 => some (v1, X3)
def f_Tide_cell (p1 : Int32) (p2 : Int32) (X : Mem) : Option (Int32 × Mem) :=
  bd (f_Tide_isBelow p1 (16 : Int32)) fun v1 => if v1 = 0 then (f_Tide_cell_j17 X) else (bd (f_Tide_isBelow p2 (2 : Int32)) fun v3 => if v3 = 0 then (f_Tide_cell_j17 X) else (if p2 = 0 then (rdI X (2 + 1) 16 p1 fun v7 => some (v7, X)) else (bd (f_Shore_laidAt 2 p1 X) fun v5 => some (v5, X))))
def f_Tide_isUpTo (p0 : Int32) (p1 : Int32) (p2 : Int32) : Option Int32 :=
  if p0 < p1 then (some (0 : Int32)) else (if p2 < p0 then (some (0 : Int32)) else (some (1 : Int32)))
def f_Tide_interest (p1 : Int32) (X : Mem) : Option (Int32 × Mem) :=
  bd (f_Tide_isUpTo p1 (0 : Int32) (50 : Int32)) fun v1 => if v1 = 0 then (bd2 (f_Tide_finding (-1000000001 : Int32) X) fun v5 X7 => some (v5, X7)) else (lt (gI X 2 5) fun v3 => lt (sI X 2 5 p1) fun X4 => some (v3, X4))
def f_Tide_tide (p1 : Int32) (p2 : Int32) (X : Mem) : Option (Int32 × Mem) :=
  bd (f_Tide_isUpTo p1 (0 : Int32) (99999 : Int32)) fun v1 => if v1 = 0 then (bd2 (f_Tide_finding (-1000000001 : Int32) X) fun v16 X18 => some (v16, X18)) else (if p2 = (0 : Int32) then (bd (f_Tide_markOf p1) fun v3 => some (v3, X)) else if p2 = (1 : Int32) then (bd (f_Tide_moonOf p1) fun v5 => some (v5, X)) else if p2 = (2 : Int32) then (bd (f_Tide_isSpring p1) fun v7 => if v7 = 0 then (some ((0 : Int32), X)) else (some ((1 : Int32), X))) else if p2 = (3 : Int32) then (bd (f_Tide_markOf p1) fun v9 => bd (f_Shore_cellsBelow 2 v9 X) fun v11 => some (v11, X)) else (bd2 (f_Tide_finding (-1000000001 : Int32) X) fun v13 X15 => some (v13, X15)))
def f_Tide_purse_j18 (X : Mem) : Option (Int32 × Mem) :=
  bd2 (f_Tide_finding (-1000000001 : Int32) X) fun v1 X3 => some (v1, X3)
def f_Tide_purse (p1 : Int32) (p2 : Int32) (X : Mem) : Option (Int32 × Mem) :=
  bd (f_Tide_isBelow p1 (4 : Int32)) fun v1 => if v1 = 0 then (f_Tide_purse_j18 X) else (bd (f_Tide_isUpTo p2 (0 : Int32) (999999999 : Int32)) fun v3 => if v3 = 0 then (f_Tide_purse_j18 X) else (rdI X (2 + 2) 4 p1 fun v5 => wrI X (2 + 2) 4 p1 p2 fun X6 => some (v5, X6)))
def f_Tide_thing_j17 (X : Mem) : Option (Int32 × Mem) :=
  bd2 (f_Tide_finding (-1000000001 : Int32) X) fun v1 X3 => some (v1, X3)
def f_Tide_thing (p1 : Int32) (p2 : Int32) (X : Mem) : Option (Int32 × Mem) :=
  bd (f_Tide_isBelow p1 (6 : Int32)) fun v1 => if v1 = 0 then (f_Tide_thing_j17 X) else (bd (f_Tide_isBelow p2 (4 : Int32)) fun v3 => if v3 = 0 then (f_Tide_thing_j17 X) else (bd (f_Shore_isFull 2 X) fun v5 => if v5 = 0 then (bd2 (f_Shore_add 2 p1 p2 X) fun v7 X9 => some (v7, X9)) else (bd2 (f_Tide_finding (-1000000002 : Int32) X) fun v10 X12 => some (v10, X12))))
def f_Tide_owedNow (k1 : Nat) (X : Mem) : Option Int32 :=
  lt (gI X k1 4) fun v1 => if v1 = (2 : Int32) then (lt (gI X 2 5) fun v2 => lt (gI X k1 5) fun v3 => lt (gI X 2 4) fun v4 => lt (gI X k1 5) fun v5 => bd (f_Tide_repaid k1 v2 v3 (v4 - v5) X) fun v6 => some v6) else (some (0 : Int32))
def f_Tide_of (p1 : Int32) (p2 : Int32) (X : Mem) : Option (Int32 × Mem) :=
  bd (f_Shore_has 2 p1 X) fun v1 => if v1 = 0 then (bd2 (f_Tide_finding (-1000000001 : Int32) X) fun v18 X20 => some (v18, X20)) else (rdR 10 p1 fun j3 => if p2 = (0 : Int32) then (lt (gI X ((2 + 3) + 1 + j3) 0) fun v4 => some (v4, X)) else if p2 = (1 : Int32) then (lt (gI X ((2 + 3) + 1 + j3) 1) fun v5 => some (v5, X)) else if p2 = (2 : Int32) then (lt (gI X ((2 + 3) + 1 + j3) 2) fun v6 => some (v6, X)) else if p2 = (3 : Int32) then (lt (gI X ((2 + 3) + 1 + j3) 3) fun v7 => some (v7, X)) else if p2 = (4 : Int32) then (lt (gI X ((2 + 3) + 1 + j3) 4) fun v8 => some (v8, X)) else if p2 = (5 : Int32) then (lt (gI X ((2 + 3) + 1 + j3) 5) fun v9 => some (v9, X)) else if p2 = (6 : Int32) then (lt (gI X ((2 + 3) + 1 + j3) 0) fun v10 => bd (f_Tide_termOf_2 v10) fun v11 => some (v11, X)) else if p2 = (7 : Int32) then (bd (f_Tide_owedNow ((2 + 3) + 1 + j3) X) fun v13 => some (v13, X)) else (bd2 (f_Tide_finding (-1000000001 : Int32) X) fun v15 X17 => some (v15, X17)))
def f_Tide_set_j90 (X : Mem) : Option (Int32 × Mem) :=
  bd2 (f_Tide_finding (-1000000001 : Int32) X) fun v1 X3 => some (v1, X3)
def f_Tide_set_j58 (x2 : Int32) (x3 : Int32) (x4 : Nat) (X : Mem) : Option (Int32 × Mem) :=
  if x2 = (3 : Int32) then (bd (f_Tide_isUpTo x3 (0 : Int32) (9999 : Int32)) fun v1 => if v1 = 0 then (f_Tide_set_j90 X) else (lt (gI X x4 3) fun v3 => lt (sI X x4 3 x3) fun X4 => some (v3, X4))) else (f_Tide_set_j90 X)
def f_Tide_set (p1 : Int32) (p2 : Int32) (p3 : Int32) (X : Mem) : Option (Int32 × Mem) :=
  bd (f_Shore_has 2 p1 X) fun v1 => if v1 = 0 then (bd2 (f_Tide_finding (-1000000001 : Int32) X) fun v8 X10 => some (v8, X10)) else (rdR 10 p1 fun j3 => if p2 = (1 : Int32) then (bd (f_Tide_isBelow p3 (4 : Int32)) fun v4 => if v4 = 0 then (f_Tide_set_j58 p2 p3 ((2 + 3) + 1 + j3) X) else (lt (gI X ((2 + 3) + 1 + j3) 1) fun v6 => lt (sI X ((2 + 3) + 1 + j3) 1 p3) fun X7 => some (v6, X7))) else (f_Tide_set_j58 p2 p3 ((2 + 3) + 1 + j3) X))
def f_Tide_turn_j20 (X : Mem) : Option (Int32 × Mem) :=
  bd2 (f_Tide_finding (-1000000001 : Int32) X) fun v1 X3 => some (v1, X3)
def f_Tide_turn (p1 : Int32) (p2 : Int32) (X : Mem) : Option (Int32 × Mem) :=
  bd (f_Shore_has 2 p1 X) fun v1 => if v1 = 0 then (f_Tide_turn_j20 X) else (bd (f_Tide_isBelow p2 (6 : Int32)) fun v3 => if v3 = 0 then (f_Tide_turn_j20 X) else (rdR 10 p1 fun j5 => lt (gI X ((2 + 3) + 1 + j5) 0) fun v6 => lt (sI X ((2 + 3) + 1 + j5) 0 p2) fun X7 => some (v6, X7)))
def f_Tide_kindAbove (p0 : Int32) : Option Int32 :=
  if p0 = (0 : Int32) then (some (-1 : Int32)) else if p0 = (4 : Int32) then (some (1 : Int32)) else if p0 = (5 : Int32) then (some (2 : Int32)) else (some (0 : Int32))
def f_Tide_isUnder_j31 (x1 : Int32) (x2 : Int32) : Option Int32 :=
  if x2 = x1 then (some (1 : Int32)) else (some (0 : Int32))
def f_Tide_isUnder_b4 (x1 : Int32) (x2 : Int32) (x3 : Int32) : Option (Int32 ⊕ (Int32 × Int32)) :=
  if (6 : Int32) ≤ x3 then (upc (f_Tide_isUnder_j31 x1 x2)) else (if x2 = x1 then (upc (f_Tide_isUnder_j31 x1 x2)) else (if x2 = (-1 : Int32) then (upc (f_Tide_isUnder_j31 x1 x2)) else (bd (f_Tide_kindAbove x2) fun v1 => lt (x3 + (1 : Int32)) fun v3 => some (.inr (v1, v3)))))
def f_Tide_isUnder (p0 : Int32) (p1 : Int32) : Option Int32 :=
  it (fun a => f_Tide_isUnder_b4 p1 a.1 a.2) FU (p0, (0 : Int32))
def f_Tide_as_j20 (X : Mem) : Option (Int32 × Mem) :=
  bd2 (f_Tide_finding (-1000000001 : Int32) X) fun v1 X3 => some (v1, X3)
def f_Tide_as (p1 : Int32) (p2 : Int32) (X : Mem) : Option (Int32 × Mem) :=
  bd (f_Shore_has 2 p1 X) fun v1 => if v1 = 0 then (f_Tide_as_j20 X) else (bd (f_Tide_isBelow p2 (6 : Int32)) fun v3 => if v3 = 0 then (f_Tide_as_j20 X) else (rdR 10 p1 fun j5 => lt (gI X ((2 + 3) + 1 + j5) 0) fun v6 => bd (f_Tide_isUnder v6 p2) fun v7 => if v7 = 0 then (bd2 (f_Tide_finding (-1000000003 : Int32) X) fun v10 X12 => some (v10, X12)) else (lt (gI X ((2 + 3) + 1 + j5) 3) fun v9 => some (v9, X))))
def f_Integer_bitCount (p0 : Int32) : Option Int32 :=
  lt (p0 - (((p0.toUInt32 >>> ((1 : Int32).toUInt32 &&& Int32.toUInt32 31)).toInt32) &&& (1431655765 : Int32))) fun v1 => lt ((v1 &&& (858993459 : Int32)) + (((v1.toUInt32 >>> ((2 : Int32).toUInt32 &&& Int32.toUInt32 31)).toInt32) &&& (858993459 : Int32))) fun v2 => lt ((v2 + ((v2.toUInt32 >>> ((4 : Int32).toUInt32 &&& Int32.toUInt32 31)).toInt32)) &&& (252645135 : Int32)) fun v3 => lt (v3 + ((v3.toUInt32 >>> ((8 : Int32).toUInt32 &&& Int32.toUInt32 31)).toInt32)) fun v4 => lt (v4 + ((v4.toUInt32 >>> ((16 : Int32).toUInt32 &&& Int32.toUInt32 31)).toInt32)) fun v5 => some (v5 &&& (63 : Int32))
def f_Tide_lay_j20 (X : Mem) : Option (Int32 × Mem) :=
  bd2 (f_Tide_finding (-1000000001 : Int32) X) fun v1 X3 => some (v1, X3)
def f_Tide_lay (p1 : Int32) (p2 : Int32) (X : Mem) : Option (Int32 × Mem) :=
  bd (f_Shore_has 2 p1 X) fun v1 => if v1 = 0 then (f_Tide_lay_j20 X) else (bd (f_Tide_isBelow p2 (16 : Int32)) fun v3 => if v3 = 0 then (f_Tide_lay_j20 X) else (rdR 10 p1 fun j5 => lt (gI X ((2 + 3) + 1 + j5) 4) fun v6 => if v6 = (2 : Int32) then (bd2 (f_Tide_finding (-1000000005 : Int32) X) fun v13 X15 => some (v13, X15)) else (bd (f_Thing_layAt ((2 + 3) + 1 + j5) p2 X) fun X8 => bd (f_Shore_laidAt 2 p2 X8) fun v9 => bd (f_Integer_bitCount v9) fun v11 => some (v11, X8))))
def f_Tide_fetch (p1 : Int32) (X : Mem) : Option (Int32 × Mem) :=
  bd (f_Shore_has 2 p1 X) fun v1 => if v1 = 0 then (bd2 (f_Tide_finding (-1000000001 : Int32) X) fun v10 X12 => some (v10, X12)) else (rdR 10 p1 fun j3 => lt (gI X ((2 + 3) + 1 + j3) 4) fun v4 => if v4 = (1 : Int32) then (lt (sI X ((2 + 3) + 1 + j3) 4 (0 : Int32)) fun X5 => lt (gI X5 ((2 + 3) + 1 + j3) 2) fun v6 => some (v6, X5)) else (bd2 (f_Tide_finding (-1000000005 : Int32) X) fun v7 X9 => some (v7, X9)))
def f_Tide_follow (p1 : Int32) (p2 : Int32) (X : Mem) : Option Mem :=
  rdR 10 p1 fun j1 => rdR 10 p1 fun j2 => lt (gI X ((2 + 3) + 1 + j1) 2) fun v3 => rdI X (2 + 1) 16 v3 fun v4 => lt (gI X 2 4) fun v5 => bd (f_Way_follow (60 + j2) ((2 + 3) + 1 + j1) v4 v5 p2 X) fun X7 => some X7
def f_Tide_followAll_b2 (x1 : Int32) (x2 : Int32) (X : Mem) : Option (Mem ⊕ (Int32 × Mem)) :=
  lt (gI X 2 3) fun v1 => if v1 ≤ x2 then (some (.inl (X))) else (bd (f_Tide_follow x2 x1 X) fun X3 => lt (x2 + (1 : Int32)) fun v4 => some (.inr (v4, X3)))
def f_Tide_followAll (p1 : Int32) (X : Mem) : Option Mem :=
  it (fun a => f_Tide_followAll_b2 p1 a.1 a.2) FU ((0 : Int32), X)
def f_Tide_filled (p0 : Int32) (p1 : Int32) : Option Int32 :=
  lt (if (p0 + p1) < (999999999 : Int32) then (p0 + p1) else (999999999 : Int32)) fun v1 => some v1
def f_Tide_bring (k1 : Nat) (k2 : Nat) (X : Mem) : Option Mem :=
  lt (gI X k1 1) fun v1 => lt (gI X k1 1) fun v2 => rdI X (2 + 2) 4 v2 fun v3 => lt (gI X 2 5) fun v4 => bd (f_Way_brings k2 k1 v4 X) fun v5 => bd (f_Tide_filled v3 v5) fun v7 => wrI X (2 + 2) 4 v1 v7 fun X9 => lt (gI X9 k2 3) fun v10 => lt (sI X9 k1 4 v10) fun X11 => lt (gI X11 k2 4) fun v12 => lt (sI X11 k1 5 v12) fun X13 => some X13
def f_Tide_days_b48 (x1 : Int32) (x2 : Int32) (X : Mem) : Option ((Int64 × Mem) ⊕ (Int32 × Mem)) :=
  lt (gI X 2 3) fun v1 => if v1 ≤ x2 then (lt (gI X 2 4) fun v2 => lt (sI X 2 4 (v2 + x1)) fun X3 => bd (f_Shore_allPurses 2 X3) fun v4 => some (.inl ((v4, X3)))) else (rdR 10 x2 fun j6 => rdR 10 x2 fun j7 => bd (f_Tide_bring ((2 + 3) + 1 + j6) (60 + j7) X) fun X9 => lt (x2 + (1 : Int32)) fun v10 => some (.inr (v10, X9)))
def f_Tide_days (p1 : Int32) (X : Mem) : Option (Int64 × Mem) :=
  bd (f_Tide_isUpTo p1 (1 : Int32) (400 : Int32)) fun v1 => if v1 = 0 then (bd2 (f_Tide_finding (-1000000001 : Int32) X) fun v9 X11 => some ((v9.toInt64), X11)) else (lt (gI X 2 4) fun v3 => if (v3 + p1) ≤ (99999 : Int32) then (bd (f_Tide_followAll p1 X) fun X5 => it (fun a => f_Tide_days_b48 p1 a.1 a.2) FU ((0 : Int32), X5)) else (bd2 (f_Tide_finding (-1000000005 : Int32) X) fun v6 X8 => some ((v6.toInt64), X8)))
def f_Tide_allOwedNow_b4 (X : Mem) (x1 : Int32) (x2 : Int32) : Option (Int32 ⊕ (Int32 × Int32)) :=
  lt (gI X 2 3) fun v1 => if v1 ≤ x2 then (some (.inl (x1))) else (rdR 10 x2 fun j2 => bd (f_Tide_owedNow ((2 + 3) + 1 + j2) X) fun v3 => lt (x1 + v3) fun v5 => lt (x2 + (1 : Int32)) fun v6 => some (.inr (v5, v6)))
def f_Tide_allOwedNow (X : Mem) : Option Int32 :=
  it (fun a => f_Tide_allOwedNow_b4 X a.1 a.2) FU ((0 : Int32), (0 : Int32))
def f_Tide_now (p1 : Int32) (X : Mem) : Option (Int32 × Mem) :=
  if p1 = (0 : Int32) then (lt (gI X 2 4) fun v1 => some (v1, X)) else if p1 = (1 : Int32) then (lt (gI X 2 5) fun v2 => some (v2, X)) else if p1 = (2 : Int32) then (bd (f_Shore_allIn 2 (1 : Int32) X) fun v3 => some (v3, X)) else if p1 = (3 : Int32) then (bd (f_Shore_allIn 2 (2 : Int32) X) fun v5 => some (v5, X)) else if p1 = (4 : Int32) then (bd (f_Tide_allOwedNow X) fun v7 => some (v7, X)) else if p1 = (5 : Int32) then (bd (f_Shore_allWorth 2 X) fun v9 => some (v9, X)) else (bd2 (f_Tide_finding (-1000000001 : Int32) X) fun v11 X13 => some (v11, X13))
def f_Tide_purseThen_j73 (x1 : Int32) (x2 : Int32) (x3 : Int32) (x4 : Int32) (x5 : Int32) (X : Mem) : Option (Int32 ⊕ (Int32 × Int32)) :=
  lt (x5 + (1 : Int32)) fun v1 => some (.inr (x4, v1))
def f_Tide_purseThen_b14 (x1 : Int32) (x2 : Int32) (x3 : Int32) (X : Mem) (x4 : Int32) (x5 : Int32) : Option (Int32 ⊕ (Int32 × Int32)) :=
  lt (gI X 2 3) fun v1 => if v1 ≤ x5 then (some (.inl (x4))) else (rdR 10 x5 fun j2 => lt (gI X ((2 + 3) + 1 + j2) 1) fun v3 => if v3 = x1 then (if x5 = x3 then (f_Tide_purseThen_j73 x1 x2 x3 x4 x5 X) else (rdR 10 x5 fun j4 => bd (f_Way_brings (60 + j4) ((2 + 3) + 1 + j2) x2 X) fun v5 => bd (f_Tide_filled x4 v5) fun v7 => f_Tide_purseThen_j73 x1 x2 x3 v7 x5 X)) else (f_Tide_purseThen_j73 x1 x2 x3 x4 x5 X))
def f_Tide_purseThen (p1 : Int32) (p2 : Int32) (p3 : Int32) (X : Mem) : Option Int32 :=
  rdI X (2 + 2) 4 p1 fun v1 => it (fun a => f_Tide_purseThen_b14 p1 p2 p3 X a.1 a.2) FU (v1, (0 : Int32))
def f_Tide_on_j19 (X : Mem) : Option (Int32 × Mem) :=
  bd2 (f_Tide_finding (-1000000001 : Int32) X) fun v1 X3 => some (v1, X3)
def f_Tide_on (p1 : Int32) (p2 : Int32) (X : Mem) : Option (Int32 × Mem) :=
  bd (f_Tide_isBelow p1 (4 : Int32)) fun v1 => if v1 = 0 then (f_Tide_on_j19 X) else (bd (f_Tide_isUpTo p2 (0 : Int32) (400 : Int32)) fun v3 => if v3 = 0 then (f_Tide_on_j19 X) else (bd (f_Tide_followAll p2 X) fun X6 => lt (gI X6 2 5) fun v7 => bd (f_Tide_purseThen p1 v7 (-1 : Int32) X6) fun v8 => some (v8, X6)))
def f_Tide_taken (p1 : Int32) (X : Mem) : Option (Int32 × Mem) :=
  bd (f_Shore_has 2 p1 X) fun v1 => if v1 = 0 then (bd2 (f_Tide_finding (-1000000001 : Int32) X) fun v15 X17 => some (v15, X17)) else (rdR 10 p1 fun j3 => lt (gI X ((2 + 3) + 1 + j3) 4) fun v4 => if v4 = (1 : Int32) then (bd (f_Tide_follow p1 (400 : Int32) X) fun X6 => rdR 10 p1 fun j7 => lt (gI X6 (60 + j7) 0) fun v8 => if v8 ≤ 0 then (bd2 (f_Tide_finding (-1000000004 : Int32) X6) fun v9 X11 => some (v9, X11)) else (some (v8, X6))) else (bd2 (f_Tide_finding (-1000000005 : Int32) X) fun v12 X14 => some (v12, X14)))
def f_Tide_home (p1 : Int32) (X : Mem) : Option (Int32 × Mem) :=
  bd (f_Shore_has 2 p1 X) fun v1 => if v1 = 0 then (bd2 (f_Tide_finding (-1000000001 : Int32) X) fun v15 X17 => some (v15, X17)) else (rdR 10 p1 fun j3 => lt (gI X ((2 + 3) + 1 + j3) 4) fun v4 => if v4 = 0 then (bd2 (f_Tide_finding (-1000000005 : Int32) X) fun v12 X14 => some (v12, X14)) else (bd (f_Tide_follow p1 (400 : Int32) X) fun X6 => rdR 10 p1 fun j7 => lt (gI X6 (60 + j7) 1) fun v8 => if v8 ≤ 0 then (bd2 (f_Tide_finding (-1000000004 : Int32) X6) fun v9 X11 => some (v9, X11)) else (some (v8, X6))))
def f_Tide_due_j57 (x1 : Int32) (x2 : Int32) (X : Mem) : Option ((Int32 × Mem) ⊕ (Int32 × Int32)) :=
  lt (x2 + (1 : Int32)) fun v1 => some (.inr (x1, v1))
def f_Tide_due_b28 (X : Mem) (x1 : Int32) (x2 : Int32) : Option ((Int32 × Mem) ⊕ (Int32 × Int32)) :=
  lt (gI X 2 3) fun v1 => if v1 ≤ x2 then (some (.inl ((x1, X)))) else (rdR 10 x2 fun j2 => lt (gI X (60 + j2) 1) fun v3 => if v3 ≤ 0 then (f_Tide_due_j57 x1 x2 X) else (lt (x1 ||| ((1 : Int32) <<< (x2 &&& 31))) fun v4 => f_Tide_due_j57 v4 x2 X))
def f_Tide_due (X : Mem) : Option (Int32 × Mem) :=
  lt (gI X 2 4) fun v1 => bd (f_Tide_springFrom v1) fun v2 => lt (gI X 2 4) fun v4 => bd (f_Tide_followAll ((v2 - v4) + (1 : Int32)) X) fun X6 => it (fun a => f_Tide_due_b28 X6 a.1 a.2) FU ((0 : Int32), (0 : Int32))
def f_Tide_tryOn (p1 : Int32) (p2 : Int32) (X : Mem) : Option (Int32 × Mem) :=
  rdR 10 p1 fun j1 => bd (f_Thing_become 50 ((2 + 3) + 1 + j1) X) fun X3 => bd (f_Tide_followAll p2 X3) fun X5 => lt (gI X5 50 1) fun v6 => lt (gI X5 2 5) fun v7 => bd (f_Tide_purseThen v6 v7 p1 X5) fun v8 => some (v8, X5)
def f_Tide_followTrial (p1 : Int32) (p2 : Int32) (X : Mem) : Option Mem :=
  lt (gI X 50 2) fun v1 => rdI X (2 + 1) 16 v1 fun v2 => lt (gI X 2 4) fun v3 => bd (f_Way_follow 51 50 v2 (v3 + p1) (p2 - p1) X) fun X5 => some X5
def f_Tide_purseWithTrial (p1 : Int32) (p2 : Int32) (p3 : Int32) (X : Mem) : Option (Int32 × Mem) :=
  bd (f_Tide_followTrial p2 p3 X) fun X2 => lt (gI X2 2 5) fun v3 => bd (f_Way_brings 51 50 v3 X2) fun v4 => bd (f_Tide_filled p1 v4) fun v6 => some (v6, X2)
def f_Tide_spot_j107 (x2 : Int32) (x3 : Int32) (x4 : Int32) (x5 : Int32) (x6 : Int32) (X : Mem) : Option ((Int32 × Mem) ⊕ (Int32 × Int32 × Int32 × Mem)) :=
  lt (x6 + (1 : Int32)) fun v1 => some (.inr (x4, x5, v1, X))
def f_Tide_spot_b67 (x2 : Int32) (x3 : Int32) (x4 : Int32) (x5 : Int32) (x6 : Int32) (X : Mem) : Option ((Int32 × Mem) ⊕ (Int32 × Int32 × Int32 × Mem)) :=
  if (16 : Int32) ≤ x6 then (some (.inl ((x4, X)))) else (bd (f_Thing_layAt 50 x6 X) fun X2 => bd2 (f_Tide_purseWithTrial x3 (0 : Int32) x2 X2) fun v3 X5 => if v3 ≤ x5 then (f_Tide_spot_j107 x2 x3 x4 x5 x6 X5) else (f_Tide_spot_j107 x2 x3 x6 v3 x6 X5))
def f_Tide_spot_j21 (X : Mem) : Option (Int32 × Mem) :=
  bd2 (f_Tide_finding (-1000000001 : Int32) X) fun v1 X3 => some (v1, X3)
def f_Tide_spot (p1 : Int32) (p2 : Int32) (X : Mem) : Option (Int32 × Mem) :=
  bd (f_Shore_has 2 p1 X) fun v1 => if v1 = 0 then (f_Tide_spot_j21 X) else (bd (f_Tide_isUpTo p2 (1 : Int32) (100 : Int32)) fun v3 => if v3 = 0 then (f_Tide_spot_j21 X) else (rdR 10 p1 fun j5 => lt (gI X ((2 + 3) + 1 + j5) 4) fun v6 => if v6 = (2 : Int32) then (bd2 (f_Tide_finding (-1000000005 : Int32) X) fun v10 X12 => some (v10, X12)) else (bd2 (f_Tide_tryOn p1 p2 X) fun v7 X9 => it (fun a => f_Tide_spot_b67 p2 v7 a.1 a.2.1 a.2.2.1 a.2.2.2) FU ((0 : Int32), (-1 : Int32), (0 : Int32), X9))))
def f_Tide_delay_j117 (x3 : Int32) (x4 : Int32) (x5 : Int32) (x6 : Int32) (x7 : Int32) (X : Mem) : Option ((Int32 × Mem) ⊕ (Int32 × Int32 × Int32 × Mem)) :=
  lt (x7 + (1 : Int32)) fun v1 => some (.inr (x5, x6, v1, X))
def f_Tide_delay_b85 (x3 : Int32) (x4 : Int32) (x5 : Int32) (x6 : Int32) (x7 : Int32) (X : Mem) : Option ((Int32 × Mem) ⊕ (Int32 × Int32 × Int32 × Mem)) :=
  if x3 ≤ x7 then (some (.inl ((x5, X)))) else (bd2 (f_Tide_purseWithTrial x4 x7 x3 X) fun v1 X3 => if v1 ≤ x6 then (f_Tide_delay_j117 x3 x4 x5 x6 x7 X3) else (f_Tide_delay_j117 x3 x4 x7 v1 x7 X3))
def f_Tide_delay_j30 (X : Mem) : Option (Int32 × Mem) :=
  bd2 (f_Tide_finding (-1000000001 : Int32) X) fun v1 X3 => some (v1, X3)
def f_Tide_delay (p1 : Int32) (p2 : Int32) (p3 : Int32) (X : Mem) : Option (Int32 × Mem) :=
  bd (f_Shore_has 2 p1 X) fun v1 => if v1 = 0 then (f_Tide_delay_j30 X) else (bd (f_Tide_isBelow p2 (16 : Int32)) fun v3 => if v3 = 0 then (f_Tide_delay_j30 X) else (bd (f_Tide_isUpTo p3 (1 : Int32) (60 : Int32)) fun v5 => if v5 = 0 then (f_Tide_delay_j30 X) else (rdR 10 p1 fun j7 => lt (gI X ((2 + 3) + 1 + j7) 4) fun v8 => if v8 = (2 : Int32) then (bd2 (f_Tide_finding (-1000000005 : Int32) X) fun v14 X16 => some (v14, X16)) else (bd2 (f_Tide_tryOn p1 p3 X) fun v9 X11 => bd (f_Thing_layAt 50 p2 X11) fun X13 => it (fun a => f_Tide_delay_b85 p3 v9 a.1 a.2.1 a.2.2.1 a.2.2.2) FU ((0 : Int32), (-1 : Int32), (0 : Int32), X13)))))
def f_Tide_kind_j84 (x2 : Int32) (x3 : Int32) (x4 : Int32) (x5 : Int32) (x6 : Int32) (X : Mem) : Option ((Int32 × Mem) ⊕ (Int32 × Int32 × Int32 × Mem)) :=
  lt (x6 + (1 : Int32)) fun v1 => some (.inr (x4, x5, v1, X))
def f_Tide_kind_b44 (x2 : Int32) (x3 : Int32) (x4 : Int32) (x5 : Int32) (x6 : Int32) (X : Mem) : Option ((Int32 × Mem) ⊕ (Int32 × Int32 × Int32 × Mem)) :=
  if (6 : Int32) ≤ x6 then (some (.inl ((x4, X)))) else (lt (sI X 50 0 x6) fun X1 => bd2 (f_Tide_purseWithTrial x3 (0 : Int32) x2 X1) fun v2 X4 => if v2 ≤ x5 then (f_Tide_kind_j84 x2 x3 x4 x5 x6 X4) else (f_Tide_kind_j84 x2 x3 x6 v2 x6 X4))
def f_Tide_kind_j21 (X : Mem) : Option (Int32 × Mem) :=
  bd2 (f_Tide_finding (-1000000001 : Int32) X) fun v1 X3 => some (v1, X3)
def f_Tide_kind (p1 : Int32) (p2 : Int32) (X : Mem) : Option (Int32 × Mem) :=
  bd (f_Shore_has 2 p1 X) fun v1 => if v1 = 0 then (f_Tide_kind_j21 X) else (bd (f_Tide_isUpTo p2 (1 : Int32) (100 : Int32)) fun v3 => if v3 = 0 then (f_Tide_kind_j21 X) else (bd2 (f_Tide_tryOn p1 p2 X) fun v5 X7 => it (fun a => f_Tide_kind_b44 p2 v5 a.1 a.2.1 a.2.2.1 a.2.2.2) FU ((0 : Int32), (-1 : Int32), (0 : Int32), X7)))
def f_Tide_worth_b55 (x3 : Int32) (x4 : Int32) (x5 : Int32) (X : Mem) : Option ((Int32 × Mem) ⊕ (Int32 × Mem)) :=
  if (999 : Int32) < x5 then (bd2 (f_Tide_finding (-1000000004 : Int32) X) fun v1 X3 => some (.inl ((v1, X3)))) else (lt (sI X 50 3 x5) fun X4 => lt (gI X4 2 5) fun v5 => bd (f_Way_brings 51 50 v5 X4) fun v6 => bd (f_Tide_filled x4 v6) fun v8 => if v8 < x3 then (lt (x5 + (1 : Int32)) fun v10 => some (.inr (v10, X4))) else (some (.inl ((x5, X4)))))
def f_Tide_worth_j31 (X : Mem) : Option (Int32 × Mem) :=
  bd2 (f_Tide_finding (-1000000001 : Int32) X) fun v1 X3 => some (v1, X3)
def f_Tide_worth (p1 : Int32) (p2 : Int32) (p3 : Int32) (X : Mem) : Option (Int32 × Mem) :=
  bd (f_Shore_has 2 p1 X) fun v1 => if v1 = 0 then (f_Tide_worth_j31 X) else (bd (f_Tide_isUpTo p2 (1 : Int32) (40 : Int32)) fun v3 => if v3 = 0 then (f_Tide_worth_j31 X) else (bd (f_Tide_isUpTo p3 (0 : Int32) (999999999 : Int32)) fun v5 => if v5 = 0 then (f_Tide_worth_j31 X) else (bd2 (f_Tide_tryOn p1 p2 X) fun v7 X9 => bd (f_Tide_followTrial (0 : Int32) p2 X9) fun X11 => it (fun a => f_Tide_worth_b55 p3 v7 a.1 a.2) FU ((0 : Int32), X11))))
def f_Tide_richest_j64 (x2 : Int32) (x3 : Int32) (x4 : Int32) (X : Mem) : Option ((Int32 × Mem) ⊕ (Int32 × Int32 × Int32)) :=
  lt (x4 + (1 : Int32)) fun v1 => some (.inr (x2, x3, v1))
def f_Tide_richest_b30 (X : Mem) (x2 : Int32) (x3 : Int32) (x4 : Int32) : Option ((Int32 × Mem) ⊕ (Int32 × Int32 × Int32)) :=
  if (4 : Int32) ≤ x4 then (some (.inl ((x2, X)))) else (lt (gI X 2 5) fun v1 => bd (f_Tide_purseThen x4 v1 (-1 : Int32) X) fun v2 => if v2 ≤ x3 then (f_Tide_richest_j64 x2 x3 x4 X) else (f_Tide_richest_j64 x4 v2 x4 X))
def f_Tide_richest (p1 : Int32) (X : Mem) : Option (Int32 × Mem) :=
  bd (f_Tide_isUpTo p1 (0 : Int32) (400 : Int32)) fun v1 => if v1 = 0 then (bd2 (f_Tide_finding (-1000000001 : Int32) X) fun v5 X7 => some (v5, X7)) else (bd (f_Tide_followAll p1 X) fun X4 => it (fun a => f_Tide_richest_b30 X4 a.1 a.2.1 a.2.2) FU ((0 : Int32), (-1 : Int32), (0 : Int32)))
def f_Tide_shareOut_j99 (x1 : Int32) (x2 : Int32) (x3 : Int32) (X : Mem) : Option ((Int32 × Mem) ⊕ (Int32 × Int32 × Mem)) :=
  lt (x3 + (1 : Int32)) fun v1 => some (.inr (x2, v1, X))
def f_Tide_shareOut_j83 (x1 : Int32) (x2 : Int32) (x3 : Int32) (q0 : Nat) (q1 : Int32) (q2 : Int32) (X : Mem) : Option ((Int32 × Mem) ⊕ (Int32 × Int32 × Mem)) :=
  wrI X q0 10 q1 q2 fun X1 => rdI X1 48 10 x3 fun v2 => if v2 ≤ 0 then (f_Tide_shareOut_j99 x1 x2 x3 X1) else (lt (x2 ||| ((1 : Int32) <<< (x3 &&& 31))) fun v3 => f_Tide_shareOut_j99 x1 v3 x3 X1)
def f_Tide_shareOut_j49 (x1 : Int32) (x2 : Int32) (x3 : Int32) (x4 : Nat) (q0 : Int32) (X : Mem) : Option ((Int32 × Mem) ⊕ (Int32 × Int32 × Mem)) :=
  if q0 = 0 then (f_Tide_shareOut_j83 x1 x2 x3 48 x3 (0 : Int32) X) else (rdR 10 x3 fun j1 => lt (gI X 2 5) fun v2 => bd (f_Way_brings (60 + j1) x4 v2 X) fun v3 => f_Tide_shareOut_j83 x1 x2 x3 48 x3 v3 X)
def f_Tide_shareOut_j48 (x1 : Int32) (x2 : Int32) (x3 : Int32) (x4 : Nat) (X : Mem) : Option ((Int32 × Mem) ⊕ (Int32 × Int32 × Mem)) :=
  f_Tide_shareOut_j49 x1 x2 x3 x4 (0 : Int32) X
def f_Tide_shareOut_b4 (x1 : Int32) (x2 : Int32) (x3 : Int32) (X : Mem) : Option ((Int32 × Mem) ⊕ (Int32 × Int32 × Mem)) :=
  lt (gI X 2 3) fun v1 => if v1 ≤ x3 then (some (.inl ((x2, X)))) else (rdR 10 x3 fun j2 => lt (gI X ((2 + 3) + 1 + j2) 1) fun v3 => if v3 = x1 then (lt (gI X ((2 + 3) + 1 + j2) 4) fun v4 => if v4 = (1 : Int32) then (f_Tide_shareOut_j49 x1 x2 x3 ((2 + 3) + 1 + j2) (1 : Int32) X) else (f_Tide_shareOut_j48 x1 x2 x3 ((2 + 3) + 1 + j2) X)) else (f_Tide_shareOut_j48 x1 x2 x3 ((2 + 3) + 1 + j2) X))
def f_Tide_shareOut (p1 : Int32) (X : Mem) : Option (Int32 × Mem) :=
  it (fun a => f_Tide_shareOut_b4 p1 a.1 a.2.1 a.2.2) FU ((0 : Int32), (0 : Int32), X)
def f_Tide_sureThen_j75 (x1 : Int32) (x2 : Int32) (x3 : Int32) (X : Mem) : Option (Int32 ⊕ (Int32 × Int32)) :=
  lt (x3 + (1 : Int32)) fun v1 => some (.inr (x2, v1))
def f_Tide_sureThen_b12 (x1 : Int32) (X : Mem) (x2 : Int32) (x3 : Int32) : Option (Int32 ⊕ (Int32 × Int32)) :=
  lt (gI X 2 3) fun v1 => if v1 ≤ x3 then (some (.inl (x2))) else (rdR 10 x3 fun j2 => lt (gI X ((2 + 3) + 1 + j2) 1) fun v3 => if v3 = x1 then (lt (gI X ((2 + 3) + 1 + j2) 4) fun v4 => if v4 = (2 : Int32) then (rdR 10 x3 fun j5 => lt (gI X 2 5) fun v6 => bd (f_Way_brings (60 + j5) ((2 + 3) + 1 + j2) v6 X) fun v7 => bd (f_Tide_filled x2 v7) fun v9 => f_Tide_sureThen_j75 x1 v9 x3 X) else (f_Tide_sureThen_j75 x1 x2 x3 X)) else (f_Tide_sureThen_j75 x1 x2 x3 X))
def f_Tide_sureThen (p1 : Int32) (X : Mem) : Option Int32 :=
  rdI X (2 + 2) 4 p1 fun v1 => it (fun a => f_Tide_sureThen_b12 p1 X a.1 a.2) FU (v1, (0 : Int32))
def f_Tide_sharesOf_j28 (x1 : Int32) (x2 : Int32) (x3 : Int32) (X : Mem) : Option (Int32 ⊕ (Int32 × Int32)) :=
  lt (x3 + (1 : Int32)) fun v1 => some (.inr (x2, v1))
def f_Tide_sharesOf_b4 (x1 : Int32) (X : Mem) (x2 : Int32) (x3 : Int32) : Option (Int32 ⊕ (Int32 × Int32)) :=
  if (10 : Int32) ≤ x3 then (some (.inl (x2))) else (if ((x1 >>> (x3 &&& 31)) &&& (1 : Int32)) = (1 : Int32) then (rdI X 48 10 x3 fun v1 => lt (x2 + v1) fun v2 => f_Tide_sharesOf_j28 x1 v2 x3 X) else (f_Tide_sharesOf_j28 x1 x2 x3 X))
def f_Tide_sharesOf (p1 : Int32) (X : Mem) : Option Int32 :=
  it (fun a => f_Tide_sharesOf_b4 p1 X a.1 a.2) FU ((0 : Int32), (0 : Int32))
def f_Tide_fewest_j129 (x3 : Int32) (x4 : Int32) (x5 : Int32) (x6 : Int32) (x7 : Int32) (x8 : Int32) (X : Mem) : Option ((Int32 × Mem) ⊕ (Int32 × Int32 × Int32)) :=
  lt (x8 + (1 : Int32)) fun v1 => some (.inr (x6, x7, v1))
def f_Tide_fewest_j96 (x3 : Int32) (x4 : Int32) (x5 : Int32) (x6 : Int32) (x7 : Int32) (x8 : Int32) (q0 : Int32) (X : Mem) : Option ((Int32 × Mem) ⊕ (Int32 × Int32 × Int32)) :=
  if q0 = 0 then (f_Tide_fewest_j129 x3 x4 x5 x6 x7 x8 X) else (bd (f_Tide_sharesOf x8 X) fun v1 => bd (f_Tide_filled x5 v1) fun v3 => if v3 < x3 then (f_Tide_fewest_j129 x3 x4 x5 x6 x7 x8 X) else (bd (f_Integer_bitCount x8) fun v5 => f_Tide_fewest_j129 x3 x4 x5 x8 v5 x8 X))
def f_Tide_fewest_j95 (x3 : Int32) (x4 : Int32) (x5 : Int32) (x6 : Int32) (x7 : Int32) (x8 : Int32) (X : Mem) : Option ((Int32 × Mem) ⊕ (Int32 × Int32 × Int32)) :=
  f_Tide_fewest_j96 x3 x4 x5 x6 x7 x8 (0 : Int32) X
def f_Tide_fewest_b64 (x3 : Int32) (x4 : Int32) (x5 : Int32) (X : Mem) (x6 : Int32) (x7 : Int32) (x8 : Int32) : Option ((Int32 × Mem) ⊕ (Int32 × Int32 × Int32)) :=
  if x4 < x8 then (if x6 < 0 then (bd2 (f_Tide_finding (-1000000004 : Int32) X) fun v1 X3 => some (.inl ((v1, X3)))) else (some (.inl ((x6, X))))) else (if (x8 &&& (x4 ^^^ (-1 : Int32))) = 0 then (bd (f_Integer_bitCount x8) fun v4 => if x7 ≤ v4 then (f_Tide_fewest_j95 x3 x4 x5 x6 x7 x8 X) else (f_Tide_fewest_j96 x3 x4 x5 x6 x7 x8 (1 : Int32) X)) else (f_Tide_fewest_j95 x3 x4 x5 x6 x7 x8 X))
def f_Tide_fewest_j28 (X : Mem) : Option (Int32 × Mem) :=
  bd2 (f_Tide_finding (-1000000001 : Int32) X) fun v1 X3 => some (v1, X3)
def f_Tide_fewest (p1 : Int32) (p2 : Int32) (p3 : Int32) (X : Mem) : Option (Int32 × Mem) :=
  bd (f_Tide_isBelow p1 (4 : Int32)) fun v1 => if v1 = 0 then (f_Tide_fewest_j28 X) else (bd (f_Tide_isUpTo p2 (1 : Int32) (40 : Int32)) fun v3 => if v3 = 0 then (f_Tide_fewest_j28 X) else (bd (f_Tide_isUpTo p3 (0 : Int32) (999999999 : Int32)) fun v5 => if v5 = 0 then (f_Tide_fewest_j28 X) else (bd (f_Tide_followAll p2 X) fun X8 => bd2 (f_Tide_shareOut p1 X8) fun v9 X11 => bd (f_Tide_sureThen p1 X11) fun v12 => it (fun a => f_Tide_fewest_b64 p3 v9 v12 X11 a.1 a.2.1 a.2.2) FU ((-1 : Int32), (11 : Int32), (0 : Int32)))))
def f_Tide_gainAt_b5 (x1 : Int32) (X : Mem) (x2 : Int64) (x4 : Int32) : Option (Int64 ⊕ (Int64 × Int32)) :=
  if (4 : Int32) ≤ x4 then (bd (f_Shore_allPurses 2 X) fun v1 => some (.inl ((x2 - v1)))) else (bd (f_Tide_purseThen x4 x1 (-1 : Int32) X) fun v3 => lt (x2 + (v3.toInt64)) fun v5 => lt (x4 + (1 : Int32)) fun v6 => some (.inr (v5, v6)))
def f_Tide_gainAt (p1 : Int32) (X : Mem) : Option Int64 :=
  it (fun a => f_Tide_gainAt_b5 p1 X a.1 a.2) FU ((0 : Int64), (0 : Int32))
def f_Tide_rate_b34 (x2 : Int32) (X : Mem) (x3 : Int32) : Option ((Int32 × Mem) ⊕ Int32) :=
  if (50 : Int32) < x3 then (bd2 (f_Tide_finding (-1000000004 : Int32) X) fun v1 X3 => some (.inl ((v1, X3)))) else (bd (f_Tide_gainAt x3 X) fun v4 => if (lg_cmp v4 (x2.toInt64)) < 0 then (lt (x3 + (1 : Int32)) fun v6 => some (.inr v6)) else (some (.inl ((x3, X)))))
def f_Tide_rate_j20 (X : Mem) : Option (Int32 × Mem) :=
  bd2 (f_Tide_finding (-1000000001 : Int32) X) fun v1 X3 => some (v1, X3)
def f_Tide_rate (p1 : Int32) (p2 : Int32) (X : Mem) : Option (Int32 × Mem) :=
  bd (f_Tide_isUpTo p1 (1 : Int32) (100 : Int32)) fun v1 => if v1 = 0 then (f_Tide_rate_j20 X) else (bd (f_Tide_isUpTo p2 (0 : Int32) (999999999 : Int32)) fun v3 => if v3 = 0 then (f_Tide_rate_j20 X) else (bd (f_Tide_followAll p1 X) fun X6 => it (fun a => f_Tide_rate_b34 p2 X6 a) FU (0 : Int32)))
def f_Tide_feed_b41 (x1 : Int32) (x3 : Int32) (X : Mem) : Option ((Int32 × Mem) ⊕ (Int32 × Mem)) :=
  if x3 < 0 then (lt (gI X 44 1) fun v1 => some (.inl ((v1, X)))) else (bd (f_Tape_put ((x1 >>> (((8 : Int32) * x3) &&& 31)).toInt8.toInt32) X) fun X3 => lt (x3 + (-1 : Int32)) fun v4 => some (.inr (v4, X3)))
def f_Tide_feed (p1 : Int32) (p2 : Int32) (X : Mem) : Option (Int32 × Mem) :=
  bd (f_Tide_isUpTo p2 (1 : Int32) (4 : Int32)) fun v1 => if v1 = 0 then (bd2 (f_Tide_finding (-1000000001 : Int32) X) fun v8 X10 => some (v8, X10)) else (lt (gI X 44 1) fun v3 => if (v3 + p2) ≤ (120 : Int32) then (lt (p2 - (1 : Int32)) fun v4 => it (fun a => f_Tide_feed_b41 p1 a.1 a.2) FU (v4, X)) else (bd2 (f_Tide_finding (-1000000002 : Int32) X) fun v5 X7 => some (v5, X7)))
def f_Tide_wipe (X : Mem) : Option (Int32 × Mem) :=
  lt (gI X 44 1) fun v1 => lt (sI X 44 1 (0 : Int32)) fun X2 => some (v1, X2)
def f_Tide_readWorth (k1 : Nat) (X : Mem) : Option (Int32 × Mem) :=
  bd (f_Tape_isWord 7 X) fun v1 => if v1 = 0 then (some ((1 : Int32), X)) else (bd (f_Tape_step X) fun X4 => bd2 (f_Tape_isNumberTo (9999 : Int32) X4) fun v5 X7 => if v5 = 0 then (some ((0 : Int32), X7)) else (lt (gI X7 44 5) fun v8 => lt (sI X7 k1 3 v8) fun X9 => bd (f_Tape_step X9) fun X11 => some ((1 : Int32), X11)))
def f_Tide_readPlace (k1 : Nat) (X : Mem) : Option (Int32 × Mem) :=
  bd (f_Tape_isWord 8 X) fun v1 => if v1 = 0 then (some ((1 : Int32), X)) else (bd (f_Tape_step X) fun X4 => bd2 (f_Tape_isNumberTo (15 : Int32) X4) fun v5 X7 => if v5 = 0 then (some ((0 : Int32), X7)) else (lt (gI X7 44 5) fun v8 => bd (f_Thing_layAt k1 v8 X7) fun X10 => bd (f_Tape_step X10) fun X12 => some ((1 : Int32), X12)))
def f_Tide_readThing (p1 : Int32) (X : Mem) : Option (Int32 × Mem) :=
  bd (f_Tape_step X) fun X2 => bd (f_Tape_isWord 6 X2) fun v3 => if v3 = 0 then (some ((0 : Int32), X2)) else (bd (f_Tape_step X2) fun X6 => bd2 (f_Tape_isNumberTo (3 : Int32) X6) fun v7 X9 => if v7 = 0 then (some ((0 : Int32), X9)) else (lt (gI X9 44 5) fun v10 => bd2 (f_Shore_add 30 p1 v10 X9) fun v11 X13 => bd (f_Tape_step X13) fun X15 => bd (f_Shore_has 30 v11 X15) fun v16 => if v16 = 0 then (some ((0 : Int32), X15)) else (rdR 10 v11 fun j18 => bd2 (f_Tide_readWorth ((30 + 3) + 1 + j18) X15) fun v19 X21 => if v19 = 0 then (some ((0 : Int32), X21)) else (rdR 10 v11 fun j22 => bd2 (f_Tide_readPlace ((30 + 3) + 1 + j22) X21) fun v23 X25 => if v23 = 0 then (some ((0 : Int32), X25)) else (some ((1 : Int32), X25))))))
def f_Tide_readHeight (X : Mem) : Option (Int32 × Mem) :=
  bd (f_Tape_step X) fun X2 => bd2 (f_Tape_isNumberTo (15 : Int32) X2) fun v3 X5 => if v3 = 0 then (some ((0 : Int32), X5)) else (lt (gI X5 44 5) fun v6 => bd (f_Tape_step X5) fun X8 => bd2 (f_Tape_isNumberTo (9 : Int32) X8) fun v9 X11 => if v9 = 0 then (some ((0 : Int32), X11)) else (lt (gI X11 44 5) fun v12 => wrI X11 (30 + 1) 16 v6 v12 fun X13 => bd (f_Tape_step X13) fun X15 => some ((1 : Int32), X15)))
def f_Tide_readInterest (X : Mem) : Option (Int32 × Mem) :=
  bd (f_Tape_step X) fun X2 => bd2 (f_Tape_isNumberTo (50 : Int32) X2) fun v3 X5 => if v3 = 0 then (some ((0 : Int32), X5)) else (lt (gI X5 44 5) fun v6 => lt (sI X5 30 5 v6) fun X7 => bd (f_Tape_step X7) fun X9 => some ((1 : Int32), X9))
def f_Tide_readItem (X : Mem) : Option (Int32 × Mem) :=
  bd (f_Tape_kindNamed X) fun v1 => if v1 = (-1 : Int32) then (bd (f_Tape_isWord 9 X) fun v3 => if v3 = 0 then (bd (f_Tape_isWord 10 X) fun v5 => if v5 = 0 then (some ((0 : Int32), X)) else (bd2 (f_Tide_readInterest X) fun v7 X9 => if v7 = 0 then (some ((0 : Int32), X9)) else (some ((1 : Int32), X9)))) else (bd2 (f_Tide_readHeight X) fun v10 X12 => ckZ v10 (some (v10, X12)))) else (bd (f_Shore_isFull 30 X) fun v13 => if v13 = 0 then (bd2 (f_Tide_readThing v1 X) fun v15 X17 => if v15 = 0 then (some ((0 : Int32), X17)) else (some ((1 : Int32), X17))) else (some ((0 : Int32), X)))
def f_Tide_readText_j72 (x1 : Int32) (X : Mem) : Option (Int32 × Mem) :=
  lt (gI X 44 2) fun v1 => if v1 = 0 then (some (x1, X)) else (lt (gI X 44 3) fun v2 => some (((-1 : Int32) - v2), X))
def f_Tide_readText_j57 (x1 : Int32) (q0 : Int32) (X : Mem) : Option ((Int32 × Mem) ⊕ (Int32 × Int32 × Mem)) :=
  if q0 = 0 then (some (.inr (x1, q0, X))) else (bd (f_Tape_step X) fun X2 => some (.inr (x1, q0, X2)))
def f_Tide_readText_b11 (x1 : Int32) (x2 : Int32) (X : Mem) : Option ((Int32 × Mem) ⊕ (Int32 × Int32 × Mem)) :=
  if x2 = 0 then (upc (f_Tide_readText_j72 x1 X)) else (if (120 : Int32) ≤ x1 then (upc (f_Tide_readText_j72 x1 X)) else (bd2 (f_Tide_readItem X) fun v1 X3 => if v1 = 0 then (lt (gI X3 44 3) fun v6 => some (.inl ((((-1 : Int32) - v6), X3)))) else (lt (x1 + (1 : Int32)) fun v4 => lt (gI X3 44 2) fun v5 => if v5 = (3 : Int32) then (f_Tide_readText_j57 v4 (1 : Int32) X3) else (f_Tide_readText_j57 v4 (0 : Int32) X3))))
def f_Tide_readText (X : Mem) : Option (Int32 × Mem) :=
  bd (f_Tape_rewind X) fun X2 => it (fun a => f_Tide_readText_b11 a.1 a.2.1 a.2.2) FU ((0 : Int32), (1 : Int32), X2)
def f_Tide_shore_j31 (x1 : Int32) (X : Mem) : Option (Int32 × Mem) :=
  lt (sI X 44 1 (0 : Int32)) fun X1 => some (x1, X1)
def f_Tide_shore (X : Mem) : Option (Int32 × Mem) :=
  bd (f_Shore_become 30 2 X) fun X2 => bd2 (f_Tide_readText X2) fun v3 X5 => if v3 ≤ 0 then (f_Tide_shore_j31 v3 X5) else (bd (f_Shore_become 2 30 X5) fun X7 => f_Tide_shore_j31 v3 X7)
def f_Tide_isWidth_j22 : Option Int32 :=
  some (1 : Int32)
def f_Tide_isWidth (p0 : Int32) : Option Int32 :=
  if p0 = 0 then (f_Tide_isWidth_j22) else (if p0 = (8 : Int32) then (f_Tide_isWidth_j22) else (if p0 = (16 : Int32) then (f_Tide_isWidth_j22) else (if p0 = (64 : Int32) then (f_Tide_isWidth_j22) else (some (0 : Int32)))))
def f_Tide_sheet_j15 (X : Mem) : Option (Int32 × Mem) :=
  bd2 (f_Tide_finding (-1000000001 : Int32) X) fun v1 X3 => some (v1, X3)
def f_Tide_sheet (p1 : Int32) (p2 : Int32) (p3 : Int32) (X : Mem) : Option (Int32 × Mem) :=
  bd (f_Tide_isBelow p1 (4 : Int32)) fun v1 => if v1 = 0 then (f_Tide_sheet_j15 X) else (bd (f_Tide_isWidth p2) fun v3 => if v3 = 0 then (f_Tide_sheet_j15 X) else (if 0 ≤ p3 then (if p3 ≤ (40 : Int32) then (rdR 4 p1 fun j5 => bd (f_Sheet_renew (52 + 2 * j5) p2 p3 X) fun X7 => rdR 4 p1 fun j8 => lt (gI X7 (52 + 2 * j8) 2) fun v9 => some (v9, X7)) else (bd2 (f_Tide_finding (-1000000001 : Int32) X) fun v10 X12 => some (v10, X12))) else (bd2 (f_Tide_finding (-1000000007 : Int32) X) fun v13 X15 => some (v13, X15))))
def f_Tide_write (p1 : Int32) (p2 : Int32) (p3 : Int64) (X : Mem) : Option (Int64 × Mem) :=
  bd (f_Tide_isBelow p1 (4 : Int32)) fun v1 => if v1 = 0 then (bd2 (f_Tide_finding (-1000000001 : Int32) X) fun v18 X20 => some ((v18.toInt64), X20)) else (rdR 4 p1 fun j3 => bd (f_Sheet_isMissing (52 + 2 * j3) X) fun v4 => if v4 = 0 then (lt (gI X (52 + 2 * j3) 2) fun v6 => bd (f_Tide_isBelow p2 v6) fun v7 => if v7 = 0 then (bd2 (f_Tide_finding (-1000000001 : Int32) X) fun v12 X14 => some ((v12.toInt64), X14)) else (rdL X ((52 + 2 * j3) + 1) 40 p2 fun v9 => bd (f_Sheet_put (52 + 2 * j3) p2 p3 X) fun X11 => some (v9, X11))) else (bd2 (f_Tide_finding (-1000000006 : Int32) X) fun v15 X17 => some ((v15.toInt64), X17)))
def f_Tide_copy_j106 (X : Mem) : Option (Int32 × Mem) :=
  bd2 (f_Tide_finding (-1000000001 : Int32) X) fun v1 X3 => some (v1, X3)
def f_Tide_copy_j55 (X : Mem) : Option (Int32 × Mem) :=
  bd2 (f_Tide_finding (-1000000006 : Int32) X) fun v1 X3 => some (v1, X3)
def f_Tide_copy_j16 (X : Mem) : Option (Int32 × Mem) :=
  bd2 (f_Tide_finding (-1000000001 : Int32) X) fun v1 X3 => some (v1, X3)
def f_Tide_copy (p1 : Int32) (p2 : Int32) (p3 : Int32) (p4 : Int32) (p5 : Int32) (X : Mem) : Option (Int32 × Mem) :=
  bd (f_Tide_isBelow p1 (4 : Int32)) fun v1 => if v1 = 0 then (f_Tide_copy_j16 X) else (bd (f_Tide_isBelow p3 (4 : Int32)) fun v3 => if v3 = 0 then (f_Tide_copy_j16 X) else (rdR 4 p1 fun j5 => rdR 4 p3 fun j6 => bd (f_Sheet_isMissing (52 + 2 * j5) X) fun v7 => if v7 = 0 then (bd (f_Sheet_isMissing (52 + 2 * j6) X) fun v9 => if v9 = 0 then (lt (gI X (52 + 2 * j5) 1) fun v11 => lt (gI X (52 + 2 * j6) 1) fun v12 => if v11 = v12 then (bd (f_Sheet_hasRun (52 + 2 * j5) p2 p5 X) fun v13 => if v13 = 0 then (f_Tide_copy_j106 X) else (bd (f_Sheet_hasRun (52 + 2 * j6) p4 p5 X) fun v15 => if v15 = 0 then (f_Tide_copy_j106 X) else (acL X ((52 + 2 * j5) + 1) 40 p2 ((52 + 2 * j6) + 1) 40 p4 p5 fun X17 => some (p5, X17)))) else (bd2 (f_Tide_finding (-1000000003 : Int32) X) fun v18 X20 => some (v18, X20))) else (f_Tide_copy_j55 X)) else (f_Tide_copy_j55 X)))
def f_Tide_lays_j99 (x2 : Nat) (x3 : Int32) (x4 : Int32) (X : Mem) : Option ((Int32 × Mem) ⊕ (Int32 × Int32 × Mem)) :=
  lt (x4 + (1 : Int32)) fun v1 => some (.inr (x3, v1, X))
def f_Tide_lays_b42 (x2 : Nat) (x3 : Int32) (x4 : Int32) (X : Mem) : Option ((Int32 × Mem) ⊕ (Int32 × Int32 × Mem)) :=
  lt (gI X x2 2) fun v1 => if v1 ≤ x4 then (some (.inl ((x3, X)))) else (if (16 : Int32) ≤ x4 then (some (.inl ((x3, X)))) else (rdL X (x2 + 1) 40 x4 fun v2 => if (lg_cmp v2 (0 : Int64)) < 0 then (f_Tide_lays_j99 x2 x3 x4 X) else (if 0 ≤ (lg_cmp v2 (10 : Int64)) then (f_Tide_lays_j99 x2 x3 x4 X) else (wrI X (2 + 1) 16 x4 (v2.toInt32) fun X3 => lt (x3 + (1 : Int32)) fun v4 => f_Tide_lays_j99 x2 v4 x4 X3))))
def f_Tide_lays (p1 : Int32) (X : Mem) : Option (Int32 × Mem) :=
  bd (f_Tide_isBelow p1 (4 : Int32)) fun v1 => if v1 = 0 then (bd2 (f_Tide_finding (-1000000001 : Int32) X) fun v9 X11 => some (v9, X11)) else (rdR 4 p1 fun j3 => bd (f_Sheet_isMissing (52 + 2 * j3) X) fun v4 => if v4 = 0 then (it (fun a => f_Tide_lays_b42 (52 + 2 * j3) a.1 a.2.1 a.2.2) FU ((0 : Int32), (0 : Int32), X)) else (bd2 (f_Tide_finding (-1000000006 : Int32) X) fun v6 X8 => some (v6, X8)))
def f_Tide_addToCourse_b3 (x2 : Int32) (x3 : Int32) (x4 : Int32) (X : Mem) : Option (Mem ⊕ (Int32 × Mem)) :=
  if x3 ≤ x4 then (some (.inl (X))) else (if (40 : Int32) ≤ x4 then (some (.inl (X))) else (rdI X 49 40 x4 fun v1 => bd (f_Tide_filled v1 x2) fun v2 => wrI X 49 40 x4 v2 fun X4 => lt (x4 + (1 : Int32)) fun v5 => some (.inr (v5, X4))))
def f_Tide_addToCourse (p1 : Int32) (p2 : Int32) (p3 : Int32) (X : Mem) : Option Mem :=
  it (fun a => f_Tide_addToCourse_b3 p2 p3 a.1 a.2) FU (p1, X)
def f_Tide_plotCourse_j125 (x1 : Int32) (x2 : Int32) (x3 : Int32) (x4 : Int32) (X : Mem) : Option (Mem ⊕ (Int32 × Mem)) :=
  lt (x4 + (1 : Int32)) fun v1 => some (.inr (v1, X))
def f_Tide_plotCourse_b48 (x1 : Int32) (x2 : Int32) (x3 : Int32) (x4 : Int32) (X : Mem) : Option (Mem ⊕ (Int32 × Mem)) :=
  lt (gI X 2 3) fun v1 => if v1 ≤ x4 then (some (.inl (X))) else (rdR 10 x4 fun j2 => lt (gI X ((2 + 3) + 1 + j2) 1) fun v3 => if v3 = x1 then (if x4 = x2 then (f_Tide_plotCourse_j125 x1 x2 x3 x4 X) else (rdR 10 x4 fun j4 => lt (gI X (60 + j4) 1) fun v5 => rdR 10 x4 fun j6 => rdR 10 x4 fun j7 => lt (gI X 2 5) fun v8 => bd (f_Way_brings (60 + j6) ((2 + 3) + 1 + j7) v8 X) fun v9 => bd (f_Tide_addToCourse v5 v9 x3 X) fun X12 => f_Tide_plotCourse_j125 x1 x2 x3 x4 X12)) else (f_Tide_plotCourse_j125 x1 x2 x3 x4 X))
def f_Tide_plotCourse_j38 (x1 : Int32) (x2 : Int32) (x3 : Int32) (X : Mem) : Option Mem :=
  bd (f_Tide_followAll (x3 - (1 : Int32)) X) fun X2 => it (fun a => f_Tide_plotCourse_b48 x1 x2 x3 a.1 a.2) FU ((0 : Int32), X2)
def f_Tide_plotCourse_b3 (x1 : Int32) (x2 : Int32) (x3 : Int32) (x4 : Int32) (X : Mem) : Option (Mem ⊕ (Int32 × Mem)) :=
  if x3 ≤ x4 then (upc (f_Tide_plotCourse_j38 x1 x2 x3 X)) else (if (40 : Int32) ≤ x4 then (upc (f_Tide_plotCourse_j38 x1 x2 x3 X)) else (rdI X (2 + 2) 4 x1 fun v1 => wrI X 49 40 x4 v1 fun X2 => lt (x4 + (1 : Int32)) fun v3 => some (.inr (v3, X2))))
def f_Tide_plotCourse (p1 : Int32) (p2 : Int32) (p3 : Int32) (X : Mem) : Option Mem :=
  it (fun a => f_Tide_plotCourse_b3 p1 p2 p3 a.1 a.2) FU ((0 : Int32), X)
def f_Tide_book_b65 (x3 : Nat) (x4 : Int32) (X : Mem) : Option ((Int32 × Mem) ⊕ (Int32 × Mem)) :=
  lt (gI X x3 2) fun v1 => if v1 ≤ x4 then (lt (gI X x3 2) fun v2 => some (.inl ((v2, X)))) else (rdI X 49 40 x4 fun v3 => bd (f_Sheet_put x3 x4 (v3.toInt64) X) fun X5 => lt (x4 + (1 : Int32)) fun v6 => some (.inr (v6, X5)))
def f_Tide_book (p1 : Int32) (p2 : Int32) (X : Mem) : Option (Int32 × Mem) :=
  bd (f_Tide_isBelow p1 (4 : Int32)) fun v1 => if v1 = 0 then (bd2 (f_Tide_finding (-1000000001 : Int32) X) fun v17 X19 => some (v17, X19)) else (rdR 4 p1 fun j3 => bd (f_Sheet_isMissing (52 + 2 * j3) X) fun v4 => if v4 = 0 then (bd (f_Tide_isBelow p2 (4 : Int32)) fun v6 => if v6 = 0 then (bd2 (f_Tide_finding (-1000000001 : Int32) X) fun v11 X13 => some (v11, X13)) else (lt (gI X (52 + 2 * j3) 2) fun v8 => bd (f_Tide_plotCourse p2 (-1 : Int32) v8 X) fun X10 => it (fun a => f_Tide_book_b65 (52 + 2 * j3) a.1 a.2) FU ((0 : Int32), X10))) else (bd2 (f_Tide_finding (-1000000006 : Int32) X) fun v14 X16 => some (v14, X16)))
def f_Tide_isCourseWith_j46 (x1 : Nat) (x2 : Int32) (x3 : Int32) (x4 : Int32) (q0 : Int32) (X : Mem) : Option (Int32 ⊕ Int32) :=
  rdL X (x1 + 1) 40 x4 fun v1 => if (lg_cmp v1 (q0.toInt64)) = 0 then (lt (x4 + (1 : Int32)) fun v2 => some (.inr v2)) else (some (.inl ((0 : Int32))))
def f_Tide_isCourseWith_b3 (x1 : Nat) (x2 : Int32) (x3 : Int32) (X : Mem) (x4 : Int32) : Option (Int32 ⊕ Int32) :=
  lt (gI X x1 2) fun v1 => if v1 ≤ x4 then (some (.inl ((1 : Int32)))) else (if (40 : Int32) ≤ x4 then (some (.inl ((1 : Int32)))) else (if x4 < x2 then (rdI X 49 40 x4 fun v2 => f_Tide_isCourseWith_j46 x1 x2 x3 x4 v2 X) else (rdI X 49 40 x4 fun v3 => bd (f_Tide_filled v3 x3) fun v4 => f_Tide_isCourseWith_j46 x1 x2 x3 x4 v4 X)))
def f_Tide_isCourseWith (k1 : Nat) (p2 : Int32) (p3 : Int32) (X : Mem) : Option Int32 :=
  it (fun a => f_Tide_isCourseWith_b3 k1 p2 p3 X a) FU (0 : Int32)
def f_Tide_cellsThatFit_j96 (x1 : Nat) (x2 : Int32) (x4 : Int32) (x5 : Int32) (X : Mem) : Option ((Int32 × Mem) ⊕ (Int32 × Int32 × Mem)) :=
  lt (x5 + (1 : Int32)) fun v1 => some (.inr (x4, v1, X))
def f_Tide_cellsThatFit_j74 (x1 : Nat) (x2 : Int32) (x4 : Int32) (x5 : Int32) (q0 : Int32) (X : Mem) : Option ((Int32 × Mem) ⊕ (Int32 × Int32 × Mem)) :=
  lt (gI X 51 1) fun v1 => bd (f_Tide_isCourseWith x1 v1 q0 X) fun v2 => if v2 = 0 then (f_Tide_cellsThatFit_j96 x1 x2 x4 x5 X) else (lt (x4 + (1 : Int32)) fun v4 => f_Tide_cellsThatFit_j96 x1 x2 v4 x5 X)
def f_Tide_cellsThatFit_b14 (x1 : Nat) (x2 : Int32) (x4 : Int32) (x5 : Int32) (X : Mem) : Option ((Int32 × Mem) ⊕ (Int32 × Int32 × Mem)) :=
  if (16 : Int32) ≤ x5 then (some (.inl ((x4, X)))) else (bd (f_Thing_layAt 50 x5 X) fun X2 => lt (gI X2 x1 2) fun v3 => bd (f_Tide_followTrial (0 : Int32) (v3 - (1 : Int32)) X2) fun X5 => lt (gI X5 50 1) fun v6 => if v6 = x2 then (lt (gI X5 2 5) fun v7 => bd (f_Way_brings 51 50 v7 X5) fun v8 => f_Tide_cellsThatFit_j74 x1 x2 x4 x5 v8 X5) else (f_Tide_cellsThatFit_j74 x1 x2 x4 x5 (0 : Int32) X5))
def f_Tide_cellsThatFit (k1 : Nat) (p2 : Int32) (p3 : Int32) (X : Mem) : Option (Int32 × Mem) :=
  lt (sI X 50 0 p3) fun X1 => it (fun a => f_Tide_cellsThatFit_b14 k1 p2 a.1 a.2.1 a.2.2) FU ((0 : Int32), (0 : Int32), X1)
def f_Tide_read_b121 (x2 : Int32) (x4 : Nat) (x5 : Int32) (x6 : Int32) (X : Mem) : Option ((Int32 × Mem) ⊕ (Int32 × Int32 × Mem)) :=
  if (6 : Int32) ≤ x6 then (some (.inl ((x5, X)))) else (bd2 (f_Tide_cellsThatFit x4 x2 x6 X) fun v1 X3 => lt (x5 + v1) fun v4 => lt (x6 + (1 : Int32)) fun v5 => some (.inr (v4, v5, X3)))
def f_Tide_read_j58 (X : Mem) : Option (Int32 × Mem) :=
  bd2 (f_Tide_finding (-1000000001 : Int32) X) fun v1 X3 => some (v1, X3)
def f_Tide_read (p1 : Int32) (p2 : Int32) (p3 : Int32) (X : Mem) : Option (Int32 × Mem) :=
  bd (f_Tide_isBelow p1 (4 : Int32)) fun v1 => if v1 = 0 then (bd2 (f_Tide_finding (-1000000001 : Int32) X) fun v24 X26 => some (v24, X26)) else (rdR 4 p1 fun j3 => bd (f_Sheet_isMissing (52 + 2 * j3) X) fun v4 => if v4 = 0 then (bd (f_Tide_isBelow p2 (4 : Int32)) fun v6 => if v6 = 0 then (f_Tide_read_j58 X) else (bd (f_Shore_has 2 p3 X) fun v8 => if v8 = 0 then (f_Tide_read_j58 X) else (rdR 10 p3 fun j10 => lt (gI X ((2 + 3) + 1 + j10) 4) fun v11 => if v11 = (2 : Int32) then (bd2 (f_Tide_finding (-1000000005 : Int32) X) fun v18 X20 => some (v18, X20)) else (lt (gI X (52 + 2 * j3) 2) fun v12 => bd (f_Tide_plotCourse p2 p3 v12 X) fun X14 => rdR 10 p3 fun j15 => bd (f_Thing_become 50 ((2 + 3) + 1 + j15) X14) fun X17 => it (fun a => f_Tide_read_b121 p2 (52 + 2 * j3) a.1 a.2.1 a.2.2) FU ((0 : Int32), (0 : Int32), X17))))) else (bd2 (f_Tide_finding (-1000000006 : Int32) X) fun v21 X23 => some (v21, X23)))
def f_Tide_image (X : Mem) : Option (Int32 × Mem) :=
  bd (f_Shore_become 16 2 X) fun X2 => lt (sI X2 0 11 (1 : Int32)) fun X3 => some ((1 : Int32), X3)
def f_Tide_undo (X : Mem) : Option (Int32 × Mem) :=
  lt (gI X 0 11) fun v1 => if v1 = 0 then (bd2 (f_Tide_finding (-1000000004 : Int32) X) fun v5 X7 => some (v5, X7)) else (bd (f_Shore_become 2 16 X) fun X3 => lt (gI X3 2 3) fun v4 => some (v4, X3))
def f_Tide_tear_j12 (q0 : Int32) (X : Mem) : Option (Int32 × Mem) :=
  lt (sI X 0 11 (0 : Int32)) fun X1 => some (q0, X1)
def f_Tide_tear (X : Mem) : Option (Int32 × Mem) :=
  lt (gI X 0 11) fun v1 => if v1 = 0 then (f_Tide_tear_j12 (0 : Int32) X) else (f_Tide_tear_j12 (1 : Int32) X)
def f_Tide_count (p1 : Int32) (X : Mem) : Option (Int32 × Mem) :=
  if p1 = (0 : Int32) then (lt (gI X 2 3) fun v1 => some (v1, X)) else if p1 = (1 : Int32) then (lt (gI X 44 1) fun v2 => some (v2, X)) else if p1 = (2 : Int32) then (bd (f_Shore_allIn 2 (0 : Int32) X) fun v3 => bd (f_Integer_bitCount v3) fun v5 => some (v5, X)) else if p1 = (3 : Int32) then (bd (f_Shore_allHeights 2 X) fun v7 => some (v7, X)) else (bd2 (f_Tide_finding (-1000000001 : Int32) X) fun v9 X11 => some (v9, X11))
def f_Tide_status_b32 (X : Mem) (x2 : Int32) (x3 : Int32) : Option ((Int32 × Mem) ⊕ (Int32 × Int32)) :=
  if (7 : Int32) ≤ x3 then (some (.inl ((x2, X)))) else (rdI X 1 7 x3 fun v1 => lt (x2 + v1) fun v2 => lt (x3 + (1 : Int32)) fun v3 => some (.inr (v2, v3)))
def f_Tide_status (p1 : Int32) (X : Mem) : Option (Int32 × Mem) :=
  bd (f_Tide_isBelow p1 (7 : Int32)) fun v1 => if v1 = 0 then (if p1 = (-1 : Int32) then (it (fun a => f_Tide_status_b32 X a.1 a.2) FU ((0 : Int32), (0 : Int32))) else (bd2 (f_Tide_finding (-1000000001 : Int32) X) fun v3 X5 => some (v3, X5))) else (rdI X 1 7 p1 fun v6 => some (v6, X))
def f_Model_isIn (p0 : Int64) (p2 : Int64) (p4 : Int64) : Option Int32 :=
  if (lg_cmp p0 p2) < 0 then (some (0 : Int32)) else (if 0 < (lg_cmp p0 p4) then (some (0 : Int32)) else (some (1 : Int32)))
def f_Model_finds (p1 : Int32) (X : Mem) : Option (Int32 × Mem) :=
  rdI X 75 8 (0 : Int32) fun v1 => wrI X 75 8 (0 : Int32) (v1 + (1 : Int32)) fun X2 => lt (((-1000000001 : Int32) - p1) + (1 : Int32)) fun v3 => rdI X2 75 8 v3 fun v4 => wrI X2 75 8 v3 (v4 + (1 : Int32)) fun X5 => some (p1, X5)
def f_Model_becomes (p1 : Int32) (p2 : Int32) (X : Mem) : Option (Int32 × Mem) :=
  rdI X 71 83 p1 fun v1 => wrI X 71 83 p1 p2 fun X2 => some (v1, X2)
def f_Model_copyRow_b2 (x0 : Nat) (x1 : Nat) (x2 : Int32) (X : Mem) : Option (Mem ⊕ (Int32 × Mem)) :=
  if (83 : Int32) ≤ x2 then (some (.inl (X))) else (rdI X x0 83 x2 fun v1 => wrI X x1 83 x2 v1 fun X2 => lt (x2 + (1 : Int32)) fun v3 => some (.inr (v3, X2)))
def f_Model_copyRow (k0 : Nat) (k1 : Nat) (X : Mem) : Option Mem :=
  it (fun a => f_Model_copyRow_b2 k0 k1 a.1 a.2) FU ((0 : Int32), X)
def f_Model_isCell (p0 : Int32) : Option Int32 :=
  if p0 < 0 then (some (0 : Int32)) else (if (16 : Int32) ≤ p0 then (some (0 : Int32)) else (some (1 : Int32)))
def f_Model_isFamily (p0 : Int32) : Option Int32 :=
  if p0 < 0 then (some (0 : Int32)) else (if (4 : Int32) ≤ p0 then (some (0 : Int32)) else (some (1 : Int32)))
def f_Model_isThing (p1 : Int32) (X : Mem) : Option Int32 :=
  if p1 < 0 then (some (0 : Int32)) else (rdI X 71 83 (0 : Int32) fun v1 => if v1 ≤ p1 then (some (0 : Int32)) else (some (1 : Int32)))
def f_Model_at (p0 : Int32) (p1 : Int32) : Option Int32 :=
  some (((23 : Int32) + ((6 : Int32) * p0)) + p1)
def f_Model_its (p1 : Int32) (p2 : Int32) (X : Mem) : Option Int32 :=
  rdI X 71 83 (((23 : Int32) + ((6 : Int32) * p1)) + p2) fun v1 => some v1
def f_Model_isIt (p1 : Int32) (p2 : Int32) (X : Mem) : Option Int32 :=
  bd (f_Model_its p1 (4 : Int32) X) fun v1 => if v1 = p2 then (some (1 : Int32)) else (some (0 : Int32))
def f_Model_orNone (p1 : Int32) (X : Mem) : Option (Int32 × Mem) :=
  if 0 ≤ p1 then (some (p1, X)) else (bd2 (f_Model_finds (-1000000004 : Int32) X) fun v1 X3 => some (v1, X3))
def f_Model_many_b4 (x1 : Int32) (x2 : Int32) : Option (Int32 ⊕ (Int32 × Int32)) :=
  if x2 = 0 then (some (.inl (x1))) else (lt (x1 + (1 : Int32)) fun v1 => lt (x2 &&& (x2 - (1 : Int32))) fun v2 => some (.inr (v1, v2)))
def f_Model_many (p0 : Int32) : Option Int32 :=
  it (fun a => f_Model_many_b4 a.1 a.2) FU ((0 : Int32), p0)
def f_Model_height_j30 (X : Mem) : Option (Int32 × Mem) :=
  bd2 (f_Model_finds (-1000000001 : Int32) X) fun v1 X3 => some (v1, X3)
def f_Model_height (p1 : Int32) (p2 : Int32) (X : Mem) : Option (Int32 × Mem) :=
  bd (f_Model_isCell p1) fun v1 => if v1 = 0 then (f_Model_height_j30 X) else (bd (f_Model_isIn (p2.toInt64) (0 : Int64) (9 : Int64)) fun v3 => if v3 = 0 then (f_Model_height_j30 X) else (bd2 (f_Model_becomes ((3 : Int32) + p1) p2 X) fun v5 X7 => some (v5, X7)))
def f_Model_laidAt_j41 (x1 : Int32) (x3 : Int32) (q0 : Int32) (q1 : Int32) (X : Mem) : Option (Int32 ⊕ (Int32 × Int32)) :=
  lt (q0 ||| q1) fun v1 => lt (x3 + (1 : Int32)) fun v2 => some (.inr (v1, v2))
def f_Model_laidAt_j40 (x1 : Int32) (x3 : Int32) (q0 : Int32) (X : Mem) : Option (Int32 ⊕ (Int32 × Int32)) :=
  f_Model_laidAt_j41 x1 x3 q0 (0 : Int32) X
def f_Model_laidAt_b4 (x1 : Int32) (X : Mem) (x2 : Int32) (x3 : Int32) : Option (Int32 ⊕ (Int32 × Int32)) :=
  rdI X 71 83 (0 : Int32) fun v1 => if v1 ≤ x3 then (some (.inl (x2))) else (bd (f_Model_isIt x3 (1 : Int32) X) fun v2 => if v2 = 0 then (f_Model_laidAt_j40 x1 x3 x2 X) else (bd (f_Model_its x3 (2 : Int32) X) fun v4 => if v4 = x1 then (f_Model_laidAt_j41 x1 x3 x2 ((1 : Int32) <<< (x3 &&& 31)) X) else (f_Model_laidAt_j40 x1 x3 x2 X)))
def f_Model_laidAt (p1 : Int32) (X : Mem) : Option Int32 :=
  it (fun a => f_Model_laidAt_b4 p1 X a.1 a.2) FU ((0 : Int32), (0 : Int32))
def f_Model_cell_j17 (X : Mem) : Option (Int32 × Mem) :=
  bd2 (f_Model_finds (-1000000001 : Int32) X) fun v1 X3 => some (v1, X3)
def f_Model_cell (p1 : Int32) (p2 : Int32) (X : Mem) : Option (Int32 × Mem) :=
  bd (f_Model_isCell p1) fun v1 => if v1 = 0 then (f_Model_cell_j17 X) else (bd (f_Model_isIn (p2.toInt64) (0 : Int64) (1 : Int64)) fun v3 => if v3 = 0 then (f_Model_cell_j17 X) else (if p2 = 0 then (rdI X 71 83 ((3 : Int32) + p1) fun v7 => some (v7, X)) else (bd (f_Model_laidAt p1 X) fun v5 => some (v5, X))))
def f_Model_interest (p1 : Int32) (X : Mem) : Option (Int32 × Mem) :=
  bd (f_Model_isIn (p1.toInt64) (0 : Int64) (50 : Int64)) fun v1 => if v1 = 0 then (bd2 (f_Model_finds (-1000000001 : Int32) X) fun v3 X5 => some (v3, X5)) else (bd2 (f_Model_becomes (2 : Int32) p1 X) fun v6 X8 => some (v6, X8))
def f_Model_isSpring (p0 : Int32) : Option Int32 :=
  if (p0 - p0 / (14 : Int32) * (14 : Int32)) = 0 then (some (1 : Int32)) else (some (0 : Int32))
def f_Model_mark (p0 : Int32) : Option Int32 :=
  lt (p0 - p0 / (14 : Int32) * (14 : Int32)) fun v1 => if (7 : Int32) ≤ v1 then (some (v1 - (5 : Int32))) else (some ((9 : Int32) - v1))
def f_Model_tide_j106 (x1 : Int32) (x4 : Int32) (q0 : Int32) (q1 : Int32) (X : Mem) : Option ((Int32 × Mem) ⊕ (Int32 × Int32)) :=
  lt (q0 + q1) fun v1 => lt (x4 + (1 : Int32)) fun v2 => some (.inr (v1, v2))
def f_Model_tide_b77 (x1 : Int32) (X : Mem) (x3 : Int32) (x4 : Int32) : Option ((Int32 × Mem) ⊕ (Int32 × Int32)) :=
  if (16 : Int32) ≤ x4 then (some (.inl ((x3, X)))) else (rdI X 71 83 ((3 : Int32) + x4) fun v1 => bd (f_Model_mark x1) fun v2 => if v2 ≤ v1 then (f_Model_tide_j106 x1 x4 x3 (0 : Int32) X) else (f_Model_tide_j106 x1 x4 x3 (1 : Int32) X))
def f_Model_tide_j24 (X : Mem) : Option (Int32 × Mem) :=
  bd2 (f_Model_finds (-1000000001 : Int32) X) fun v1 X3 => some (v1, X3)
def f_Model_tide (p1 : Int32) (p2 : Int32) (X : Mem) : Option (Int32 × Mem) :=
  bd (f_Model_isIn (p1.toInt64) (0 : Int64) (99999 : Int64)) fun v1 => if v1 = 0 then (f_Model_tide_j24 X) else (bd (f_Model_isIn (p2.toInt64) (0 : Int64) (3 : Int64)) fun v3 => if v3 = 0 then (f_Model_tide_j24 X) else (if (3 : Int32) ≤ p2 then (it (fun a => f_Model_tide_b77 p1 X a.1 a.2) FU ((0 : Int32), (0 : Int32))) else (if p2 = 0 then (bd (f_Model_mark p1) fun v7 => some (v7, X)) else (if p2 = (1 : Int32) then (some ((p1 - p1 / (28 : Int32) * (28 : Int32)), X)) else (bd (f_Model_isSpring p1) fun v5 => if v5 = 0 then (some ((0 : Int32), X)) else (some ((1 : Int32), X)))))))
def f_Model_purse_j31 (X : Mem) : Option (Int32 × Mem) :=
  bd2 (f_Model_finds (-1000000001 : Int32) X) fun v1 X3 => some (v1, X3)
def f_Model_purse (p1 : Int32) (p2 : Int32) (X : Mem) : Option (Int32 × Mem) :=
  bd (f_Model_isFamily p1) fun v1 => if v1 = 0 then (f_Model_purse_j31 X) else (bd (f_Model_isIn (p2.toInt64) (0 : Int64) (999999999 : Int64)) fun v3 => if v3 = 0 then (f_Model_purse_j31 X) else (bd2 (f_Model_becomes ((19 : Int32) + p1) p2 X) fun v5 X7 => some (v5, X7)))
def f_Model_comes (p1 : Int32) (p2 : Int32) (X : Mem) : Option Mem :=
  rdI X 71 83 (0 : Int32) fun v1 => bd (f_Model_at v1 (0 : Int32)) fun v2 => wrI X 71 83 v2 p1 fun X4 => bd (f_Model_at v1 (1 : Int32)) fun v5 => wrI X4 71 83 v5 p2 fun X7 => bd (f_Model_at v1 (2 : Int32)) fun v8 => wrI X7 71 83 v8 (0 : Int32) fun X10 => bd (f_Model_at v1 (3 : Int32)) fun v11 => wrI X10 71 83 v11 (10 : Int32) fun X13 => bd (f_Model_at v1 (4 : Int32)) fun v14 => wrI X13 71 83 v14 (0 : Int32) fun X16 => bd (f_Model_at v1 (5 : Int32)) fun v17 => wrI X16 71 83 v17 (0 : Int32) fun X19 => rdI X19 71 83 (0 : Int32) fun v20 => wrI X19 71 83 (0 : Int32) (v20 + (1 : Int32)) fun X21 => some X21
def f_Model_thing_j19 (X : Mem) : Option (Int32 × Mem) :=
  bd2 (f_Model_finds (-1000000001 : Int32) X) fun v1 X3 => some (v1, X3)
def f_Model_thing (p1 : Int32) (p2 : Int32) (X : Mem) : Option (Int32 × Mem) :=
  bd (f_Model_isIn (p1.toInt64) (0 : Int64) (5 : Int64)) fun v1 => if v1 = 0 then (f_Model_thing_j19 X) else (bd (f_Model_isFamily p2) fun v3 => if v3 = 0 then (f_Model_thing_j19 X) else (rdI X 71 83 (0 : Int32) fun v5 => if v5 = (10 : Int32) then (bd2 (f_Model_finds (-1000000002 : Int32) X) fun v9 X11 => some (v9, X11)) else (bd (f_Model_comes p1 p2 X) fun X7 => rdI X7 71 83 (0 : Int32) fun v8 => some ((v8 - (1 : Int32)), X7))))
def f_Model_term (p0 : Int32) : Option Int32 :=
  if p0 = (1 : Int32) then (some (8 : Int32)) else if p0 = (2 : Int32) then (some (1 : Int32)) else if p0 = (3 : Int32) then (some (28 : Int32)) else if p0 = (4 : Int32) then (some (16 : Int32)) else if p0 = (5 : Int32) then (some (15 : Int32)) else (some (1 : Int32))
def f_Model_repays_j166 (q0 : Int64) (X : Mem) : Option Int32 :=
  some (q0.toInt32)
def f_Model_repays_j149 (x7 : Int64) (X : Mem) : Option Int32 :=
  if (lg_cmp x7 (99999999 : Int64)) ≤ 0 then (f_Model_repays_j166 x7 X) else (f_Model_repays_j166 (99999999 : Int64) X)
def f_Model_repays_j114 (q0 : Int64) (X : Mem) : Option Int32 :=
  f_Model_repays_j149 q0 X
def f_Model_repays (p1 : Int32) (p2 : Int32) (X : Mem) : Option Int32 :=
  bd (f_Model_its p1 (3 : Int32) X) fun v1 => lt (v1.toInt64) fun v3 => rdI X 71 83 (2 : Int32) fun v4 => lt (v3 + (((v3 * (v4.toInt64)) * (p2.toInt64)) / (100 : Int64))) fun v5 => bd (f_Model_its p1 (0 : Int32) X) fun v6 => if v6 = (1 : Int32) then (lt (v5 + (5 : Int64)) fun v8 => f_Model_repays_j149 v8 X) else if v6 = (2 : Int32) then (lt (v5 / (2 : Int64)) fun v9 => f_Model_repays_j149 v9 X) else if v6 = (3 : Int32) then (bd (f_Model_its p1 (5 : Int32) X) fun v10 => if (v10 - v10 / (28 : Int32) * (28 : Int32)) = (14 : Int32) then (f_Model_repays_j114 (0 : Int64) X) else (f_Model_repays_j114 v5 X)) else if v6 = (4 : Int32) then (lt ((2 : Int64) * (v5 + (5 : Int64))) fun v12 => f_Model_repays_j149 v12 X) else if v6 = (5 : Int32) then (lt ((v5 / (2 : Int64)) + (3 : Int64)) fun v13 => f_Model_repays_j149 v13 X) else (f_Model_repays_j149 v5 X)
def f_Model_wouldRepay (p1 : Int32) (X : Mem) : Option Int32 :=
  bd (f_Model_isIt p1 (2 : Int32) X) fun v1 => if v1 = 0 then (some (0 : Int32)) else (rdI X 71 83 (1 : Int32) fun v3 => bd (f_Model_its p1 (5 : Int32) X) fun v4 => bd (f_Model_repays p1 (v3 - v4) X) fun v6 => some v6)
def f_Model_of_j20 (X : Mem) : Option (Int32 × Mem) :=
  bd2 (f_Model_finds (-1000000001 : Int32) X) fun v1 X3 => some (v1, X3)
def f_Model_of (p1 : Int32) (p2 : Int32) (X : Mem) : Option (Int32 × Mem) :=
  bd (f_Model_isThing p1 X) fun v1 => if v1 = 0 then (f_Model_of_j20 X) else (bd (f_Model_isIn (p2.toInt64) (0 : Int64) (7 : Int64)) fun v3 => if v3 = 0 then (f_Model_of_j20 X) else (if (6 : Int32) ≤ p2 then (if p2 = (6 : Int32) then (bd (f_Model_its p1 (0 : Int32) X) fun v7 => bd (f_Model_term v7) fun v9 => some (v9, X)) else (bd (f_Model_wouldRepay p1 X) fun v5 => some (v5, X))) else (bd (f_Model_its p1 p2 X) fun v11 => some (v11, X))))
def f_Model_set_j42 (x1 : Int32) (x2 : Int32) (x3 : Int32) (q0 : Int32) (X : Mem) : Option (Int32 × Mem) :=
  if q0 = 0 then (bd2 (f_Model_finds (-1000000001 : Int32) X) fun v1 X3 => some (v1, X3)) else (bd (f_Model_at x1 x2) fun v4 => bd2 (f_Model_becomes v4 x3 X) fun v6 X8 => some (v6, X8))
def f_Model_set_j41 (x1 : Int32) (x2 : Int32) (x3 : Int32) (X : Mem) : Option (Int32 × Mem) :=
  f_Model_set_j42 x1 x2 x3 (0 : Int32) X
def f_Model_set_j37 (x1 : Int32) (x2 : Int32) (x3 : Int32) (X : Mem) : Option (Int32 × Mem) :=
  f_Model_set_j42 x1 x2 x3 (1 : Int32) X
def f_Model_set_j20 (x1 : Int32) (x2 : Int32) (x3 : Int32) (X : Mem) : Option (Int32 × Mem) :=
  if x2 = (3 : Int32) then (bd (f_Model_isIn (x3.toInt64) (0 : Int64) (9999 : Int64)) fun v1 => if v1 = 0 then (f_Model_set_j41 x1 x2 x3 X) else (f_Model_set_j37 x1 x2 x3 X)) else (f_Model_set_j41 x1 x2 x3 X)
def f_Model_set (p1 : Int32) (p2 : Int32) (p3 : Int32) (X : Mem) : Option (Int32 × Mem) :=
  bd (f_Model_isThing p1 X) fun v1 => if v1 = 0 then (f_Model_set_j41 p1 p2 p3 X) else (if p2 = (1 : Int32) then (bd (f_Model_isFamily p3) fun v3 => if v3 = 0 then (f_Model_set_j20 p1 p2 p3 X) else (f_Model_set_j37 p1 p2 p3 X)) else (f_Model_set_j20 p1 p2 p3 X))
def f_Model_turn_j33 (X : Mem) : Option (Int32 × Mem) :=
  bd2 (f_Model_finds (-1000000001 : Int32) X) fun v1 X3 => some (v1, X3)
def f_Model_turn (p1 : Int32) (p2 : Int32) (X : Mem) : Option (Int32 × Mem) :=
  bd (f_Model_isThing p1 X) fun v1 => if v1 = 0 then (f_Model_turn_j33 X) else (bd (f_Model_isIn (p2.toInt64) (0 : Int64) (5 : Int64)) fun v3 => if v3 = 0 then (f_Model_turn_j33 X) else (bd (f_Model_at p1 (0 : Int32)) fun v5 => bd2 (f_Model_becomes v5 p2 X) fun v7 X9 => some (v7, X9)))
def f_Model_as_j68 (x1 : Int32) (q0 : Int32) (X : Mem) : Option (Int32 × Mem) :=
  if q0 = 0 then (bd2 (f_Model_finds (-1000000003 : Int32) X) fun v1 X3 => some (v1, X3)) else (bd (f_Model_its x1 (3 : Int32) X) fun v4 => some (v4, X))
def f_Model_as_j67 (x1 : Int32) (X : Mem) : Option (Int32 × Mem) :=
  f_Model_as_j68 x1 (0 : Int32) X
def f_Model_as_j63 (x1 : Int32) (X : Mem) : Option (Int32 × Mem) :=
  f_Model_as_j68 x1 (1 : Int32) X
def f_Model_as_j53 (x1 : Int32) (x2 : Int32) (x3 : Int32) (X : Mem) : Option (Int32 × Mem) :=
  if x2 = (2 : Int32) then (if x3 = (5 : Int32) then (f_Model_as_j63 x1 X) else (f_Model_as_j67 x1 X)) else (f_Model_as_j67 x1 X)
def f_Model_as_j20 (X : Mem) : Option (Int32 × Mem) :=
  bd2 (f_Model_finds (-1000000001 : Int32) X) fun v1 X3 => some (v1, X3)
def f_Model_as (p1 : Int32) (p2 : Int32) (X : Mem) : Option (Int32 × Mem) :=
  bd (f_Model_isThing p1 X) fun v1 => if v1 = 0 then (f_Model_as_j20 X) else (bd (f_Model_isIn (p2.toInt64) (0 : Int64) (5 : Int64)) fun v3 => if v3 = 0 then (f_Model_as_j20 X) else (bd (f_Model_its p1 (0 : Int32) X) fun v5 => if p2 = 0 then (f_Model_as_j63 p1 X) else (if v5 = p2 then (f_Model_as_j63 p1 X) else (if p2 = (1 : Int32) then (if v5 = (4 : Int32) then (f_Model_as_j63 p1 X) else (f_Model_as_j53 p1 p2 v5 X)) else (f_Model_as_j53 p1 p2 v5 X)))))
def f_Model_lies (p1 : Int32) (p2 : Int32) (X : Mem) : Option Mem :=
  bd (f_Model_at p1 (2 : Int32)) fun v1 => wrI X 71 83 v1 p2 fun X3 => bd (f_Model_at p1 (4 : Int32)) fun v4 => wrI X3 71 83 v4 (1 : Int32) fun X6 => some X6
def f_Model_lay_j15 (X : Mem) : Option (Int32 × Mem) :=
  bd2 (f_Model_finds (-1000000001 : Int32) X) fun v1 X3 => some (v1, X3)
def f_Model_lay (p1 : Int32) (p2 : Int32) (X : Mem) : Option (Int32 × Mem) :=
  bd (f_Model_isThing p1 X) fun v1 => if v1 = 0 then (f_Model_lay_j15 X) else (bd (f_Model_isCell p2) fun v3 => if v3 = 0 then (f_Model_lay_j15 X) else (bd (f_Model_isIt p1 (2 : Int32) X) fun v5 => if v5 = 0 then (bd (f_Model_lies p1 p2 X) fun X8 => bd (f_Model_laidAt p2 X8) fun v9 => bd (f_Model_many v9) fun v11 => some (v11, X8)) else (bd2 (f_Model_finds (-1000000005 : Int32) X) fun v13 X15 => some (v13, X15))))
def f_Model_fetch (p1 : Int32) (X : Mem) : Option (Int32 × Mem) :=
  bd (f_Model_isThing p1 X) fun v1 => if v1 = 0 then (bd2 (f_Model_finds (-1000000001 : Int32) X) fun v13 X15 => some (v13, X15)) else (bd (f_Model_isIt p1 (1 : Int32) X) fun v3 => if v3 = 0 then (bd2 (f_Model_finds (-1000000005 : Int32) X) fun v10 X12 => some (v10, X12)) else (bd (f_Model_at p1 (4 : Int32)) fun v5 => wrI X 71 83 v5 (0 : Int32) fun X7 => bd (f_Model_its p1 (2 : Int32) X7) fun v8 => some (v8, X7)))
def f_Model_isTaken_j119 (x2 : Int32) (x3 : Int32) (X : Mem) : Option Int32 :=
  if x3 ≤ x2 then (some (0 : Int32)) else (some (1 : Int32))
def f_Model_isTaken_j76 (x2 : Int32) (x3 : Int32) (x4 : Int32) (X : Mem) : Option Int32 :=
  if x3 ≤ x2 then (some (0 : Int32)) else (if x4 = 0 then (some (1 : Int32)) else (some (0 : Int32)))
def f_Model_isTaken (p1 : Int32) (X : Mem) : Option Int32 :=
  bd (f_Model_its p1 (2 : Int32) X) fun v1 => rdI X 71 83 ((3 : Int32) + v1) fun v3 => rdI X 71 83 (1 : Int32) fun v4 => bd (f_Model_mark v4) fun v5 => rdI X 71 83 (1 : Int32) fun v7 => bd (f_Model_isSpring v7) fun v8 => bd (f_Model_its p1 (0 : Int32) X) fun v10 => if v10 = (1 : Int32) then (f_Model_isTaken_j76 v3 v5 v8 X) else if v10 = (2 : Int32) then (if v5 < v3 then (some (0 : Int32)) else (some (1 : Int32))) else if v10 = (3 : Int32) then (f_Model_isTaken_j119 v3 v5 X) else if v10 = (4 : Int32) then (f_Model_isTaken_j76 v3 v5 v8 X) else if v10 = (5 : Int32) then (if v5 < v3 then (some (0 : Int32)) else (if v8 = 0 then (some (0 : Int32)) else (some (1 : Int32)))) else (f_Model_isTaken_j119 v3 v5 X)
def f_Model_comesHome_j52 (x1 : Int32) (q0 : Nat) (q1 : Int32) (q2 : Int64) (X : Mem) : Option Mem :=
  wrI X q0 83 q1 (q2.toInt32) fun X1 => bd (f_Model_at x1 (4 : Int32)) fun v2 => wrI X1 71 83 v2 (0 : Int32) fun X4 => some X4
def f_Model_comesHome (p1 : Int32) (p2 : Int32) (X : Mem) : Option Mem :=
  bd (f_Model_its p1 (1 : Int32) X) fun v1 => rdI X 71 83 ((19 : Int32) + v1) fun v3 => bd (f_Model_repays p1 p2 X) fun v4 => lt ((v3.toInt64) + (v4.toInt64)) fun v6 => bd (f_Model_its p1 (1 : Int32) X) fun v7 => if (lg_cmp v6 (999999999 : Int64)) ≤ 0 then (f_Model_comesHome_j52 p1 71 ((19 : Int32) + v7) v6 X) else (f_Model_comesHome_j52 p1 71 ((19 : Int32) + v7) (999999999 : Int64) X)
def f_Model_day_j113 (x1 : Int32) (X : Mem) : Option (Mem ⊕ (Int32 × Mem)) :=
  lt (x1 + (1 : Int32)) fun v1 => some (.inr (v1, X))
def f_Model_day_b2 (x1 : Int32) (X : Mem) : Option (Mem ⊕ (Int32 × Mem)) :=
  rdI X 71 83 (0 : Int32) fun v1 => if v1 ≤ x1 then (rdI X 71 83 (1 : Int32) fun v2 => wrI X 71 83 (1 : Int32) (v2 + (1 : Int32)) fun X3 => some (.inl (X3))) else (rdI X 71 83 (1 : Int32) fun v4 => bd (f_Model_its x1 (5 : Int32) X) fun v5 => lt (v4 - v5) fun v7 => bd (f_Model_isIt x1 (2 : Int32) X) fun v8 => if v8 = 0 then (bd (f_Model_isIt x1 (1 : Int32) X) fun v10 => if v10 = 0 then (f_Model_day_j113 x1 X) else (bd (f_Model_isTaken x1 X) fun v12 => if v12 = 0 then (f_Model_day_j113 x1 X) else (bd (f_Model_at x1 (4 : Int32)) fun v14 => wrI X 71 83 v14 (2 : Int32) fun X16 => bd (f_Model_at x1 (5 : Int32)) fun v17 => rdI X16 71 83 (1 : Int32) fun v19 => wrI X16 71 83 v17 v19 fun X20 => f_Model_day_j113 x1 X20))) else (rdI X 71 83 (1 : Int32) fun v21 => bd (f_Model_isSpring v21) fun v22 => if v22 = 0 then (f_Model_day_j113 x1 X) else (bd (f_Model_its x1 (0 : Int32) X) fun v24 => bd (f_Model_term v24) fun v26 => if v7 < v26 then (f_Model_day_j113 x1 X) else (bd (f_Model_comesHome x1 v7 X) fun X29 => f_Model_day_j113 x1 X29))))
def f_Model_day (X : Mem) : Option Mem :=
  it (fun a => f_Model_day_b2 a.1 a.2) FU ((0 : Int32), X)
def f_Model_goes_b2 (x1 : Int32) (x2 : Int32) (X : Mem) : Option (Mem ⊕ (Int32 × Mem)) :=
  if x1 ≤ x2 then (some (.inl (X))) else (bd (f_Model_day X) fun X2 => lt (x2 + (1 : Int32)) fun v3 => some (.inr (v3, X2)))
def f_Model_goes (p1 : Int32) (X : Mem) : Option Mem :=
  it (fun a => f_Model_goes_b2 p1 a.1 a.2) FU ((0 : Int32), X)
def f_Model_purses (X : Mem) : Option Int64 :=
  rdI X 71 83 (19 : Int32) fun v1 => rdI X 71 83 (20 : Int32) fun v2 => rdI X 71 83 (21 : Int32) fun v3 => rdI X 71 83 (22 : Int32) fun v4 => some ((((v1.toInt64) + (v2.toInt64)) + (v3.toInt64)) + (v4.toInt64))
def f_Model_days (p1 : Int32) (X : Mem) : Option (Int64 × Mem) :=
  bd (f_Model_isIn (p1.toInt64) (1 : Int64) (400 : Int64)) fun v1 => if v1 = 0 then (bd2 (f_Model_finds (-1000000001 : Int32) X) fun v11 X13 => some ((v11.toInt64), X13)) else (rdI X 71 83 (1 : Int32) fun v3 => if (v3 + p1) ≤ (99999 : Int32) then (bd (f_Model_goes p1 X) fun X5 => bd (f_Model_purses X5) fun v6 => some (v6, X5)) else (bd2 (f_Model_finds (-1000000005 : Int32) X) fun v8 X10 => some ((v8.toInt64), X10)))
def f_Model_thoseThatAre_j31 (x1 : Int32) (x3 : Int32) (q0 : Int32) (q1 : Int32) (X : Mem) : Option (Int32 ⊕ (Int32 × Int32)) :=
  lt (q0 ||| q1) fun v1 => lt (x3 + (1 : Int32)) fun v2 => some (.inr (v1, v2))
def f_Model_thoseThatAre_b4 (x1 : Int32) (X : Mem) (x2 : Int32) (x3 : Int32) : Option (Int32 ⊕ (Int32 × Int32)) :=
  rdI X 71 83 (0 : Int32) fun v1 => if v1 ≤ x3 then (some (.inl (x2))) else (bd (f_Model_isIt x3 x1 X) fun v2 => if v2 = 0 then (f_Model_thoseThatAre_j31 x1 x3 x2 (0 : Int32) X) else (f_Model_thoseThatAre_j31 x1 x3 x2 ((1 : Int32) <<< (x3 &&& 31)) X))
def f_Model_thoseThatAre (p1 : Int32) (X : Mem) : Option Int32 :=
  it (fun a => f_Model_thoseThatAre_b4 p1 X a.1 a.2) FU ((0 : Int32), (0 : Int32))
def f_Model_now_b91 (X : Mem) (x2 : Int32) (x3 : Int32) : Option ((Int32 × Mem) ⊕ (Int32 × Int32)) :=
  rdI X 71 83 (0 : Int32) fun v1 => if v1 ≤ x3 then (some (.inl ((x2, X)))) else (bd (f_Model_its x3 (3 : Int32) X) fun v2 => lt (x2 + v2) fun v4 => lt (x3 + (1 : Int32)) fun v5 => some (.inr (v4, v5)))
def f_Model_now_b63 (X : Mem) (x2 : Int32) (x3 : Int32) : Option ((Int32 × Mem) ⊕ (Int32 × Int32)) :=
  rdI X 71 83 (0 : Int32) fun v1 => if v1 ≤ x3 then (some (.inl ((x2, X)))) else (bd (f_Model_wouldRepay x3 X) fun v2 => lt (x2 + v2) fun v4 => lt (x3 + (1 : Int32)) fun v5 => some (.inr (v4, v5)))
def f_Model_now_j40 (x1 : Int32) (X : Mem) : Option (Int32 × Mem) :=
  rdI X 71 83 ((1 : Int32) + x1) fun v1 => some (v1, X)
def f_Model_now (p1 : Int32) (X : Mem) : Option (Int32 × Mem) :=
  if p1 = (0 : Int32) then (f_Model_now_j40 p1 X) else if p1 = (1 : Int32) then (f_Model_now_j40 p1 X) else if p1 = (2 : Int32) then (bd (f_Model_thoseThatAre (1 : Int32) X) fun v1 => some (v1, X)) else if p1 = (3 : Int32) then (bd (f_Model_thoseThatAre (2 : Int32) X) fun v3 => some (v3, X)) else if p1 = (4 : Int32) then (it (fun a => f_Model_now_b63 X a.1 a.2) FU ((0 : Int32), (0 : Int32))) else if p1 = (5 : Int32) then (it (fun a => f_Model_now_b91 X a.1 a.2) FU ((0 : Int32), (0 : Int32))) else (bd2 (f_Model_finds (-1000000001 : Int32) X) fun v5 X7 => some (v5, X7))
def f_Model_purseOn (p1 : Int32) (p2 : Int32) (X : Mem) : Option (Int32 × Mem) :=
  bd (f_Model_copyRow 71 74 X) fun X2 => bd (f_Model_goes p2 X2) fun X4 => rdI X4 71 83 ((19 : Int32) + p1) fun v5 => bd (f_Model_copyRow 74 71 X4) fun X7 => some (v5, X7)
def f_Model_on_j28 (X : Mem) : Option (Int32 × Mem) :=
  bd2 (f_Model_finds (-1000000001 : Int32) X) fun v1 X3 => some (v1, X3)
def f_Model_on (p1 : Int32) (p2 : Int32) (X : Mem) : Option (Int32 × Mem) :=
  bd (f_Model_isFamily p1) fun v1 => if v1 = 0 then (f_Model_on_j28 X) else (bd (f_Model_isIn (p2.toInt64) (0 : Int64) (400 : Int64)) fun v3 => if v3 = 0 then (f_Model_on_j28 X) else (bd2 (f_Model_purseOn p1 p2 X) fun v5 X7 => some (v5, X7)))
def f_Model_whenIt_j39 (x3 : Int32) (X : Mem) : Option (Int32 × Mem) :=
  bd (f_Model_copyRow 74 71 X) fun X2 => if (400 : Int32) < x3 then (some ((-1 : Int32), X2)) else (some (x3, X2))
def f_Model_whenIt_b13 (x1 : Int32) (x2 : Int32) (x3 : Int32) (X : Mem) : Option ((Int32 × Mem) ⊕ (Int32 × Mem)) :=
  if (400 : Int32) < x3 then (upc (f_Model_whenIt_j39 x3 X)) else (bd (f_Model_isIt x1 x2 X) fun v1 => if v1 = 0 then (bd (f_Model_day X) fun X4 => lt (x3 + (1 : Int32)) fun v5 => some (.inr (v5, X4))) else (upc (f_Model_whenIt_j39 x3 X)))
def f_Model_whenIt (p1 : Int32) (p2 : Int32) (X : Mem) : Option (Int32 × Mem) :=
  bd (f_Model_copyRow 71 74 X) fun X2 => it (fun a => f_Model_whenIt_b13 p1 p2 a.1 a.2) FU ((0 : Int32), X2)
def f_Model_taken (p1 : Int32) (X : Mem) : Option (Int32 × Mem) :=
  bd (f_Model_isThing p1 X) fun v1 => if v1 = 0 then (bd2 (f_Model_finds (-1000000001 : Int32) X) fun v14 X16 => some (v14, X16)) else (bd (f_Model_isIt p1 (1 : Int32) X) fun v3 => if v3 = 0 then (bd2 (f_Model_finds (-1000000005 : Int32) X) fun v5 X7 => some (v5, X7)) else (bd2 (f_Model_whenIt p1 (2 : Int32) X) fun v8 X10 => bd2 (f_Model_orNone v8 X10) fun v11 X13 => some (v11, X13)))
def f_Model_home (p1 : Int32) (X : Mem) : Option (Int32 × Mem) :=
  bd (f_Model_isThing p1 X) fun v1 => if v1 = 0 then (bd2 (f_Model_finds (-1000000001 : Int32) X) fun v14 X16 => some (v14, X16)) else (bd (f_Model_isIt p1 (0 : Int32) X) fun v3 => if v3 = 0 then (bd2 (f_Model_whenIt p1 (0 : Int32) X) fun v5 X7 => bd2 (f_Model_orNone v5 X7) fun v8 X10 => some (v8, X10)) else (bd2 (f_Model_finds (-1000000005 : Int32) X) fun v11 X13 => some (v11, X13)))
def f_Model_due_b11 (X : Mem) : Option ((Int32 × Mem) ⊕ Mem) :=
  rdI X 71 83 (1 : Int32) fun v1 => bd (f_Model_isSpring v1) fun v2 => if v2 = 0 then (bd (f_Model_day X) fun X13 => some (.inr X13)) else (bd (f_Model_thoseThatAre (2 : Int32) X) fun v4 => bd (f_Model_day X) fun X7 => bd (f_Model_thoseThatAre (0 : Int32) X7) fun v8 => bd (f_Model_copyRow 74 71 X7) fun X11 => some (.inl (((v4 &&& v8), X11))))
def f_Model_due (X : Mem) : Option (Int32 × Mem) :=
  bd (f_Model_copyRow 71 74 X) fun X2 => it (fun a => f_Model_due_b11 a) FU X2
def f_Model_pursesOn (p1 : Int32) (X : Mem) : Option (Int64 × Mem) :=
  bd (f_Model_copyRow 71 74 X) fun X2 => bd (f_Model_goes p1 X2) fun X4 => bd (f_Model_purses X4) fun v5 => bd (f_Model_copyRow 74 71 X4) fun X8 => some (v5, X8)
def f_Model_spot_j122 (x1 : Int32) (x2 : Int32) (x3 : Int32) (x4 : Int32) (x5 : Int32) (x8 : Int32) (q0 : Int64) (X : Mem) : Option ((Int32 × Mem) ⊕ (Int32 × Int64 × Int32 × Mem)) :=
  lt (x8 + (1 : Int32)) fun v1 => some (.inr (x5, q0, v1, X))
def f_Model_spot_j105 (x1 : Int32) (x2 : Int32) (x3 : Int32) (x4 : Int32) (x6 : Int64) (x8 : Int32) (x9 : Int64) (q0 : Int32) (X : Mem) : Option ((Int32 × Mem) ⊕ (Int32 × Int64 × Int32 × Mem)) :=
  if (lg_cmp x9 x6) ≤ 0 then (f_Model_spot_j122 x1 x2 x3 x4 q0 x8 x6 X) else (f_Model_spot_j122 x1 x2 x3 x4 q0 x8 x9 X)
def f_Model_spot_b69 (x1 : Int32) (x2 : Int32) (x3 : Int32) (x4 : Int32) (x5 : Int32) (x6 : Int64) (x8 : Int32) (X : Mem) : Option ((Int32 × Mem) ⊕ (Int32 × Int64 × Int32 × Mem)) :=
  if (16 : Int32) ≤ x8 then (bd (f_Model_at x1 (2 : Int32)) fun v1 => wrI X 71 83 v1 x3 fun X3 => bd (f_Model_at x1 (4 : Int32)) fun v4 => wrI X3 71 83 v4 x4 fun X6 => some (.inl ((x5, X6)))) else (bd (f_Model_lies x1 x8 X) fun X8 => bd2 (f_Model_pursesOn x2 X8) fun v9 X11 => if (lg_cmp v9 x6) ≤ 0 then (f_Model_spot_j105 x1 x2 x3 x4 x6 x8 v9 x5 X11) else (f_Model_spot_j105 x1 x2 x3 x4 x6 x8 v9 x8 X11))
def f_Model_spot_j20 (X : Mem) : Option (Int32 × Mem) :=
  bd2 (f_Model_finds (-1000000001 : Int32) X) fun v1 X3 => some (v1, X3)
def f_Model_spot (p1 : Int32) (p2 : Int32) (X : Mem) : Option (Int32 × Mem) :=
  bd (f_Model_isThing p1 X) fun v1 => if v1 = 0 then (f_Model_spot_j20 X) else (bd (f_Model_isIn (p2.toInt64) (1 : Int64) (100 : Int64)) fun v3 => if v3 = 0 then (f_Model_spot_j20 X) else (bd (f_Model_isIt p1 (2 : Int32) X) fun v5 => if v5 = 0 then (bd (f_Model_its p1 (2 : Int32) X) fun v7 => bd (f_Model_its p1 (4 : Int32) X) fun v9 => it (fun a => f_Model_spot_b69 p1 p2 v7 v9 a.1 a.2.1 a.2.2.1 a.2.2.2) FU ((0 : Int32), (-1 : Int64), (0 : Int32), X)) else (bd2 (f_Model_finds (-1000000005 : Int32) X) fun v11 X13 => some (v11, X13))))
def f_Model_delay_j158 (x1 : Int32) (x2 : Int32) (x3 : Int32) (x4 : Int32) (x7 : Int32) (q0 : Int64) (X : Mem) : Option ((Int32 × Mem) ⊕ (Int32 × Int64 × Int32 × Mem)) :=
  lt (x7 + (1 : Int32)) fun v1 => some (.inr (x4, q0, v1, X))
def f_Model_delay_j141 (x1 : Int32) (x2 : Int32) (x3 : Int32) (x5 : Int64) (x7 : Int32) (x8 : Int64) (q0 : Int32) (X : Mem) : Option ((Int32 × Mem) ⊕ (Int32 × Int64 × Int32 × Mem)) :=
  if (lg_cmp x8 x5) ≤ 0 then (f_Model_delay_j158 x1 x2 x3 q0 x7 x5 X) else (f_Model_delay_j158 x1 x2 x3 q0 x7 x8 X)
def f_Model_delay_b61 (x1 : Int32) (x2 : Int32) (x3 : Int32) (x4 : Int32) (x5 : Int64) (x7 : Int32) (X : Mem) : Option ((Int32 × Mem) ⊕ (Int32 × Int64 × Int32 × Mem)) :=
  if x3 ≤ x7 then (some (.inl ((x4, X)))) else (bd (f_Model_copyRow 71 74 X) fun X2 => bd (f_Model_at x1 (4 : Int32)) fun v3 => wrI X2 71 83 v3 (0 : Int32) fun X5 => bd (f_Model_goes x7 X5) fun X7 => bd (f_Model_lies x1 x2 X7) fun X9 => bd (f_Model_goes (x3 - x7) X9) fun X11 => bd (f_Model_purses X11) fun v12 => bd (f_Model_copyRow 74 71 X11) fun X15 => if (lg_cmp v12 x5) ≤ 0 then (f_Model_delay_j141 x1 x2 x3 x5 x7 v12 x4 X15) else (f_Model_delay_j141 x1 x2 x3 x5 x7 v12 x7 X15))
def f_Model_delay_j27 (X : Mem) : Option (Int32 × Mem) :=
  bd2 (f_Model_finds (-1000000001 : Int32) X) fun v1 X3 => some (v1, X3)
def f_Model_delay (p1 : Int32) (p2 : Int32) (p3 : Int32) (X : Mem) : Option (Int32 × Mem) :=
  bd (f_Model_isThing p1 X) fun v1 => if v1 = 0 then (f_Model_delay_j27 X) else (bd (f_Model_isCell p2) fun v3 => if v3 = 0 then (f_Model_delay_j27 X) else (bd (f_Model_isIn (p3.toInt64) (1 : Int64) (60 : Int64)) fun v5 => if v5 = 0 then (f_Model_delay_j27 X) else (bd (f_Model_isIt p1 (2 : Int32) X) fun v7 => if v7 = 0 then (it (fun a => f_Model_delay_b61 p1 p2 p3 a.1 a.2.1 a.2.2.1 a.2.2.2) FU ((0 : Int32), (-1 : Int64), (0 : Int32), X)) else (bd2 (f_Model_finds (-1000000005 : Int32) X) fun v9 X11 => some (v9, X11)))))
def f_Model_kind_j102 (x1 : Int32) (x2 : Int32) (x3 : Int32) (x4 : Int32) (x7 : Int32) (q0 : Int64) (X : Mem) : Option ((Int32 × Mem) ⊕ (Int32 × Int64 × Int32 × Mem)) :=
  lt (x7 + (1 : Int32)) fun v1 => some (.inr (x4, q0, v1, X))
def f_Model_kind_j85 (x1 : Int32) (x2 : Int32) (x3 : Int32) (x5 : Int64) (x7 : Int32) (x8 : Int64) (q0 : Int32) (X : Mem) : Option ((Int32 × Mem) ⊕ (Int32 × Int64 × Int32 × Mem)) :=
  if (lg_cmp x8 x5) ≤ 0 then (f_Model_kind_j102 x1 x2 x3 q0 x7 x5 X) else (f_Model_kind_j102 x1 x2 x3 q0 x7 x8 X)
def f_Model_kind_b45 (x1 : Int32) (x2 : Int32) (x3 : Int32) (x4 : Int32) (x5 : Int64) (x7 : Int32) (X : Mem) : Option ((Int32 × Mem) ⊕ (Int32 × Int64 × Int32 × Mem)) :=
  if (5 : Int32) < x7 then (bd (f_Model_at x1 (0 : Int32)) fun v1 => wrI X 71 83 v1 x3 fun X3 => some (.inl ((x4, X3)))) else (bd (f_Model_at x1 (0 : Int32)) fun v4 => wrI X 71 83 v4 x7 fun X6 => bd2 (f_Model_pursesOn x2 X6) fun v7 X9 => if (lg_cmp v7 x5) ≤ 0 then (f_Model_kind_j85 x1 x2 x3 x5 x7 v7 x4 X9) else (f_Model_kind_j85 x1 x2 x3 x5 x7 v7 x7 X9))
def f_Model_kind_j20 (X : Mem) : Option (Int32 × Mem) :=
  bd2 (f_Model_finds (-1000000001 : Int32) X) fun v1 X3 => some (v1, X3)
def f_Model_kind (p1 : Int32) (p2 : Int32) (X : Mem) : Option (Int32 × Mem) :=
  bd (f_Model_isThing p1 X) fun v1 => if v1 = 0 then (f_Model_kind_j20 X) else (bd (f_Model_isIn (p2.toInt64) (1 : Int64) (100 : Int64)) fun v3 => if v3 = 0 then (f_Model_kind_j20 X) else (bd (f_Model_its p1 (0 : Int32) X) fun v5 => it (fun a => f_Model_kind_b45 p1 p2 v5 a.1 a.2.1 a.2.2.1 a.2.2.2) FU ((0 : Int32), (-1 : Int64), (0 : Int32), X)))
def f_Model_worth_j107 (x1 : Int32) (x4 : Int32) (x5 : Int32) (X : Mem) : Option (Int32 × Mem) :=
  bd (f_Model_at x1 (3 : Int32)) fun v1 => wrI X 71 83 v1 x4 fun X3 => bd2 (f_Model_orNone x5 X3) fun v4 X6 => some (v4, X6)
def f_Model_worth_j99 (x1 : Int32) (x2 : Int32) (x3 : Int32) (x4 : Int32) (x6 : Int32) (q0 : Int32) (X : Mem) : Option ((Int32 × Mem) ⊕ (Int32 × Int32 × Mem)) :=
  lt (x6 + (1 : Int32)) fun v1 => some (.inr (q0, v1, X))
def f_Model_worth_b53 (x1 : Int32) (x2 : Int32) (x3 : Int32) (x4 : Int32) (x5 : Int32) (x6 : Int32) (X : Mem) : Option ((Int32 × Mem) ⊕ (Int32 × Int32 × Mem)) :=
  if (999 : Int32) < x6 then (upc (f_Model_worth_j107 x1 x4 x5 X)) else (if 0 ≤ x5 then (upc (f_Model_worth_j107 x1 x4 x5 X)) else (bd (f_Model_at x1 (3 : Int32)) fun v1 => wrI X 71 83 v1 x6 fun X3 => bd (f_Model_its x1 (1 : Int32) X3) fun v4 => bd2 (f_Model_purseOn v4 x2 X3) fun v6 X8 => if v6 < x3 then (f_Model_worth_j99 x1 x2 x3 x4 x6 (-1 : Int32) X8) else (f_Model_worth_j99 x1 x2 x3 x4 x6 x6 X8)))
def f_Model_worth_j32 (X : Mem) : Option (Int32 × Mem) :=
  bd2 (f_Model_finds (-1000000001 : Int32) X) fun v1 X3 => some (v1, X3)
def f_Model_worth (p1 : Int32) (p2 : Int32) (p3 : Int32) (X : Mem) : Option (Int32 × Mem) :=
  bd (f_Model_isThing p1 X) fun v1 => if v1 = 0 then (f_Model_worth_j32 X) else (bd (f_Model_isIn (p2.toInt64) (1 : Int64) (40 : Int64)) fun v3 => if v3 = 0 then (f_Model_worth_j32 X) else (bd (f_Model_isIn (p3.toInt64) (0 : Int64) (999999999 : Int64)) fun v5 => if v5 = 0 then (f_Model_worth_j32 X) else (bd (f_Model_its p1 (3 : Int32) X) fun v7 => it (fun a => f_Model_worth_b53 p1 p2 p3 v7 a.1 a.2.1 a.2.2) FU ((-1 : Int32), (0 : Int32), X))))
def f_Model_richest_j70 (x3 : Int32) (q0 : Int32) (X : Mem) : Option ((Int32 × Mem) ⊕ (Int32 × Int32)) :=
  lt (x3 + (1 : Int32)) fun v1 => some (.inr (q0, v1))
def f_Model_richest_b39 (X : Mem) (x2 : Int32) (x3 : Int32) : Option ((Int32 × Mem) ⊕ (Int32 × Int32)) :=
  if (4 : Int32) ≤ x3 then (bd (f_Model_copyRow 74 71 X) fun X2 => some (.inl ((x2, X2)))) else (rdI X 71 83 ((19 : Int32) + x3) fun v3 => rdI X 71 83 ((19 : Int32) + x2) fun v4 => if v3 ≤ v4 then (f_Model_richest_j70 x3 x2 X) else (f_Model_richest_j70 x3 x3 X))
def f_Model_richest (p1 : Int32) (X : Mem) : Option (Int32 × Mem) :=
  bd (f_Model_isIn (p1.toInt64) (0 : Int64) (400 : Int64)) fun v1 => if v1 = 0 then (bd2 (f_Model_finds (-1000000001 : Int32) X) fun v7 X9 => some (v7, X9)) else (bd (f_Model_copyRow 71 74 X) fun X4 => bd (f_Model_goes p1 X4) fun X6 => it (fun a => f_Model_richest_b39 X6 a.1 a.2) FU ((0 : Int32), (1 : Int32)))
def f_Model_fewest_j193 (x1 : Int32) (x2 : Int32) (x3 : Int32) (x4 : Int32) (x5 : Int32) (x6 : Int32) (X : Mem) : Option ((Int32 × Mem) ⊕ (Int32 × Int32 × Mem)) :=
  lt (x6 + (1 : Int32)) fun v1 => some (.inr (x5, v1, X))
def f_Model_fewest_j180 (x1 : Int32) (x2 : Int32) (x3 : Int32) (x4 : Int32) (x6 : Int32) (q0 : Int32) (X : Mem) : Option ((Int32 × Mem) ⊕ (Int32 × Int32 × Mem)) :=
  bd (f_Model_copyRow 74 71 X) fun X2 => f_Model_fewest_j193 x1 x2 x3 x4 q0 x6 X2
def f_Model_fewest_j148 (x1 : Int32) (x2 : Int32) (x3 : Int32) (x4 : Int32) (x5 : Int32) (x6 : Int32) (x7 : Int32) (q0 : Nat) (q1 : Int32) (q2 : Int32) (X : Mem) : Option (((Int32 × Mem) ⊕ (Int32 × Int32 × Mem)) ⊕ (Int32 × Mem)) :=
  wrI X q0 83 q1 q2 fun X1 => lt (x7 + (1 : Int32)) fun v2 => some (.inr (v2, X1))
def f_Model_fewest_b100 (x1 : Int32) (x2 : Int32) (x3 : Int32) (x4 : Int32) (x5 : Int32) (x6 : Int32) (x7 : Int32) (X : Mem) : Option (((Int32 × Mem) ⊕ (Int32 × Int32 × Mem)) ⊕ (Int32 × Mem)) :=
  rdI X 71 83 (0 : Int32) fun v1 => if v1 ≤ x7 then (bd (f_Model_goes x2 X) fun X3 => rdI X3 71 83 ((19 : Int32) + x1) fun v4 => if v4 < x3 then (upc (f_Model_fewest_j180 x1 x2 x3 x4 x6 x5 X3)) else (upc (f_Model_fewest_j180 x1 x2 x3 x4 x6 x6 X3))) else (bd (f_Model_at x7 (4 : Int32)) fun v5 => if (((x4 &&& (x6 ^^^ (-1 : Int32))) >>> (x7 &&& 31)) &&& (1 : Int32)) = (1 : Int32) then (f_Model_fewest_j148 x1 x2 x3 x4 x5 x6 x7 71 v5 (0 : Int32) X) else (bd (f_Model_its x7 (4 : Int32) X) fun v7 => f_Model_fewest_j148 x1 x2 x3 x4 x5 x6 x7 71 v5 v7 X))
def f_Model_fewest_j97 (x1 : Int32) (x2 : Int32) (x3 : Int32) (x4 : Int32) (x5 : Int32) (x6 : Int32) (X : Mem) : Option ((Int32 × Mem) ⊕ (Int32 × Int32 × Mem)) :=
  it (fun a => f_Model_fewest_b100 x1 x2 x3 x4 x5 x6 a.1 a.2) FU ((0 : Int32), X)
def f_Model_fewest_b62 (x1 : Int32) (x2 : Int32) (x3 : Int32) (x4 : Int32) (x5 : Int32) (x6 : Int32) (X : Mem) : Option ((Int32 × Mem) ⊕ (Int32 × Int32 × Mem)) :=
  if x4 < x6 then (bd2 (f_Model_orNone x5 X) fun v1 X3 => some (.inl ((v1, X3)))) else (if (x6 &&& (x4 ^^^ (-1 : Int32))) = 0 then (if x5 < 0 then (f_Model_fewest_j97 x1 x2 x3 x4 x5 x6 X) else (bd (f_Model_many x6) fun v4 => bd (f_Model_many x5) fun v6 => if v6 ≤ v4 then (f_Model_fewest_j193 x1 x2 x3 x4 x5 x6 X) else (f_Model_fewest_j97 x1 x2 x3 x4 x5 x6 X))) else (f_Model_fewest_j193 x1 x2 x3 x4 x5 x6 X))
def f_Model_fewest_j31 (X : Mem) : Option (Int32 × Mem) :=
  bd2 (f_Model_finds (-1000000001 : Int32) X) fun v1 X3 => some (v1, X3)
def f_Model_fewest (p1 : Int32) (p2 : Int32) (p3 : Int32) (X : Mem) : Option (Int32 × Mem) :=
  bd (f_Model_isFamily p1) fun v1 => if v1 = 0 then (f_Model_fewest_j31 X) else (bd (f_Model_isIn (p2.toInt64) (1 : Int64) (40 : Int64)) fun v3 => if v3 = 0 then (f_Model_fewest_j31 X) else (bd (f_Model_isIn (p3.toInt64) (0 : Int64) (999999999 : Int64)) fun v5 => if v5 = 0 then (f_Model_fewest_j31 X) else (bd (f_Model_thoseThatAre (1 : Int32) X) fun v7 => bd (f_Model_copyRow 71 74 X) fun X10 => it (fun a => f_Model_fewest_b62 p1 p2 p3 v7 a.1 a.2.1 a.2.2) FU ((-1 : Int32), (0 : Int32), X10))))
def f_Model_rate_j94 (x3 : Int32) (x4 : Int32) (X : Mem) : Option (Int32 × Mem) :=
  wrI X 71 83 (2 : Int32) x3 fun X1 => bd2 (f_Model_orNone x4 X1) fun v2 X4 => some (v2, X4)
def f_Model_rate_j86 (x1 : Int32) (x2 : Int32) (x3 : Int32) (x5 : Int32) (q0 : Int32) (X : Mem) : Option ((Int32 × Mem) ⊕ (Int32 × Int32 × Mem)) :=
  lt (x5 + (1 : Int32)) fun v1 => some (.inr (q0, v1, X))
def f_Model_rate_b44 (x1 : Int32) (x2 : Int32) (x3 : Int32) (x4 : Int32) (x5 : Int32) (X : Mem) : Option ((Int32 × Mem) ⊕ (Int32 × Int32 × Mem)) :=
  if (50 : Int32) < x5 then (upc (f_Model_rate_j94 x3 x4 X)) else (if 0 ≤ x4 then (upc (f_Model_rate_j94 x3 x4 X)) else (wrI X 71 83 (2 : Int32) x5 fun X1 => bd2 (f_Model_pursesOn x1 X1) fun v2 X4 => bd (f_Model_purses X4) fun v5 => if (lg_cmp (v2 - v5) (x2.toInt64)) < 0 then (f_Model_rate_j86 x1 x2 x3 x5 (-1 : Int32) X4) else (f_Model_rate_j86 x1 x2 x3 x5 x5 X4)))
def f_Model_rate_j24 (X : Mem) : Option (Int32 × Mem) :=
  bd2 (f_Model_finds (-1000000001 : Int32) X) fun v1 X3 => some (v1, X3)
def f_Model_rate (p1 : Int32) (p2 : Int32) (X : Mem) : Option (Int32 × Mem) :=
  bd (f_Model_isIn (p1.toInt64) (1 : Int64) (100 : Int64)) fun v1 => if v1 = 0 then (f_Model_rate_j24 X) else (bd (f_Model_isIn (p2.toInt64) (0 : Int64) (999999999 : Int64)) fun v3 => if v3 = 0 then (f_Model_rate_j24 X) else (rdI X 71 83 (2 : Int32) fun v5 => it (fun a => f_Model_rate_b44 p1 p2 v5 a.1 a.2.1 a.2.2) FU ((-1 : Int32), (0 : Int32), X)))
def f_Model_feed_b41 (x1 : Int32) (x3 : Int32) (X : Mem) : Option ((Int32 × Mem) ⊕ (Int32 × Mem)) :=
  if x3 < 0 then (lt (gI X 70 7) fun v1 => some (.inl ((v1, X)))) else (lt (gI X 70 7) fun v2 => wrI X 76 120 v2 ((x1 >>> (((8 : Int32) * x3) &&& 31)) &&& (255 : Int32)) fun X3 => lt (gI X3 70 7) fun v4 => lt (sI X3 70 7 (v4 + (1 : Int32))) fun X5 => lt (x3 + (-1 : Int32)) fun v6 => some (.inr (v6, X5)))
def f_Model_feed (p1 : Int32) (p2 : Int32) (X : Mem) : Option (Int32 × Mem) :=
  bd (f_Model_isIn (p2.toInt64) (1 : Int64) (4 : Int64)) fun v1 => if v1 = 0 then (bd2 (f_Model_finds (-1000000001 : Int32) X) fun v8 X10 => some (v8, X10)) else (lt (gI X 70 7) fun v3 => if (v3 + p2) ≤ (120 : Int32) then (lt (p2 - (1 : Int32)) fun v4 => it (fun a => f_Model_feed_b41 p1 a.1 a.2) FU (v4, X)) else (bd2 (f_Model_finds (-1000000002 : Int32) X) fun v5 X7 => some (v5, X7)))
def f_Model_wipe (X : Mem) : Option (Int32 × Mem) :=
  lt (gI X 70 7) fun v1 => lt (sI X 70 7 (0 : Int32)) fun X2 => some (v1, X2)
def f_Model_isLetter (p0 : Int32) : Option Int32 :=
  if p0 < (97 : Int32) then (some (0 : Int32)) else (if (122 : Int32) < p0 then (some (0 : Int32)) else (some (1 : Int32)))
def f_Model_isDigit (p0 : Int32) : Option Int32 :=
  if p0 < (48 : Int32) then (some (0 : Int32)) else (if (57 : Int32) < p0 then (some (0 : Int32)) else (some (1 : Int32)))
def f_Model_byteAt (p1 : Int32) (X : Mem) : Option Int32 :=
  lt (gI X 70 7) fun v1 => if v1 ≤ p1 then (some (-1 : Int32)) else (rdI X 76 120 p1 fun v2 => some v2)
def f_Model_nextToken_j229 (q1 : Int32) (q2 : Int32) (X : Mem) : Option Mem :=
  lt (sI X 70 13 (q1 + q2)) fun X1 => some X1
def f_Model_nextToken_j211 (X : Mem) : Option Mem :=
  lt (gI X 70 13) fun v1 => lt (gI X 70 11) fun v2 => if v2 ≤ (2 : Int32) then (f_Model_nextToken_j229 v1 (0 : Int32) X) else (f_Model_nextToken_j229 v1 (1 : Int32) X)
def f_Model_nextToken_j195 (q1 : Int32) (X : Mem) : Option (Mem ⊕ Mem) :=
  lt (sI X 70 14 q1) fun X1 => lt (gI X1 70 13) fun v2 => lt (sI X1 70 13 (v2 + (1 : Int32))) fun X3 => some (.inr X3)
def f_Model_nextToken_b136 (X : Mem) : Option (Mem ⊕ Mem) :=
  lt (gI X 70 11) fun v1 => if v1 = (2 : Int32) then (lt (gI X 70 13) fun v2 => bd (f_Model_byteAt v2 X) fun v3 => bd (f_Model_isDigit v3) fun v5 => if v5 = 0 then (upc (f_Model_nextToken_j211 X)) else (lt (gI X 70 14) fun v7 => if v7 ≤ (9999 : Int32) then (lt (gI X 70 14) fun v8 => lt (gI X 70 13) fun v9 => bd (f_Model_byteAt v9 X) fun v10 => f_Model_nextToken_j195 ((((10 : Int32) * v8) + v10) - (48 : Int32)) X) else (lt (gI X 70 14) fun v12 => f_Model_nextToken_j195 v12 X))) else (upc (f_Model_nextToken_j211 X))
def f_Model_nextToken_b101 (X : Mem) : Option (Mem ⊕ Mem) :=
  lt (gI X 70 11) fun v1 => if v1 = (1 : Int32) then (lt (gI X 70 13) fun v2 => bd (f_Model_byteAt v2 X) fun v3 => bd (f_Model_isLetter v3) fun v5 => if v5 = 0 then (upc (it (fun a => f_Model_nextToken_b136 a) FU X)) else (lt (gI X 70 13) fun v7 => lt (sI X 70 13 (v7 + (1 : Int32))) fun X8 => some (.inr X8))) else (upc (it (fun a => f_Model_nextToken_b136 a) FU X))
def f_Model_nextToken_j93 (q1 : Int32) (X : Mem) : Option Mem :=
  lt (sI X 70 11 q1) fun X1 => lt (sI X1 70 14 (0 : Int32)) fun X2 => it (fun a => f_Model_nextToken_b101 a) FU X2
def f_Model_nextToken_b8 (X : Mem) : Option (Mem ⊕ Mem) :=
  lt (gI X 70 12) fun v1 => bd (f_Model_byteAt v1 X) fun v2 => if v2 = (32 : Int32) then (lt (gI X 70 12) fun v13 => lt (sI X 70 12 (v13 + (1 : Int32))) fun X14 => some (.inr X14)) else (lt (gI X 70 12) fun v4 => lt (sI X 70 13 v4) fun X5 => lt (gI X5 70 12) fun v6 => bd (f_Model_byteAt v6 X5) fun v7 => if 0 ≤ v7 then (bd (f_Model_isLetter v7) fun v9 => if v9 = 0 then (bd (f_Model_isDigit v7) fun v11 => if v11 = 0 then (if v7 = (59 : Int32) then (upc (f_Model_nextToken_j93 (3 : Int32) X5)) else (upc (f_Model_nextToken_j93 (4 : Int32) X5))) else (upc (f_Model_nextToken_j93 (2 : Int32) X5))) else (upc (f_Model_nextToken_j93 (1 : Int32) X5))) else (upc (f_Model_nextToken_j93 (0 : Int32) X5)))
def f_Model_nextToken (X : Mem) : Option Mem :=
  lt (gI X 70 13) fun v1 => lt (sI X 70 12 v1) fun X2 => it (fun a => f_Model_nextToken_b8 a) FU X2
def f_Model_has3 (p1 : Int32) (p2 : Int32) (p3 : Int32) (p4 : Int32) (X : Mem) : Option Int32 :=
  lt (gI X 70 12) fun v1 => bd (f_Model_byteAt (v1 + p1) X) fun v2 => if v2 = p2 then (lt (gI X 70 12) fun v4 => bd (f_Model_byteAt ((v4 + p1) + (1 : Int32)) X) fun v5 => if v5 = p3 then (lt (gI X 70 12) fun v7 => bd (f_Model_byteAt ((v7 + p1) + (2 : Int32)) X) fun v8 => if v8 = p4 then (some (1 : Int32)) else (some (0 : Int32))) else (some (0 : Int32))) else (some (0 : Int32))
def f_Model_isWord (p1 : Int32) (X : Mem) : Option Int32 :=
  lt (gI X 70 11) fun v1 => if v1 = (1 : Int32) then (lt (gI X 70 13) fun v2 => lt (gI X 70 12) fun v3 => if (v2 - v3) = p1 then (some (1 : Int32)) else (some (0 : Int32))) else (some (0 : Int32))
def f_Model_fails (X : Mem) : Option (Int32 × Mem) :=
  lt (gI X 70 12) fun v1 => lt (sI X 70 15 v1) fun X2 => some ((0 : Int32), X2)
def f_Model_isFive (p1 : Int32) (p2 : Int32) (p3 : Int32) (p4 : Int32) (p5 : Int32) (X : Mem) : Option Int32 :=
  bd (f_Model_isWord (5 : Int32) X) fun v1 => if v1 = 0 then (some (0 : Int32)) else (bd (f_Model_has3 (0 : Int32) p1 p2 p3 X) fun v3 => if v3 = 0 then (some (0 : Int32)) else (bd (f_Model_has3 (2 : Int32) p3 p4 p5 X) fun v5 => if v5 = 0 then (some (0 : Int32)) else (some (1 : Int32))))
def f_Model_isSix (p1 : Int32) (p2 : Int32) (p3 : Int32) (p4 : Int32) (p5 : Int32) (p6 : Int32) (X : Mem) : Option Int32 :=
  bd (f_Model_isWord (6 : Int32) X) fun v1 => if v1 = 0 then (some (0 : Int32)) else (bd (f_Model_has3 (0 : Int32) p1 p2 p3 X) fun v3 => if v3 = 0 then (some (0 : Int32)) else (bd (f_Model_has3 (3 : Int32) p4 p5 p6 X) fun v5 => if v5 = 0 then (some (0 : Int32)) else (some (1 : Int32))))
def f_Model_kindHere_j112 (X : Mem) : Option Int32 :=
  bd (f_Model_isFive (116 : Int32) (119 : Int32) (105 : Int32) (99 : Int32) (101 : Int32) X) fun v1 => if v1 = 0 then (bd (f_Model_isFive (103 : Int32) (108 : Int32) (97 : Int32) (115 : Int32) (115 : Int32) X) fun v3 => if v3 = 0 then (some (-1 : Int32)) else (some (5 : Int32))) else (some (4 : Int32))
def f_Model_kindHere (X : Mem) : Option Int32 :=
  bd (f_Model_isFive (99 : Int32) (104 : Int32) (97 : Int32) (105 : Int32) (114 : Int32) X) fun v1 => if v1 = 0 then (bd (f_Model_isFive (110 : Int32) (97 : Int32) (109 : Int32) (101 : Int32) (100 : Int32) X) fun v3 => if v3 = 0 then (bd (f_Model_isSix (103 : Int32) (114 : Int32) (117 : Int32) (100 : Int32) (103 : Int32) (101 : Int32) X) fun v5 => if v5 = 0 then (bd (f_Model_isWord (8 : Int32) X) fun v7 => if v7 = 0 then (f_Model_kindHere_j112 X) else (bd (f_Model_has3 (0 : Int32) (109 : Int32) (111 : Int32) (111 : Int32) X) fun v9 => if v9 = 0 then (f_Model_kindHere_j112 X) else (bd (f_Model_has3 (3 : Int32) (110 : Int32) (108 : Int32) (101 : Int32) X) fun v11 => if v11 = 0 then (f_Model_kindHere_j112 X) else (bd (f_Model_has3 (5 : Int32) (101 : Int32) (115 : Int32) (115 : Int32) X) fun v13 => if v13 = 0 then (f_Model_kindHere_j112 X) else (some (3 : Int32)))))) else (some (2 : Int32))) else (some (1 : Int32))) else (some (0 : Int32))
def f_Model_isNumber_j30 (X : Mem) : Option (Int32 × Mem) :=
  some ((1 : Int32), X)
def f_Model_isNumber_j23 (X : Mem) : Option (Int32 × Mem) :=
  bd2 (f_Model_fails X) fun v1 X3 => if v1 = 0 then (some ((0 : Int32), X3)) else (f_Model_isNumber_j30 X3)
def f_Model_isNumber (p1 : Int32) (p2 : Int32) (X : Mem) : Option (Int32 × Mem) :=
  lt (gI X 70 11) fun v1 => if v1 = (2 : Int32) then (lt (gI X 70 14) fun v2 => bd (f_Model_isIn (v2.toInt64) (p1.toInt64) (p2.toInt64)) fun v3 => if v3 = 0 then (f_Model_isNumber_j23 X) else (f_Model_isNumber_j30 X)) else (f_Model_isNumber_j23 X)
def f_Model_isTwo (p1 : Int32) (p2 : Int32) (X : Mem) : Option Int32 :=
  bd (f_Model_isWord (2 : Int32) X) fun v1 => if v1 = 0 then (some (0 : Int32)) else (lt (gI X 70 12) fun v3 => bd (f_Model_byteAt v3 X) fun v4 => if v4 = p1 then (lt (gI X 70 12) fun v6 => bd (f_Model_byteAt (v6 + (1 : Int32)) X) fun v7 => if v7 = p2 then (some (1 : Int32)) else (some (0 : Int32))) else (some (0 : Int32)))
def f_Model_thingHere_j125 (x2 : Int32) (X : Mem) : Option (Int32 × Mem) :=
  bd (f_Model_isTwo (97 : Int32) (116 : Int32) X) fun v1 => if v1 = 0 then (some ((1 : Int32), X)) else (bd (f_Model_nextToken X) fun X4 => bd2 (f_Model_isNumber (0 : Int32) (15 : Int32) X4) fun v5 X7 => if v5 = 0 then (some ((0 : Int32), X7)) else (lt (gI X7 70 14) fun v8 => bd (f_Model_lies x2 v8 X7) fun X10 => bd (f_Model_nextToken X10) fun X12 => some ((1 : Int32), X12)))
def f_Model_thingHere (p1 : Int32) (X : Mem) : Option (Int32 × Mem) :=
  rdI X 71 83 (0 : Int32) fun v1 => if v1 = (10 : Int32) then (bd2 (f_Model_fails X) fun v34 X36 => ckZ v34 (some (v34, X36))) else (bd (f_Model_nextToken X) fun X3 => bd (f_Model_isTwo (111 : Int32) (102 : Int32) X3) fun v4 => if v4 = 0 then (bd2 (f_Model_fails X3) fun v31 X33 => ckZ v31 (some (v31, X33))) else (bd (f_Model_nextToken X3) fun X7 => bd2 (f_Model_isNumber (0 : Int32) (3 : Int32) X7) fun v8 X10 => if v8 = 0 then (some ((0 : Int32), X10)) else (lt (gI X10 70 14) fun v11 => bd (f_Model_comes p1 v11 X10) fun X13 => rdI X13 71 83 (0 : Int32) fun v14 => lt (v14 - (1 : Int32)) fun v15 => bd (f_Model_nextToken X13) fun X17 => bd (f_Model_isFive (119 : Int32) (111 : Int32) (114 : Int32) (116 : Int32) (104 : Int32) X17) fun v18 => if v18 = 0 then (f_Model_thingHere_j125 v15 X17) else (bd (f_Model_nextToken X17) fun X21 => bd2 (f_Model_isNumber (0 : Int32) (9999 : Int32) X21) fun v22 X24 => if v22 = 0 then (some ((0 : Int32), X24)) else (bd (f_Model_at v15 (3 : Int32)) fun v25 => lt (gI X24 70 14) fun v27 => wrI X24 71 83 v25 v27 fun X28 => bd (f_Model_nextToken X28) fun X30 => f_Model_thingHere_j125 v15 X30)))))
def f_Model_heightHere (X : Mem) : Option (Int32 × Mem) :=
  bd (f_Model_nextToken X) fun X2 => bd2 (f_Model_isNumber (0 : Int32) (15 : Int32) X2) fun v3 X5 => if v3 = 0 then (some ((0 : Int32), X5)) else (lt (gI X5 70 14) fun v6 => bd (f_Model_nextToken X5) fun X8 => bd2 (f_Model_isNumber (0 : Int32) (9 : Int32) X8) fun v9 X11 => if v9 = 0 then (some ((0 : Int32), X11)) else (lt (gI X11 70 14) fun v12 => wrI X11 71 83 ((3 : Int32) + v6) v12 fun X13 => bd (f_Model_nextToken X13) fun X15 => some ((1 : Int32), X15)))
def f_Model_interestHere (X : Mem) : Option (Int32 × Mem) :=
  bd (f_Model_nextToken X) fun X2 => bd2 (f_Model_isNumber (0 : Int32) (50 : Int32) X2) fun v3 X5 => if v3 = 0 then (some ((0 : Int32), X5)) else (lt (gI X5 70 14) fun v6 => wrI X5 71 83 (2 : Int32) v6 fun X7 => bd (f_Model_nextToken X7) fun X9 => some ((1 : Int32), X9))
def f_Model_itemHere_j97 (X : Mem) : Option (Int32 × Mem) :=
  bd2 (f_Model_fails X) fun v1 X3 => ckZ v1 (some (v1, X3))
def f_Model_itemHere (X : Mem) : Option (Int32 × Mem) :=
  bd (f_Model_kindHere X) fun v1 => if v1 < 0 then (bd (f_Model_isSix (104 : Int32) (101 : Int32) (105 : Int32) (103 : Int32) (104 : Int32) (116 : Int32) X) fun v3 => if v3 = 0 then (bd (f_Model_isWord (8 : Int32) X) fun v5 => if v5 = 0 then (f_Model_itemHere_j97 X) else (bd (f_Model_has3 (0 : Int32) (105 : Int32) (110 : Int32) (116 : Int32) X) fun v7 => if v7 = 0 then (f_Model_itemHere_j97 X) else (bd (f_Model_has3 (3 : Int32) (101 : Int32) (114 : Int32) (101 : Int32) X) fun v9 => if v9 = 0 then (f_Model_itemHere_j97 X) else (bd (f_Model_has3 (5 : Int32) (101 : Int32) (115 : Int32) (116 : Int32) X) fun v11 => if v11 = 0 then (f_Model_itemHere_j97 X) else (bd2 (f_Model_interestHere X) fun v13 X15 => ckZ v13 (some (v13, X15))))))) else (bd2 (f_Model_heightHere X) fun v16 X18 => ckZ v16 (some (v16, X18)))) else (bd2 (f_Model_thingHere v1 X) fun v19 X21 => ckZ v19 (some (v19, X21)))
def f_Model_shore_j98 (x1 : Int32) (x2 : Int32) (X : Mem) : Option (Int32 × Mem) :=
  if x2 = 0 then (lt (gI X 70 15) fun v1 => some (((-1 : Int32) - v1), X)) else (some (x1, X))
def f_Model_shore_j77 (x1 : Int32) (q0 : Int32) (X : Mem) : Option (Int32 × Mem) :=
  lt (sI X 70 7 (0 : Int32)) fun X1 => if q0 = 0 then (bd (f_Model_copyRow 73 71 X1) fun X3 => f_Model_shore_j98 x1 q0 X3) else (f_Model_shore_j98 x1 q0 X1)
def f_Model_shore_j76 (x1 : Int32) (X : Mem) : Option (Int32 × Mem) :=
  f_Model_shore_j77 x1 (0 : Int32) X
def f_Model_shore_j72 (x1 : Int32) (X : Mem) : Option (Int32 × Mem) :=
  f_Model_shore_j77 x1 (1 : Int32) X
def f_Model_shore_j54 (x1 : Int32) (x2 : Int32) (X : Mem) : Option (Int32 × Mem) :=
  if x2 = 0 then (f_Model_shore_j76 x1 X) else (lt (gI X 70 11) fun v1 => if v1 = 0 then (f_Model_shore_j72 x1 X) else (bd2 (f_Model_fails X) fun v2 X4 => if v2 = 0 then (f_Model_shore_j76 x1 X4) else (f_Model_shore_j72 x1 X4)))
def f_Model_shore_b27 (x1 : Int32) (x2 : Int32) (X : Mem) : Option ((Int32 × Mem) ⊕ (Int32 × Int32 × Mem)) :=
  if x2 = 0 then (upc (f_Model_shore_j54 x1 x2 X)) else (lt (gI X 70 11) fun v1 => if v1 = (3 : Int32) then (bd (f_Model_nextToken X) fun X3 => bd2 (f_Model_itemHere X3) fun v4 X6 => lt (x1 + (1 : Int32)) fun v7 => some (.inr (v7, v4, X6))) else (upc (f_Model_shore_j54 x1 x2 X)))
def f_Model_shore (X : Mem) : Option (Int32 × Mem) :=
  bd (f_Model_copyRow 71 73 X) fun X2 => lt (sI X2 70 13 (0 : Int32)) fun X3 => bd (f_Model_nextToken X3) fun X5 => bd2 (f_Model_itemHere X5) fun v6 X8 => it (fun a => f_Model_shore_b27 a.1 a.2.1 a.2.2) FU ((1 : Int32), v6, X8)
def f_Model_isSheet (p0 : Int32) : Option Int32 :=
  if p0 < 0 then (some (0 : Int32)) else (if (4 : Int32) ≤ p0 then (some (0 : Int32)) else (some (1 : Int32)))
def f_Model_narrow (p0 : Int32) (p1 : Int64) : Option Int64 :=
  if p0 = (8 : Int32) then (some (((p1.toInt32).toInt8.toInt32).toInt64)) else (if p0 = (16 : Int32) then (some (((p1.toInt32).toInt16.toInt32).toInt64)) else (some p1))
def f_Model_sheet_b93 (x1 : Int32) (x4 : Int32) (X : Mem) : Option ((Int32 × Mem) ⊕ (Int32 × Mem)) :=
  if (40 : Int32) ≤ x4 then (rdI X 78 4 x1 fun v1 => some (.inl ((v1, X)))) else (wrL X 79 160 (((40 : Int32) * x1) + x4) (0 : Int64) fun X2 => lt (x4 + (1 : Int32)) fun v3 => some (.inr (v3, X2)))
def f_Model_sheet_j89 (x1 : Int32) (q0 : Nat) (q1 : Int32) (q2 : Int32) (X : Mem) : Option (Int32 × Mem) :=
  wrI X q0 4 q1 q2 fun X1 => it (fun a => f_Model_sheet_b93 x1 a.1 a.2) FU ((0 : Int32), X1)
def f_Model_sheet_j74 (x1 : Int32) (x2 : Int32) (x3 : Int32) (q0 : Nat) (q1 : Int32) (q2 : Int32) (X : Mem) : Option (Int32 × Mem) :=
  wrI X q0 4 q1 q2 fun X1 => if x2 = 0 then (f_Model_sheet_j89 x1 78 x1 (0 : Int32) X1) else (f_Model_sheet_j89 x1 78 x1 x3 X1)
def f_Model_sheet_j36 (x1 : Int32) (x2 : Int32) (x3 : Int32) (X : Mem) : Option (Int32 × Mem) :=
  if 0 ≤ x3 then (if x3 ≤ (40 : Int32) then (if x2 = 0 then (f_Model_sheet_j74 x1 x2 x3 77 x1 (-1 : Int32) X) else (f_Model_sheet_j74 x1 x2 x3 77 x1 x2 X)) else (bd2 (f_Model_finds (-1000000001 : Int32) X) fun v1 X3 => some (v1, X3))) else (bd2 (f_Model_finds (-1000000007 : Int32) X) fun v4 X6 => some (v4, X6))
def f_Model_sheet_j29 (X : Mem) : Option (Int32 × Mem) :=
  bd2 (f_Model_finds (-1000000001 : Int32) X) fun v1 X3 => some (v1, X3)
def f_Model_sheet (p1 : Int32) (p2 : Int32) (p3 : Int32) (X : Mem) : Option (Int32 × Mem) :=
  bd (f_Model_isSheet p1) fun v1 => if v1 = 0 then (f_Model_sheet_j29 X) else (if p2 = 0 then (f_Model_sheet_j36 p1 p2 p3 X) else (if p2 = (8 : Int32) then (f_Model_sheet_j36 p1 p2 p3 X) else (if p2 = (16 : Int32) then (f_Model_sheet_j36 p1 p2 p3 X) else (if p2 = (64 : Int32) then (f_Model_sheet_j36 p1 p2 p3 X) else (f_Model_sheet_j29 X)))))
def f_Model_write (p1 : Int32) (p2 : Int32) (p3 : Int64) (X : Mem) : Option (Int64 × Mem) :=
  bd (f_Model_isSheet p1) fun v1 => if v1 = 0 then (bd2 (f_Model_finds (-1000000001 : Int32) X) fun v18 X20 => some ((v18.toInt64), X20)) else (rdI X 77 4 p1 fun v3 => if 0 ≤ v3 then (rdI X 78 4 p1 fun v4 => bd (f_Model_isIn (p2.toInt64) (0 : Int64) ((v4 - (1 : Int32)).toInt64)) fun v5 => if v5 = 0 then (bd2 (f_Model_finds (-1000000001 : Int32) X) fun v12 X14 => some ((v12.toInt64), X14)) else (rdL X 79 160 (((40 : Int32) * p1) + p2) fun v7 => rdI X 77 4 p1 fun v8 => bd (f_Model_narrow v8 p3) fun v9 => wrL X 79 160 (((40 : Int32) * p1) + p2) v9 fun X11 => some (v7, X11))) else (bd2 (f_Model_finds (-1000000006 : Int32) X) fun v15 X17 => some ((v15.toInt64), X17)))
def f_Model_copy_j162 (x5 : Int32) (x6 : Int32) (x7 : Int32) (x8 : Int32) (q0 : Int32) (X : Mem) : Option ((Int32 × Mem) ⊕ (Int32 × Mem)) :=
  rdL X 79 160 (x6 + q0) fun v1 => wrL X 79 160 (x7 + q0) v1 fun X2 => lt (x8 + (1 : Int32)) fun v3 => some (.inr (v3, X2))
def f_Model_copy_b136 (x5 : Int32) (x6 : Int32) (x7 : Int32) (x8 : Int32) (X : Mem) : Option ((Int32 × Mem) ⊕ (Int32 × Mem)) :=
  if x5 ≤ x8 then (some (.inl ((x5, X)))) else (if x7 ≤ x6 then (f_Model_copy_j162 x5 x6 x7 x8 x8 X) else (f_Model_copy_j162 x5 x6 x7 x8 ((x5 - (1 : Int32)) - x8) X))
def f_Model_copy_j109 (X : Mem) : Option (Int32 × Mem) :=
  bd2 (f_Model_finds (-1000000001 : Int32) X) fun v1 X3 => some (v1, X3)
def f_Model_copy_j39 (X : Mem) : Option (Int32 × Mem) :=
  bd2 (f_Model_finds (-1000000006 : Int32) X) fun v1 X3 => some (v1, X3)
def f_Model_copy_j14 (X : Mem) : Option (Int32 × Mem) :=
  bd2 (f_Model_finds (-1000000001 : Int32) X) fun v1 X3 => some (v1, X3)
def f_Model_copy (p1 : Int32) (p2 : Int32) (p3 : Int32) (p4 : Int32) (p5 : Int32) (X : Mem) : Option (Int32 × Mem) :=
  bd (f_Model_isSheet p1) fun v1 => if v1 = 0 then (f_Model_copy_j14 X) else (bd (f_Model_isSheet p3) fun v3 => if v3 = 0 then (f_Model_copy_j14 X) else (rdI X 77 4 p1 fun v5 => if v5 < 0 then (f_Model_copy_j39 X) else (rdI X 77 4 p3 fun v6 => if 0 ≤ v6 then (rdI X 77 4 p1 fun v7 => rdI X 77 4 p3 fun v8 => if v7 = v8 then (if p2 < 0 then (f_Model_copy_j109 X) else (if p4 < 0 then (f_Model_copy_j109 X) else (if p5 < 0 then (f_Model_copy_j109 X) else (rdI X 78 4 p1 fun v9 => if (v9 - p2) < p5 then (f_Model_copy_j109 X) else (rdI X 78 4 p3 fun v10 => if p5 ≤ (v10 - p4) then (lt (((40 : Int32) * p1) + p2) fun v11 => lt (((40 : Int32) * p3) + p4) fun v12 => it (fun a => f_Model_copy_b136 p5 v11 v12 a.1 a.2) FU ((0 : Int32), X)) else (f_Model_copy_j109 X)))))) else (bd2 (f_Model_finds (-1000000003 : Int32) X) fun v13 X15 => some (v13, X15))) else (f_Model_copy_j39 X))))
def f_Model_wants (p1 : Int32) (X : Mem) : Option Int32 :=
  bd (f_Model_isSheet p1) fun v1 => if v1 = 0 then (some (-1000000001 : Int32)) else (rdI X 77 4 p1 fun v3 => if 0 ≤ v3 then (some (0 : Int32)) else (some (-1000000006 : Int32)))
def f_Model_lays_j77 (x1 : Int32) (x2 : Int32) (x3 : Int32) (X : Mem) : Option ((Int32 × Mem) ⊕ (Int32 × Int32 × Mem)) :=
  lt (x3 + (1 : Int32)) fun v1 => some (.inr (x2, v1, X))
def f_Model_lays_b22 (x1 : Int32) (x2 : Int32) (x3 : Int32) (X : Mem) : Option ((Int32 × Mem) ⊕ (Int32 × Int32 × Mem)) :=
  rdI X 78 4 x1 fun v1 => if v1 ≤ x3 then (some (.inl ((x2, X)))) else (if (16 : Int32) ≤ x3 then (some (.inl ((x2, X)))) else (rdL X 79 160 (((40 : Int32) * x1) + x3) fun v2 => bd (f_Model_isIn v2 (0 : Int64) (9 : Int64)) fun v3 => if v3 = 0 then (f_Model_lays_j77 x1 x2 x3 X) else (wrI X 71 83 ((3 : Int32) + x3) (v2.toInt32) fun X5 => lt (x2 + (1 : Int32)) fun v6 => f_Model_lays_j77 x1 v6 x3 X5)))
def f_Model_lays (p1 : Int32) (X : Mem) : Option (Int32 × Mem) :=
  bd (f_Model_wants p1 X) fun v1 => if v1 = 0 then (it (fun a => f_Model_lays_b22 p1 a.1 a.2.1 a.2.2) FU ((0 : Int32), (0 : Int32), X)) else (bd (f_Model_wants p1 X) fun v3 => bd2 (f_Model_finds v3 X) fun v5 X7 => some (v5, X7))
def f_Model_book_b54 (x1 : Int32) (x2 : Int32) (x4 : Int32) (X : Mem) : Option ((Int32 × Mem) ⊕ (Int32 × Mem)) :=
  rdI X 78 4 x1 fun v1 => if v1 ≤ x4 then (bd (f_Model_copyRow 74 71 X) fun X3 => rdI X3 78 4 x1 fun v4 => some (.inl ((v4, X3)))) else (rdI X 77 4 x1 fun v5 => rdI X 71 83 ((19 : Int32) + x2) fun v6 => bd (f_Model_narrow v5 (v6.toInt64)) fun v7 => wrL X 79 160 (((40 : Int32) * x1) + x4) v7 fun X9 => bd (f_Model_day X9) fun X11 => lt (x4 + (1 : Int32)) fun v12 => some (.inr (v12, X11)))
def f_Model_book_j29 (x1 : Int32) (x2 : Int32) (q0 : Int32) (X : Mem) : Option (Int32 × Mem) :=
  if q0 = 0 then (bd (f_Model_copyRow 71 74 X) fun X2 => it (fun a => f_Model_book_b54 x1 x2 a.1 a.2) FU ((0 : Int32), X2)) else (bd2 (f_Model_finds q0 X) fun v3 X5 => some (v3, X5))
def f_Model_book (p1 : Int32) (p2 : Int32) (X : Mem) : Option (Int32 × Mem) :=
  bd (f_Model_wants p1 X) fun v1 => if v1 = 0 then (bd (f_Model_isFamily p2) fun v3 => if v3 = 0 then (f_Model_book_j29 p1 p2 (-1000000001 : Int32) X) else (f_Model_book_j29 p1 p2 (0 : Int32) X)) else (bd (f_Model_wants p1 X) fun v5 => f_Model_book_j29 p1 p2 v5 X)
def f_Model_isTold_j73 (x3 : Int32) (X : Mem) : Option (Int32 × Mem) :=
  bd (f_Model_copyRow 74 71 X) fun X2 => ckZ x3 (some (x3, X2))
def f_Model_isTold_j62 (x1 : Int32) (x2 : Int32) (x4 : Int32) (q0 : Int32) (X : Mem) : Option ((Int32 × Mem) ⊕ (Int32 × Int32 × Mem)) :=
  bd (f_Model_day X) fun X2 => lt (x4 + (1 : Int32)) fun v3 => some (.inr (q0, v3, X2))
def f_Model_isTold_b16 (x1 : Int32) (x2 : Int32) (x3 : Int32) (x4 : Int32) (X : Mem) : Option ((Int32 × Mem) ⊕ (Int32 × Int32 × Mem)) :=
  rdI X 78 4 x1 fun v1 => if v1 ≤ x4 then (upc (f_Model_isTold_j73 x3 X)) else (if x3 = 0 then (upc (f_Model_isTold_j73 x3 X)) else (rdL X 79 160 (((40 : Int32) * x1) + x4) fun v2 => rdI X 71 83 ((19 : Int32) + x2) fun v3 => if (lg_cmp v2 (v3.toInt64)) = 0 then (f_Model_isTold_j62 x1 x2 x4 (1 : Int32) X) else (f_Model_isTold_j62 x1 x2 x4 (0 : Int32) X)))
def f_Model_isTold (p1 : Int32) (p2 : Int32) (X : Mem) : Option (Int32 × Mem) :=
  bd (f_Model_copyRow 71 74 X) fun X2 => it (fun a => f_Model_isTold_b16 p1 p2 a.1 a.2.1 a.2.2) FU ((1 : Int32), (0 : Int32), X2)
def f_Model_read_j155 (x1 : Int32) (x2 : Int32) (x3 : Int32) (x5 : Int32) (x6 : Int32) (x7 : Int32) (x9 : Int32) (x10 : Int32) (q0 : Int32) (q1 : Int32) (X : Mem) : Option (((Int32 × Mem) ⊕ (Int32 × Int32 × Mem)) ⊕ (Int32 × Int32 × Mem)) :=
  lt (q0 + q1) fun v1 => lt (x10 + (1 : Int32)) fun v2 => some (.inr (v1, v2, X))
def f_Model_read_b113 (x1 : Int32) (x2 : Int32) (x3 : Int32) (x5 : Int32) (x6 : Int32) (x7 : Int32) (x9 : Int32) (x8 : Int32) (x10 : Int32) (X : Mem) : Option (((Int32 × Mem) ⊕ (Int32 × Int32 × Mem)) ⊕ (Int32 × Int32 × Mem)) :=
  if (16 : Int32) ≤ x10 then (lt (x9 + (1 : Int32)) fun v1 => some (.inl (.inr (x8, v1, X)))) else (bd (f_Model_at x3 (0 : Int32)) fun v2 => wrI X 71 83 v2 x9 fun X4 => bd (f_Model_lies x3 x10 X4) fun X6 => bd2 (f_Model_isTold x1 x2 X6) fun v7 X9 => if v7 = 0 then (f_Model_read_j155 x1 x2 x3 x5 x6 x7 x9 x10 x8 (0 : Int32) X9) else (f_Model_read_j155 x1 x2 x3 x5 x6 x7 x9 x10 x8 (1 : Int32) X9))
def f_Model_read_b104 (x1 : Int32) (x2 : Int32) (x3 : Int32) (x5 : Int32) (x6 : Int32) (x7 : Int32) (x8 : Int32) (x9 : Int32) (X : Mem) : Option ((Int32 × Mem) ⊕ (Int32 × Int32 × Mem)) :=
  if (5 : Int32) < x9 then (bd (f_Model_at x3 (0 : Int32)) fun v1 => wrI X 71 83 v1 x5 fun X3 => bd (f_Model_at x3 (2 : Int32)) fun v4 => wrI X3 71 83 v4 x6 fun X6 => bd (f_Model_at x3 (4 : Int32)) fun v7 => wrI X6 71 83 v7 x7 fun X9 => some (.inl ((x8, X9)))) else (it (fun a => f_Model_read_b113 x1 x2 x3 x5 x6 x7 x9 a.1 a.2.1 a.2.2) FU (x8, (0 : Int32), X))
def f_Model_read_j60 (x1 : Int32) (x2 : Int32) (x3 : Int32) (q0 : Int32) (X : Mem) : Option (Int32 × Mem) :=
  if q0 = 0 then (bd (f_Model_its x3 (0 : Int32) X) fun v1 => bd (f_Model_its x3 (2 : Int32) X) fun v3 => bd (f_Model_its x3 (4 : Int32) X) fun v5 => it (fun a => f_Model_read_b104 x1 x2 x3 v1 v3 v5 a.1 a.2.1 a.2.2) FU ((0 : Int32), (0 : Int32), X)) else (bd2 (f_Model_finds q0 X) fun v7 X9 => some (v7, X9))
def f_Model_read_j58 (x1 : Int32) (x2 : Int32) (x3 : Int32) (x4 : Int32) (X : Mem) : Option (Int32 × Mem) :=
  f_Model_read_j60 x1 x2 x3 x4 X
def f_Model_read_j37 (x1 : Int32) (x2 : Int32) (x3 : Int32) (q0 : Int32) (X : Mem) : Option (Int32 × Mem) :=
  if q0 = 0 then (bd (f_Model_isIt x3 (2 : Int32) X) fun v1 => if v1 = 0 then (f_Model_read_j58 x1 x2 x3 q0 X) else (f_Model_read_j60 x1 x2 x3 (-1000000005 : Int32) X)) else (f_Model_read_j58 x1 x2 x3 q0 X)
def f_Model_read_j35 (x1 : Int32) (x2 : Int32) (x3 : Int32) (X : Mem) : Option (Int32 × Mem) :=
  f_Model_read_j37 x1 x2 x3 (-1000000001 : Int32) X
def f_Model_read (p1 : Int32) (p2 : Int32) (p3 : Int32) (X : Mem) : Option (Int32 × Mem) :=
  bd (f_Model_wants p1 X) fun v1 => if v1 = 0 then (bd (f_Model_isFamily p2) fun v3 => if v3 = 0 then (f_Model_read_j35 p1 p2 p3 X) else (bd (f_Model_isThing p3 X) fun v5 => if v5 = 0 then (f_Model_read_j35 p1 p2 p3 X) else (f_Model_read_j37 p1 p2 p3 (0 : Int32) X))) else (bd (f_Model_wants p1 X) fun v7 => f_Model_read_j37 p1 p2 p3 v7 X)
def f_Model_image (X : Mem) : Option (Int32 × Mem) :=
  bd (f_Model_copyRow 71 72 X) fun X2 => lt (sI X2 70 4 (1 : Int32)) fun X3 => some ((1 : Int32), X3)
def f_Model_undo (X : Mem) : Option (Int32 × Mem) :=
  lt (gI X 70 4) fun v1 => if v1 = 0 then (bd2 (f_Model_finds (-1000000004 : Int32) X) fun v5 X7 => some (v5, X7)) else (bd (f_Model_copyRow 72 71 X) fun X3 => rdI X3 71 83 (0 : Int32) fun v4 => some (v4, X3))
def f_Model_tear (X : Mem) : Option (Int32 × Mem) :=
  lt (gI X 70 4) fun v1 => lt (sI X 70 4 (0 : Int32)) fun X2 => if v1 = 0 then (some ((0 : Int32), X2)) else (some ((1 : Int32), X2))
def f_Model_count_b55 (X : Mem) (x2 : Int32) (x3 : Int32) : Option ((Int32 × Mem) ⊕ (Int32 × Int32)) :=
  if (16 : Int32) ≤ x3 then (some (.inl ((x2, X)))) else (rdI X 71 83 ((3 : Int32) + x3) fun v1 => lt (x2 + v1) fun v2 => lt (x3 + (1 : Int32)) fun v3 => some (.inr (v2, v3)))
def f_Model_count (p1 : Int32) (X : Mem) : Option (Int32 × Mem) :=
  if p1 = (0 : Int32) then (rdI X 71 83 (0 : Int32) fun v1 => some (v1, X)) else if p1 = (1 : Int32) then (lt (gI X 70 7) fun v2 => some (v2, X)) else if p1 = (2 : Int32) then (bd (f_Model_thoseThatAre (0 : Int32) X) fun v3 => bd (f_Model_many v3) fun v5 => some (v5, X)) else if p1 = (3 : Int32) then (it (fun a => f_Model_count_b55 X a.1 a.2) FU ((0 : Int32), (0 : Int32))) else (bd2 (f_Model_finds (-1000000001 : Int32) X) fun v7 X9 => some (v7, X9))
def f_Model_status (p1 : Int32) (X : Mem) : Option (Int32 × Mem) :=
  bd (f_Model_isIn (p1.toInt64) (-1 : Int64) (6 : Int64)) fun v1 => if v1 = 0 then (bd2 (f_Model_finds (-1000000001 : Int32) X) fun v3 X5 => some (v3, X5)) else (rdI X 75 8 (p1 + (1 : Int32)) fun v6 => some (v6, X))
