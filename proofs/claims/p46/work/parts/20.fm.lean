/-! ===== a second machine: objects by the place where they are made and a number; lists are lists: made by wip/whole/gen2/mk20.py ===== -/
/-- int; long; object of a tag, or null; list, or null; an object that is being made -/
abbrev nV : Type := Int32 ⊕ Int64 ⊕ (Nat × Option Nat) ⊕ Option (Nat × Nat) ⊕ Nat
abbrev vI (x : Int32) : nV := .inl x
abbrev vJ (x : Int64) : nV := .inr (.inl x)
abbrev vR (t : Nat) (o : Option Nat) : nV := .inr (.inr (.inl (t, o)))
abbrev vL (o : Option (Nat × Nat)) : nV := .inr (.inr (.inr (.inl o)))
abbrev vU (t : Nat) : nV := .inr (.inr (.inr (.inr t)))
/-- the class's memory: ints and booleans; references never null; references; lines; lists; how many of a tag -/
abbrev nC : Type := (Nat → Nat → Nat → Int32) × (Nat → Nat → Nat → Nat) × (Nat → Nat → Nat → Option Nat) × (Nat → Option (Nat × Nat)) × (Nat → Nat → List Nat) × (Nat → Nat)
/-- the class's memory, the reference's, throws, the long -/
abbrev nM : Type := Nat → Nat → Int32
abbrev nS : Type := nC × nM × Nat × (Nat → Int64)
def up3 {α : Type} (f : Nat → Nat → Nat → α) (t k j : Nat) (x : α) : Nat → Nat → Nat → α := fun t' k' j' => if t' = t ∧ k' = k ∧ j' = j then x else f t' k' j'
def up2 {α : Type} (f : Nat → Nat → α) (t k : Nat) (x : α) : Nat → Nat → α := fun t' k' => if t' = t ∧ k' = k then x else f t' k'
def up1 {α : Type} (f : Nat → α) (t : Nat) (x : α) : Nat → α := fun t' => if t' = t then x else f t'
def fI (s : nC) : Nat → Nat → Nat → Int32 := s.1
def fX (s : nC) : Nat → Nat → Nat → Nat := s.2.1
def fP (s : nC) : Nat → Nat → Nat → Option Nat := s.2.2.1
def fQ (s : nC) : Nat → Option (Nat × Nat) := s.2.2.2.1
def fL (s : nC) : Nat → Nat → List Nat := s.2.2.2.2.1
def fN (s : nC) : Nat → Nat := s.2.2.2.2.2
def uI (t k j : Nat) (x : Int32) (s : nC) : nC := (up3 s.1 t k j x, s.2)
def uW (t k : Nat) (f : Nat → Int32) (s : nC) : nC := (up2 s.1 t k f, s.2)
def uX (t k j : Nat) (x : Nat) (s : nC) : nC := (s.1, up3 s.2.1 t k j x, s.2.2)
def uP (t k j : Nat) (x : Option Nat) (s : nC) : nC := (s.1, s.2.1, up3 s.2.2.1 t k j x, s.2.2.2)
def uQ (k : Nat) (x : Option (Nat × Nat)) (s : nC) : nC := (s.1, s.2.1, s.2.2.1, up1 s.2.2.2.1 k x, s.2.2.2.2)
def uL (t k : Nat) (x : List Nat) (s : nC) : nC := (s.1, s.2.1, s.2.2.1, s.2.2.2.1, up2 s.2.2.2.2.1 t k x, s.2.2.2.2.2)
def uN (t : Nat) (x : Nat) (s : nC) : nC := (s.1, s.2.1, s.2.2.1, s.2.2.2.1, s.2.2.2.2.1, up1 s.2.2.2.2.2 t x)
def uM (t j : Nat) (x : Int32) (m : nM) : nM := up2 m t j x
def uT (s : nS) : nS := (s.1, s.2.1, s.2.2.1 + 1, s.2.2.2)
theorem fI_uI (t k j : Nat) (x : Int32) (s : nC) : fI (uI t k j x s) = up3 (fI s) t k j x := rfl
theorem fI_uW (t k : Nat) (f : Nat → Int32) (s : nC) : fI (uW t k f s) = up2 (fI s) t k f := rfl
theorem fI_uX (t k j x : Nat) (s : nC) : fI (uX t k j x s) = fI s := rfl
theorem fI_uP (t k j : Nat) (x : Option Nat) (s : nC) : fI (uP t k j x s) = fI s := rfl
theorem fI_uQ (k : Nat) (x : Option (Nat × Nat)) (s : nC) : fI (uQ k x s) = fI s := rfl
theorem fI_uL (t k : Nat) (x : List Nat) (s : nC) : fI (uL t k x s) = fI s := rfl
theorem fI_uN (t x : Nat) (s : nC) : fI (uN t x s) = fI s := rfl
theorem fX_uI (t k j : Nat) (x : Int32) (s : nC) : fX (uI t k j x s) = fX s := rfl
theorem fX_uW (t k : Nat) (f : Nat → Int32) (s : nC) : fX (uW t k f s) = fX s := rfl
theorem fX_uX (t k j x : Nat) (s : nC) : fX (uX t k j x s) = up3 (fX s) t k j x := rfl
theorem fX_uP (t k j : Nat) (x : Option Nat) (s : nC) : fX (uP t k j x s) = fX s := rfl
theorem fX_uQ (k : Nat) (x : Option (Nat × Nat)) (s : nC) : fX (uQ k x s) = fX s := rfl
theorem fX_uL (t k : Nat) (x : List Nat) (s : nC) : fX (uL t k x s) = fX s := rfl
theorem fX_uN (t x : Nat) (s : nC) : fX (uN t x s) = fX s := rfl
theorem fP_uI (t k j : Nat) (x : Int32) (s : nC) : fP (uI t k j x s) = fP s := rfl
theorem fP_uW (t k : Nat) (f : Nat → Int32) (s : nC) : fP (uW t k f s) = fP s := rfl
theorem fP_uX (t k j x : Nat) (s : nC) : fP (uX t k j x s) = fP s := rfl
theorem fP_uP (t k j : Nat) (x : Option Nat) (s : nC) : fP (uP t k j x s) = up3 (fP s) t k j x := rfl
theorem fP_uQ (k : Nat) (x : Option (Nat × Nat)) (s : nC) : fP (uQ k x s) = fP s := rfl
theorem fP_uL (t k : Nat) (x : List Nat) (s : nC) : fP (uL t k x s) = fP s := rfl
theorem fP_uN (t x : Nat) (s : nC) : fP (uN t x s) = fP s := rfl
theorem fQ_uI (t k j : Nat) (x : Int32) (s : nC) : fQ (uI t k j x s) = fQ s := rfl
theorem fQ_uW (t k : Nat) (f : Nat → Int32) (s : nC) : fQ (uW t k f s) = fQ s := rfl
theorem fQ_uX (t k j x : Nat) (s : nC) : fQ (uX t k j x s) = fQ s := rfl
theorem fQ_uP (t k j : Nat) (x : Option Nat) (s : nC) : fQ (uP t k j x s) = fQ s := rfl
theorem fQ_uQ (k : Nat) (x : Option (Nat × Nat)) (s : nC) : fQ (uQ k x s) = up1 (fQ s) k x := rfl
theorem fQ_uL (t k : Nat) (x : List Nat) (s : nC) : fQ (uL t k x s) = fQ s := rfl
theorem fQ_uN (t x : Nat) (s : nC) : fQ (uN t x s) = fQ s := rfl
theorem fL_uI (t k j : Nat) (x : Int32) (s : nC) : fL (uI t k j x s) = fL s := rfl
theorem fL_uW (t k : Nat) (f : Nat → Int32) (s : nC) : fL (uW t k f s) = fL s := rfl
theorem fL_uX (t k j x : Nat) (s : nC) : fL (uX t k j x s) = fL s := rfl
theorem fL_uP (t k j : Nat) (x : Option Nat) (s : nC) : fL (uP t k j x s) = fL s := rfl
theorem fL_uQ (k : Nat) (x : Option (Nat × Nat)) (s : nC) : fL (uQ k x s) = fL s := rfl
theorem fL_uL (t k : Nat) (x : List Nat) (s : nC) : fL (uL t k x s) = up2 (fL s) t k x := rfl
theorem fL_uN (t x : Nat) (s : nC) : fL (uN t x s) = fL s := rfl
theorem fN_uI (t k j : Nat) (x : Int32) (s : nC) : fN (uI t k j x s) = fN s := rfl
theorem fN_uW (t k : Nat) (f : Nat → Int32) (s : nC) : fN (uW t k f s) = fN s := rfl
theorem fN_uX (t k j x : Nat) (s : nC) : fN (uX t k j x s) = fN s := rfl
theorem fN_uP (t k j : Nat) (x : Option Nat) (s : nC) : fN (uP t k j x s) = fN s := rfl
theorem fN_uQ (k : Nat) (x : Option (Nat × Nat)) (s : nC) : fN (uQ k x s) = fN s := rfl
theorem fN_uL (t k : Nat) (x : List Nat) (s : nC) : fN (uL t k x s) = fN s := rfl
theorem fN_uN (t x : Nat) (s : nC) : fN (uN t x s) = up1 (fN s) t x := rfl
/-- the tag of a class's objects -/
def nTg (c : Nat) : Nat := cond (Nat.blt c 7) (cond (Nat.blt c 4) (cond (Nat.blt c 2) (cond (Nat.beq c 1) (24) (99)) (cond (Nat.blt c 3) (cond (Nat.beq c 2) (22) (99)) (cond (Nat.beq c 3) (21) (99)))) (cond (Nat.blt c 5) (cond (Nat.beq c 4) (23) (99)) (cond (Nat.blt c 6) (cond (Nat.beq c 5) (28) (99)) (cond (Nat.beq c 6) (8) (99))))) (cond (Nat.blt c 10) (cond (Nat.blt c 8) (cond (Nat.beq c 7) (26) (99)) (cond (Nat.blt c 9) (cond (Nat.beq c 8) (25) (99)) (cond (Nat.beq c 9) (9) (99)))) (cond (Nat.blt c 11) (cond (Nat.beq c 10) (27) (99)) (cond (Nat.blt c 12) (cond (Nat.beq c 11) (0) (99)) (cond (Nat.beq c 12) (1) (99)))))
/-- kinds of the fields: 0 int, 1 boolean, 2 its own number, 3 the same number of a tag, 4 never null of a tag, 5 of a tag or null, 6 the line, 7 an int of the reference -/
def nKd_1 (j : Nat) : Nat × Nat := cond (Nat.blt j 2) (cond (Nat.blt j 1) (cond (Nat.beq j 0) ((4, 21)) ((9, 0))) (cond (Nat.beq j 1) ((0, 0)) ((9, 0)))) (cond (Nat.blt j 3) (cond (Nat.beq j 2) ((0, 0)) ((9, 0))) (cond (Nat.beq j 3) ((0, 0)) ((9, 0))))
def nKd_2 (j : Nat) : Nat × Nat := cond (Nat.blt j 1) (cond (Nat.beq j 0) ((2, 0)) ((9, 0))) (cond (Nat.beq j 1) ((0, 0)) ((9, 0)))
def nKd_3 (j : Nat) : Nat × Nat := cond (Nat.blt j 4) (cond (Nat.blt j 2) (cond (Nat.blt j 1) (cond (Nat.beq j 0) ((2, 0)) ((9, 0))) (cond (Nat.beq j 1) ((3, 3)) ((9, 0)))) (cond (Nat.blt j 3) (cond (Nat.beq j 2) ((3, 4)) ((9, 0))) (cond (Nat.beq j 3) ((0, 0)) ((9, 0))))) (cond (Nat.blt j 6) (cond (Nat.blt j 5) (cond (Nat.beq j 4) ((0, 0)) ((9, 0))) (cond (Nat.beq j 5) ((0, 0)) ((9, 0)))) (cond (Nat.blt j 7) (cond (Nat.beq j 6) ((0, 0)) ((9, 0))) (cond (Nat.beq j 7) ((0, 0)) ((9, 0)))))
def nKd_4 (j : Nat) : Nat × Nat := cond (Nat.blt j 6) (cond (Nat.blt j 3) (cond (Nat.blt j 1) (cond (Nat.beq j 0) ((2, 0)) ((9, 0))) (cond (Nat.blt j 2) (cond (Nat.beq j 1) ((4, 21)) ((9, 0))) (cond (Nat.beq j 2) ((4, 21)) ((9, 0))))) (cond (Nat.blt j 4) (cond (Nat.beq j 3) ((0, 0)) ((9, 0))) (cond (Nat.blt j 5) (cond (Nat.beq j 4) ((1, 0)) ((9, 0))) (cond (Nat.beq j 5) ((3, 5)) ((9, 0)))))) (cond (Nat.blt j 9) (cond (Nat.blt j 7) (cond (Nat.beq j 6) ((3, 6)) ((9, 0))) (cond (Nat.blt j 8) (cond (Nat.beq j 7) ((0, 0)) ((9, 0))) (cond (Nat.beq j 8) ((0, 0)) ((9, 0))))) (cond (Nat.blt j 11) (cond (Nat.blt j 10) (cond (Nat.beq j 9) ((0, 0)) ((9, 0))) (cond (Nat.beq j 10) ((0, 0)) ((9, 0)))) (cond (Nat.blt j 12) (cond (Nat.beq j 11) ((0, 0)) ((9, 0))) (cond (Nat.beq j 12) ((0, 0)) ((9, 0))))))
def nKd_5 (j : Nat) : Nat × Nat := cond (Nat.blt j 1) (cond (Nat.beq j 0) ((2, 0)) ((9, 0))) (cond (Nat.blt j 2) (cond (Nat.beq j 1) ((4, 21)) ((9, 0))) (cond (Nat.beq j 2) ((3, 7)) ((9, 0))))
def nKd_6 (j : Nat) : Nat × Nat := cond (Nat.blt j 3) (cond (Nat.blt j 1) (cond (Nat.beq j 0) ((0, 0)) ((9, 0))) (cond (Nat.blt j 2) (cond (Nat.beq j 1) ((0, 0)) ((9, 0))) (cond (Nat.beq j 2) ((1, 0)) ((9, 0))))) (cond (Nat.blt j 4) (cond (Nat.beq j 3) ((0, 0)) ((9, 0))) (cond (Nat.blt j 5) (cond (Nat.beq j 4) ((1, 0)) ((9, 0))) (cond (Nat.beq j 5) ((5, 21)) ((9, 0)))))
def nKd_7 (j : Nat) : Nat × Nat := cond (Nat.blt j 9) (cond (Nat.blt j 4) (cond (Nat.blt j 2) (cond (Nat.blt j 1) (cond (Nat.beq j 0) ((2, 0)) ((9, 0))) (cond (Nat.beq j 1) ((4, 24)) ((9, 0)))) (cond (Nat.blt j 3) (cond (Nat.beq j 2) ((0, 0)) ((9, 0))) (cond (Nat.beq j 3) ((1, 0)) ((9, 0))))) (cond (Nat.blt j 6) (cond (Nat.blt j 5) (cond (Nat.beq j 4) ((0, 0)) ((9, 0))) (cond (Nat.beq j 5) ((3, 8)) ((9, 0)))) (cond (Nat.blt j 7) (cond (Nat.beq j 6) ((3, 9)) ((9, 0))) (cond (Nat.blt j 8) (cond (Nat.beq j 7) ((3, 10)) ((9, 0))) (cond (Nat.beq j 8) ((5, 22)) ((9, 0))))))) (cond (Nat.blt j 13) (cond (Nat.blt j 11) (cond (Nat.blt j 10) (cond (Nat.beq j 9) ((0, 0)) ((9, 0))) (cond (Nat.beq j 10) ((4, 24)) ((9, 0)))) (cond (Nat.blt j 12) (cond (Nat.beq j 11) ((5, 24)) ((9, 0))) (cond (Nat.beq j 12) ((0, 0)) ((9, 0))))) (cond (Nat.blt j 15) (cond (Nat.blt j 14) (cond (Nat.beq j 13) ((0, 0)) ((9, 0))) (cond (Nat.beq j 14) ((0, 0)) ((9, 0)))) (cond (Nat.blt j 16) (cond (Nat.beq j 15) ((0, 0)) ((9, 0))) (cond (Nat.blt j 17) (cond (Nat.beq j 16) ((1, 0)) ((9, 0))) (cond (Nat.beq j 17) ((1, 0)) ((9, 0)))))))
def nKd_8 (j : Nat) : Nat × Nat := cond (Nat.blt j 2) (cond (Nat.blt j 1) (cond (Nat.beq j 0) ((0, 0)) ((9, 0))) (cond (Nat.beq j 1) ((4, 21)) ((9, 0)))) (cond (Nat.blt j 3) (cond (Nat.beq j 2) ((0, 0)) ((9, 0))) (cond (Nat.beq j 3) ((0, 0)) ((9, 0))))
def nKd_9 (j : Nat) : Nat × Nat := cond (Nat.blt j 5) (cond (Nat.blt j 2) (cond (Nat.blt j 1) (cond (Nat.beq j 0) ((0, 0)) ((9, 0))) (cond (Nat.beq j 1) ((0, 0)) ((9, 0)))) (cond (Nat.blt j 3) (cond (Nat.beq j 2) ((0, 0)) ((9, 0))) (cond (Nat.blt j 4) (cond (Nat.beq j 3) ((5, 21)) ((9, 0))) (cond (Nat.beq j 4) ((6, 0)) ((9, 0)))))) (cond (Nat.blt j 7) (cond (Nat.blt j 6) (cond (Nat.beq j 5) ((5, 28)) ((9, 0))) (cond (Nat.beq j 6) ((0, 0)) ((9, 0)))) (cond (Nat.blt j 8) (cond (Nat.beq j 7) ((0, 0)) ((9, 0))) (cond (Nat.blt j 9) (cond (Nat.beq j 8) ((1, 0)) ((9, 0))) (cond (Nat.beq j 9) ((0, 0)) ((9, 0))))))
def nKd_10 (j : Nat) : Nat × Nat := cond (Nat.blt j 3) (cond (Nat.blt j 1) (cond (Nat.beq j 0) ((2, 0)) ((9, 0))) (cond (Nat.blt j 2) (cond (Nat.beq j 1) ((4, 21)) ((9, 0))) (cond (Nat.beq j 2) ((0, 0)) ((9, 0))))) (cond (Nat.blt j 5) (cond (Nat.blt j 4) (cond (Nat.beq j 3) ((0, 0)) ((9, 0))) (cond (Nat.beq j 4) ((3, 11)) ((9, 0)))) (cond (Nat.blt j 6) (cond (Nat.beq j 5) ((0, 0)) ((9, 0))) (cond (Nat.beq j 6) ((0, 0)) ((9, 0)))))
def nKd_11 (j : Nat) : Nat × Nat := cond (Nat.blt j 5) (cond (Nat.blt j 2) (cond (Nat.blt j 1) (cond (Nat.beq j 0) ((3, 12)) ((9, 0))) (cond (Nat.beq j 1) ((3, 13)) ((9, 0)))) (cond (Nat.blt j 3) (cond (Nat.beq j 2) ((3, 14)) ((9, 0))) (cond (Nat.blt j 4) (cond (Nat.beq j 3) ((3, 15)) ((9, 0))) (cond (Nat.beq j 4) ((3, 16)) ((9, 0)))))) (cond (Nat.blt j 7) (cond (Nat.blt j 6) (cond (Nat.beq j 5) ((3, 17)) ((9, 0))) (cond (Nat.beq j 6) ((3, 18)) ((9, 0)))) (cond (Nat.blt j 8) (cond (Nat.beq j 7) ((3, 19)) ((9, 0))) (cond (Nat.blt j 9) (cond (Nat.beq j 8) ((3, 20)) ((9, 0))) (cond (Nat.beq j 9) ((0, 0)) ((9, 0))))))
def nKd_12 (j : Nat) : Nat × Nat := cond (Nat.blt j 38) (cond (Nat.blt j 19) (cond (Nat.blt j 9) (cond (Nat.blt j 4) (cond (Nat.blt j 2) (cond (Nat.blt j 1) (cond (Nat.beq j 0) ((7, 0)) ((9, 0))) (cond (Nat.beq j 1) ((7, 0)) ((9, 0)))) (cond (Nat.blt j 3) (cond (Nat.beq j 2) ((3, 29)) ((9, 0))) (cond (Nat.beq j 3) ((3, 30)) ((9, 0))))) (cond (Nat.blt j 6) (cond (Nat.blt j 5) (cond (Nat.beq j 4) ((3, 31)) ((9, 0))) (cond (Nat.beq j 5) ((3, 32)) ((9, 0)))) (cond (Nat.blt j 7) (cond (Nat.beq j 6) ((3, 33)) ((9, 0))) (cond (Nat.blt j 8) (cond (Nat.beq j 7) ((3, 34)) ((9, 0))) (cond (Nat.beq j 8) ((7, 0)) ((9, 0))))))) (cond (Nat.blt j 14) (cond (Nat.blt j 11) (cond (Nat.blt j 10) (cond (Nat.beq j 9) ((3, 35)) ((9, 0))) (cond (Nat.beq j 10) ((3, 36)) ((9, 0)))) (cond (Nat.blt j 12) (cond (Nat.beq j 11) ((3, 37)) ((9, 0))) (cond (Nat.blt j 13) (cond (Nat.beq j 12) ((3, 38)) ((9, 0))) (cond (Nat.beq j 13) ((3, 39)) ((9, 0)))))) (cond (Nat.blt j 16) (cond (Nat.blt j 15) (cond (Nat.beq j 14) ((3, 40)) ((9, 0))) (cond (Nat.beq j 15) ((3, 41)) ((9, 0)))) (cond (Nat.blt j 17) (cond (Nat.beq j 16) ((3, 42)) ((9, 0))) (cond (Nat.blt j 18) (cond (Nat.beq j 17) ((3, 43)) ((9, 0))) (cond (Nat.beq j 18) ((3, 44)) ((9, 0)))))))) (cond (Nat.blt j 28) (cond (Nat.blt j 23) (cond (Nat.blt j 21) (cond (Nat.blt j 20) (cond (Nat.beq j 19) ((7, 0)) ((9, 0))) (cond (Nat.beq j 20) ((3, 45)) ((9, 0)))) (cond (Nat.blt j 22) (cond (Nat.beq j 21) ((3, 46)) ((9, 0))) (cond (Nat.beq j 22) ((3, 47)) ((9, 0))))) (cond (Nat.blt j 25) (cond (Nat.blt j 24) (cond (Nat.beq j 23) ((3, 48)) ((9, 0))) (cond (Nat.beq j 24) ((7, 0)) ((9, 0)))) (cond (Nat.blt j 26) (cond (Nat.beq j 25) ((3, 49)) ((9, 0))) (cond (Nat.blt j 27) (cond (Nat.beq j 26) ((3, 50)) ((9, 0))) (cond (Nat.beq j 27) ((3, 51)) ((9, 0))))))) (cond (Nat.blt j 33) (cond (Nat.blt j 30) (cond (Nat.blt j 29) (cond (Nat.beq j 28) ((3, 52)) ((9, 0))) (cond (Nat.beq j 29) ((3, 53)) ((9, 0)))) (cond (Nat.blt j 31) (cond (Nat.beq j 30) ((3, 54)) ((9, 0))) (cond (Nat.blt j 32) (cond (Nat.beq j 31) ((3, 55)) ((9, 0))) (cond (Nat.beq j 32) ((3, 56)) ((9, 0)))))) (cond (Nat.blt j 35) (cond (Nat.blt j 34) (cond (Nat.beq j 33) ((3, 57)) ((9, 0))) (cond (Nat.beq j 34) ((3, 58)) ((9, 0)))) (cond (Nat.blt j 36) (cond (Nat.beq j 35) ((3, 59)) ((9, 0))) (cond (Nat.blt j 37) (cond (Nat.beq j 36) ((3, 60)) ((9, 0))) (cond (Nat.beq j 37) ((3, 61)) ((9, 0))))))))) (cond (Nat.blt j 57) (cond (Nat.blt j 47) (cond (Nat.blt j 42) (cond (Nat.blt j 40) (cond (Nat.blt j 39) (cond (Nat.beq j 38) ((3, 62)) ((9, 0))) (cond (Nat.beq j 39) ((3, 63)) ((9, 0)))) (cond (Nat.blt j 41) (cond (Nat.beq j 40) ((3, 64)) ((9, 0))) (cond (Nat.beq j 41) ((3, 65)) ((9, 0))))) (cond (Nat.blt j 44) (cond (Nat.blt j 43) (cond (Nat.beq j 42) ((3, 66)) ((9, 0))) (cond (Nat.beq j 43) ((3, 67)) ((9, 0)))) (cond (Nat.blt j 45) (cond (Nat.beq j 44) ((3, 68)) ((9, 0))) (cond (Nat.blt j 46) (cond (Nat.beq j 45) ((3, 69)) ((9, 0))) (cond (Nat.beq j 46) ((3, 70)) ((9, 0))))))) (cond (Nat.blt j 52) (cond (Nat.blt j 49) (cond (Nat.blt j 48) (cond (Nat.beq j 47) ((3, 71)) ((9, 0))) (cond (Nat.beq j 48) ((3, 72)) ((9, 0)))) (cond (Nat.blt j 50) (cond (Nat.beq j 49) ((3, 73)) ((9, 0))) (cond (Nat.blt j 51) (cond (Nat.beq j 50) ((3, 74)) ((9, 0))) (cond (Nat.beq j 51) ((3, 75)) ((9, 0)))))) (cond (Nat.blt j 54) (cond (Nat.blt j 53) (cond (Nat.beq j 52) ((3, 76)) ((9, 0))) (cond (Nat.beq j 53) ((3, 77)) ((9, 0)))) (cond (Nat.blt j 55) (cond (Nat.beq j 54) ((3, 78)) ((9, 0))) (cond (Nat.blt j 56) (cond (Nat.beq j 55) ((7, 0)) ((9, 0))) (cond (Nat.beq j 56) ((3, 79)) ((9, 0)))))))) (cond (Nat.blt j 67) (cond (Nat.blt j 62) (cond (Nat.blt j 59) (cond (Nat.blt j 58) (cond (Nat.beq j 57) ((3, 80)) ((9, 0))) (cond (Nat.beq j 58) ((3, 81)) ((9, 0)))) (cond (Nat.blt j 60) (cond (Nat.beq j 59) ((3, 82)) ((9, 0))) (cond (Nat.blt j 61) (cond (Nat.beq j 60) ((3, 83)) ((9, 0))) (cond (Nat.beq j 61) ((3, 84)) ((9, 0)))))) (cond (Nat.blt j 64) (cond (Nat.blt j 63) (cond (Nat.beq j 62) ((3, 85)) ((9, 0))) (cond (Nat.beq j 63) ((3, 86)) ((9, 0)))) (cond (Nat.blt j 65) (cond (Nat.beq j 64) ((3, 87)) ((9, 0))) (cond (Nat.blt j 66) (cond (Nat.beq j 65) ((7, 0)) ((9, 0))) (cond (Nat.beq j 66) ((3, 88)) ((9, 0))))))) (cond (Nat.blt j 72) (cond (Nat.blt j 69) (cond (Nat.blt j 68) (cond (Nat.beq j 67) ((3, 89)) ((9, 0))) (cond (Nat.beq j 68) ((3, 90)) ((9, 0)))) (cond (Nat.blt j 70) (cond (Nat.beq j 69) ((7, 0)) ((9, 0))) (cond (Nat.blt j 71) (cond (Nat.beq j 70) ((3, 91)) ((9, 0))) (cond (Nat.beq j 71) ((3, 92)) ((9, 0)))))) (cond (Nat.blt j 74) (cond (Nat.blt j 73) (cond (Nat.beq j 72) ((3, 93)) ((9, 0))) (cond (Nat.beq j 73) ((3, 94)) ((9, 0)))) (cond (Nat.blt j 75) (cond (Nat.beq j 74) ((3, 95)) ((9, 0))) (cond (Nat.blt j 76) (cond (Nat.beq j 75) ((7, 0)) ((9, 0))) (cond (Nat.beq j 76) ((7, 0)) ((9, 0)))))))))
def nKd (c j : Nat) : Nat × Nat := cond (Nat.blt c 7) (cond (Nat.blt c 4) (cond (Nat.blt c 2) (cond (Nat.beq c 1) (nKd_1 j) ((9, 0))) (cond (Nat.blt c 3) (cond (Nat.beq c 2) (nKd_2 j) ((9, 0))) (cond (Nat.beq c 3) (nKd_3 j) ((9, 0))))) (cond (Nat.blt c 5) (cond (Nat.beq c 4) (nKd_4 j) ((9, 0))) (cond (Nat.blt c 6) (cond (Nat.beq c 5) (nKd_5 j) ((9, 0))) (cond (Nat.beq c 6) (nKd_6 j) ((9, 0)))))) (cond (Nat.blt c 10) (cond (Nat.blt c 8) (cond (Nat.beq c 7) (nKd_7 j) ((9, 0))) (cond (Nat.blt c 9) (cond (Nat.beq c 8) (nKd_8 j) ((9, 0))) (cond (Nat.beq c 9) (nKd_9 j) ((9, 0))))) (cond (Nat.blt c 11) (cond (Nat.beq c 10) (nKd_10 j) ((9, 0))) (cond (Nat.blt c 12) (cond (Nat.beq c 11) (nKd_11 j) ((9, 0))) (cond (Nat.beq c 12) (nKd_12 j) ((9, 0))))))
/-- arrays: how long -/
def nAl (t : Nat) : Nat := cond (Nat.blt t 60) (cond (Nat.blt t 42) (cond (Nat.blt t 33) (cond (Nat.blt t 13) (cond (Nat.blt t 7) (cond (Nat.blt t 4) (cond (Nat.beq t 2) (64) (0)) (cond (Nat.beq t 4) (10) (0))) (cond (Nat.blt t 12) (cond (Nat.beq t 7) (4) (0)) (cond (Nat.beq t 12) (5) (0)))) (cond (Nat.blt t 30) (cond (Nat.blt t 29) (cond (Nat.beq t 13) (4) (0)) (cond (Nat.beq t 29) (5) (0))) (cond (Nat.blt t 31) (cond (Nat.beq t 30) (5) (0)) (cond (Nat.blt t 32) (cond (Nat.beq t 31) (5) (0)) (cond (Nat.beq t 32) (5) (0)))))) (cond (Nat.blt t 37) (cond (Nat.blt t 35) (cond (Nat.blt t 34) (cond (Nat.beq t 33) (5) (0)) (cond (Nat.beq t 34) (50) (0))) (cond (Nat.blt t 36) (cond (Nat.beq t 35) (12) (0)) (cond (Nat.beq t 36) (12) (0)))) (cond (Nat.blt t 39) (cond (Nat.blt t 38) (cond (Nat.beq t 37) (12) (0)) (cond (Nat.beq t 38) (12) (0))) (cond (Nat.blt t 40) (cond (Nat.beq t 39) (12) (0)) (cond (Nat.blt t 41) (cond (Nat.beq t 40) (12) (0)) (cond (Nat.beq t 41) (12) (0))))))) (cond (Nat.blt t 51) (cond (Nat.blt t 46) (cond (Nat.blt t 44) (cond (Nat.blt t 43) (cond (Nat.beq t 42) (12) (0)) (cond (Nat.beq t 43) (12) (0))) (cond (Nat.blt t 45) (cond (Nat.beq t 44) (12) (0)) (cond (Nat.beq t 45) (20) (0)))) (cond (Nat.blt t 48) (cond (Nat.blt t 47) (cond (Nat.beq t 46) (20) (0)) (cond (Nat.beq t 47) (20) (0))) (cond (Nat.blt t 49) (cond (Nat.beq t 48) (20) (0)) (cond (Nat.blt t 50) (cond (Nat.beq t 49) (40) (0)) (cond (Nat.beq t 50) (40) (0)))))) (cond (Nat.blt t 55) (cond (Nat.blt t 53) (cond (Nat.blt t 52) (cond (Nat.beq t 51) (40) (0)) (cond (Nat.beq t 52) (40) (0))) (cond (Nat.blt t 54) (cond (Nat.beq t 53) (40) (0)) (cond (Nat.beq t 54) (40) (0)))) (cond (Nat.blt t 57) (cond (Nat.blt t 56) (cond (Nat.beq t 55) (40) (0)) (cond (Nat.beq t 56) (40) (0))) (cond (Nat.blt t 58) (cond (Nat.beq t 57) (40) (0)) (cond (Nat.blt t 59) (cond (Nat.beq t 58) (40) (0)) (cond (Nat.beq t 59) (40) (0)))))))) (cond (Nat.blt t 78) (cond (Nat.blt t 69) (cond (Nat.blt t 64) (cond (Nat.blt t 62) (cond (Nat.blt t 61) (cond (Nat.beq t 60) (40) (0)) (cond (Nat.beq t 61) (40) (0))) (cond (Nat.blt t 63) (cond (Nat.beq t 62) (40) (0)) (cond (Nat.beq t 63) (40) (0)))) (cond (Nat.blt t 66) (cond (Nat.blt t 65) (cond (Nat.beq t 64) (40) (0)) (cond (Nat.beq t 65) (40) (0))) (cond (Nat.blt t 67) (cond (Nat.beq t 66) (40) (0)) (cond (Nat.blt t 68) (cond (Nat.beq t 67) (40) (0)) (cond (Nat.beq t 68) (40) (0)))))) (cond (Nat.blt t 73) (cond (Nat.blt t 71) (cond (Nat.blt t 70) (cond (Nat.beq t 69) (40) (0)) (cond (Nat.beq t 70) (40) (0))) (cond (Nat.blt t 72) (cond (Nat.beq t 71) (40) (0)) (cond (Nat.beq t 72) (40) (0)))) (cond (Nat.blt t 75) (cond (Nat.blt t 74) (cond (Nat.beq t 73) (40) (0)) (cond (Nat.beq t 74) (40) (0))) (cond (Nat.blt t 76) (cond (Nat.beq t 75) (40) (0)) (cond (Nat.blt t 77) (cond (Nat.beq t 76) (40) (0)) (cond (Nat.beq t 77) (40) (0))))))) (cond (Nat.blt t 87) (cond (Nat.blt t 82) (cond (Nat.blt t 80) (cond (Nat.blt t 79) (cond (Nat.beq t 78) (40) (0)) (cond (Nat.beq t 79) (6) (0))) (cond (Nat.blt t 81) (cond (Nat.beq t 80) (6) (0)) (cond (Nat.beq t 81) (6) (0)))) (cond (Nat.blt t 84) (cond (Nat.blt t 83) (cond (Nat.beq t 82) (6) (0)) (cond (Nat.beq t 83) (6) (0))) (cond (Nat.blt t 85) (cond (Nat.beq t 84) (6) (0)) (cond (Nat.blt t 86) (cond (Nat.beq t 85) (180) (0)) (cond (Nat.beq t 86) (180) (0)))))) (cond (Nat.blt t 91) (cond (Nat.blt t 89) (cond (Nat.blt t 88) (cond (Nat.beq t 87) (180) (0)) (cond (Nat.beq t 88) (5) (0))) (cond (Nat.blt t 90) (cond (Nat.beq t 89) (20) (0)) (cond (Nat.beq t 90) (4) (0)))) (cond (Nat.blt t 93) (cond (Nat.blt t 92) (cond (Nat.beq t 91) (400) (0)) (cond (Nat.beq t 92) (400) (0))) (cond (Nat.blt t 94) (cond (Nat.beq t 93) (400) (0)) (cond (Nat.blt t 95) (cond (Nat.beq t 94) (400) (0)) (cond (Nat.beq t 95) (40) (0))))))))
/-- of what: 0 ints, 6 ints of the reference, 1 booleans of the reference, 2 longs, 4 objects of the same numbers, 5 lanes or null, 9 no array -/
def nAt (t : Nat) : Nat := cond (Nat.blt t 60) (cond (Nat.blt t 42) (cond (Nat.blt t 33) (cond (Nat.blt t 13) (cond (Nat.blt t 7) (cond (Nat.blt t 4) (cond (Nat.beq t 2) (6) (9)) (cond (Nat.beq t 4) (5) (9))) (cond (Nat.blt t 12) (cond (Nat.beq t 7) (0) (9)) (cond (Nat.beq t 12) (4) (9)))) (cond (Nat.blt t 30) (cond (Nat.blt t 29) (cond (Nat.beq t 13) (4) (9)) (cond (Nat.beq t 29) (6) (9))) (cond (Nat.blt t 31) (cond (Nat.beq t 30) (6) (9)) (cond (Nat.blt t 32) (cond (Nat.beq t 31) (6) (9)) (cond (Nat.beq t 32) (6) (9)))))) (cond (Nat.blt t 37) (cond (Nat.blt t 35) (cond (Nat.blt t 34) (cond (Nat.beq t 33) (6) (9)) (cond (Nat.beq t 34) (6) (9))) (cond (Nat.blt t 36) (cond (Nat.beq t 35) (6) (9)) (cond (Nat.beq t 36) (6) (9)))) (cond (Nat.blt t 39) (cond (Nat.blt t 38) (cond (Nat.beq t 37) (6) (9)) (cond (Nat.beq t 38) (1) (9))) (cond (Nat.blt t 40) (cond (Nat.beq t 39) (6) (9)) (cond (Nat.blt t 41) (cond (Nat.beq t 40) (6) (9)) (cond (Nat.beq t 41) (6) (9))))))) (cond (Nat.blt t 51) (cond (Nat.blt t 46) (cond (Nat.blt t 44) (cond (Nat.blt t 43) (cond (Nat.beq t 42) (6) (9)) (cond (Nat.beq t 43) (6) (9))) (cond (Nat.blt t 45) (cond (Nat.beq t 44) (6) (9)) (cond (Nat.beq t 45) (6) (9)))) (cond (Nat.blt t 48) (cond (Nat.blt t 47) (cond (Nat.beq t 46) (6) (9)) (cond (Nat.beq t 47) (6) (9))) (cond (Nat.blt t 49) (cond (Nat.beq t 48) (6) (9)) (cond (Nat.blt t 50) (cond (Nat.beq t 49) (6) (9)) (cond (Nat.beq t 50) (6) (9)))))) (cond (Nat.blt t 55) (cond (Nat.blt t 53) (cond (Nat.blt t 52) (cond (Nat.beq t 51) (6) (9)) (cond (Nat.beq t 52) (6) (9))) (cond (Nat.blt t 54) (cond (Nat.beq t 53) (6) (9)) (cond (Nat.beq t 54) (1) (9)))) (cond (Nat.blt t 57) (cond (Nat.blt t 56) (cond (Nat.beq t 55) (6) (9)) (cond (Nat.beq t 56) (6) (9))) (cond (Nat.blt t 58) (cond (Nat.beq t 57) (6) (9)) (cond (Nat.blt t 59) (cond (Nat.beq t 58) (6) (9)) (cond (Nat.beq t 59) (6) (9)))))))) (cond (Nat.blt t 78) (cond (Nat.blt t 69) (cond (Nat.blt t 64) (cond (Nat.blt t 62) (cond (Nat.blt t 61) (cond (Nat.beq t 60) (6) (9)) (cond (Nat.beq t 61) (6) (9))) (cond (Nat.blt t 63) (cond (Nat.beq t 62) (1) (9)) (cond (Nat.beq t 63) (1) (9)))) (cond (Nat.blt t 66) (cond (Nat.blt t 65) (cond (Nat.beq t 64) (1) (9)) (cond (Nat.beq t 65) (6) (9))) (cond (Nat.blt t 67) (cond (Nat.beq t 66) (6) (9)) (cond (Nat.blt t 68) (cond (Nat.beq t 67) (6) (9)) (cond (Nat.beq t 68) (6) (9)))))) (cond (Nat.blt t 73) (cond (Nat.blt t 71) (cond (Nat.blt t 70) (cond (Nat.beq t 69) (6) (9)) (cond (Nat.beq t 70) (6) (9))) (cond (Nat.blt t 72) (cond (Nat.beq t 71) (6) (9)) (cond (Nat.beq t 72) (6) (9)))) (cond (Nat.blt t 75) (cond (Nat.blt t 74) (cond (Nat.beq t 73) (1) (9)) (cond (Nat.beq t 74) (6) (9))) (cond (Nat.blt t 76) (cond (Nat.beq t 75) (6) (9)) (cond (Nat.blt t 77) (cond (Nat.beq t 76) (6) (9)) (cond (Nat.beq t 77) (1) (9))))))) (cond (Nat.blt t 87) (cond (Nat.blt t 82) (cond (Nat.blt t 80) (cond (Nat.blt t 79) (cond (Nat.beq t 78) (6) (9)) (cond (Nat.beq t 79) (6) (9))) (cond (Nat.blt t 81) (cond (Nat.beq t 80) (6) (9)) (cond (Nat.beq t 81) (6) (9)))) (cond (Nat.blt t 84) (cond (Nat.blt t 83) (cond (Nat.beq t 82) (6) (9)) (cond (Nat.beq t 83) (6) (9))) (cond (Nat.blt t 85) (cond (Nat.beq t 84) (6) (9)) (cond (Nat.blt t 86) (cond (Nat.beq t 85) (6) (9)) (cond (Nat.beq t 86) (6) (9)))))) (cond (Nat.blt t 91) (cond (Nat.blt t 89) (cond (Nat.blt t 88) (cond (Nat.beq t 87) (1) (9)) (cond (Nat.beq t 88) (6) (9))) (cond (Nat.blt t 90) (cond (Nat.beq t 89) (6) (9)) (cond (Nat.beq t 90) (6) (9)))) (cond (Nat.blt t 93) (cond (Nat.blt t 92) (cond (Nat.beq t 91) (6) (9)) (cond (Nat.beq t 92) (6) (9))) (cond (Nat.blt t 94) (cond (Nat.beq t 93) (6) (9)) (cond (Nat.blt t 95) (cond (Nat.beq t 94) (6) (9)) (cond (Nat.beq t 95) (1) (9))))))))
/-- lists: the tag of what they hold; 0: no list -/
def nLt (t : Nat) : Nat := cond (Nat.blt t 15) (cond (Nat.blt t 10) (cond (Nat.blt t 5) (cond (Nat.beq t 3) (26) (0)) (cond (Nat.blt t 6) (cond (Nat.beq t 5) (26) (0)) (cond (Nat.beq t 6) (26) (0)))) (cond (Nat.blt t 11) (cond (Nat.beq t 10) (25) (0)) (cond (Nat.blt t 14) (cond (Nat.beq t 11) (26) (0)) (cond (Nat.beq t 14) (23) (0))))) (cond (Nat.blt t 18) (cond (Nat.blt t 16) (cond (Nat.beq t 15) (24) (0)) (cond (Nat.blt t 17) (cond (Nat.beq t 16) (26) (0)) (cond (Nat.beq t 17) (27) (0)))) (cond (Nat.blt t 19) (cond (Nat.beq t 18) (28) (0)) (cond (Nat.blt t 20) (cond (Nat.beq t 19) (25) (0)) (cond (Nat.beq t 20) (26) (0)))))
/-- which count a tag goes by: a tag, or 100 + how many there are -/
def nGp (t : Nat) : Nat := cond (Nat.blt t 48) (cond (Nat.blt t 24) (cond (Nat.blt t 12) (cond (Nat.blt t 6) (cond (Nat.blt t 3) (cond (Nat.blt t 1) (cond (Nat.beq t 0) (101) (100)) (cond (Nat.blt t 2) (cond (Nat.beq t 1) (100) (100)) (cond (Nat.beq t 2) (101) (100)))) (cond (Nat.blt t 4) (cond (Nat.beq t 3) (105) (100)) (cond (Nat.blt t 5) (cond (Nat.beq t 4) (105) (100)) (cond (Nat.beq t 5) (23) (100))))) (cond (Nat.blt t 9) (cond (Nat.blt t 7) (cond (Nat.beq t 6) (23) (100)) (cond (Nat.blt t 8) (cond (Nat.beq t 7) (28) (100)) (cond (Nat.beq t 8) (26) (100)))) (cond (Nat.blt t 10) (cond (Nat.beq t 9) (26) (100)) (cond (Nat.blt t 11) (cond (Nat.beq t 10) (26) (100)) (cond (Nat.beq t 11) (27) (100)))))) (cond (Nat.blt t 18) (cond (Nat.blt t 15) (cond (Nat.blt t 13) (cond (Nat.beq t 12) (101) (100)) (cond (Nat.blt t 14) (cond (Nat.beq t 13) (101) (100)) (cond (Nat.beq t 14) (101) (100)))) (cond (Nat.blt t 16) (cond (Nat.beq t 15) (101) (100)) (cond (Nat.blt t 17) (cond (Nat.beq t 16) (101) (100)) (cond (Nat.beq t 17) (101) (100))))) (cond (Nat.blt t 21) (cond (Nat.blt t 19) (cond (Nat.beq t 18) (101) (100)) (cond (Nat.blt t 20) (cond (Nat.beq t 19) (101) (100)) (cond (Nat.beq t 20) (101) (100)))) (cond (Nat.blt t 22) (cond (Nat.beq t 21) (105) (100)) (cond (Nat.blt t 23) (cond (Nat.beq t 22) (104) (100)) (cond (Nat.beq t 23) (23) (100))))))) (cond (Nat.blt t 36) (cond (Nat.blt t 30) (cond (Nat.blt t 27) (cond (Nat.blt t 25) (cond (Nat.beq t 24) (24) (100)) (cond (Nat.blt t 26) (cond (Nat.beq t 25) (25) (100)) (cond (Nat.beq t 26) (26) (100)))) (cond (Nat.blt t 28) (cond (Nat.beq t 27) (27) (100)) (cond (Nat.blt t 29) (cond (Nat.beq t 28) (28) (100)) (cond (Nat.beq t 29) (101) (100))))) (cond (Nat.blt t 33) (cond (Nat.blt t 31) (cond (Nat.beq t 30) (100) (100)) (cond (Nat.blt t 32) (cond (Nat.beq t 31) (100) (100)) (cond (Nat.beq t 32) (100) (100)))) (cond (Nat.blt t 34) (cond (Nat.beq t 33) (100) (100)) (cond (Nat.blt t 35) (cond (Nat.beq t 34) (100) (100)) (cond (Nat.beq t 35) (101) (100)))))) (cond (Nat.blt t 42) (cond (Nat.blt t 39) (cond (Nat.blt t 37) (cond (Nat.beq t 36) (100) (100)) (cond (Nat.blt t 38) (cond (Nat.beq t 37) (100) (100)) (cond (Nat.beq t 38) (100) (100)))) (cond (Nat.blt t 40) (cond (Nat.beq t 39) (100) (100)) (cond (Nat.blt t 41) (cond (Nat.beq t 40) (100) (100)) (cond (Nat.beq t 41) (100) (100))))) (cond (Nat.blt t 45) (cond (Nat.blt t 43) (cond (Nat.beq t 42) (100) (100)) (cond (Nat.blt t 44) (cond (Nat.beq t 43) (100) (100)) (cond (Nat.beq t 44) (100) (100)))) (cond (Nat.blt t 46) (cond (Nat.beq t 45) (101) (100)) (cond (Nat.blt t 47) (cond (Nat.beq t 46) (100) (100)) (cond (Nat.beq t 47) (100) (100)))))))) (cond (Nat.blt t 72) (cond (Nat.blt t 60) (cond (Nat.blt t 54) (cond (Nat.blt t 51) (cond (Nat.blt t 49) (cond (Nat.beq t 48) (100) (100)) (cond (Nat.blt t 50) (cond (Nat.beq t 49) (100) (100)) (cond (Nat.beq t 50) (100) (100)))) (cond (Nat.blt t 52) (cond (Nat.beq t 51) (100) (100)) (cond (Nat.blt t 53) (cond (Nat.beq t 52) (100) (100)) (cond (Nat.beq t 53) (100) (100))))) (cond (Nat.blt t 57) (cond (Nat.blt t 55) (cond (Nat.beq t 54) (100) (100)) (cond (Nat.blt t 56) (cond (Nat.beq t 55) (100) (100)) (cond (Nat.beq t 56) (100) (100)))) (cond (Nat.blt t 58) (cond (Nat.beq t 57) (100) (100)) (cond (Nat.blt t 59) (cond (Nat.beq t 58) (100) (100)) (cond (Nat.beq t 59) (100) (100)))))) (cond (Nat.blt t 66) (cond (Nat.blt t 63) (cond (Nat.blt t 61) (cond (Nat.beq t 60) (100) (100)) (cond (Nat.blt t 62) (cond (Nat.beq t 61) (100) (100)) (cond (Nat.beq t 62) (100) (100)))) (cond (Nat.blt t 64) (cond (Nat.beq t 63) (100) (100)) (cond (Nat.blt t 65) (cond (Nat.beq t 64) (100) (100)) (cond (Nat.beq t 65) (100) (100))))) (cond (Nat.blt t 69) (cond (Nat.blt t 67) (cond (Nat.beq t 66) (100) (100)) (cond (Nat.blt t 68) (cond (Nat.beq t 67) (100) (100)) (cond (Nat.beq t 68) (100) (100)))) (cond (Nat.blt t 70) (cond (Nat.beq t 69) (100) (100)) (cond (Nat.blt t 71) (cond (Nat.beq t 70) (100) (100)) (cond (Nat.beq t 71) (100) (100))))))) (cond (Nat.blt t 84) (cond (Nat.blt t 78) (cond (Nat.blt t 75) (cond (Nat.blt t 73) (cond (Nat.beq t 72) (100) (100)) (cond (Nat.blt t 74) (cond (Nat.beq t 73) (100) (100)) (cond (Nat.beq t 74) (100) (100)))) (cond (Nat.blt t 76) (cond (Nat.beq t 75) (100) (100)) (cond (Nat.blt t 77) (cond (Nat.beq t 76) (100) (100)) (cond (Nat.beq t 77) (100) (100))))) (cond (Nat.blt t 81) (cond (Nat.blt t 79) (cond (Nat.beq t 78) (100) (100)) (cond (Nat.blt t 80) (cond (Nat.beq t 79) (101) (100)) (cond (Nat.beq t 80) (101) (100)))) (cond (Nat.blt t 82) (cond (Nat.beq t 81) (100) (100)) (cond (Nat.blt t 83) (cond (Nat.beq t 82) (100) (100)) (cond (Nat.beq t 83) (100) (100)))))) (cond (Nat.blt t 90) (cond (Nat.blt t 87) (cond (Nat.blt t 85) (cond (Nat.beq t 84) (100) (100)) (cond (Nat.blt t 86) (cond (Nat.beq t 85) (100) (100)) (cond (Nat.beq t 86) (100) (100)))) (cond (Nat.blt t 88) (cond (Nat.beq t 87) (100) (100)) (cond (Nat.blt t 89) (cond (Nat.beq t 88) (100) (100)) (cond (Nat.beq t 89) (100) (100))))) (cond (Nat.blt t 93) (cond (Nat.blt t 91) (cond (Nat.beq t 90) (100) (100)) (cond (Nat.blt t 92) (cond (Nat.beq t 91) (100) (100)) (cond (Nat.beq t 92) (100) (100)))) (cond (Nat.blt t 95) (cond (Nat.blt t 94) (cond (Nat.beq t 93) (100) (100)) (cond (Nat.beq t 94) (100) (100))) (cond (Nat.blt t 96) (cond (Nat.beq t 95) (100) (100)) (cond (Nat.beq t 96) (100) (100))))))))
/-- how many fields; their kinds for the first machine -/
def nFl (c : Nat) : Nat := cond (Nat.blt c 7) (cond (Nat.blt c 4) (cond (Nat.blt c 2) (cond (Nat.beq c 1) (4) (0)) (cond (Nat.blt c 3) (cond (Nat.beq c 2) (2) (0)) (cond (Nat.beq c 3) (8) (0)))) (cond (Nat.blt c 5) (cond (Nat.beq c 4) (13) (0)) (cond (Nat.blt c 6) (cond (Nat.beq c 5) (3) (0)) (cond (Nat.beq c 6) (6) (0))))) (cond (Nat.blt c 10) (cond (Nat.blt c 8) (cond (Nat.beq c 7) (18) (0)) (cond (Nat.blt c 9) (cond (Nat.beq c 8) (4) (0)) (cond (Nat.beq c 9) (10) (0)))) (cond (Nat.blt c 11) (cond (Nat.beq c 10) (7) (0)) (cond (Nat.blt c 12) (cond (Nat.beq c 11) (10) (0)) (cond (Nat.beq c 12) (77) (0)))))
def nFk (c j : Nat) : Nat := cond (Nat.beq (nKd c j).1 0 || Nat.beq (nKd c j).1 2 || Nat.beq (nKd c j).1 7) 0 (cond (Nat.beq (nKd c j).1 1) 1 2)
/-- nulls: of which tag; 200: a list -/
def nNt (y pc : Nat) : Nat := cond (Nat.blt y 119) (cond (Nat.blt y 88) (cond (Nat.blt y 58) (cond (Nat.blt y 57) (cond (Nat.beq y 46) (cond (Nat.beq pc 31) (23) (99)) (99)) (cond (Nat.beq y 57) (cond (Nat.beq pc 86) (28) (99)) (99))) (cond (Nat.blt y 71) (cond (Nat.beq y 58) (cond (Nat.beq pc 10) (200) (99)) (99)) (cond (Nat.blt y 72) (cond (Nat.beq y 71) (cond (Nat.beq pc 1) (24) (99)) (99)) (cond (Nat.beq y 72) (cond (Nat.beq pc 10) (25) (99)) (99))))) (cond (Nat.blt y 112) (cond (Nat.blt y 104) (cond (Nat.beq y 88) (cond (Nat.beq pc 20) (23) (99)) (99)) (cond (Nat.beq y 104) (cond (Nat.beq pc 8) (200) (99)) (99))) (cond (Nat.blt y 115) (cond (Nat.beq y 112) (cond (Nat.beq pc 7) (200) (99)) (99)) (cond (Nat.blt y 117) (cond (Nat.beq y 115) (cond (Nat.beq pc 47) (21) (99)) (99)) (cond (Nat.beq y 117) (cond (Nat.blt pc 5) (cond (Nat.beq pc 4) (21) (99)) (cond (Nat.beq pc 5) (200) (99))) (99)))))) (cond (Nat.blt y 128) (cond (Nat.blt y 122) (cond (Nat.blt y 120) (cond (Nat.beq y 119) (cond (Nat.beq pc 54) (28) (99)) (99)) (cond (Nat.beq y 120) (cond (Nat.blt pc 112) (cond (Nat.beq pc 47) (28) (99)) (cond (Nat.blt pc 113) (cond (Nat.beq pc 112) (21) (99)) (cond (Nat.beq pc 113) (200) (99)))) (99))) (cond (Nat.blt y 123) (cond (Nat.beq y 122) (cond (Nat.beq pc 0) (26) (99)) (99)) (cond (Nat.blt y 125) (cond (Nat.beq y 123) (cond (Nat.blt pc 61) (cond (Nat.beq pc 60) (21) (99)) (cond (Nat.beq pc 61) (200) (99))) (99)) (cond (Nat.beq y 125) (cond (Nat.beq pc 39) (21) (99)) (99))))) (cond (Nat.blt y 136) (cond (Nat.blt y 133) (cond (Nat.beq y 128) (cond (Nat.beq pc 48) (24) (99)) (99)) (cond (Nat.beq y 133) (cond (Nat.blt pc 45) (cond (Nat.beq pc 44) (21) (99)) (cond (Nat.beq pc 45) (200) (99))) (99))) (cond (Nat.blt y 159) (cond (Nat.beq y 136) (cond (Nat.beq pc 59) (26) (99)) (99)) (cond (Nat.blt y 166) (cond (Nat.beq y 159) (cond (Nat.beq pc 18) (21) (99)) (99)) (cond (Nat.beq y 166) (cond (Nat.beq pc 29) (23) (99)) (99))))))
/-- answers: 0 none, 1 int, 100 + tag -/
def nRt (y : Nat) : Nat := cond (Nat.blt y 141) (cond (Nat.blt y 70) (cond (Nat.blt y 35) (cond (Nat.blt y 17) (cond (Nat.blt y 8) (cond (Nat.blt y 4) (cond (Nat.blt y 2) (cond (Nat.blt y 1) (cond (Nat.beq y 0) (1) (0)) (cond (Nat.beq y 1) (1) (0))) (cond (Nat.blt y 3) (cond (Nat.beq y 2) (1) (0)) (cond (Nat.beq y 3) (1) (0)))) (cond (Nat.blt y 6) (cond (Nat.blt y 5) (cond (Nat.beq y 4) (1) (0)) (cond (Nat.beq y 5) (1) (0))) (cond (Nat.blt y 7) (cond (Nat.beq y 6) (1) (0)) (cond (Nat.beq y 7) (1) (0))))) (cond (Nat.blt y 12) (cond (Nat.blt y 10) (cond (Nat.blt y 9) (cond (Nat.beq y 8) (1) (0)) (cond (Nat.beq y 9) (1) (0))) (cond (Nat.blt y 11) (cond (Nat.beq y 10) (1) (0)) (cond (Nat.beq y 11) (1) (0)))) (cond (Nat.blt y 14) (cond (Nat.blt y 13) (cond (Nat.beq y 12) (1) (0)) (cond (Nat.beq y 13) (1) (0))) (cond (Nat.blt y 15) (cond (Nat.beq y 14) (1) (0)) (cond (Nat.blt y 16) (cond (Nat.beq y 15) (1) (0)) (cond (Nat.beq y 16) (1) (0))))))) (cond (Nat.blt y 26) (cond (Nat.blt y 21) (cond (Nat.blt y 19) (cond (Nat.blt y 18) (cond (Nat.beq y 17) (1) (0)) (cond (Nat.beq y 18) (1) (0))) (cond (Nat.blt y 20) (cond (Nat.beq y 19) (1) (0)) (cond (Nat.beq y 20) (1) (0)))) (cond (Nat.blt y 23) (cond (Nat.blt y 22) (cond (Nat.beq y 21) (1) (0)) (cond (Nat.beq y 22) (1) (0))) (cond (Nat.blt y 24) (cond (Nat.beq y 23) (1) (0)) (cond (Nat.blt y 25) (cond (Nat.beq y 24) (1) (0)) (cond (Nat.beq y 25) (1) (0)))))) (cond (Nat.blt y 30) (cond (Nat.blt y 28) (cond (Nat.blt y 27) (cond (Nat.beq y 26) (1) (0)) (cond (Nat.beq y 27) (1) (0))) (cond (Nat.blt y 29) (cond (Nat.beq y 28) (1) (0)) (cond (Nat.beq y 29) (1) (0)))) (cond (Nat.blt y 32) (cond (Nat.blt y 31) (cond (Nat.beq y 30) (1) (0)) (cond (Nat.beq y 31) (1) (0))) (cond (Nat.blt y 33) (cond (Nat.beq y 32) (1) (0)) (cond (Nat.blt y 34) (cond (Nat.beq y 33) (1) (0)) (cond (Nat.beq y 34) (1) (0)))))))) (cond (Nat.blt y 52) (cond (Nat.blt y 43) (cond (Nat.blt y 39) (cond (Nat.blt y 37) (cond (Nat.blt y 36) (cond (Nat.beq y 35) (1) (0)) (cond (Nat.beq y 36) (1) (0))) (cond (Nat.blt y 38) (cond (Nat.beq y 37) (1) (0)) (cond (Nat.beq y 38) (1) (0)))) (cond (Nat.blt y 41) (cond (Nat.blt y 40) (cond (Nat.beq y 39) (1) (0)) (cond (Nat.beq y 40) (1) (0))) (cond (Nat.blt y 42) (cond (Nat.beq y 41) (1) (0)) (cond (Nat.beq y 42) (0) (0))))) (cond (Nat.blt y 47) (cond (Nat.blt y 45) (cond (Nat.blt y 44) (cond (Nat.beq y 43) (0) (0)) (cond (Nat.beq y 44) (0) (0))) (cond (Nat.blt y 46) (cond (Nat.beq y 45) (1) (0)) (cond (Nat.beq y 46) (123) (0)))) (cond (Nat.blt y 49) (cond (Nat.blt y 48) (cond (Nat.beq y 47) (0) (0)) (cond (Nat.beq y 48) (0) (0))) (cond (Nat.blt y 50) (cond (Nat.beq y 49) (1) (0)) (cond (Nat.blt y 51) (cond (Nat.beq y 50) (1) (0)) (cond (Nat.beq y 51) (1) (0))))))) (cond (Nat.blt y 61) (cond (Nat.blt y 56) (cond (Nat.blt y 54) (cond (Nat.blt y 53) (cond (Nat.beq y 52) (0) (0)) (cond (Nat.beq y 53) (1) (0))) (cond (Nat.blt y 55) (cond (Nat.beq y 54) (0) (0)) (cond (Nat.beq y 55) (1) (0)))) (cond (Nat.blt y 58) (cond (Nat.blt y 57) (cond (Nat.beq y 56) (1) (0)) (cond (Nat.beq y 57) (0) (0))) (cond (Nat.blt y 59) (cond (Nat.beq y 58) (0) (0)) (cond (Nat.blt y 60) (cond (Nat.beq y 59) (0) (0)) (cond (Nat.beq y 60) (1) (0)))))) (cond (Nat.blt y 65) (cond (Nat.blt y 63) (cond (Nat.blt y 62) (cond (Nat.beq y 61) (0) (0)) (cond (Nat.beq y 62) (0) (0))) (cond (Nat.blt y 64) (cond (Nat.beq y 63) (124) (0)) (cond (Nat.beq y 64) (121) (0)))) (cond (Nat.blt y 67) (cond (Nat.blt y 66) (cond (Nat.beq y 65) (1) (0)) (cond (Nat.beq y 66) (1) (0))) (cond (Nat.blt y 68) (cond (Nat.beq y 67) (1) (0)) (cond (Nat.blt y 69) (cond (Nat.beq y 68) (1) (0)) (cond (Nat.beq y 69) (1) (0))))))))) (cond (Nat.blt y 105) (cond (Nat.blt y 87) (cond (Nat.blt y 78) (cond (Nat.blt y 74) (cond (Nat.blt y 72) (cond (Nat.blt y 71) (cond (Nat.beq y 70) (1) (0)) (cond (Nat.beq y 71) (0) (0))) (cond (Nat.blt y 73) (cond (Nat.beq y 72) (125) (0)) (cond (Nat.beq y 73) (0) (0)))) (cond (Nat.blt y 76) (cond (Nat.blt y 75) (cond (Nat.beq y 74) (1) (0)) (cond (Nat.beq y 75) (0) (0))) (cond (Nat.blt y 77) (cond (Nat.beq y 76) (0) (0)) (cond (Nat.beq y 77) (0) (0))))) (cond (Nat.blt y 82) (cond (Nat.blt y 80) (cond (Nat.blt y 79) (cond (Nat.beq y 78) (121) (0)) (cond (Nat.beq y 79) (1) (0))) (cond (Nat.blt y 81) (cond (Nat.beq y 80) (0) (0)) (cond (Nat.beq y 81) (1) (0)))) (cond (Nat.blt y 84) (cond (Nat.blt y 83) (cond (Nat.beq y 82) (1) (0)) (cond (Nat.beq y 83) (1) (0))) (cond (Nat.blt y 85) (cond (Nat.beq y 84) (0) (0)) (cond (Nat.blt y 86) (cond (Nat.beq y 85) (1) (0)) (cond (Nat.beq y 86) (123) (0))))))) (cond (Nat.blt y 96) (cond (Nat.blt y 91) (cond (Nat.blt y 89) (cond (Nat.blt y 88) (cond (Nat.beq y 87) (1) (0)) (cond (Nat.beq y 88) (1) (0))) (cond (Nat.blt y 90) (cond (Nat.beq y 89) (1) (0)) (cond (Nat.beq y 90) (124) (0)))) (cond (Nat.blt y 93) (cond (Nat.blt y 92) (cond (Nat.beq y 91) (1) (0)) (cond (Nat.beq y 92) (122) (0))) (cond (Nat.blt y 94) (cond (Nat.beq y 93) (1) (0)) (cond (Nat.blt y 95) (cond (Nat.beq y 94) (0) (0)) (cond (Nat.beq y 95) (0) (0)))))) (cond (Nat.blt y 100) (cond (Nat.blt y 98) (cond (Nat.blt y 97) (cond (Nat.beq y 96) (1) (0)) (cond (Nat.beq y 97) (126) (0))) (cond (Nat.blt y 99) (cond (Nat.beq y 98) (1) (0)) (cond (Nat.beq y 99) (1) (0)))) (cond (Nat.blt y 102) (cond (Nat.blt y 101) (cond (Nat.beq y 100) (1) (0)) (cond (Nat.beq y 101) (1) (0))) (cond (Nat.blt y 103) (cond (Nat.beq y 102) (1) (0)) (cond (Nat.blt y 104) (cond (Nat.beq y 103) (1) (0)) (cond (Nat.beq y 104) (0) (0)))))))) (cond (Nat.blt y 123) (cond (Nat.blt y 114) (cond (Nat.blt y 109) (cond (Nat.blt y 107) (cond (Nat.blt y 106) (cond (Nat.beq y 105) (0) (0)) (cond (Nat.beq y 106) (0) (0))) (cond (Nat.blt y 108) (cond (Nat.beq y 107) (0) (0)) (cond (Nat.beq y 108) (0) (0)))) (cond (Nat.blt y 111) (cond (Nat.blt y 110) (cond (Nat.beq y 109) (0) (0)) (cond (Nat.beq y 110) (0) (0))) (cond (Nat.blt y 112) (cond (Nat.beq y 111) (1) (0)) (cond (Nat.blt y 113) (cond (Nat.beq y 112) (0) (0)) (cond (Nat.beq y 113) (0) (0)))))) (cond (Nat.blt y 118) (cond (Nat.blt y 116) (cond (Nat.blt y 115) (cond (Nat.beq y 114) (0) (0)) (cond (Nat.beq y 115) (0) (0))) (cond (Nat.blt y 117) (cond (Nat.beq y 116) (0) (0)) (cond (Nat.beq y 117) (0) (0)))) (cond (Nat.blt y 120) (cond (Nat.blt y 119) (cond (Nat.beq y 118) (1) (0)) (cond (Nat.beq y 119) (128) (0))) (cond (Nat.blt y 121) (cond (Nat.beq y 120) (0) (0)) (cond (Nat.blt y 122) (cond (Nat.beq y 121) (0) (0)) (cond (Nat.beq y 122) (126) (0))))))) (cond (Nat.blt y 132) (cond (Nat.blt y 127) (cond (Nat.blt y 125) (cond (Nat.blt y 124) (cond (Nat.beq y 123) (0) (0)) (cond (Nat.beq y 124) (1) (0))) (cond (Nat.blt y 126) (cond (Nat.beq y 125) (0) (0)) (cond (Nat.beq y 126) (1) (0)))) (cond (Nat.blt y 129) (cond (Nat.blt y 128) (cond (Nat.beq y 127) (0) (0)) (cond (Nat.beq y 128) (1) (0))) (cond (Nat.blt y 130) (cond (Nat.beq y 129) (1) (0)) (cond (Nat.blt y 131) (cond (Nat.beq y 130) (0) (0)) (cond (Nat.beq y 131) (1) (0)))))) (cond (Nat.blt y 136) (cond (Nat.blt y 134) (cond (Nat.blt y 133) (cond (Nat.beq y 132) (1) (0)) (cond (Nat.beq y 133) (1) (0))) (cond (Nat.blt y 135) (cond (Nat.beq y 134) (1) (0)) (cond (Nat.beq y 135) (128) (0)))) (cond (Nat.blt y 138) (cond (Nat.blt y 137) (cond (Nat.beq y 136) (126) (0)) (cond (Nat.beq y 137) (1) (0))) (cond (Nat.blt y 139) (cond (Nat.beq y 138) (1) (0)) (cond (Nat.blt y 140) (cond (Nat.beq y 139) (1) (0)) (cond (Nat.beq y 140) (1) (0)))))))))) (cond (Nat.blt y 212) (cond (Nat.blt y 176) (cond (Nat.blt y 158) (cond (Nat.blt y 149) (cond (Nat.blt y 145) (cond (Nat.blt y 143) (cond (Nat.blt y 142) (cond (Nat.beq y 141) (1) (0)) (cond (Nat.beq y 142) (1) (0))) (cond (Nat.blt y 144) (cond (Nat.beq y 143) (1) (0)) (cond (Nat.beq y 144) (1) (0)))) (cond (Nat.blt y 147) (cond (Nat.blt y 146) (cond (Nat.beq y 145) (1) (0)) (cond (Nat.beq y 146) (1) (0))) (cond (Nat.blt y 148) (cond (Nat.beq y 147) (1) (0)) (cond (Nat.beq y 148) (1) (0))))) (cond (Nat.blt y 153) (cond (Nat.blt y 151) (cond (Nat.blt y 150) (cond (Nat.beq y 149) (1) (0)) (cond (Nat.beq y 150) (1) (0))) (cond (Nat.blt y 152) (cond (Nat.beq y 151) (127) (0)) (cond (Nat.beq y 152) (1) (0)))) (cond (Nat.blt y 155) (cond (Nat.blt y 154) (cond (Nat.beq y 153) (1) (0)) (cond (Nat.beq y 154) (1) (0))) (cond (Nat.blt y 156) (cond (Nat.beq y 155) (1) (0)) (cond (Nat.blt y 157) (cond (Nat.beq y 156) (1) (0)) (cond (Nat.beq y 157) (0) (0))))))) (cond (Nat.blt y 167) (cond (Nat.blt y 162) (cond (Nat.blt y 160) (cond (Nat.blt y 159) (cond (Nat.beq y 158) (1) (0)) (cond (Nat.beq y 159) (1) (0))) (cond (Nat.blt y 161) (cond (Nat.beq y 160) (1) (0)) (cond (Nat.beq y 161) (1) (0)))) (cond (Nat.blt y 164) (cond (Nat.blt y 163) (cond (Nat.beq y 162) (1) (0)) (cond (Nat.beq y 163) (1) (0))) (cond (Nat.blt y 165) (cond (Nat.beq y 164) (1) (0)) (cond (Nat.blt y 166) (cond (Nat.beq y 165) (1) (0)) (cond (Nat.beq y 166) (123) (0)))))) (cond (Nat.blt y 171) (cond (Nat.blt y 169) (cond (Nat.blt y 168) (cond (Nat.beq y 167) (1) (0)) (cond (Nat.beq y 168) (1) (0))) (cond (Nat.blt y 170) (cond (Nat.beq y 169) (1) (0)) (cond (Nat.beq y 170) (0) (0)))) (cond (Nat.blt y 173) (cond (Nat.blt y 172) (cond (Nat.beq y 171) (1) (0)) (cond (Nat.beq y 172) (1) (0))) (cond (Nat.blt y 174) (cond (Nat.beq y 173) (1) (0)) (cond (Nat.blt y 175) (cond (Nat.beq y 174) (1) (0)) (cond (Nat.beq y 175) (1) (0)))))))) (cond (Nat.blt y 194) (cond (Nat.blt y 185) (cond (Nat.blt y 180) (cond (Nat.blt y 178) (cond (Nat.blt y 177) (cond (Nat.beq y 176) (1) (0)) (cond (Nat.beq y 177) (1) (0))) (cond (Nat.blt y 179) (cond (Nat.beq y 178) (1) (0)) (cond (Nat.beq y 179) (1) (0)))) (cond (Nat.blt y 182) (cond (Nat.blt y 181) (cond (Nat.beq y 180) (1) (0)) (cond (Nat.beq y 181) (1) (0))) (cond (Nat.blt y 183) (cond (Nat.beq y 182) (1) (0)) (cond (Nat.blt y 184) (cond (Nat.beq y 183) (1) (0)) (cond (Nat.beq y 184) (1) (0)))))) (cond (Nat.blt y 189) (cond (Nat.blt y 187) (cond (Nat.blt y 186) (cond (Nat.beq y 185) (1) (0)) (cond (Nat.beq y 186) (1) (0))) (cond (Nat.blt y 188) (cond (Nat.beq y 187) (1) (0)) (cond (Nat.beq y 188) (1) (0)))) (cond (Nat.blt y 191) (cond (Nat.blt y 190) (cond (Nat.beq y 189) (1) (0)) (cond (Nat.beq y 190) (0) (0))) (cond (Nat.blt y 192) (cond (Nat.beq y 191) (0) (0)) (cond (Nat.blt y 193) (cond (Nat.beq y 192) (0) (0)) (cond (Nat.beq y 193) (0) (0))))))) (cond (Nat.blt y 203) (cond (Nat.blt y 198) (cond (Nat.blt y 196) (cond (Nat.blt y 195) (cond (Nat.beq y 194) (1) (0)) (cond (Nat.beq y 195) (1) (0))) (cond (Nat.blt y 197) (cond (Nat.beq y 196) (1) (0)) (cond (Nat.beq y 197) (1) (0)))) (cond (Nat.blt y 200) (cond (Nat.blt y 199) (cond (Nat.beq y 198) (1) (0)) (cond (Nat.beq y 199) (1) (0))) (cond (Nat.blt y 201) (cond (Nat.beq y 200) (1) (0)) (cond (Nat.blt y 202) (cond (Nat.beq y 201) (1) (0)) (cond (Nat.beq y 202) (1) (0)))))) (cond (Nat.blt y 207) (cond (Nat.blt y 205) (cond (Nat.blt y 204) (cond (Nat.beq y 203) (0) (0)) (cond (Nat.beq y 204) (0) (0))) (cond (Nat.blt y 206) (cond (Nat.beq y 205) (1) (0)) (cond (Nat.beq y 206) (1) (0)))) (cond (Nat.blt y 209) (cond (Nat.blt y 208) (cond (Nat.beq y 207) (1) (0)) (cond (Nat.beq y 208) (0) (0))) (cond (Nat.blt y 210) (cond (Nat.beq y 209) (0) (0)) (cond (Nat.blt y 211) (cond (Nat.beq y 210) (0) (0)) (cond (Nat.beq y 211) (1) (0))))))))) (cond (Nat.blt y 247) (cond (Nat.blt y 229) (cond (Nat.blt y 220) (cond (Nat.blt y 216) (cond (Nat.blt y 214) (cond (Nat.blt y 213) (cond (Nat.beq y 212) (0) (0)) (cond (Nat.beq y 213) (1) (0))) (cond (Nat.blt y 215) (cond (Nat.beq y 214) (0) (0)) (cond (Nat.beq y 215) (0) (0)))) (cond (Nat.blt y 218) (cond (Nat.blt y 217) (cond (Nat.beq y 216) (1) (0)) (cond (Nat.beq y 217) (1) (0))) (cond (Nat.blt y 219) (cond (Nat.beq y 218) (1) (0)) (cond (Nat.beq y 219) (0) (0))))) (cond (Nat.blt y 224) (cond (Nat.blt y 222) (cond (Nat.blt y 221) (cond (Nat.beq y 220) (0) (0)) (cond (Nat.beq y 221) (0) (0))) (cond (Nat.blt y 223) (cond (Nat.beq y 222) (0) (0)) (cond (Nat.beq y 223) (1) (0)))) (cond (Nat.blt y 226) (cond (Nat.blt y 225) (cond (Nat.beq y 224) (1) (0)) (cond (Nat.beq y 225) (1) (0))) (cond (Nat.blt y 227) (cond (Nat.beq y 226) (1) (0)) (cond (Nat.blt y 228) (cond (Nat.beq y 227) (0) (0)) (cond (Nat.beq y 228) (1) (0))))))) (cond (Nat.blt y 238) (cond (Nat.blt y 233) (cond (Nat.blt y 231) (cond (Nat.blt y 230) (cond (Nat.beq y 229) (1) (0)) (cond (Nat.beq y 230) (1) (0))) (cond (Nat.blt y 232) (cond (Nat.beq y 231) (1) (0)) (cond (Nat.beq y 232) (1) (0)))) (cond (Nat.blt y 235) (cond (Nat.blt y 234) (cond (Nat.beq y 233) (1) (0)) (cond (Nat.beq y 234) (1) (0))) (cond (Nat.blt y 236) (cond (Nat.beq y 235) (1) (0)) (cond (Nat.blt y 237) (cond (Nat.beq y 236) (1) (0)) (cond (Nat.beq y 237) (1) (0)))))) (cond (Nat.blt y 242) (cond (Nat.blt y 240) (cond (Nat.blt y 239) (cond (Nat.beq y 238) (1) (0)) (cond (Nat.beq y 239) (1) (0))) (cond (Nat.blt y 241) (cond (Nat.beq y 240) (1) (0)) (cond (Nat.beq y 241) (1) (0)))) (cond (Nat.blt y 244) (cond (Nat.blt y 243) (cond (Nat.beq y 242) (1) (0)) (cond (Nat.beq y 243) (1) (0))) (cond (Nat.blt y 245) (cond (Nat.beq y 244) (1) (0)) (cond (Nat.blt y 246) (cond (Nat.beq y 245) (1) (0)) (cond (Nat.beq y 246) (1) (0)))))))) (cond (Nat.blt y 265) (cond (Nat.blt y 256) (cond (Nat.blt y 251) (cond (Nat.blt y 249) (cond (Nat.blt y 248) (cond (Nat.beq y 247) (1) (0)) (cond (Nat.beq y 248) (1) (0))) (cond (Nat.blt y 250) (cond (Nat.beq y 249) (1) (0)) (cond (Nat.beq y 250) (1) (0)))) (cond (Nat.blt y 253) (cond (Nat.blt y 252) (cond (Nat.beq y 251) (1) (0)) (cond (Nat.beq y 252) (1) (0))) (cond (Nat.blt y 254) (cond (Nat.beq y 253) (1) (0)) (cond (Nat.blt y 255) (cond (Nat.beq y 254) (1) (0)) (cond (Nat.beq y 255) (1) (0)))))) (cond (Nat.blt y 260) (cond (Nat.blt y 258) (cond (Nat.blt y 257) (cond (Nat.beq y 256) (1) (0)) (cond (Nat.beq y 257) (1) (0))) (cond (Nat.blt y 259) (cond (Nat.beq y 258) (1) (0)) (cond (Nat.beq y 259) (1) (0)))) (cond (Nat.blt y 262) (cond (Nat.blt y 261) (cond (Nat.beq y 260) (1) (0)) (cond (Nat.beq y 261) (1) (0))) (cond (Nat.blt y 263) (cond (Nat.beq y 262) (1) (0)) (cond (Nat.blt y 264) (cond (Nat.beq y 263) (0) (0)) (cond (Nat.beq y 264) (0) (0))))))) (cond (Nat.blt y 274) (cond (Nat.blt y 269) (cond (Nat.blt y 267) (cond (Nat.blt y 266) (cond (Nat.beq y 265) (0) (0)) (cond (Nat.beq y 266) (1) (0))) (cond (Nat.blt y 268) (cond (Nat.beq y 267) (1) (0)) (cond (Nat.beq y 268) (1) (0)))) (cond (Nat.blt y 271) (cond (Nat.blt y 270) (cond (Nat.beq y 269) (99) (0)) (cond (Nat.beq y 270) (99) (0))) (cond (Nat.blt y 272) (cond (Nat.beq y 271) (0) (0)) (cond (Nat.blt y 273) (cond (Nat.beq y 272) (99) (0)) (cond (Nat.beq y 273) (1) (0)))))) (cond (Nat.blt y 278) (cond (Nat.blt y 276) (cond (Nat.blt y 275) (cond (Nat.beq y 274) (99) (0)) (cond (Nat.beq y 275) (99) (0))) (cond (Nat.blt y 277) (cond (Nat.beq y 276) (99) (0)) (cond (Nat.beq y 277) (99) (0)))) (cond (Nat.blt y 280) (cond (Nat.blt y 279) (cond (Nat.beq y 278) (0) (0)) (cond (Nat.beq y 279) (1) (0))) (cond (Nat.blt y 281) (cond (Nat.beq y 280) (1) (0)) (cond (Nat.blt y 282) (cond (Nat.beq y 281) (0) (0)) (cond (Nat.beq y 282) (1) (0))))))))))
def nCk (i : Int) : Int32 := match i with
  | .ofNat n => Int32.ofNat n
  | .negSucc n => -(Int32.ofNat (n + 1))
abbrev nLs : Type := List (Option nV)
abbrev nRes : Type := Option nV ⊕ Nat
abbrev nOut : Type := nRes × nS
/-- goes on; calls (whom, with what, locals, the rest of the stack); ends -/
abbrev nAct : Type := (Nat × nLs × List nV × nS) ⊕ ((Nat × List nV × Nat × List nV × nS) ⊕ (nRes × nS))
section NK
variable {β : Type}
/-- a reference that is not null -/
def nn (o : Option Nat) (f : Nat → Option β) : Option β := match o with
  | some k => f k
  | none => none
def nnL (o : Option (Nat × Nat)) (f : Nat → Nat → Option β) : Option β := match o with
  | some (t, k) => f t k
  | none => none
def nz (o : Option Nat) (a b : Option β) : Option β := match o with
  | none => a
  | some _ => b
def nzL (o : Option (Nat × Nat)) (a b : Option β) : Option β := match o with
  | none => a
  | some _ => b
def ntg (t t' : Nat) (a : Option β) : Option β := cond (Nat.beq t t') a none
def nCmp (c : Jvm.ClassFile.Cond) (x y : Int32) (a b : Option β) : Option β := match c with
  | .eq => if x = y then a else b
  | .ne => if x = y then b else a
  | .lt => if x < y then a else b
  | .ge => if x < y then b else a
  | .gt => if y < x then a else b
  | .le => if y < x then b else a
def nGet (c j k : Nat) (s : nS) : nV := match nKd c j with
  | (0, _) => vI (fI s.1 (nTg c) k j)
  | (1, _) => vI (fI s.1 (nTg c) k j)
  | (7, _) => vI (s.2.1 1 j)
  | (2, _) => vI (Int32.ofNat k)
  | (3, t) => cond (Nat.beq (nLt t) 0) (vR t (some k)) (vL (some (t, k)))
  | (4, t) => vR t (some (fX s.1 (nTg c) k j))
  | (5, t) => vR t (fP s.1 (nTg c) k j)
  | (6, _) => vL (fQ s.1 k)
  | _ => vU 200
def nPut (c j k : Nat) (v : nV) (s : nS) (go : nS → Option β) : Option β := match nKd c j, v with
  | (0, _), .inl x => go (uI (nTg c) k j x s.1, s.2)
  | (7, _), .inl x => go (s.1, uM 1 j x s.2.1, s.2.2)
  | (1, _), .inl x => if x = 0 ∨ x = 1 then go (uI (nTg c) k j x s.1, s.2) else none
  | (4, t), .inr (.inr (.inl (t', o))) => ntg t' t (nn o fun i => go (uX (nTg c) k j i s.1, s.2))
  | (5, t), .inr (.inr (.inl (t', o))) => ntg t' t (go (uP (nTg c) k j o s.1, s.2))
  | (6, _), .inr (.inr (.inr (.inl o))) => go (uQ k o s.1, s.2)
  | _, _ => none
/-- an object is made: its number, its cells -/
def nRen (t k : Nat) (S : List nV) : List nV := S.map fun v => match v with
  | .inr (.inr (.inr (.inr _))) => vR t (some k)
  | v => v
def nParcel (k sd r : Nat) (sz ex told : Int32) (s : nC) : nC :=
  uI 26 k 2 sz (uI 26 k 3 ex (uI 26 k 4 told (uI 26 k 9 0 (uI 26 k 12 0 (uI 26 k 13 24 (uI 26 k 14 (told + 100) (uI 26 k 15 0 (uI 26 k 16 0 (uI 26 k 17 1 (uX 26 k 1 sd (uX 26 k 10 r (uP 26 k 8 none (uP 26 k 11 none
  (uI 8 k 0 0 (uI 8 k 1 0 (uI 8 k 2 0 (uI 8 k 3 0 (uI 8 k 4 0 (uP 8 k 5 none
  (uI 9 k 0 0 (uI 9 k 1 (-1) (uI 9 k 2 0 (uI 9 k 6 0 (uI 9 k 7 0 (uI 9 k 8 0 (uI 9 k 9 0 (uP 9 k 3 none (uP 9 k 5 none (uQ k none
  (uL 10 k [] (uN 26 (k + 1) s)))))))))))))))))))))))))))))))
def nCtor (y q : Nat) (L : nLs) (S : List nV) (s : nS) (go : Nat → nLs → List nV → nS → Option β) : Option β := match y, S with
  | 42, .inl spot :: .inr (.inr (.inl (21, od))) :: .inr (.inr (.inr (.inr 24))) :: S => nn od fun d => go q L (nRen 24 (fN s.1 24) S) (uI 24 (fN s.1 24) 3 0 (uI 24 (fN s.1 24) 2 0 (uI 24 (fN s.1 24) 1 spot (uX 24 (fN s.1 24) 0 d (uN 24 (fN s.1 24 + 1) s.1)))), s.2)
  | 48, .inl cr :: .inl h :: .inr (.inr (.inl (21, ob))) :: .inr (.inr (.inl (21, oa))) :: .inl n :: .inr (.inr (.inr (.inr 23))) :: S => nn ob fun b => nn oa fun a => if n = Int32.ofNat (fN s.1 23) ∧ (cr = 0 ∨ cr = 1) then go q L (nRen 23 (fN s.1 23) S) (uI 23 (fN s.1 23) 12 (-1) (uI 23 (fN s.1 23) 11 1 (uI 23 (fN s.1 23) 10 1 (uI 23 (fN s.1 23) 9 1 (uI 23 (fN s.1 23) 8 0 (uI 23 (fN s.1 23) 7 10 (uI 23 (fN s.1 23) 4 cr (uI 23 (fN s.1 23) 3 h (uX 23 (fN s.1 23) 2 b (uX 23 (fN s.1 23) 1 a (uL 6 (fN s.1 23) [] (uL 5 (fN s.1 23) [] (uN 23 (fN s.1 23 + 1) s.1)))))))))))), s.2) else none
  | 52, .inl z :: .inl w :: .inl u :: .inr (.inr (.inl (21, od))) :: .inl n :: .inr (.inr (.inr (.inr 28))) :: S => nn od fun d => if n = Int32.ofNat (fN s.1 28) then go q L (nRen 28 (fN s.1 28) S) (uW 7 (fN s.1 28) (upd (upd (upd (upd (fun _ => 0) 0 0) 1 u) 2 w) 3 z) (uX 28 (fN s.1 28) 1 d (uN 28 (fN s.1 28 + 1) s.1)), s.2) else none
  | 62, .inl told :: .inl ex :: .inl sz :: .inr (.inr (.inl (24, or))) :: .inr (.inr (.inl (24, os))) :: .inl n :: .inr (.inr (.inr (.inr 26))) :: S => nn or fun r => nn os fun sd => if n = Int32.ofNat (fN s.1 26) ∧ (ex = 0 ∨ ex = 1) then go q L (nRen 26 (fN s.1 26) S) (nParcel (fN s.1 26) sd r sz ex told s.1, s.2) else none
  | 73, .inl kd :: .inl ck :: .inr (.inr (.inl (21, od))) :: .inl p :: .inr (.inr (.inr (.inr 25))) :: S => nn od fun d => go q L (nRen 25 (fN s.1 25) S) (uI 25 (fN s.1 25) 3 kd (uI 25 (fN s.1 25) 2 ck (uX 25 (fN s.1 25) 1 d (uI 25 (fN s.1 25) 0 p (uN 25 (fN s.1 25 + 1) s.1)))), s.2)
  | 75, .inl st :: .inl rm :: .inr (.inr (.inl (21, od))) :: .inl n :: .inr (.inr (.inr (.inr 27))) :: S => nn od fun d => if n = Int32.ofNat (fN s.1 27) then go q L (nRen 27 (fN s.1 27) S) (uI 27 (fN s.1 27) 6 0 (uI 27 (fN s.1 27) 5 0 (uI 27 (fN s.1 27) 3 st (uI 27 (fN s.1 27) 2 rm (uX 27 (fN s.1 27) 1 d (uL 11 (fN s.1 27) [] (uN 27 (fN s.1 27 + 1) s.1)))))), s.2) else none
  | _, _ => none
/-- a method of a list -/
def nLm (y q : Nat) (L : nLs) (S : List nV) (s : nS) (go : Nat → nLs → List nV → nS → Option β) : Option β := match y, S with
  | 266, .inr (.inr (.inr (.inl o))) :: S => nnL o fun t k => go q L (vI (Int32.ofNat (fL s.1 t k).length) :: S) s
  | 280, .inr (.inr (.inr (.inl o))) :: S => nnL o fun t k => if fL s.1 t k = [] then go q L (vI 1 :: S) s else go q L (vI 0 :: S) s
  | 281, .inr (.inr (.inr (.inl o))) :: S => nnL o fun t k => go q L S (uL t k [] s.1, s.2)
  | 270, .inl i :: .inr (.inr (.inr (.inl o))) :: S => nnL o fun t k => if i < 0 then none else nn ((fL s.1 t k)[i.toNatClampNeg]?) fun e => go q L (vR (nLt t) (some e) :: S) s
  | 272, .inl i :: .inr (.inr (.inr (.inl o))) :: S => nnL o fun t k => if i < 0 then none else nn ((fL s.1 t k)[i.toNatClampNeg]?) fun e => go q L (vR (nLt t) (some e) :: S) (uL t k ((fL s.1 t k).eraseIdx i.toNatClampNeg) s.1, s.2)
  | 279, .inr (.inr (.inl (t', oe))) :: .inr (.inr (.inr (.inl o))) :: S => nnL o fun t k => ntg t' (nLt t) (nn oe fun e => if (fL s.1 t k).length < 500 then go q L (vI 1 :: S) (uL t k (fL s.1 t k ++ [e]) s.1, s.2) else none)
  | _, _ => none
def nOk1 (v : nV) : Bool := match v with
  | .inr (.inl _) => false
  | .inr (.inr (.inr (.inr _))) => false
  | _ => true
/-- a call of a method of ours: kind 0 static, 1 of an object; arguments off the stack; the receiver is not null -/
def nCl (kd ci y n ml : Nat) (S : List nV) (s : nS) (call : Nat → List nV → Nat → List nV → nS → Option β) : Option β :=
  cond (Nat.ble n S.length && Nat.ble S.length (n + 8) && S.all nOk1) (match kd with
    | 0 => call y (S.take n).reverse ml (S.drop n) s
    | _ => match (S.take n).reverse with
      | .inr (.inr (.inl (t, o))) :: A => ntg t (nTg ci) (nn o fun k => call y (vR t (some k) :: A) ml (S.drop n) s)
      | _ => none) none
def nSw (x : Int32) (lo : Int) (offs : List Int) (pc : Nat) (d : Option β) (go : Nat → Option β) : Option β := match offs with
  | [] => d
  | o :: os => if x = nCk lo then go ((pc : Int) + o).toNat else nSw x (lo + 1) os pc d go
/-- arguments, locals, class of the primitives -/
def nE2 (y : Nat) : Nat := cond (Nat.blt y 100) (cond (Nat.beq y 42) 307 (cond (Nat.beq y 48) 1126 (cond (Nat.beq y 52) 1382 (cond (Nat.beq y 62) 1911 (cond (Nat.beq y 73) 2133 2645))))) (cond (Nat.beq y 266 || Nat.beq y 280) 17 (cond (Nat.beq y 281) 65 (cond (Nat.beq y 272) 66 34)))
/-- a method that is not the class's: it may use the arrays of the law -/
def nYo (y : Nat) : Bool := Nat.blt y 42 || Nat.ble 170 y
def nLst (y : Nat) : Bool := Nat.ble 266 y && Nat.ble y 281
def nMk (y : Nat) : Bool := Nat.beq y 42 || Nat.beq y 48 || Nat.beq y 52 || Nat.beq y 62 || Nat.beq y 73 || Nat.beq y 75
def nK (xs : Nat → Int32) (nx : Nat) (go : Nat → nLs → List nV → nS → Option β) (call : Nat → List nV → Nat → List nV → nS → Option β) (fin : nRes → nS → Option β) (ins : Instr) (n e1 e2 y pc : Nat) (L : nLs) (S : List nV) (s : nS) : Option β :=
  match ins with
  | .iload_n k => (match L[(k : Nat)]? with
    | some (some (.inl x)) => go (pc + n) L (vI x :: S) s
    | _ => none)
  | .iload k => (match L[k]? with
    | some (some (.inl x)) => go (pc + n) L (vI x :: S) s
    | _ => none)
  | .aload_n k => (match L[(k : Nat)]? with
    | some (some (.inr (.inr (.inl q)))) => go (pc + n) L (.inr (.inr (.inl q)) :: S) s
    | some (some (.inr (.inr (.inr (.inl q))))) => go (pc + n) L (vL q :: S) s
    | _ => none)
  | .aload k => (match L[k]? with
    | some (some (.inr (.inr (.inl q)))) => go (pc + n) L (.inr (.inr (.inl q)) :: S) s
    | some (some (.inr (.inr (.inr (.inl q))))) => go (pc + n) L (vL q :: S) s
    | _ => none)
  | .istore_n k => (match S with
    | .inl x :: S => (match L[(k : Nat)]? with
      | some _ => go (pc + n) (L.set k (some (vI x))) S s
      | none => none)
    | _ => none)
  | .istore k => (match S with
    | .inl x :: S => (match L[k]? with
      | some _ => go (pc + n) (L.set k (some (vI x))) S s
      | none => none)
    | _ => none)
  | .astore_n k => (match S with
    | .inr (.inr (.inl q)) :: S => (match L[(k : Nat)]? with
      | some _ => go (pc + n) (L.set k (some (.inr (.inr (.inl q))))) S s
      | none => none)
    | .inr (.inr (.inr (.inl q))) :: S => (match L[(k : Nat)]? with
      | some _ => go (pc + n) (L.set k (some (vL q))) S s
      | none => none)
    | _ => none)
  | .astore k => (match S with
    | .inr (.inr (.inl q)) :: S => (match L[k]? with
      | some _ => go (pc + n) (L.set k (some (.inr (.inr (.inl q))))) S s
      | none => none)
    | .inr (.inr (.inr (.inl q))) :: S => (match L[k]? with
      | some _ => go (pc + n) (L.set k (some (vL q))) S s
      | none => none)
    | _ => none)
  | .iconst i => go (pc + n) L (vI (nCk i) :: S) s
  | .bipush i => go (pc + n) L (vI (nCk i) :: S) s
  | .sipush i => go (pc + n) L (vI (nCk i) :: S) s
  | .ldc _ => cond (Nat.ble 3 e1 && Nat.blt e1 9) (go (pc + n) L (vI (mKv e1) :: S) s) none
  | .lconst i => go (pc + n) L (vJ (if i = 0 then 0 else 1) :: S) s
  | .aconst_null => cond (Nat.beq (nNt y pc) 200) (go (pc + n) L (vL none :: S) s) (cond (Nat.beq (nNt y pc) 99) none (go (pc + n) L (vR (nNt y pc) none :: S) s))
  | .iadd => (match S with
    | .inl b :: .inl a :: S => go (pc + n) L (vI (a + b) :: S) s
    | _ => none)
  | .isub => (match S with
    | .inl b :: .inl a :: S => go (pc + n) L (vI (a - b) :: S) s
    | _ => none)
  | .imul => (match S with
    | .inl b :: .inl a :: S => go (pc + n) L (vI (a * b) :: S) s
    | _ => none)
  | .iand => (match S with
    | .inl b :: .inl a :: S => go (pc + n) L (vI (a &&& b) :: S) s
    | _ => none)
  | .ixor => (match S with
    | .inl b :: .inl a :: S => go (pc + n) L (vI (a ^^^ b) :: S) s
    | _ => none)
  | .ineg => (match S with
    | .inl a :: S => go (pc + n) L (vI (-a) :: S) s
    | _ => none)
  | .idiv => (match S with
    | .inl b :: .inl a :: S => if b = 0 then none else go (pc + n) L (vI (a / b) :: S) s
    | _ => none)
  | .irem => (match S with
    | .inl b :: .inl a :: S => if b = 0 then none else go (pc + n) L (vI (a - a / b * b) :: S) s
    | _ => none)
  | .i2l => (match S with
    | .inl a :: S => go (pc + n) L (vJ a.toInt64 :: S) s
    | _ => none)
  | .lcmp => (match S with
    | .inr (.inl b) :: .inr (.inl a) :: S => go (pc + n) L (vI (lg_cmp a b) :: S) s
    | _ => none)
  | .iinc i c => (match L[i]? with
    | some (some (.inl x)) => go (pc + n) (L.set i (some (vI (x + nCk c)))) S s
    | _ => none)
  | .dup => (match S with
    | .inl x :: S => go (pc + n) L (vI x :: vI x :: S) s
    | .inr (.inr (.inl (t, o))) :: S => nn o fun k => go (pc + n) L (vR t (some k) :: vR t (some k) :: S) s
    | .inr (.inr (.inr (.inr t))) :: S => go (pc + n) L (vU t :: vU t :: S) s
    | _ => none)
  | .dup_x1 => (match S with
    | .inl x :: .inr (.inr (.inl (t, some k))) :: S => go (pc + n) L (vI x :: vR t (some k) :: vI x :: S) s
    | _ => none)
  | .dup2 => (match S with
    | .inl x :: .inr (.inr (.inl (t, some k))) :: S => go (pc + n) L (vI x :: vR t (some k) :: vI x :: vR t (some k) :: S) s
    | _ => none)
  | .pop => (match S with
    | .inl _ :: S => go (pc + n) L S s
    | .inr (.inr (.inl _)) :: S => go (pc + n) L S s
    | _ => none)
  | .goto _ => go e1 L S s
  | .ifCond c _ => (match S with
    | .inl x :: S => nCmp c x 0 (go e1 L S s) (go (pc + n) L S s)
    | _ => none)
  | .if_icmp c _ => (match S with
    | .inl b :: .inl a :: S => nCmp c a b (go e1 L S s) (go (pc + n) L S s)
    | _ => none)
  | .if_acmp c _ => (match S with
    | .inr (.inr (.inl (t', b))) :: .inr (.inr (.inl (t, a))) :: S => ntg t t' (match c with
      | .eq => if a = b then go e1 L S s else go (pc + n) L S s
      | .ne => if a = b then go (pc + n) L S s else go e1 L S s)
    | _ => none)
  | .ifnull _ => (match S with
    | .inr (.inr (.inl (_, o))) :: S => nz o (go e1 L S s) (go (pc + n) L S s)
    | .inr (.inr (.inr (.inl o))) :: S => nzL o (go e1 L S s) (go (pc + n) L S s)
    | _ => none)
  | .ifnonnull _ => (match S with
    | .inr (.inr (.inl (_, o))) :: S => nz o (go (pc + n) L S s) (go e1 L S s)
    | .inr (.inr (.inr (.inl o))) :: S => nzL o (go (pc + n) L S s) (go e1 L S s)
    | _ => none)
  | .tableswitch d lo hi offs => (match S with
    | .inl x :: S => cond (decide (0 ≤ lo) && decide (hi < 1000) && decide (hi - lo + 1 = offs.size)) (nSw x lo offs.toList pc (go ((pc : Int) + d).toNat L S s) fun p => go p L S s) none
    | _ => none)
  | .getfield _ => (match S with
    | .inr (.inr (.inl (t, o))) :: S => cond (Nat.blt e2 (nFl e1)) (ntg t (nTg e1) (nn o fun k => go (pc + n) L (nGet e1 e2 k s :: S) s)) none
    | _ => none)
  | .putfield _ => (match S with
    | v :: .inr (.inr (.inl (t, o))) :: S => cond (Nat.beq (e2 / 128) (nFk e1 (e2 % 128))) (ntg t (nTg e1) (nn o fun k => nPut e1 (e2 % 128) k v s fun s => go (pc + n) L S s)) none
    | _ => none)
  | .new _ => cond (S.all nOk1) (cond (Nat.ble 100 e1) (cond (Nat.ble S.length 4) (fin (.inr (e1 - 100)) (uT s)) none) (cond (Nat.beq (nTg e1) e2 && Nat.beq (nGp e2) e2) (go (pc + n) L (vU e2 :: S) s) none)) none
  | .arraylength => (match S with
    | .inr (.inr (.inl (t, o))) :: S => nn o fun _ => cond (Nat.beq t 127) (go (pc + n) L (vI (Int32.ofNat nx) :: S) s) (cond (Nat.beq (nAt t) 9) none (go (pc + n) L (vI (Int32.ofNat (nAl t)) :: S) s))
    | _ => none)
  | .iaload => (match S with
    | .inl i :: .inr (.inr (.inl (t, o))) :: S => nn o fun k => cond (Nat.beq t 127) (if mIn i nx = true then go (pc + n) L (vI (xs i.toNatClampNeg) :: S) s else none) (cond (Nat.beq (nAt t) 6 && nYo y) (if mIn i (nAl t) = true then go (pc + n) L (vI (s.2.1 t i.toNatClampNeg) :: S) s else none) (cond (Nat.beq (nAt t) 0) (if mIn i (nAl t) = true then go (pc + n) L (vI (fI s.1 t k i.toNatClampNeg) :: S) s else none) none))
    | _ => none)
  | .iastore => (match S with
    | .inl x :: .inl i :: .inr (.inr (.inl (t, o))) :: S => nn o fun k => cond (Nat.beq (nAt t) 6 && nYo y) (if mIn i (nAl t) = true then go (pc + n) L S (s.1, uM t i.toNatClampNeg x s.2.1, s.2.2) else none) (cond (Nat.beq (nAt t) 0) (if mIn i (nAl t) = true then go (pc + n) L S (uI t k i.toNatClampNeg x s.1, s.2) else none) none)
    | _ => none)
  | .baload => (match S with
    | .inl i :: .inr (.inr (.inl (t, o))) :: S => nn o fun _ => cond (Nat.beq (nAt t) 1 && nYo y) (if mIn i (nAl t) = true then go (pc + n) L (vI (s.2.1 t i.toNatClampNeg) :: S) s else none) none
    | _ => none)
  | .bastore => (match S with
    | .inl x :: .inl i :: .inr (.inr (.inl (t, o))) :: S => nn o fun _ => cond (Nat.beq (nAt t) 1 && nYo y) (if mIn i (nAl t) = true ∧ (x = 0 ∨ x = 1) then go (pc + n) L S (s.1, uM t i.toNatClampNeg x s.2.1, s.2.2) else none) none
    | _ => none)
  | .laload => (match S with
    | .inl i :: .inr (.inr (.inl (t, o))) :: S => nn o fun _ => cond (Nat.beq t 2 && Nat.beq (nAt t) 2) (if mIn i 1 = true then go (pc + n) L (vJ (s.2.2.2 i.toNatClampNeg) :: S) s else none) none
    | _ => none)
  | .lastore => (match S with
    | .inr (.inl x) :: .inl i :: .inr (.inr (.inl (t, o))) :: S => nn o fun _ => cond (Nat.beq t 2 && Nat.beq (nAt t) 2) (if mIn i 1 = true then go (pc + n) L S (s.1, s.2.1, s.2.2.1, up1 s.2.2.2 i.toNatClampNeg x) else none) none
    | _ => none)
  | .aaload => (match S with
    | .inl i :: .inr (.inr (.inl (t, o))) :: S => nn o fun k => cond (Nat.beq t 4) (if mIn i 10 = true then go (pc + n) L (vR 23 (fP s.1 4 k i.toNatClampNeg) :: S) s else none) (cond (Nat.beq t 12) (if mIn i 5 = true then go (pc + n) L (vR 21 (some i.toNatClampNeg) :: S) s else none) (cond (Nat.beq t 13) (if mIn i 4 = true then go (pc + n) L (vR 22 (some i.toNatClampNeg) :: S) s else none) none))
    | _ => none)
  | .aastore => (match S with
    | .inr (.inr (.inl (t', v))) :: .inl i :: .inr (.inr (.inl (t, o))) :: S => nn o fun k => cond (Nat.beq t 4) (ntg t' 23 (if mIn i 10 = true then go (pc + n) L S (uP 4 k i.toNatClampNeg v s.1, s.2) else none)) none
    | _ => none)
  | .checkcast _ => (match S with
    | .inr (.inr (.inl (t, o))) :: S => ntg t (nTg e1) (go (pc + n) L (vR (nTg e1) o :: S) s)
    | _ => none)
  | .invokespecial _ => cond (nMk e1) (cond (Nat.beq e2 (nE2 e1)) (nCtor e1 (pc + 3) L S s fun q L S s => cond (Nat.ble S.length 4) (go q L S s) none) none) (cond (Nat.beq e1 1000) none (nCl 1 (e2 / 256) e1 (e2 % 16) (mLo e2) S s call))
  | .invokestatic _ => cond (Nat.ble 1000 e1) (match e1, S with
    | 1003, .inl b :: .inl a :: S => cond (Nat.ble S.length 4) (go (pc + n) L (vI (if a < b then b else a) :: S) s) none
    | 1004, .inl b :: .inl a :: S => cond (Nat.ble S.length 4) (go (pc + n) L (vI (if b < a then b else a) :: S) s) none
    | 1005, .inl a :: S => cond (Nat.ble S.length 4) (go (pc + n) L (vI (if 0 ≤ a then a else 0 - a) :: S) s) none
    | _, _ => none) (nCl 0 0 e1 (e2 % 16) (mLo e2) S s call)
  | .invokevirtual _ => cond (nLst e1) (cond (Nat.beq e2 (nE2 e1) && Nat.ble S.length 5) (nLm e1 (pc + 3) L S s go) none) (cond (Nat.ble 1000 e1) none (nCl 1 (e2 / 256) e1 (e2 % 16) (mLo e2) S s call))
  | .ireturn => (match S with
    | [.inl x] => cond (Nat.beq e1 1) (fin (.inl (some (vI x))) s) (cond (Nat.beq e1 2) (if x = 0 ∨ x = 1 then fin (.inl (some (vI x))) s else none) none)
    | _ => none)
  | .areturn => (match S with
    | [.inr (.inr (.inl (t, o)))] => fin (.inl (some (vR t o))) s
    | _ => none)
  | .return_ => (match S with
    | [] => fin (.inl none) s
    | _ => none)
  | _ => none
end NK
