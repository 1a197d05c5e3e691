/-! ===== a machine of our own over small heaps: cells by numbers, all in one function ===== -/
abbrev mC : Type := (Nat × List Value) ⊕ (Nat × vp_A)
/-- the heap, the next number of each kind of site, cells made, slots made -/
abbrev mS : Type := (Nat → Option mC) × (Nat → Nat) × Nat × Nat
/-- an instruction, its length, two numbers that say what it links to -/
abbrev mE : Type := Instr × Nat × Nat × Nat
abbrev mLs : Type := List (Option Value)
abbrev mRes : Type := Option Value ⊕ Nat
/-- what a step does: goes on; calls; ends -/
abbrev mAct : Type := (Nat × mLs × List Value × mS) ⊕ ((Nat × List Value × Nat × List Value) ⊕ (mRes × mS))
def mEMP : Nat := 127
def mSCR : Nat := 255
def mMIR : Nat := 383
def mGo (pc : Nat) (L : mLs) (S : List Value) (σ : mS) : Option mAct := some (.inl (pc, L, S, σ))
def mCall (y : Nat) (A : List Value) (n : Nat) (S : List Value) : Option mAct := some (.inr (.inl (y, A, n, S)))
def mEnd (r : mRes) (σ : mS) : Option mAct := some (.inr (.inr (r, σ)))
/-- a new cell of a site's kind: its number -/
def mAd (t i : Nat) : Nat := t + 128 * i
def mNew (t : Nat) (c : mC) (n : Nat) (σ : mS) : mS := (va_up σ.1 (mAd t (σ.2.1 t)) (some c), va_up σ.2.1 t (σ.2.1 t + 1), σ.2.2.1 + 1, σ.2.2.2 + n)
def mPut (a : Nat) (c : mC) (σ : mS) : mS := (va_up σ.1 a (some c), σ.2.1, σ.2.2.1, σ.2.2.2)
def mThr (σ : mS) : mS := (σ.1, σ.2.1, σ.2.2.1 + 1, σ.2.2.2 + 6)
def mIn (i : Int32) (n : Nat) : Bool := !decide (i < 0) && decide (i.toNatClampNeg < n)
def mSt (L : mLs) (i : Nat) (v : Value) (pc : Nat) (S : List Value) (σ : mS) : Option mAct := if i < L.length then mGo pc (L.set i (some v)) S σ else none
def mBr (c : Prop) [Decidable c] (t f : Nat) (L : mLs) (S : List Value) (σ : mS) : Option mAct := if c then mGo t L S σ else mGo f L S σ
def mLdI (L : mLs) (i pc : Nat) (S : List Value) (σ : mS) : Option mAct := match L[i]? with
  | some (some (.int x)) => mGo pc L (.int x :: S) σ
  | _ => none
def mLdA (L : mLs) (i pc : Nat) (S : List Value) (σ : mS) : Option mAct := match L[i]? with
  | some (some (.ref x)) => mGo pc L (.ref x :: S) σ
  | some (some .null) => mGo pc L (.null :: S) σ
  | _ => none
def mStI (L : mLs) (i pc : Nat) (S : List Value) (σ : mS) : Option mAct := match S with
  | .int x :: S => mSt L i (.int x) pc S σ
  | _ => none
def mStA (L : mLs) (i pc : Nat) (S : List Value) (σ : mS) : Option mAct := match S with
  | .ref x :: S => mSt L i (.ref x) pc S σ
  | .null :: S => mSt L i .null pc S σ
  | _ => none
def mCmp (c : Jvm.ClassFile.Cond) (x y : Int32) : Bool := match c with
  | .eq => decide (x = y)
  | .ne => decide (¬ x = y)
  | .lt => decide (x < y)
  | .ge => decide (y ≤ x)
  | .gt => decide (y < x)
  | .le => decide (x ≤ y)
def mAc (c : ACond) (x y : Option Nat) : Bool := match c with
  | .eq => decide (x = y)
  | .ne => decide (¬ x = y)
/-- may this value be stored in a field, or be returned, of this kind (0 int, 1 boolean, 2 reference) -/
def mFit (k : Nat) (v : Value) : Bool := match k, v with
  | 0, .int _ => true
  | 1, .int x => decide (x = 0) || decide (x = 1)
  | 2, .ref _ => true
  | 2, .null => true
  | _, _ => false
def mDf (k : Nat) : Value := if k ≤ 1 then .int 0 else .null
/-- what the law's script holds, the program: how many, each -/
def mArr (t n : Nat) : Option vp_A := match t with
  | 0 => some (n, .inl fun _ => 0)
  | 1 => some (n, .inl fun _ => 0)
  | 2 => some (n, .inr (.inl fun _ => 0))
  | _ => some (n, .inr (.inr (.inr (.inr fun _ => none))))
/-- arguments off the stack -/
def mA1 (l : List Value) : Bool := l.all fun v => v.category == 1
def mRf (v : Option Value) : Bool := match v with
  | some (.ref _) => true
  | _ => false
def mInv (y n : Nat) (S : List Value) : Option mAct := if n ≤ S.length ∧ S.length ≤ n + 8 ∧ mA1 (S.take n) = true ∧ (S.length ≤ n + 4 ∨ mA1 S = true) then mCall y (S.take n).reverse n (S.drop n) else none
def mIs (h : Nat → Option mC) (ci : Nat) (v : Option Value) : Bool := match v with
  | some (.ref a) => match h a with
    | some (.inl (c, _)) => c == ci
    | _ => false
  | _ => false
/-- may the object v lie in a row of kind t (3 of any, 4 of depots, 5 of customers, 6 of lanes) -/
def mMay (h : Nat → Option mC) (t v : Nat) : Bool := match h v with
  | some (.inl (c, _)) => t == 3 || (t == 4 && c == 3) || (t == 5 && c == 2) || (t == 6 && c == 4)
  | _ => false
def mI1 (S : List Value) (f : Int32 → Int32) (pc : Nat) (L : mLs) (σ : mS) : Option mAct := match S with
  | .int x :: S => mGo pc L (.int (f x) :: S) σ
  | _ => none
def mI2 (S : List Value) (f : Int32 → Int32 → Int32) (pc : Nat) (L : mLs) (σ : mS) : Option mAct := match S with
  | .int y :: .int x :: S => mGo pc L (.int (f x y) :: S) σ
  | _ => none
/-- the kinds of the fields of each class (0 int, 1 boolean, 2 reference) -/
abbrev mFkT : Type := Nat → List Nat
/-- the law's constants -/
def mKv (k : Nat) : Int32 := match k with
  | 3 => 2147483647
  | 4 => -3000000
  | 5 => -2000000
  | 6 => -1000000
  | 7 => 60000
  | _ => 70000
/-- where the law's pool has them -/
def mKi (k : Nat) : Nat := match k with
  | 3 => 7
  | 4 => 94
  | 5 => 97
  | 6 => 100
  | 7 => 174
  | _ => 178
/-- a callee's locals, out of the second number of a call -/
def mLo (e2 : Nat) : Nat := cond (Nat.ble 65536 e2) (e2 / 65536) (e2 / 16 % 16)
def mLdcS (q : Nat) (e1 : Nat) (L : mLs) (S : List Value) (σ : mS) : Option mAct := if e1 = 1 then mGo q L (.ref mMIR :: S) σ else if e1 = 2 then mGo q L (.int 2147483639 :: S) σ else if 3 ≤ e1 ∧ e1 < 9 then mGo q L (.int (mKv e1) :: S) σ else none
def mDivS (q : Nat) (L : mLs) (S : List Value) (σ : mS) : Option mAct := match S with
  | .int y :: .int x :: S => if y = 0 then none else mGo q L (.int (x / y) :: S) σ
  | _ => none
def mRemS (q : Nat) (L : mLs) (S : List Value) (σ : mS) : Option mAct := match S with
  | .int y :: .int x :: S => if y = 0 then none else mGo q L (.int (x - x / y * y) :: S) σ
  | _ => none
def mI2L (q : Nat) (L : mLs) (S : List Value) (σ : mS) : Option mAct := match S with
  | .int x :: S => mGo q L (.long x.toInt64 :: S) σ
  | _ => none
def mLcmp (q : Nat) (L : mLs) (S : List Value) (σ : mS) : Option mAct := match S with
  | .long y :: .long x :: S => mGo q L (.int (lg_cmp x y) :: S) σ
  | _ => none
def mIincS (i : Nat) (n : Int) (q : Nat) (L : mLs) (S : List Value) (σ : mS) : Option mAct := match L[i]? with
  | some (some (.int x)) => mSt L i (.int (x + Int32.ofInt n)) q S σ
  | _ => none
def mDupS (q : Nat) (L : mLs) (S : List Value) (σ : mS) : Option mAct := match S with
  | .int x :: S => mGo q L (.int x :: .int x :: S) σ
  | .ref x :: S => mGo q L (.ref x :: .ref x :: S) σ
  | _ => none
def mDupX (q : Nat) (L : mLs) (S : List Value) (σ : mS) : Option mAct := match S with
  | .int x :: .ref y :: S => mGo q L (.int x :: .ref y :: .int x :: S) σ
  | .ref x :: .ref y :: S => mGo q L (.ref x :: .ref y :: .ref x :: S) σ
  | _ => none
def mDup2 (q : Nat) (L : mLs) (S : List Value) (σ : mS) : Option mAct := match S with
  | .int x :: .ref y :: S => mGo q L (.int x :: .ref y :: .int x :: .ref y :: S) σ
  | _ => none
def mPopS (q : Nat) (L : mLs) (S : List Value) (σ : mS) : Option mAct := match S with
  | .int _ :: S => mGo q L S σ
  | .ref _ :: S => mGo q L S σ
  | .null :: S => mGo q L S σ
  | _ => none
def mIfS (c : Jvm.ClassFile.Cond) (q : Nat) (e1 : Nat) (L : mLs) (S : List Value) (σ : mS) : Option mAct := match S with
  | .int x :: S => mBr (mCmp c x 0 = true) e1 q L S σ
  | _ => none
def mIcS (c : Jvm.ClassFile.Cond) (q : Nat) (e1 : Nat) (L : mLs) (S : List Value) (σ : mS) : Option mAct := match S with
  | .int y :: .int x :: S => mBr (mCmp c x y = true) e1 q L S σ
  | _ => none
def mAcS (c : ACond) (q : Nat) (e1 : Nat) (L : mLs) (S : List Value) (σ : mS) : Option mAct := match S with
  | .ref y :: .ref x :: S => if x = y ∨ ((x % 128 ≠ 127 ∨ y % 128 ≠ 127) ∧ x ≠ mMIR ∧ y ≠ mMIR) then mBr (mAc c (some x) (some y) = true) e1 q L S σ else none
  | .null :: .ref x :: S => mBr (mAc c (some x) none = true) e1 q L S σ
  | .ref y :: .null :: S => mBr (mAc c none (some y) = true) e1 q L S σ
  | .null :: .null :: S => mBr (mAc c none none = true) e1 q L S σ
  | _ => none
def mNlS (q : Nat) (e1 : Nat) (L : mLs) (S : List Value) (σ : mS) : Option mAct := match S with
  | .ref _ :: S => mGo q L S σ
  | .null :: S => mGo e1 L S σ
  | _ => none
def mNnS (q : Nat) (e1 : Nat) (L : mLs) (S : List Value) (σ : mS) : Option mAct := match S with
  | .ref _ :: S => mGo e1 L S σ
  | .null :: S => mGo q L S σ
  | _ => none
def mTabS (d : Int) (lo : Int) (hi : Int) (offs : Array Int) (pc : Nat) (L : mLs) (S : List Value) (σ : mS) : Option mAct := match S with
  | .int x :: S => if x.toInt < lo ∨ hi < x.toInt then mGo ((pc : Int) + d).toNat L S σ else match offs[(x.toInt - lo).toNat]? with
    | some o => mGo ((pc : Int) + o).toNat L S σ
    | none => none
  | _ => none
def mGetS (q : Nat) (e1 : Nat) (e2 : Nat) (L : mLs) (S : List Value) (σ : mS) : Option mAct := match S with
  | .ref a :: S => match σ.1 a with
    | some (.inl (c, fs)) => if c = e1 then match fs[e2]? with
      | some v => mGo q L (v :: S) σ
      | none => none
      else none
    | _ => none
  | _ => none
def mPutS (q : Nat) (e1 : Nat) (e2 : Nat) (L : mLs) (S : List Value) (σ : mS) : Option mAct := match S with
  | v :: .ref a :: S => match σ.1 a with
    | some (.inl (c, fs)) => if c = e1 ∧ e2 % 128 < fs.length ∧ mFit (e2 / 128) v = true then mGo q L S (mPut a (.inl (c, fs.set (e2 % 128) v)) σ) else none
    | _ => none
  | _ => none
def mNewS (fk : mFkT) (q : Nat) (e1 : Nat) (e2 : Nat) (L : mLs) (S : List Value) (σ : mS) : Option mAct := if 100 ≤ e1 then (if S.length ≤ 4 then mEnd (.inr (e1 - 100)) (mThr σ) else none)
    else mGo q L (.ref (mAd e2 (σ.2.1 e2)) :: S) (mNew e2 (.inl (e1, (fk e1).map mDf)) (fk e1).length σ)
def mNewA (q : Nat) (e1 : Nat) (e2 : Nat) (L : mLs) (S : List Value) (σ : mS) : Option mAct := match S with
  | .int n :: S => if ¬ n < 0 ∧ n.toNatClampNeg ≤ 100000 then match mArr e1 n.toNatClampNeg with
    | some a => mGo q L (.ref (mAd e2 (σ.2.1 e2)) :: S) (mNew e2 (.inr (e1, a)) n.toNatClampNeg σ)
    | none => none
    else none
  | _ => none
def mNewR (q : Nat) (e1 : Nat) (e2 : Nat) (L : mLs) (S : List Value) (σ : mS) : Option mAct := match S with
  | .int n :: S => if ¬ n < 0 ∧ n.toNatClampNeg ≤ 100000 then mGo q L (.ref (mAd e2 (σ.2.1 e2)) :: S) (mNew e2 (.inr (e1, n.toNatClampNeg, .inr (.inr (.inr (.inr fun _ => none))))) n.toNatClampNeg σ) else none
  | _ => none
def mLenS (nx : Nat) (q : Nat) (L : mLs) (S : List Value) (σ : mS) : Option mAct := match S with
  | .ref a :: S => if a = mSCR then mGo q L (.int (Int32.ofNat nx) :: S) σ else if a = mEMP then mGo q L (.int 0 :: S) σ else match σ.1 a with
    | some (.inr (_, n, _)) => mGo q L (.int (Int32.ofNat n) :: S) σ
    | _ => none
  | _ => none
def mIald (xs : Nat → Int32) (nx : Nat) (q : Nat) (L : mLs) (S : List Value) (σ : mS) : Option mAct := match S with
  | .int i :: .ref a :: S => if a = mSCR then (if mIn i nx = true then mGo q L (.int (xs i.toNatClampNeg) :: S) σ else none) else match σ.1 a with
    | some (.inr (0, n, .inl f)) => if mIn i n = true then mGo q L (.int (f i.toNatClampNeg) :: S) σ else none
    | _ => none
  | _ => none
def mIast (q : Nat) (L : mLs) (S : List Value) (σ : mS) : Option mAct := match S with
  | .int x :: .int i :: .ref a :: S => match σ.1 a with
    | some (.inr (0, n, .inl f)) => if mIn i n = true then mGo q L S (mPut a (.inr (0, n, .inl (upd f i.toNatClampNeg x))) σ) else none
    | _ => none
  | _ => none
def mBald (q : Nat) (L : mLs) (S : List Value) (σ : mS) : Option mAct := match S with
  | .int i :: .ref a :: S => match σ.1 a with
    | some (.inr (1, n, .inl f)) => if mIn i n = true then mGo q L (.int (f i.toNatClampNeg) :: S) σ else none
    | _ => none
  | _ => none
def mBast (q : Nat) (L : mLs) (S : List Value) (σ : mS) : Option mAct := match S with
  | .int x :: .int i :: .ref a :: S => match σ.1 a with
    | some (.inr (1, n, .inl f)) => if mIn i n = true ∧ mFit 1 (.int x) = true then mGo q L S (mPut a (.inr (1, n, .inl (upd f i.toNatClampNeg x))) σ) else none
    | _ => none
  | _ => none
def mLald (q : Nat) (L : mLs) (S : List Value) (σ : mS) : Option mAct := match S with
  | .int i :: .ref a :: S => match σ.1 a with
    | some (.inr (2, n, .inr (.inl f))) => if mIn i n = true then mGo q L (.long (f i.toNatClampNeg) :: S) σ else none
    | _ => none
  | _ => none
def mLast (q : Nat) (L : mLs) (S : List Value) (σ : mS) : Option mAct := match S with
  | .long x :: .int i :: .ref a :: S => match σ.1 a with
    | some (.inr (2, n, .inr (.inl f))) => if mIn i n = true then mGo q L S (mPut a (.inr (2, n, .inr (.inl (vp_updL f i.toNatClampNeg x)))) σ) else none
    | _ => none
  | _ => none
def mAald (q : Nat) (L : mLs) (S : List Value) (σ : mS) : Option mAct := match S with
  | .int i :: .ref a :: S => match σ.1 a with
    | some (.inr (t, n, .inr (.inr (.inr (.inr f))))) => if mIn i n = true then mGo q L (va_rf (f i.toNatClampNeg) :: S) σ else none
    | _ => none
  | _ => none
def mAast (q : Nat) (L : mLs) (S : List Value) (σ : mS) : Option mAct := match S with
  | .ref v :: .int i :: .ref a :: S => match σ.1 a with
    | some (.inr (t, n, .inr (.inr (.inr (.inr f))))) => if mIn i n = true ∧ mMay σ.1 t v = true then mGo q L S (mPut a (.inr (t, n, .inr (.inr (.inr (.inr (va_up f i.toNatClampNeg (some v))))))) σ) else none
    | _ => none
  | .null :: .int i :: .ref a :: S => match σ.1 a with
    | some (.inr (t, n, .inr (.inr (.inr (.inr f))))) => if mIn i n = true then mGo q L S (mPut a (.inr (t, n, .inr (.inr (.inr (.inr (va_up f i.toNatClampNeg none)))))) σ) else none
    | _ => none
  | _ => none
def mCstS (q : Nat) (e1 : Nat) (L : mLs) (S : List Value) (σ : mS) : Option mAct := match S with
  | .null :: S => mGo q L (.null :: S) σ
  | .ref a :: S => if mIs σ.1 e1 (some (.ref a)) = true then mGo q L (.ref a :: S) σ else none
  | _ => none
def mSpcS (q : Nat) (e1 : Nat) (e2 : Nat) (L : mLs) (S : List Value) (σ : mS) : Option mAct := if e1 = 1000 then (match S with
    | .ref _ :: S => if S.length ≤ 4 then mGo q L S σ else none
    | _ => none)
    else if mRf (S[e2 % 16 - 1]?) = true then mInv e1 (e2 % 16) S else none
def mSttS (q : Nat) (e1 : Nat) (e2 : Nat) (L : mLs) (S : List Value) (σ : mS) : Option mAct := if e1 = 1001 then (match S with
    | .int n :: .int dp :: .ref a :: .int sp :: .ref a0 :: S => match σ.1 a0, σ.1 a with
      | some (.inr (3, n0, .inr (.inr (.inr (.inr f))))), some (.inr (3, n1, .inr (.inr (.inr (.inr g))))) =>
        if ¬ sp < 0 ∧ ¬ dp < 0 ∧ ¬ n < 0 ∧ sp.toNatClampNeg + n.toNatClampNeg ≤ n0 ∧ dp.toNatClampNeg + n.toNatClampNeg ≤ n1 ∧ S.length ≤ 4 then mGo q L S (mPut a (.inr (3, n1, .inr (.inr (.inr (.inr (va_cpy f g sp.toNatClampNeg dp.toNatClampNeg n.toNatClampNeg)))))) σ) else none
      | _, _ => none
    | _ => none)
    else if e1 = 1003 then (if S.length ≤ 6 then mI2 S (fun x y => if x < y then y else x) q L σ else none)
    else if e1 = 1004 then (if S.length ≤ 6 then mI2 S (fun x y => if y < x then y else x) q L σ else none)
    else if e1 = 1005 then (if S.length ≤ 5 then mI1 S (fun x => if 0 ≤ x then x else 0 - x) q L σ else none)
    else mInv e1 (e2 % 16) S
def mVrtS (q : Nat) (e1 : Nat) (e2 : Nat) (L : mLs) (S : List Value) (σ : mS) : Option mAct := if e1 = 1002 then (match S with
    | .ref a :: S => match σ.1 a with
      | some (.inr (3, _, _)) => if S.length ≤ 4 then mGo q L (.ref mMIR :: S) σ else none
      | _ => none
    | _ => none)
    else if mIs σ.1 (e2 / 256) (S[e2 % 16 - 1]?) = true then mInv e1 (e2 % 16) S else none
def mIretS (e1 : Nat) (S : List Value) (σ : mS) : Option mAct := match S with
  | [.int x] => if mFit (e1 - 1) (.int x) = true then mEnd (.inl (some (.int x))) σ else none
  | _ => none
def mAretS (S : List Value) (σ : mS) : Option mAct := match S with
  | [.ref x] => mEnd (.inl (some (.ref x))) σ
  | [.null] => mEnd (.inl (some .null)) σ
  | _ => none
def mVretS (S : List Value) (σ : mS) : Option mAct := match S with
  | [] => mEnd (.inl none) σ
  | _ => none
def mStep (fk : mFkT) (xs : Nat → Int32) (nx : Nat) (e : mE) (pc : Nat) (L : mLs) (S : List Value) (σ : mS) : Option mAct :=
  let q := pc + e.2.1
  let e1 := e.2.2.1
  let e2 := e.2.2.2
  match e.1 with
  | .iload_n k => mLdI L k q S σ
  | .iload i => mLdI L i q S σ
  | .aload_n k => mLdA L k q S σ
  | .aload i => mLdA L i q S σ
  | .istore_n k => mStI L k q S σ
  | .istore i => mStI L i q S σ
  | .astore_n k => mStA L k q S σ
  | .astore i => mStA L i q S σ
  | .iconst i => mGo q L (.int (Int32.ofInt i) :: S) σ
  | .bipush i => mGo q L (.int (Int32.ofInt i) :: S) σ
  | .sipush i => mGo q L (.int (Int32.ofInt i) :: S) σ
  | .lconst i => mGo q L (.long (if i = 0 then 0 else 1) :: S) σ
  | .aconst_null => mGo q L (.null :: S) σ
  | .ldc _ => mLdcS q e1 L S σ
  | .getstatic _ => mGo q L (.ref mEMP :: S) σ
  | .iadd => mI2 S (fun x y => x + y) q L σ
  | .isub => mI2 S (fun x y => x - y) q L σ
  | .imul => mI2 S (fun x y => x * y) q L σ
  | .iand => mI2 S (fun x y => x &&& y) q L σ
  | .ixor => mI2 S (fun x y => x ^^^ y) q L σ
  | .ishr => mI2 S (fun x y => x >>> (y &&& 31)) q L σ
  | .ineg => mI1 S (fun x => -x) q L σ
  | .idiv => mDivS q L S σ
  | .irem => mRemS q L S σ
  | .i2l => mI2L q L S σ
  | .lcmp => mLcmp q L S σ
  | .iinc i n => mIincS i n q L S σ
  | .dup => mDupS q L S σ
  | .dup_x1 => mDupX q L S σ
  | .dup2 => mDup2 q L S σ
  | .pop => mPopS q L S σ
  | .goto _ => mGo e1 L S σ
  | .ifCond c _ => mIfS c q e1 L S σ
  | .if_icmp c _ => mIcS c q e1 L S σ
  | .if_acmp c _ => mAcS c q e1 L S σ
  | .ifnull _ => mNlS q e1 L S σ
  | .ifnonnull _ => mNnS q e1 L S σ
  | .tableswitch d lo hi offs => mTabS d lo hi offs pc L S σ
  | .getfield _ => mGetS q e1 e2 L S σ
  | .putfield _ => mPutS q e1 e2 L S σ
  | .new _ => mNewS fk q e1 e2 L S σ
  | .newarray _ => mNewA q e1 e2 L S σ
  | .anewarray _ => mNewR q e1 e2 L S σ
  | .arraylength => mLenS nx q L S σ
  | .iaload => mIald xs nx q L S σ
  | .iastore => mIast q L S σ
  | .baload => mBald q L S σ
  | .bastore => mBast q L S σ
  | .laload => mLald q L S σ
  | .lastore => mLast q L S σ
  | .aaload => mAald q L S σ
  | .aastore => mAast q L S σ
  | .checkcast _ => mCstS q e1 L S σ
  | .invokespecial _ => mSpcS q e1 e2 L S σ
  | .invokestatic _ => mSttS q e1 e2 L S σ
  | .invokevirtual _ => mVrtS q e1 e2 L S σ
  | .ireturn => mIretS e1 S σ
  | .areturn => mAretS S σ
  | .return_ => mVretS S σ
  | _ => none
def mL0 (A : List Value) (n : Nat) : mLs := A.map some ++ List.replicate (n - A.length) none
/-- the first row of a method's table of handlers that covers the place, for this kind of exception: from, to, handler, kind, local -/
def mHd (l : List (Nat × Nat × Nat × Nat × Nat)) (pc E : Nat) : Option (Nat × Nat) := match l with
  | [] => none
  | (a, b, hp, k, i) :: l => if a ≤ pc ∧ pc < b ∧ k = E then some (hp, i) else mHd l pc E
def mX (F : Nat → Nat → Option mE) (Hs : Nat → List (Nat × Nat × Nat × Nat × Nat)) (fk : mFkT) (xs : Nat → Int32) (nx : Nat) : Nat → Nat → Nat → mLs → List Value → mS → Option (mRes × mS)
  | 0, _, _, _, _, _ => none
  | n + 1, y, pc, L, S, σ => match F y pc with
    | none => none
    | some e => match mStep fk xs nx e pc L S σ with
      | none => none
      | some (.inl (pc', L', S', σ')) => mX F Hs fk xs nx n y pc' L' S' σ'
      | some (.inr (.inl (y', A, _, S'))) => match mX F Hs fk xs nx n y' 0 (mL0 A (mLo e.2.2.2)) [] σ with
        | none => none
        | some (.inl v, σ') => mX F Hs fk xs nx n y (pc + 3) L (v.toList ++ S') σ'
        | some (.inr E, σ') => match mHd (Hs y) pc E with
          | none => some (.inr E, σ')
          | some (hp, i) => mX F Hs fk xs nx n y hp (L.set i none) [] σ'
      | some (.inr (.inr r)) => some r
