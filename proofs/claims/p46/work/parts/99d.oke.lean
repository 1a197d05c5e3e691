/-! ===== what is checked of each row of the program ===== -/
def mNst : List (Nat × MethodName) := [(115, ⟨"Ropewalk", "indexIn", "(Ljava/util/ArrayList;LRopewalk$Parcel;)I"⟩), (11, ⟨"Ropewalk$Money", "<init>", "()V"⟩), (20, ⟨"Ropewalk$Stay", "<init>", "()V"⟩)]
def mOkF (own : String) (idx ci k : Nat) : Bool := match vwCl[ci]? with
  | some (_, T, N) => decide (k < N) && mFl.any (fun q => q.1 == idx && q.2.1 == own && q.2.2.2.1 == (T k).2.1 && q.2.2.2.2.1 == (T k).2.2.1 && (q.2.2.1 == (T k).1 || (q.2.2.1 == "java/util/ArrayList" && (T k).1 == "java/util/AbstractList" && (T k).2.1 == "modCount" && (T k).2.2.1 == "I")))
  | none => false
def mOkP (own : String) (kd ci k c : Nat) : Bool := match vwCl[ci]? with
  | some (_, T, _) => (match parseFieldDescriptor (T k).2.2.1 with
    | some .int => c == 0
    | some .boolean => c == 1
    | some (.object _) => c == 2
    | some (.array _) => c == 2
    | _ => false) && (!(T k).2.2.2 || (kd == 2 && (T k).1 == own))
  | none => false
def mOkC (own : String) (idx : Nat) (C : String) : Bool := mCl.any (fun q => q.1 == idx && q.2.1 == own && q.2.2.1 == C)
def mOkK (own : String) (idx : Nat) (x : MethodName) : Bool := mKl.any (fun q => q.1 == idx && q.2.1 == own && decide (q.2.2.1 = x))
def mOkN (own : String) (idx : Nat) (x : MethodName) : Bool := own == "Ropewalk$Parcel" && mNst.any (fun q => q.1 == idx && decide (q.2 = x))
def mCn (ci : Nat) : String := match vwCl[ci]? with
  | some q => q.1
  | none => ""
def mEx (E : Nat) : String := match E with
  | 0 => "java/lang/IndexOutOfBoundsException"
  | 1 => "java/lang/IllegalArgumentException"
  | _ => "java/lang/IllegalStateException"
/-- where the class Ropewalk's pool names the constructor of each -/
def mIc (E : Nat) : Nat := match E with
  | 0 => 569
  | 1 => 572
  | _ => 313
def mAt (t : Nat) : String := match t with
  | 3 => "java/lang/Object"
  | 4 => "Ropewalk$Depot"
  | 5 => "Ropewalk$Customer"
  | _ => "Ropewalk$Lane"
/-- how long an instruction is (n where that depends) -/
def mLn (i : Instr) (n : Nat) : Nat := match i with
  | .iload _ | .aload _ | .istore _ | .astore _ | .bipush _ | .ldc _ | .newarray _ => 2
  | .sipush _ | .getfield _ | .putfield _ | .getstatic _ | .goto _ | .ifCond _ _ | .if_icmp _ _ | .if_acmp _ _ | .ifnull _ | .ifnonnull _ | .new _ | .anewarray _ | .checkcast _ | .invokespecial _ | .invokestatic _ | .invokevirtual _ | .iinc _ _ => 3
  | .tableswitch _ _ _ _ => n
  | _ => 1
/-- the methods that are the claim's (the others are the reference of whole) -/
def mReal (y : Nat) : Bool := Nat.blt y 283 && !(Nat.ble 11 y && Nat.blt y 42) && !(Nat.ble 170 y && Nat.blt y 263)
theorem mReal_lt {y : Nat} (h : mReal y = true) : y < 283 := by
  unfold mReal at h
  simp only [Bool.and_eq_true] at h
  exact Nat.le_of_ble_eq_true h.1.1
/-- a call: the callee's numbers, its link, its room -/
def mOkI (own : String) (fr idx y' e2 kd : Nat) : Bool :=
  let M := mM y'
  decide (0 < y') && mReal y' && M.2.2.2.2.1 == kd && M.2.2.2.2.2.1 == e2 % 16 && M.2.2.1 == mLo e2 && decide (M.2.2.2.2.2.2.1 + 1 ≤ fr) && (mOkK own idx M.1 || mOkN own idx M.1) && (kd == 0 || decide (0 < e2 % 16))
def mOkE (y pc : Nat) (e : mE) : Bool :=
  let M := mM y
  let own := M.1.cls
  let fr := M.2.2.2.2.2.2.1
  let e1 := e.2.2.1
  let e2 := e.2.2.2
  decide (decode M.2.1 pc = .ok (e.1, e.2.1)) && e.2.1 == mLn e.1 e.2.1 && (match e.1 with
    | .goto o => decide ((pc : Int) + o = (e1 : Int))
    | .ifCond _ o => decide ((pc : Int) + o = (e1 : Int))
    | .if_icmp _ o => decide ((pc : Int) + o = (e1 : Int))
    | .if_acmp _ o => decide ((pc : Int) + o = (e1 : Int))
    | .ifnull o => decide ((pc : Int) + o = (e1 : Int))
    | .ifnonnull o => decide ((pc : Int) + o = (e1 : Int))
    | .bipush n => decide ((Int8.ofInt n).toInt32 = Int32.ofInt n)
    | .sipush n => decide ((Int16.ofInt n).toInt32 = Int32.ofInt n)
    | .tableswitch d _ _ offs => decide (0 ≤ (pc : Int) + d) && offs.all (fun o => decide (0 ≤ (pc : Int) + o))
    | .getfield idx => mOkF own idx e1 e2
    | .putfield idx => mOkF own idx e1 (e2 % 128) && mOkP own M.2.2.2.2.1 e1 (e2 % 128) (e2 / 128)
    | .new idx => if 100 ≤ e1 then decide (e1 < 103) && decide (6 ≤ fr) && mOkC own idx (mEx (e1 - 100)) && decide (decode M.2.1 (pc + 3) = .ok (.dup, 1)) && decide (decode M.2.1 (pc + 4) = .ok (.invokespecial e2, 3)) && decide (decode M.2.1 (pc + 7) = .ok (.athrow, 1)) && decide (0 < y) && decide (own = "Ropewalk") && e2 == mIc (e1 - 100)
      else decide (e1 < 12) && mOkC own idx (mCn e1) && decide (e2 < 127)
    | .newarray a => (match e1 with
      | 0 => decide (a = .int)
      | _ => false) && decide (e2 < 127)
    | .anewarray idx => decide (3 ≤ e1) && decide (e1 < 7) && mOkC own idx (mAt e1) && decide (e2 < 127)
    | .checkcast idx => decide (e1 < 12) && mOkC own idx (mCn e1)
    | .invokespecial idx => if e1 = 1000 then mOkK own idx ⟨"java/lang/Object", "<init>", "()V"⟩ && decide (1 ≤ fr) else mOkI own fr idx e1 e2 2
    | .invokestatic idx => if e1 = 1001 then mOkK own idx ⟨"java/lang/System", "arraycopy", "(Ljava/lang/Object;ILjava/lang/Object;II)V"⟩ && decide (1 ≤ fr)
      else if e1 = 1003 then mOkK own idx ⟨"java/lang/Math", "max", "(II)I"⟩ && decide (1 ≤ fr)
      else if e1 = 1004 then mOkK own idx ⟨"java/lang/Math", "min", "(II)I"⟩ && decide (1 ≤ fr)
      else if e1 = 1005 then mOkK own idx ⟨"java/lang/Math", "abs", "(I)I"⟩ && decide (1 ≤ fr)
      else mOkI own fr idx e1 e2 0
    | .invokevirtual idx => if e1 = 1002 then mOkK own idx ⟨"java/lang/Object", "getClass", "()Ljava/lang/Class;"⟩ && decide (1 ≤ fr)
      else mOkI own fr idx e1 e2 1 && decide (e2 / 256 < 12) && mCn (e2 / 256) == (mM e1).1.cls
    | .ireturn => (decide (M.2.2.2.1 = some .int) && e1 == 1) || (decide (M.2.2.2.1 = some .boolean) && e1 == 2)
    | .areturn => match M.2.2.2.1 with
      | some (.object _) => true
      | some (.array _) => true
      | _ => false
    | .return_ => decide (M.2.2.2.1 = none)
    | .ldc idx => (e1 == 1 && mOkC own idx "[Ljava/lang/Object;") || (e1 == 2 && own == "jdk/internal/util/ArraysSupport" && idx == 200) || (decide (3 ≤ e1) && decide (e1 < 9) && own == "RopewalkLaw" && idx == mKi e1)
    | .baload => false
    | .bastore => false
    | .laload => false
    | .lastore => false
    | .getstatic idx => mFl.any (fun q => q.1 == idx && q.2.1 == own && q.2.2.1 == "java/util/ArrayList" && q.2.2.2.1 == "DEFAULTCAPACITY_EMPTY_ELEMENTDATA" && q.2.2.2.2.1 == "[Ljava/lang/Object;")
    | _ => true)
/-- a method's rows, from a place on -/
def mOkR (y a B : Nat) : Bool := (List.range B).all (fun i => match mF y (a + i) with
  | some e => mOkE y (a + i) e
  | none => true)
def mEh (y : Nat) : List (Nat × Nat × Nat × Nat) := cond (Nat.ble 1 y && Nat.ble y 2) (cond (Nat.blt y 2) ([(0, 437, 438, 92), (0, 437, 443, 95), (0, 437, 448, 98)]) ([(0, 226, 227, 92), (0, 226, 232, 95)])) []
def mHz (own : String) (cc : ByteArray) (ml : Nat) : List (Nat × Nat × Nat × Nat × Nat) → List (Nat × Nat × Nat × Nat) → Bool
  | [], [] => true
  | (a, b, h, k, i) :: l, (a', b', hp, ct) :: l' => a == a' && b == b' && decide (k < 3) && decide (ct ≠ 0) && mOkC own ct (mEx k) && decide (i < ml) && ((decide (decode cc hp = .ok (.astore i, 2)) && h == hp + 2) || (decide (i < 4) && decide (decode cc hp = .ok (.astore_n (Fin.ofNat 4 i), 1)) && h == hp + 1)) && mHz own cc ml l l'
  | _, _ => false
