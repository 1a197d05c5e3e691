/-! ===== one step of the machine: made by wip/whole/gen/mk16.py ===== -/
def mLe (σ σ' : mS) : Prop := σ.2.2.1 ≤ σ'.2.2.1 ∧ σ.2.2.2 ≤ σ'.2.2.2
theorem mLe.rf {σ : mS} : mLe σ σ := ⟨Nat.le_refl _, Nat.le_refl _⟩
theorem mLe.tr {σ σ1 σ2 : mS} (h : mLe σ σ1) (k : mLe σ1 σ2) : mLe σ σ2 := ⟨Nat.le_trans h.1 k.1, Nat.le_trans h.2 k.2⟩
def mOutLe (σ : mS) (o : Option mAct) : Prop := match o with
  | some (.inl (_, _, _, σ')) => mLe σ σ'
  | some (.inr (.inr (_, σ'))) => mLe σ σ'
  | _ => True
set_option maxHeartbeats 4000000 in
theorem mStep_le (fk : mFkT) (xs : Nat → Int32) (nx : Nat) (e : mE) (pc : Nat) (L : mLs) (S : List Value) (σ : mS) : mOutLe σ (mStep fk xs nx e pc L S σ) := by
  have h0 : ∀ (p : Nat) (L : mLs) (S : List Value), mOutLe σ (mGo p L S σ) := fun _ _ _ => mLe.rf
  have hp : ∀ (p : Nat) (L : mLs) (S : List Value) (a : Nat) (c : mC), mOutLe σ (mGo p L S (mPut a c σ)) := fun _ _ _ _ _ => mLe.rf
  have hn : ∀ (p : Nat) (L : mLs) (S : List Value) (t : Nat) (c : mC) (n : Nat), mOutLe σ (mGo p L S (mNew t c n σ)) := fun _ _ _ _ _ _ => ⟨Nat.le_succ _, Nat.le_add_right _ _⟩
  have he : ∀ (r : mRes), mOutLe σ (mEnd r σ) := fun _ => mLe.rf
  have ht : ∀ (r : mRes), mOutLe σ (mEnd r (mThr σ)) := fun _ => ⟨Nat.le_succ _, Nat.le_add_right _ _⟩
  have hc : ∀ (y : Nat) (A : List Value) (n : Nat) (S : List Value), mOutLe σ (mCall y A n S) := fun _ _ _ _ => trivial
  have hN : mOutLe σ none := trivial
  have hi : ∀ (y n : Nat) (S : List Value), mOutLe σ (mInv y n S) := fun y n S => by unfold mInv; split <;> first | exact hc _ _ _ _ | exact hN
  have hs : ∀ (L : mLs) (i : Nat) (v : Value) (p : Nat) (S : List Value), mOutLe σ (mSt L i v p S σ) := fun L i v p S => by unfold mSt; split <;> first | exact h0 _ _ _ | exact hN
  have hb : ∀ (c : Prop) [Decidable c] (t f : Nat) (L : mLs) (S : List Value), mOutLe σ (mBr c t f L S σ) := fun c _ t f L S => by unfold mBr; split <;> exact h0 _ _ _
  obtain ⟨ins, ln, e1, e2⟩ := e
  cases ins
  case iload_n k =>
    show mOutLe σ (mLdI L k (pc + ln) S σ)
    unfold mLdI
    repeat' split
    all_goals first | exact h0 _ _ _ | exact hN | exact hs _ _ _ _ _ | exact hb _ _ _ _ _ | exact hp _ _ _ _ _ | exact hn _ _ _ _ _ _ | exact he _ | exact ht _ | exact hi _ _ _ | (unfold mI2; split <;> first | exact h0 _ _ _ | exact hN) | (unfold mI1; split <;> first | exact h0 _ _ _ | exact hN)
  case iload k =>
    show mOutLe σ (mLdI L k (pc + ln) S σ)
    unfold mLdI
    repeat' split
    all_goals first | exact h0 _ _ _ | exact hN | exact hs _ _ _ _ _ | exact hb _ _ _ _ _ | exact hp _ _ _ _ _ | exact hn _ _ _ _ _ _ | exact he _ | exact ht _ | exact hi _ _ _ | (unfold mI2; split <;> first | exact h0 _ _ _ | exact hN) | (unfold mI1; split <;> first | exact h0 _ _ _ | exact hN)
  case aload_n k =>
    show mOutLe σ (mLdA L k (pc + ln) S σ)
    unfold mLdA
    repeat' split
    all_goals first | exact h0 _ _ _ | exact hN | exact hs _ _ _ _ _ | exact hb _ _ _ _ _ | exact hp _ _ _ _ _ | exact hn _ _ _ _ _ _ | exact he _ | exact ht _ | exact hi _ _ _ | (unfold mI2; split <;> first | exact h0 _ _ _ | exact hN) | (unfold mI1; split <;> first | exact h0 _ _ _ | exact hN)
  case aload k =>
    show mOutLe σ (mLdA L k (pc + ln) S σ)
    unfold mLdA
    repeat' split
    all_goals first | exact h0 _ _ _ | exact hN | exact hs _ _ _ _ _ | exact hb _ _ _ _ _ | exact hp _ _ _ _ _ | exact hn _ _ _ _ _ _ | exact he _ | exact ht _ | exact hi _ _ _ | (unfold mI2; split <;> first | exact h0 _ _ _ | exact hN) | (unfold mI1; split <;> first | exact h0 _ _ _ | exact hN)
  case istore_n k =>
    show mOutLe σ (mStI L k (pc + ln) S σ)
    unfold mStI
    repeat' split
    all_goals first | exact h0 _ _ _ | exact hN | exact hs _ _ _ _ _ | exact hb _ _ _ _ _ | exact hp _ _ _ _ _ | exact hn _ _ _ _ _ _ | exact he _ | exact ht _ | exact hi _ _ _ | (unfold mI2; split <;> first | exact h0 _ _ _ | exact hN) | (unfold mI1; split <;> first | exact h0 _ _ _ | exact hN)
  case istore k =>
    show mOutLe σ (mStI L k (pc + ln) S σ)
    unfold mStI
    repeat' split
    all_goals first | exact h0 _ _ _ | exact hN | exact hs _ _ _ _ _ | exact hb _ _ _ _ _ | exact hp _ _ _ _ _ | exact hn _ _ _ _ _ _ | exact he _ | exact ht _ | exact hi _ _ _ | (unfold mI2; split <;> first | exact h0 _ _ _ | exact hN) | (unfold mI1; split <;> first | exact h0 _ _ _ | exact hN)
  case astore_n k =>
    show mOutLe σ (mStA L k (pc + ln) S σ)
    unfold mStA
    repeat' split
    all_goals first | exact h0 _ _ _ | exact hN | exact hs _ _ _ _ _ | exact hb _ _ _ _ _ | exact hp _ _ _ _ _ | exact hn _ _ _ _ _ _ | exact he _ | exact ht _ | exact hi _ _ _ | (unfold mI2; split <;> first | exact h0 _ _ _ | exact hN) | (unfold mI1; split <;> first | exact h0 _ _ _ | exact hN)
  case astore k =>
    show mOutLe σ (mStA L k (pc + ln) S σ)
    unfold mStA
    repeat' split
    all_goals first | exact h0 _ _ _ | exact hN | exact hs _ _ _ _ _ | exact hb _ _ _ _ _ | exact hp _ _ _ _ _ | exact hn _ _ _ _ _ _ | exact he _ | exact ht _ | exact hi _ _ _ | (unfold mI2; split <;> first | exact h0 _ _ _ | exact hN) | (unfold mI1; split <;> first | exact h0 _ _ _ | exact hN)
  case iconst i => exact h0 _ _ _
  case bipush i => exact h0 _ _ _
  case sipush i => exact h0 _ _ _
  case lconst i => exact h0 _ _ _
  case aconst_null => exact h0 _ _ _
  case ldc i =>
    show mOutLe σ (mLdcS (pc + ln) e1 L S σ)
    unfold mLdcS
    repeat' split
    all_goals first | exact h0 _ _ _ | exact hN | exact hs _ _ _ _ _ | exact hb _ _ _ _ _ | exact hp _ _ _ _ _ | exact hn _ _ _ _ _ _ | exact he _ | exact ht _ | exact hi _ _ _ | (unfold mI2; split <;> first | exact h0 _ _ _ | exact hN) | (unfold mI1; split <;> first | exact h0 _ _ _ | exact hN)
  case getstatic i => exact h0 _ _ _
  case iadd =>
    show mOutLe σ (mI2 S (fun x y => x + y) (pc + ln) L σ)
    unfold mI2
    repeat' split
    all_goals first | exact h0 _ _ _ | exact hN | exact hs _ _ _ _ _ | exact hb _ _ _ _ _ | exact hp _ _ _ _ _ | exact hn _ _ _ _ _ _ | exact he _ | exact ht _ | exact hi _ _ _ | (unfold mI2; split <;> first | exact h0 _ _ _ | exact hN) | (unfold mI1; split <;> first | exact h0 _ _ _ | exact hN)
  case isub =>
    show mOutLe σ (mI2 S (fun x y => x - y) (pc + ln) L σ)
    unfold mI2
    repeat' split
    all_goals first | exact h0 _ _ _ | exact hN | exact hs _ _ _ _ _ | exact hb _ _ _ _ _ | exact hp _ _ _ _ _ | exact hn _ _ _ _ _ _ | exact he _ | exact ht _ | exact hi _ _ _ | (unfold mI2; split <;> first | exact h0 _ _ _ | exact hN) | (unfold mI1; split <;> first | exact h0 _ _ _ | exact hN)
  case imul =>
    show mOutLe σ (mI2 S (fun x y => x * y) (pc + ln) L σ)
    unfold mI2
    repeat' split
    all_goals first | exact h0 _ _ _ | exact hN | exact hs _ _ _ _ _ | exact hb _ _ _ _ _ | exact hp _ _ _ _ _ | exact hn _ _ _ _ _ _ | exact he _ | exact ht _ | exact hi _ _ _ | (unfold mI2; split <;> first | exact h0 _ _ _ | exact hN) | (unfold mI1; split <;> first | exact h0 _ _ _ | exact hN)
  case iand =>
    show mOutLe σ (mI2 S (fun x y => x &&& y) (pc + ln) L σ)
    unfold mI2
    repeat' split
    all_goals first | exact h0 _ _ _ | exact hN | exact hs _ _ _ _ _ | exact hb _ _ _ _ _ | exact hp _ _ _ _ _ | exact hn _ _ _ _ _ _ | exact he _ | exact ht _ | exact hi _ _ _ | (unfold mI2; split <;> first | exact h0 _ _ _ | exact hN) | (unfold mI1; split <;> first | exact h0 _ _ _ | exact hN)
  case ixor =>
    show mOutLe σ (mI2 S (fun x y => x ^^^ y) (pc + ln) L σ)
    unfold mI2
    repeat' split
    all_goals first | exact h0 _ _ _ | exact hN | exact hs _ _ _ _ _ | exact hb _ _ _ _ _ | exact hp _ _ _ _ _ | exact hn _ _ _ _ _ _ | exact he _ | exact ht _ | exact hi _ _ _ | (unfold mI2; split <;> first | exact h0 _ _ _ | exact hN) | (unfold mI1; split <;> first | exact h0 _ _ _ | exact hN)
  case ishr =>
    show mOutLe σ (mI2 S (fun x y => x >>> (y &&& 31)) (pc + ln) L σ)
    unfold mI2
    repeat' split
    all_goals first | exact h0 _ _ _ | exact hN | exact hs _ _ _ _ _ | exact hb _ _ _ _ _ | exact hp _ _ _ _ _ | exact hn _ _ _ _ _ _ | exact he _ | exact ht _ | exact hi _ _ _ | (unfold mI2; split <;> first | exact h0 _ _ _ | exact hN) | (unfold mI1; split <;> first | exact h0 _ _ _ | exact hN)
  case ineg =>
    show mOutLe σ (mI1 S (fun x => -x) (pc + ln) L σ)
    unfold mI1
    repeat' split
    all_goals first | exact h0 _ _ _ | exact hN | exact hs _ _ _ _ _ | exact hb _ _ _ _ _ | exact hp _ _ _ _ _ | exact hn _ _ _ _ _ _ | exact he _ | exact ht _ | exact hi _ _ _ | (unfold mI2; split <;> first | exact h0 _ _ _ | exact hN) | (unfold mI1; split <;> first | exact h0 _ _ _ | exact hN)
  case idiv =>
    show mOutLe σ (mDivS (pc + ln) L S σ)
    unfold mDivS
    repeat' split
    all_goals first | exact h0 _ _ _ | exact hN | exact hs _ _ _ _ _ | exact hb _ _ _ _ _ | exact hp _ _ _ _ _ | exact hn _ _ _ _ _ _ | exact he _ | exact ht _ | exact hi _ _ _ | (unfold mI2; split <;> first | exact h0 _ _ _ | exact hN) | (unfold mI1; split <;> first | exact h0 _ _ _ | exact hN)
  case irem =>
    show mOutLe σ (mRemS (pc + ln) L S σ)
    unfold mRemS
    repeat' split
    all_goals first | exact h0 _ _ _ | exact hN | exact hs _ _ _ _ _ | exact hb _ _ _ _ _ | exact hp _ _ _ _ _ | exact hn _ _ _ _ _ _ | exact he _ | exact ht _ | exact hi _ _ _ | (unfold mI2; split <;> first | exact h0 _ _ _ | exact hN) | (unfold mI1; split <;> first | exact h0 _ _ _ | exact hN)
  case i2l =>
    show mOutLe σ (mI2L (pc + ln) L S σ)
    unfold mI2L
    repeat' split
    all_goals first | exact h0 _ _ _ | exact hN | exact hs _ _ _ _ _ | exact hb _ _ _ _ _ | exact hp _ _ _ _ _ | exact hn _ _ _ _ _ _ | exact he _ | exact ht _ | exact hi _ _ _ | (unfold mI2; split <;> first | exact h0 _ _ _ | exact hN) | (unfold mI1; split <;> first | exact h0 _ _ _ | exact hN)
  case lcmp =>
    show mOutLe σ (mLcmp (pc + ln) L S σ)
    unfold mLcmp
    repeat' split
    all_goals first | exact h0 _ _ _ | exact hN | exact hs _ _ _ _ _ | exact hb _ _ _ _ _ | exact hp _ _ _ _ _ | exact hn _ _ _ _ _ _ | exact he _ | exact ht _ | exact hi _ _ _ | (unfold mI2; split <;> first | exact h0 _ _ _ | exact hN) | (unfold mI1; split <;> first | exact h0 _ _ _ | exact hN)
  case iinc i n =>
    show mOutLe σ (mIincS i n (pc + ln) L S σ)
    unfold mIincS
    repeat' split
    all_goals first | exact h0 _ _ _ | exact hN | exact hs _ _ _ _ _ | exact hb _ _ _ _ _ | exact hp _ _ _ _ _ | exact hn _ _ _ _ _ _ | exact he _ | exact ht _ | exact hi _ _ _ | (unfold mI2; split <;> first | exact h0 _ _ _ | exact hN) | (unfold mI1; split <;> first | exact h0 _ _ _ | exact hN)
  case dup =>
    show mOutLe σ (mDupS (pc + ln) L S σ)
    unfold mDupS
    repeat' split
    all_goals first | exact h0 _ _ _ | exact hN | exact hs _ _ _ _ _ | exact hb _ _ _ _ _ | exact hp _ _ _ _ _ | exact hn _ _ _ _ _ _ | exact he _ | exact ht _ | exact hi _ _ _ | (unfold mI2; split <;> first | exact h0 _ _ _ | exact hN) | (unfold mI1; split <;> first | exact h0 _ _ _ | exact hN)
  case dup_x1 =>
    show mOutLe σ (mDupX (pc + ln) L S σ)
    unfold mDupX
    repeat' split
    all_goals first | exact h0 _ _ _ | exact hN | exact hs _ _ _ _ _ | exact hb _ _ _ _ _ | exact hp _ _ _ _ _ | exact hn _ _ _ _ _ _ | exact he _ | exact ht _ | exact hi _ _ _ | (unfold mI2; split <;> first | exact h0 _ _ _ | exact hN) | (unfold mI1; split <;> first | exact h0 _ _ _ | exact hN)
  case dup2 =>
    show mOutLe σ (mDup2 (pc + ln) L S σ)
    unfold mDup2
    repeat' split
    all_goals first | exact h0 _ _ _ | exact hN | exact hs _ _ _ _ _ | exact hb _ _ _ _ _ | exact hp _ _ _ _ _ | exact hn _ _ _ _ _ _ | exact he _ | exact ht _ | exact hi _ _ _ | (unfold mI2; split <;> first | exact h0 _ _ _ | exact hN) | (unfold mI1; split <;> first | exact h0 _ _ _ | exact hN)
  case pop =>
    show mOutLe σ (mPopS (pc + ln) L S σ)
    unfold mPopS
    repeat' split
    all_goals first | exact h0 _ _ _ | exact hN | exact hs _ _ _ _ _ | exact hb _ _ _ _ _ | exact hp _ _ _ _ _ | exact hn _ _ _ _ _ _ | exact he _ | exact ht _ | exact hi _ _ _ | (unfold mI2; split <;> first | exact h0 _ _ _ | exact hN) | (unfold mI1; split <;> first | exact h0 _ _ _ | exact hN)
  case goto i => exact h0 _ _ _
  case ifCond c i =>
    show mOutLe σ (mIfS c (pc + ln) e1 L S σ)
    unfold mIfS
    repeat' split
    all_goals first | exact h0 _ _ _ | exact hN | exact hs _ _ _ _ _ | exact hb _ _ _ _ _ | exact hp _ _ _ _ _ | exact hn _ _ _ _ _ _ | exact he _ | exact ht _ | exact hi _ _ _ | (unfold mI2; split <;> first | exact h0 _ _ _ | exact hN) | (unfold mI1; split <;> first | exact h0 _ _ _ | exact hN)
  case if_icmp c i =>
    show mOutLe σ (mIcS c (pc + ln) e1 L S σ)
    unfold mIcS
    repeat' split
    all_goals first | exact h0 _ _ _ | exact hN | exact hs _ _ _ _ _ | exact hb _ _ _ _ _ | exact hp _ _ _ _ _ | exact hn _ _ _ _ _ _ | exact he _ | exact ht _ | exact hi _ _ _ | (unfold mI2; split <;> first | exact h0 _ _ _ | exact hN) | (unfold mI1; split <;> first | exact h0 _ _ _ | exact hN)
  case if_acmp c i =>
    show mOutLe σ (mAcS c (pc + ln) e1 L S σ)
    unfold mAcS
    repeat' split
    all_goals first | exact h0 _ _ _ | exact hN | exact hs _ _ _ _ _ | exact hb _ _ _ _ _ | exact hp _ _ _ _ _ | exact hn _ _ _ _ _ _ | exact he _ | exact ht _ | exact hi _ _ _ | (unfold mI2; split <;> first | exact h0 _ _ _ | exact hN) | (unfold mI1; split <;> first | exact h0 _ _ _ | exact hN)
  case ifnull i =>
    show mOutLe σ (mNlS (pc + ln) e1 L S σ)
    unfold mNlS
    repeat' split
    all_goals first | exact h0 _ _ _ | exact hN | exact hs _ _ _ _ _ | exact hb _ _ _ _ _ | exact hp _ _ _ _ _ | exact hn _ _ _ _ _ _ | exact he _ | exact ht _ | exact hi _ _ _ | (unfold mI2; split <;> first | exact h0 _ _ _ | exact hN) | (unfold mI1; split <;> first | exact h0 _ _ _ | exact hN)
  case ifnonnull i =>
    show mOutLe σ (mNnS (pc + ln) e1 L S σ)
    unfold mNnS
    repeat' split
    all_goals first | exact h0 _ _ _ | exact hN | exact hs _ _ _ _ _ | exact hb _ _ _ _ _ | exact hp _ _ _ _ _ | exact hn _ _ _ _ _ _ | exact he _ | exact ht _ | exact hi _ _ _ | (unfold mI2; split <;> first | exact h0 _ _ _ | exact hN) | (unfold mI1; split <;> first | exact h0 _ _ _ | exact hN)
  case tableswitch d lo hi os =>
    show mOutLe σ (mTabS d lo hi os pc L S σ)
    unfold mTabS
    repeat' split
    all_goals first | exact h0 _ _ _ | exact hN | exact hs _ _ _ _ _ | exact hb _ _ _ _ _ | exact hp _ _ _ _ _ | exact hn _ _ _ _ _ _ | exact he _ | exact ht _ | exact hi _ _ _ | (unfold mI2; split <;> first | exact h0 _ _ _ | exact hN) | (unfold mI1; split <;> first | exact h0 _ _ _ | exact hN)
  case getfield i =>
    show mOutLe σ (mGetS (pc + ln) e1 e2 L S σ)
    unfold mGetS
    repeat' split
    all_goals first | exact h0 _ _ _ | exact hN | exact hs _ _ _ _ _ | exact hb _ _ _ _ _ | exact hp _ _ _ _ _ | exact hn _ _ _ _ _ _ | exact he _ | exact ht _ | exact hi _ _ _ | (unfold mI2; split <;> first | exact h0 _ _ _ | exact hN) | (unfold mI1; split <;> first | exact h0 _ _ _ | exact hN)
  case putfield i =>
    show mOutLe σ (mPutS (pc + ln) e1 e2 L S σ)
    unfold mPutS
    repeat' split
    all_goals first | exact h0 _ _ _ | exact hN | exact hs _ _ _ _ _ | exact hb _ _ _ _ _ | exact hp _ _ _ _ _ | exact hn _ _ _ _ _ _ | exact he _ | exact ht _ | exact hi _ _ _ | (unfold mI2; split <;> first | exact h0 _ _ _ | exact hN) | (unfold mI1; split <;> first | exact h0 _ _ _ | exact hN)
  case new i =>
    show mOutLe σ (mNewS fk (pc + ln) e1 e2 L S σ)
    unfold mNewS
    repeat' split
    all_goals first | exact h0 _ _ _ | exact hN | exact hs _ _ _ _ _ | exact hb _ _ _ _ _ | exact hp _ _ _ _ _ | exact hn _ _ _ _ _ _ | exact he _ | exact ht _ | exact hi _ _ _ | (unfold mI2; split <;> first | exact h0 _ _ _ | exact hN) | (unfold mI1; split <;> first | exact h0 _ _ _ | exact hN)
  case newarray i =>
    show mOutLe σ (mNewA (pc + ln) e1 e2 L S σ)
    unfold mNewA
    repeat' split
    all_goals first | exact h0 _ _ _ | exact hN | exact hs _ _ _ _ _ | exact hb _ _ _ _ _ | exact hp _ _ _ _ _ | exact hn _ _ _ _ _ _ | exact he _ | exact ht _ | exact hi _ _ _ | (unfold mI2; split <;> first | exact h0 _ _ _ | exact hN) | (unfold mI1; split <;> first | exact h0 _ _ _ | exact hN)
  case anewarray i =>
    show mOutLe σ (mNewR (pc + ln) e1 e2 L S σ)
    unfold mNewR
    repeat' split
    all_goals first | exact h0 _ _ _ | exact hN | exact hs _ _ _ _ _ | exact hb _ _ _ _ _ | exact hp _ _ _ _ _ | exact hn _ _ _ _ _ _ | exact he _ | exact ht _ | exact hi _ _ _ | (unfold mI2; split <;> first | exact h0 _ _ _ | exact hN) | (unfold mI1; split <;> first | exact h0 _ _ _ | exact hN)
  case arraylength =>
    show mOutLe σ (mLenS nx (pc + ln) L S σ)
    unfold mLenS
    repeat' split
    all_goals first | exact h0 _ _ _ | exact hN | exact hs _ _ _ _ _ | exact hb _ _ _ _ _ | exact hp _ _ _ _ _ | exact hn _ _ _ _ _ _ | exact he _ | exact ht _ | exact hi _ _ _ | (unfold mI2; split <;> first | exact h0 _ _ _ | exact hN) | (unfold mI1; split <;> first | exact h0 _ _ _ | exact hN)
  case iaload =>
    show mOutLe σ (mIald xs nx (pc + ln) L S σ)
    unfold mIald
    repeat' split
    all_goals first | exact h0 _ _ _ | exact hN | exact hs _ _ _ _ _ | exact hb _ _ _ _ _ | exact hp _ _ _ _ _ | exact hn _ _ _ _ _ _ | exact he _ | exact ht _ | exact hi _ _ _ | (unfold mI2; split <;> first | exact h0 _ _ _ | exact hN) | (unfold mI1; split <;> first | exact h0 _ _ _ | exact hN)
  case iastore =>
    show mOutLe σ (mIast (pc + ln) L S σ)
    unfold mIast
    repeat' split
    all_goals first | exact h0 _ _ _ | exact hN | exact hs _ _ _ _ _ | exact hb _ _ _ _ _ | exact hp _ _ _ _ _ | exact hn _ _ _ _ _ _ | exact he _ | exact ht _ | exact hi _ _ _ | (unfold mI2; split <;> first | exact h0 _ _ _ | exact hN) | (unfold mI1; split <;> first | exact h0 _ _ _ | exact hN)
  case baload =>
    show mOutLe σ (mBald (pc + ln) L S σ)
    unfold mBald
    repeat' split
    all_goals first | exact h0 _ _ _ | exact hN | exact hs _ _ _ _ _ | exact hb _ _ _ _ _ | exact hp _ _ _ _ _ | exact hn _ _ _ _ _ _ | exact he _ | exact ht _ | exact hi _ _ _ | (unfold mI2; split <;> first | exact h0 _ _ _ | exact hN) | (unfold mI1; split <;> first | exact h0 _ _ _ | exact hN)
  case bastore =>
    show mOutLe σ (mBast (pc + ln) L S σ)
    unfold mBast
    repeat' split
    all_goals first | exact h0 _ _ _ | exact hN | exact hs _ _ _ _ _ | exact hb _ _ _ _ _ | exact hp _ _ _ _ _ | exact hn _ _ _ _ _ _ | exact he _ | exact ht _ | exact hi _ _ _ | (unfold mI2; split <;> first | exact h0 _ _ _ | exact hN) | (unfold mI1; split <;> first | exact h0 _ _ _ | exact hN)
  case laload =>
    show mOutLe σ (mLald (pc + ln) L S σ)
    unfold mLald
    repeat' split
    all_goals first | exact h0 _ _ _ | exact hN | exact hs _ _ _ _ _ | exact hb _ _ _ _ _ | exact hp _ _ _ _ _ | exact hn _ _ _ _ _ _ | exact he _ | exact ht _ | exact hi _ _ _ | (unfold mI2; split <;> first | exact h0 _ _ _ | exact hN) | (unfold mI1; split <;> first | exact h0 _ _ _ | exact hN)
  case lastore =>
    show mOutLe σ (mLast (pc + ln) L S σ)
    unfold mLast
    repeat' split
    all_goals first | exact h0 _ _ _ | exact hN | exact hs _ _ _ _ _ | exact hb _ _ _ _ _ | exact hp _ _ _ _ _ | exact hn _ _ _ _ _ _ | exact he _ | exact ht _ | exact hi _ _ _ | (unfold mI2; split <;> first | exact h0 _ _ _ | exact hN) | (unfold mI1; split <;> first | exact h0 _ _ _ | exact hN)
  case aaload =>
    show mOutLe σ (mAald (pc + ln) L S σ)
    unfold mAald
    repeat' split
    all_goals first | exact h0 _ _ _ | exact hN | exact hs _ _ _ _ _ | exact hb _ _ _ _ _ | exact hp _ _ _ _ _ | exact hn _ _ _ _ _ _ | exact he _ | exact ht _ | exact hi _ _ _ | (unfold mI2; split <;> first | exact h0 _ _ _ | exact hN) | (unfold mI1; split <;> first | exact h0 _ _ _ | exact hN)
  case aastore =>
    show mOutLe σ (mAast (pc + ln) L S σ)
    unfold mAast
    repeat' split
    all_goals first | exact h0 _ _ _ | exact hN | exact hs _ _ _ _ _ | exact hb _ _ _ _ _ | exact hp _ _ _ _ _ | exact hn _ _ _ _ _ _ | exact he _ | exact ht _ | exact hi _ _ _ | (unfold mI2; split <;> first | exact h0 _ _ _ | exact hN) | (unfold mI1; split <;> first | exact h0 _ _ _ | exact hN)
  case checkcast i =>
    show mOutLe σ (mCstS (pc + ln) e1 L S σ)
    unfold mCstS
    repeat' split
    all_goals first | exact h0 _ _ _ | exact hN | exact hs _ _ _ _ _ | exact hb _ _ _ _ _ | exact hp _ _ _ _ _ | exact hn _ _ _ _ _ _ | exact he _ | exact ht _ | exact hi _ _ _ | (unfold mI2; split <;> first | exact h0 _ _ _ | exact hN) | (unfold mI1; split <;> first | exact h0 _ _ _ | exact hN)
  case invokespecial i =>
    show mOutLe σ (mSpcS (pc + ln) e1 e2 L S σ)
    unfold mSpcS
    repeat' split
    all_goals first | exact h0 _ _ _ | exact hN | exact hs _ _ _ _ _ | exact hb _ _ _ _ _ | exact hp _ _ _ _ _ | exact hn _ _ _ _ _ _ | exact he _ | exact ht _ | exact hi _ _ _ | (unfold mI2; split <;> first | exact h0 _ _ _ | exact hN) | (unfold mI1; split <;> first | exact h0 _ _ _ | exact hN)
  case invokestatic i =>
    show mOutLe σ (mSttS (pc + ln) e1 e2 L S σ)
    unfold mSttS
    repeat' split
    all_goals first | exact h0 _ _ _ | exact hN | exact hs _ _ _ _ _ | exact hb _ _ _ _ _ | exact hp _ _ _ _ _ | exact hn _ _ _ _ _ _ | exact he _ | exact ht _ | exact hi _ _ _ | (unfold mI2; split <;> first | exact h0 _ _ _ | exact hN) | (unfold mI1; split <;> first | exact h0 _ _ _ | exact hN)
  case invokevirtual i =>
    show mOutLe σ (mVrtS (pc + ln) e1 e2 L S σ)
    unfold mVrtS
    repeat' split
    all_goals first | exact h0 _ _ _ | exact hN | exact hs _ _ _ _ _ | exact hb _ _ _ _ _ | exact hp _ _ _ _ _ | exact hn _ _ _ _ _ _ | exact he _ | exact ht _ | exact hi _ _ _ | (unfold mI2; split <;> first | exact h0 _ _ _ | exact hN) | (unfold mI1; split <;> first | exact h0 _ _ _ | exact hN)
  case ireturn =>
    show mOutLe σ (mIretS e1 S σ)
    unfold mIretS
    repeat' split
    all_goals first | exact h0 _ _ _ | exact hN | exact hs _ _ _ _ _ | exact hb _ _ _ _ _ | exact hp _ _ _ _ _ | exact hn _ _ _ _ _ _ | exact he _ | exact ht _ | exact hi _ _ _ | (unfold mI2; split <;> first | exact h0 _ _ _ | exact hN) | (unfold mI1; split <;> first | exact h0 _ _ _ | exact hN)
  case areturn =>
    show mOutLe σ (mAretS S σ)
    unfold mAretS
    repeat' split
    all_goals first | exact h0 _ _ _ | exact hN | exact hs _ _ _ _ _ | exact hb _ _ _ _ _ | exact hp _ _ _ _ _ | exact hn _ _ _ _ _ _ | exact he _ | exact ht _ | exact hi _ _ _ | (unfold mI2; split <;> first | exact h0 _ _ _ | exact hN) | (unfold mI1; split <;> first | exact h0 _ _ _ | exact hN)
  case return_ =>
    show mOutLe σ (mVretS S σ)
    unfold mVretS
    repeat' split
    all_goals first | exact h0 _ _ _ | exact hN | exact hs _ _ _ _ _ | exact hb _ _ _ _ _ | exact hp _ _ _ _ _ | exact hn _ _ _ _ _ _ | exact he _ | exact ht _ | exact hi _ _ _ | (unfold mI2; split <;> first | exact h0 _ _ _ | exact hN) | (unfold mI1; split <;> first | exact h0 _ _ _ | exact hN)
  all_goals exact hN
theorem mX_le (fk : mFkT) (F : Nat → Nat → Option mE) (Hs : Nat → List (Nat × Nat × Nat × Nat × Nat)) (xs : Nat → Int32) (nx : Nat) : ∀ (n y pc : Nat) (L : mLs) (S : List Value) (σ : mS) (r : mRes) (σ1 : mS), mX F Hs fk xs nx n y pc L S σ = some (r, σ1) → mLe σ σ1 := by
  intro n
  induction n with
  | zero => intro y pc L S σ r σ1 h; cases h
  | succ n ih =>
    intro y pc L S σ r σ1 h
    unfold mX at h
    cases hF : F y pc with
    | none => rw [hF] at h; cases h
    | some e =>
      rw [hF] at h
      have hl := mStep_le fk xs nx e pc L S σ
      simp only at h
      cases hs : mStep fk xs nx e pc L S σ with
      | none => rw [hs] at h; cases h
      | some a =>
        rw [hs] at h hl
        rcases a with ⟨pc', L', S', σ'⟩ | ⟨y', A, k, S'⟩ | ⟨r', σ'⟩
        · exact mLe.tr hl (ih _ _ _ _ _ _ _ h)
        · simp only at h
          cases hc : mX F Hs fk xs nx n y' 0 (mL0 A (mLo e.2.2.2)) [] σ with
          | none => rw [hc] at h; cases h
          | some q =>
            rw [hc] at h
            obtain ⟨r2, σ2⟩ := q
            have h2 := ih _ _ _ _ _ _ _ hc
            rcases r2 with v | E
            · exact mLe.tr h2 (ih _ _ _ _ _ _ _ h)
            · simp only at h
              cases hh : mHd (Hs y) pc E with
              | none => rw [hh] at h; cases h; exact h2
              | some q => rw [hh] at h; exact mLe.tr h2 (ih _ _ _ _ _ _ _ h)
        · cases h; exact hl
section WK6
variable {p : Program} {l : Launch} {e : Env} {R : Room} {s : State} {m : MethodId} {args : Array Value} {below : List Frame} {meth : Method} {c : Code} {Q : State → Prop} {y : Nat} {D : va_G} {cy : Nat → ClassId} {A : Nat → Prop} {b Ls : Nat} {xs : Nat → Int32} {emp mi n0 m0 : Nat} {α : Nat → Nat} {dom : List Nat} {H : Heap} {locs : List Loc} {cells slots pc : Nat} {L : mLs} {S : List Value} {ls : Array Slot} {σ : mS} {pc2 : Nat} {L2 : mLs} {S2 : List Value} {σ2 : mS}
set_option maxHeartbeats 4000000 in
theorem mStep_go {ee : mE} (f : mFr p l R s m args meth c y D cy A b Ls xs emp mi n0 m0 α dom H locs cells slots L S ls σ) (hok : mOkE y pc ee = true) (h : mStep mFk xs Ls ee pc L S σ = some (.inl (pc2, L2, S2, σ2))) (hr : σ2.2.2.1 ≤ R.cells + n0 ∧ σ2.2.2.2 ≤ R.slots + m0) (K : mNx p l e R s m args below meth c Q y D cy A b Ls xs emp mi n0 m0 α dom pc2 L2 S2 σ2) : W p l e R s m args below meth c H locs cells slots Q (F0 m pc ls (S.map (wV α))) := by
  obtain ⟨ins, ln, e1, e2⟩ := ee
  unfold mOkE at hok
  simp only [Bool.and_eq_true, decide_eq_true_eq, beq_iff_eq] at hok
  obtain ⟨⟨hd, hln⟩, hx⟩ := hok
  cases ins
  case iload_n k =>
    have hln : ln = 1 := hln
    subst hln
    exact wk_iload_n f hd h K
  case iload k =>
    have hln : ln = 2 := hln
    subst hln
    exact wk_iload f hd h K
  case aload_n k =>
    have hln : ln = 1 := hln
    subst hln
    exact wk_aload_n f hd h K
  case aload k =>
    have hln : ln = 2 := hln
    subst hln
    exact wk_aload f hd h K
  case istore_n k =>
    have hln : ln = 1 := hln
    subst hln
    exact wk_istore_n f hd h K
  case istore k =>
    have hln : ln = 2 := hln
    subst hln
    exact wk_istore f hd h K
  case astore_n k =>
    have hln : ln = 1 := hln
    subst hln
    exact wk_astore_n f hd h K
  case astore k =>
    have hln : ln = 2 := hln
    subst hln
    exact wk_astore f hd h K
  case iconst i =>
    have hln : ln = 1 := hln
    subst hln
    exact wk_iconst f hd h K
  case bipush i =>
    have hln : ln = 2 := hln
    subst hln
    simp only [Bool.and_eq_true, decide_eq_true_eq, beq_iff_eq] at hx
    exact wk_bipush f hx hd h K
  case sipush i =>
    have hln : ln = 3 := hln
    subst hln
    simp only [Bool.and_eq_true, decide_eq_true_eq, beq_iff_eq] at hx
    exact wk_sipush f hx hd h K
  case lconst i =>
    have hln : ln = 1 := hln
    subst hln
    exact wk_lconst f hd h K
  case aconst_null =>
    have hln : ln = 1 := hln
    subst hln
    exact wk_null f hd h K
  case iadd =>
    have hln : ln = 1 := hln
    subst hln
    exact wk_iadd f hd h K
  case isub =>
    have hln : ln = 1 := hln
    subst hln
    exact wk_isub f hd h K
  case imul =>
    have hln : ln = 1 := hln
    subst hln
    exact wk_imul f hd h K
  case iand =>
    have hln : ln = 1 := hln
    subst hln
    exact wk_iand f hd h K
  case ixor =>
    have hln : ln = 1 := hln
    subst hln
    exact wk_ixor f hd h K
  case ishr =>
    have hln : ln = 1 := hln
    subst hln
    exact wk_ishr f hd h K
  case ineg =>
    have hln : ln = 1 := hln
    subst hln
    exact wk_ineg f hd h K
  case idiv =>
    have hln : ln = 1 := hln
    subst hln
    exact wk_idiv f hd h K
  case irem =>
    have hln : ln = 1 := hln
    subst hln
    exact wk_irem f hd h K
  case i2l =>
    have hln : ln = 1 := hln
    subst hln
    exact wk_i2l f hd h K
  case lcmp =>
    have hln : ln = 1 := hln
    subst hln
    exact wk_lcmp f hd h K
  case iinc i n =>
    have hln : ln = 3 := hln
    subst hln
    exact wk_iinc f hd h K
  case dup =>
    have hln : ln = 1 := hln
    subst hln
    exact wk_dup f hd h K
  case dup_x1 =>
    have hln : ln = 1 := hln
    subst hln
    exact wk_dup_x1 f hd h K
  case dup2 =>
    have hln : ln = 1 := hln
    subst hln
    exact wk_dup2 f hd h K
  case pop =>
    have hln : ln = 1 := hln
    subst hln
    exact wk_pop f hd h K
  case goto i =>
    have hln : ln = 3 := hln
    subst hln
    simp only [Bool.and_eq_true, decide_eq_true_eq, beq_iff_eq] at hx
    exact wk_goto f hx hd h K
  case ifnull i =>
    have hln : ln = 3 := hln
    subst hln
    simp only [Bool.and_eq_true, decide_eq_true_eq, beq_iff_eq] at hx
    exact wk_ifnull f hx hd h K
  case ifnonnull i =>
    have hln : ln = 3 := hln
    subst hln
    simp only [Bool.and_eq_true, decide_eq_true_eq, beq_iff_eq] at hx
    exact wk_ifnonnull f hx hd h K
  case if_acmp c i =>
    have hln : ln = 3 := hln
    subst hln
    simp only [Bool.and_eq_true, decide_eq_true_eq, beq_iff_eq] at hx
    exact wk_acmp f hx hd h K
  case getfield i =>
    have hln : ln = 3 := hln
    subst hln
    exact wk_getfield f hx hd h K
  case putfield i =>
    have hln : ln = 3 := hln
    subst hln
    simp only [Bool.and_eq_true, decide_eq_true_eq, beq_iff_eq] at hx
    exact wk_putfield f hx.1 hx.2 hd h K
  case arraylength =>
    have hln : ln = 1 := hln
    subst hln
    exact wk_arraylength f hd h K
  case iaload =>
    have hln : ln = 1 := hln
    subst hln
    exact wk_iaload f hd h K
  case iastore =>
    have hln : ln = 1 := hln
    subst hln
    exact wk_iastore f hd h K
  case baload => exact Bool.noConfusion hx
  case bastore => exact Bool.noConfusion hx
  case laload => exact Bool.noConfusion hx
  case lastore => exact Bool.noConfusion hx
  case aaload =>
    have hln : ln = 1 := hln
    subst hln
    exact wk_aaload f hd h K
  case aastore =>
    have hln : ln = 1 := hln
    subst hln
    exact wk_aastore f hd h K
  case checkcast i =>
    have hln : ln = 3 := hln
    subst hln
    simp only [Bool.and_eq_true, decide_eq_true_eq, beq_iff_eq] at hx
    exact wk_checkcast f hx.2 hd h K
  case getstatic i =>
    have hln : ln = 3 := hln
    subst hln
    exact wk_getstatic f hx hd h K
  case ifCond c i =>
    have hln : ln = 3 := hln
    subst hln
    simp only [Bool.and_eq_true, decide_eq_true_eq, beq_iff_eq] at hx
    cases c
    · exact wk_if_eq f hx hd h K
    · exact wk_if_ne f hx hd h K
    · exact wk_if_lt f hx hd h K
    · exact wk_if_ge f hx hd h K
    · exact wk_if_gt f hx hd h K
    · exact wk_if_le f hx hd h K
  case if_icmp c i =>
    have hln : ln = 3 := hln
    subst hln
    simp only [Bool.and_eq_true, decide_eq_true_eq, beq_iff_eq] at hx
    cases c
    · exact wk_icmp_eq f hx hd h K
    · exact wk_icmp_ne f hx hd h K
    · exact wk_icmp_lt f hx hd h K
    · exact wk_icmp_ge f hx hd h K
    · exact wk_icmp_gt f hx hd h K
    · exact wk_icmp_le f hx hd h K
  case tableswitch d lo hi os =>
    simp only [Bool.and_eq_true, decide_eq_true_eq, beq_iff_eq] at hx
    refine wk_table f hx.1 (fun o ho => ?_) hd h K
    have := hx.2
    rw [Array.all_eq_true_iff_forall_mem] at this
    simpa using this o ho
  case new i =>
    dsimp only at hx
    have hln : ln = 3 := hln
    subst hln
    have h : mNewS mFk (pc + 3) e1 e2 L S σ = some (.inl (pc2, L2, S2, σ2)) := h
    by_cases hc : 100 ≤ e1
    · unfold mNewS at h
      rw [if_pos hc] at h
      split at h <;> cases h
    · rw [if_neg hc] at hx
      simp only [Bool.and_eq_true, decide_eq_true_eq] at hx
      exact wk_new f hx.1.1 hx.2 hx.1.2 hd h hr K
  case newarray a =>
    simp only [Bool.and_eq_true, decide_eq_true_eq, beq_iff_eq] at hx
    have hln : ln = 2 := hln
    subst hln
    refine wk_newarray f hx.2 ?_ hd h hr K
    have hx := hx.1
    split at hx
    · exact ⟨rfl, by simpa using hx⟩
    · cases hx
  case anewarray i =>
    simp only [Bool.and_eq_true, decide_eq_true_eq, beq_iff_eq] at hx
    have hln : ln = 3 := hln
    subst hln
    exact wk_anewarray f hx.1.1.1 hx.1.1.2 hx.2 hx.1.2 hd h hr K
  case ldc i =>
    dsimp only at hx
    have hln : ln = 2 := hln
    subst hln
    refine wk_ldc f ?_ hd h K
    simpa only [Bool.or_eq_true, Bool.and_eq_true, beq_iff_eq, decide_eq_true_eq, and_assoc, or_assoc] using hx
  case invokespecial i =>
    dsimp only at hx
    have hln : ln = 3 := hln
    subst hln
    have h : mSpcS (pc + 3) e1 e2 L S σ = some (.inl (pc2, L2, S2, σ2)) := h
    unfold mSpcS at h
    by_cases h0 : e1 = 1000
    · rw [if_pos h0] at h hx
      simp only [Bool.and_eq_true, decide_eq_true_eq] at hx
      exact wk_objInit f hx.1 hx.2 hd h K
    · rw [if_neg h0] at h
      exfalso
      unfold mInv at h
      split at h
      · split at h <;> cases h
      · cases h
  case invokestatic i =>
    dsimp only at hx
    have hln : ln = 3 := hln
    subst hln
    have h : mSttS (pc + 3) e1 e2 L S σ = some (.inl (pc2, L2, S2, σ2)) := h
    unfold mSttS at h
    by_cases h0 : e1 = 1001
    · rw [if_pos h0] at h hx
      simp only [Bool.and_eq_true, decide_eq_true_eq] at hx
      exact wk_arraycopy f hx.1 hx.2 hd h K
    rw [if_neg h0] at h hx
    by_cases h0 : e1 = 1003
    · rw [if_pos h0] at h hx
      simp only [Bool.and_eq_true, decide_eq_true_eq] at hx
      exact wk_max f hx.1 hx.2 hd h hr K
    rw [if_neg h0] at h hx
    by_cases h0 : e1 = 1004
    · rw [if_pos h0] at h hx
      simp only [Bool.and_eq_true, decide_eq_true_eq] at hx
      exact wk_min f hx.1 hx.2 hd h hr K
    rw [if_neg h0] at h hx
    by_cases h0 : e1 = 1005
    · rw [if_pos h0] at h hx
      simp only [Bool.and_eq_true, decide_eq_true_eq] at hx
      exact wk_abs f hx.1 hx.2 hd h hr K
    rw [if_neg h0] at h
    exfalso
    unfold mInv at h
    split at h <;> cases h
  case invokevirtual i =>
    dsimp only at hx
    have hln : ln = 3 := hln
    subst hln
    have h : mVrtS (pc + 3) e1 e2 L S σ = some (.inl (pc2, L2, S2, σ2)) := h
    unfold mVrtS at h
    by_cases h0 : e1 = 1002
    · rw [if_pos h0] at h hx
      simp only [Bool.and_eq_true, decide_eq_true_eq] at hx
      exact wk_getClass f hx.1 hx.2 hd h K
    · rw [if_neg h0] at h
      exfalso
      unfold mInv at h
      split at h
      · split at h <;> cases h
      · cases h
  case ireturn =>
    exfalso
    have h : mIretS e1 S σ = some (.inl (pc2, L2, S2, σ2)) := h
    unfold mIretS at h
    split at h
    · split at h <;> cases h
    · cases h
  case areturn =>
    exfalso
    have h : mAretS S σ = some (.inl (pc2, L2, S2, σ2)) := h
    unfold mAretS at h
    split at h <;> cases h
  case return_ =>
    exfalso
    have h : mVretS S σ = some (.inl (pc2, L2, S2, σ2)) := h
    unfold mVretS at h
    split at h <;> cases h
  all_goals exact absurd (show (none : Option mAct) = some _ from h) (fun z => by cases z)
end WK6
