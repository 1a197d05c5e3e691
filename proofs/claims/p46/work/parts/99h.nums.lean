section WK2
variable {p : Program} {l : Launch} {e : Env} {R : Room} {s : State} {m : MethodId} {args : Array Value} {below : List Frame} {meth : Method} {c : Code} {Q : State → Prop} {y : Nat} {D : va_G} {cy : Nat → ClassId} {A : Nat → Prop} {b Ls : Nat} {xs : Nat → Int32} {emp mi n0 m0 : Nat} {α : Nat → Nat} {dom : List Nat} {H : Heap} {locs : List Loc} {cells slots pc : Nat} {L : mLs} {S : List Value} {ls : Array Slot} {σ : mS} {pc2 : Nat} {L2 : mLs} {S2 : List Value} {σ2 : mS}
theorem wk_iadd (f : mFr p l R s m args meth c y D cy A b Ls xs emp mi n0 m0 α dom H locs cells slots L S ls σ) (hd : decode (mM y).2.1 pc = .ok (.iadd, 1)) (h : mI2 S (fun x y => x + y) (pc + 1) L σ = some (.inl (pc2, L2, S2, σ2))) (K : mNx p l e R s m args below meth c Q y D cy A b Ls xs emp mi n0 m0 α dom pc2 L2 S2 σ2) : W p l e R s m args below meth c H locs cells slots Q (F0 m pc ls (S.map (wV α))) := by
  unfold mI2 at h
  split at h
  · obtain ⟨rfl, rfl, rfl, rfl⟩ := mGo_inj h
    exact lv_iadd f.1.1 f.1.2.1 hd (K α dom H locs cells slots ls exA.rf (fun _ h => h) (f.stk (mK1 kV_int (mK2 (mK2 f.2.2.2.2.1).2).2)))
  · cases h
theorem wk_isub (f : mFr p l R s m args meth c y D cy A b Ls xs emp mi n0 m0 α dom H locs cells slots L S ls σ) (hd : decode (mM y).2.1 pc = .ok (.isub, 1)) (h : mI2 S (fun x y => x - y) (pc + 1) L σ = some (.inl (pc2, L2, S2, σ2))) (K : mNx p l e R s m args below meth c Q y D cy A b Ls xs emp mi n0 m0 α dom pc2 L2 S2 σ2) : W p l e R s m args below meth c H locs cells slots Q (F0 m pc ls (S.map (wV α))) := by
  unfold mI2 at h
  split at h
  · obtain ⟨rfl, rfl, rfl, rfl⟩ := mGo_inj h
    exact lv_isub f.1.1 f.1.2.1 hd (K α dom H locs cells slots ls exA.rf (fun _ h => h) (f.stk (mK1 kV_int (mK2 (mK2 f.2.2.2.2.1).2).2)))
  · cases h
theorem wk_imul (f : mFr p l R s m args meth c y D cy A b Ls xs emp mi n0 m0 α dom H locs cells slots L S ls σ) (hd : decode (mM y).2.1 pc = .ok (.imul, 1)) (h : mI2 S (fun x y => x * y) (pc + 1) L σ = some (.inl (pc2, L2, S2, σ2))) (K : mNx p l e R s m args below meth c Q y D cy A b Ls xs emp mi n0 m0 α dom pc2 L2 S2 σ2) : W p l e R s m args below meth c H locs cells slots Q (F0 m pc ls (S.map (wV α))) := by
  unfold mI2 at h
  split at h
  · obtain ⟨rfl, rfl, rfl, rfl⟩ := mGo_inj h
    exact lv_imul f.1.1 f.1.2.1 hd (K α dom H locs cells slots ls exA.rf (fun _ h => h) (f.stk (mK1 kV_int (mK2 (mK2 f.2.2.2.2.1).2).2)))
  · cases h
theorem wk_iand (f : mFr p l R s m args meth c y D cy A b Ls xs emp mi n0 m0 α dom H locs cells slots L S ls σ) (hd : decode (mM y).2.1 pc = .ok (.iand, 1)) (h : mI2 S (fun x y => x &&& y) (pc + 1) L σ = some (.inl (pc2, L2, S2, σ2))) (K : mNx p l e R s m args below meth c Q y D cy A b Ls xs emp mi n0 m0 α dom pc2 L2 S2 σ2) : W p l e R s m args below meth c H locs cells slots Q (F0 m pc ls (S.map (wV α))) := by
  unfold mI2 at h
  split at h
  · obtain ⟨rfl, rfl, rfl, rfl⟩ := mGo_inj h
    exact lv_iand f.1.1 f.1.2.1 hd (K α dom H locs cells slots ls exA.rf (fun _ h => h) (f.stk (mK1 kV_int (mK2 (mK2 f.2.2.2.2.1).2).2)))
  · cases h
theorem wk_ixor (f : mFr p l R s m args meth c y D cy A b Ls xs emp mi n0 m0 α dom H locs cells slots L S ls σ) (hd : decode (mM y).2.1 pc = .ok (.ixor, 1)) (h : mI2 S (fun x y => x ^^^ y) (pc + 1) L σ = some (.inl (pc2, L2, S2, σ2))) (K : mNx p l e R s m args below meth c Q y D cy A b Ls xs emp mi n0 m0 α dom pc2 L2 S2 σ2) : W p l e R s m args below meth c H locs cells slots Q (F0 m pc ls (S.map (wV α))) := by
  unfold mI2 at h
  split at h
  · obtain ⟨rfl, rfl, rfl, rfl⟩ := mGo_inj h
    exact lv_ixor f.1.1 f.1.2.1 hd (K α dom H locs cells slots ls exA.rf (fun _ h => h) (f.stk (mK1 kV_int (mK2 (mK2 f.2.2.2.2.1).2).2)))
  · cases h
theorem wk_ishr (f : mFr p l R s m args meth c y D cy A b Ls xs emp mi n0 m0 α dom H locs cells slots L S ls σ) (hd : decode (mM y).2.1 pc = .ok (.ishr, 1)) (h : mI2 S (fun x y => x >>> (y &&& 31)) (pc + 1) L σ = some (.inl (pc2, L2, S2, σ2))) (K : mNx p l e R s m args below meth c Q y D cy A b Ls xs emp mi n0 m0 α dom pc2 L2 S2 σ2) : W p l e R s m args below meth c H locs cells slots Q (F0 m pc ls (S.map (wV α))) := by
  unfold mI2 at h
  split at h
  · obtain ⟨rfl, rfl, rfl, rfl⟩ := mGo_inj h
    exact lv_ishr f.1.1 f.1.2.1 hd (K α dom H locs cells slots ls exA.rf (fun _ h => h) (f.stk (mK1 kV_int (mK2 (mK2 f.2.2.2.2.1).2).2)))
  · cases h
theorem mLcn (n : Fin 2) : Int64.ofNat (n : Nat) = (if n = 0 then 0 else 1) := match n with
  | 0 => rfl
  | 1 => rfl
theorem wk_ineg (f : mFr p l R s m args meth c y D cy A b Ls xs emp mi n0 m0 α dom H locs cells slots L S ls σ) (hd : decode (mM y).2.1 pc = .ok (.ineg, 1)) (h : mI1 S (fun x => -x) (pc + 1) L σ = some (.inl (pc2, L2, S2, σ2))) (K : mNx p l e R s m args below meth c Q y D cy A b Ls xs emp mi n0 m0 α dom pc2 L2 S2 σ2) : W p l e R s m args below meth c H locs cells slots Q (F0 m pc ls (S.map (wV α))) := by
  unfold mI1 at h
  split at h
  · obtain ⟨rfl, rfl, rfl, rfl⟩ := mGo_inj h
    exact lv_ineg f.1.1 f.1.2.1 hd (K α dom H locs cells slots ls exA.rf (fun _ h => h) (f.stk (mK1 kV_int (mK2 f.2.2.2.2.1).2)))
  · cases h
theorem wk_idiv (f : mFr p l R s m args meth c y D cy A b Ls xs emp mi n0 m0 α dom H locs cells slots L S ls σ) (hd : decode (mM y).2.1 pc = .ok (.idiv, 1)) (h : mDivS (pc + 1) L S σ = some (.inl (pc2, L2, S2, σ2))) (K : mNx p l e R s m args below meth c Q y D cy A b Ls xs emp mi n0 m0 α dom pc2 L2 S2 σ2) : W p l e R s m args below meth c H locs cells slots Q (F0 m pc ls (S.map (wV α))) := by
  unfold mDivS at h
  split at h
  · split at h
    · cases h
    · rename_i hz
      obtain ⟨rfl, rfl, rfl, rfl⟩ := mGo_inj h
      exact lv_idiv f.1.1 f.1.2.1 hd hz (K α dom H locs cells slots ls exA.rf (fun _ h => h) (f.stk (mK1 kV_int (mK2 (mK2 f.2.2.2.2.1).2).2)))
  · cases h
theorem wk_irem (f : mFr p l R s m args meth c y D cy A b Ls xs emp mi n0 m0 α dom H locs cells slots L S ls σ) (hd : decode (mM y).2.1 pc = .ok (.irem, 1)) (h : mRemS (pc + 1) L S σ = some (.inl (pc2, L2, S2, σ2))) (K : mNx p l e R s m args below meth c Q y D cy A b Ls xs emp mi n0 m0 α dom pc2 L2 S2 σ2) : W p l e R s m args below meth c H locs cells slots Q (F0 m pc ls (S.map (wV α))) := by
  unfold mRemS at h
  split at h
  · split at h
    · cases h
    · rename_i hz
      obtain ⟨rfl, rfl, rfl, rfl⟩ := mGo_inj h
      exact lv_irem f.1.1 f.1.2.1 hd hz (K α dom H locs cells slots ls exA.rf (fun _ h => h) (f.stk (mK1 kV_int (mK2 (mK2 f.2.2.2.2.1).2).2)))
  · cases h
theorem wk_i2l (f : mFr p l R s m args meth c y D cy A b Ls xs emp mi n0 m0 α dom H locs cells slots L S ls σ) (hd : decode (mM y).2.1 pc = .ok (.i2l, 1)) (h : mI2L (pc + 1) L S σ = some (.inl (pc2, L2, S2, σ2))) (K : mNx p l e R s m args below meth c Q y D cy A b Ls xs emp mi n0 m0 α dom pc2 L2 S2 σ2) : W p l e R s m args below meth c H locs cells slots Q (F0 m pc ls (S.map (wV α))) := by
  unfold mI2L at h
  split at h
  · obtain ⟨rfl, rfl, rfl, rfl⟩ := mGo_inj h
    exact lv_i2l f.1.1 f.1.2.1 hd rfl (K α dom H locs cells slots ls exA.rf (fun _ h => h) (f.stk (mK1 kV_long (mK2 f.2.2.2.2.1).2)))
  · cases h
theorem wk_lcmp (f : mFr p l R s m args meth c y D cy A b Ls xs emp mi n0 m0 α dom H locs cells slots L S ls σ) (hd : decode (mM y).2.1 pc = .ok (.lcmp, 1)) (h : mLcmp (pc + 1) L S σ = some (.inl (pc2, L2, S2, σ2))) (K : mNx p l e R s m args below meth c Q y D cy A b Ls xs emp mi n0 m0 α dom pc2 L2 S2 σ2) : W p l e R s m args below meth c H locs cells slots Q (F0 m pc ls (S.map (wV α))) := by
  unfold mLcmp at h
  split at h
  · obtain ⟨rfl, rfl, rfl, rfl⟩ := mGo_inj h
    exact W.lcmp f.1.1 f.1.2.1 hd (K α dom H locs cells slots ls exA.rf (fun _ h => h) (f.stk (mK1 kV_int (mK2 (mK2 f.2.2.2.2.1).2).2)))
  · cases h
theorem wk_iconst (f : mFr p l R s m args meth c y D cy A b Ls xs emp mi n0 m0 α dom H locs cells slots L S ls σ) {n : Int} (hd : decode (mM y).2.1 pc = .ok (.iconst n, 1)) (h : mGo (pc + 1) L (.int (Int32.ofInt n) :: S) σ = some (.inl (pc2, L2, S2, σ2))) (K : mNx p l e R s m args below meth c Q y D cy A b Ls xs emp mi n0 m0 α dom pc2 L2 S2 σ2) : W p l e R s m args below meth c H locs cells slots Q (F0 m pc ls (S.map (wV α))) := by
  obtain ⟨rfl, rfl, rfl, rfl⟩ := mGo_inj h
  exact lv_iconst f.1.1 f.1.2.1 hd rfl (K α dom H locs cells slots ls exA.rf (fun _ h => h) (f.stk (mK1 kV_int f.2.2.2.2.1)))
theorem wk_bipush (f : mFr p l R s m args meth c y D cy A b Ls xs emp mi n0 m0 α dom H locs cells slots L S ls σ) {n : Int} (hn : (Int8.ofInt n).toInt32 = Int32.ofInt n) (hd : decode (mM y).2.1 pc = .ok (.bipush n, 2)) (h : mGo (pc + 2) L (.int (Int32.ofInt n) :: S) σ = some (.inl (pc2, L2, S2, σ2))) (K : mNx p l e R s m args below meth c Q y D cy A b Ls xs emp mi n0 m0 α dom pc2 L2 S2 σ2) : W p l e R s m args below meth c H locs cells slots Q (F0 m pc ls (S.map (wV α))) := by
  obtain ⟨rfl, rfl, rfl, rfl⟩ := mGo_inj h
  exact lv_bipush f.1.1 f.1.2.1 hd hn (K α dom H locs cells slots ls exA.rf (fun _ h => h) (f.stk (mK1 kV_int f.2.2.2.2.1)))
theorem wk_sipush (f : mFr p l R s m args meth c y D cy A b Ls xs emp mi n0 m0 α dom H locs cells slots L S ls σ) {n : Int} (hn : (Int16.ofInt n).toInt32 = Int32.ofInt n) (hd : decode (mM y).2.1 pc = .ok (.sipush n, 3)) (h : mGo (pc + 3) L (.int (Int32.ofInt n) :: S) σ = some (.inl (pc2, L2, S2, σ2))) (K : mNx p l e R s m args below meth c Q y D cy A b Ls xs emp mi n0 m0 α dom pc2 L2 S2 σ2) : W p l e R s m args below meth c H locs cells slots Q (F0 m pc ls (S.map (wV α))) := by
  obtain ⟨rfl, rfl, rfl, rfl⟩ := mGo_inj h
  exact lv_sipush f.1.1 f.1.2.1 hd hn (K α dom H locs cells slots ls exA.rf (fun _ h => h) (f.stk (mK1 kV_int f.2.2.2.2.1)))
theorem wk_lconst (f : mFr p l R s m args meth c y D cy A b Ls xs emp mi n0 m0 α dom H locs cells slots L S ls σ) {n : Fin 2} (hd : decode (mM y).2.1 pc = .ok (.lconst n, 1)) (h : mGo (pc + 1) L (.long (if n = 0 then 0 else 1) :: S) σ = some (.inl (pc2, L2, S2, σ2))) (K : mNx p l e R s m args below meth c Q y D cy A b Ls xs emp mi n0 m0 α dom pc2 L2 S2 σ2) : W p l e R s m args below meth c H locs cells slots Q (F0 m pc ls (S.map (wV α))) := by
  obtain ⟨rfl, rfl, rfl, rfl⟩ := mGo_inj h
  exact lv_lconst f.1.1 f.1.2.1 hd (mLcn n) (K α dom H locs cells slots ls exA.rf (fun _ h => h) (f.stk (mK1 kV_long f.2.2.2.2.1)))
theorem wk_null (f : mFr p l R s m args meth c y D cy A b Ls xs emp mi n0 m0 α dom H locs cells slots L S ls σ) (hd : decode (mM y).2.1 pc = .ok (.aconst_null, 1)) (h : mGo (pc + 1) L (.null :: S) σ = some (.inl (pc2, L2, S2, σ2))) (K : mNx p l e R s m args below meth c Q y D cy A b Ls xs emp mi n0 m0 α dom pc2 L2 S2 σ2) : W p l e R s m args below meth c H locs cells slots Q (F0 m pc ls (S.map (wV α))) := by
  obtain ⟨rfl, rfl, rfl, rfl⟩ := mGo_inj h
  exact lv_null f.1.1 f.1.2.1 hd (K α dom H locs cells slots ls exA.rf (fun _ h => h) (f.stk (mK1 kV_null f.2.2.2.2.1)))
theorem wk_iinc (f : mFr p l R s m args meth c y D cy A b Ls xs emp mi n0 m0 α dom H locs cells slots L S ls σ) {i : Nat} {n : Int} (hd : decode (mM y).2.1 pc = .ok (.iinc i n, 3)) (h : mIincS i n (pc + 3) L S σ = some (.inl (pc2, L2, S2, σ2))) (K : mNx p l e R s m args below meth c Q y D cy A b Ls xs emp mi n0 m0 α dom pc2 L2 S2 σ2) : W p l e R s m args below meth c H locs cells slots Q (F0 m pc ls (S.map (wV α))) := by
  unfold mIincS at h
  split at h
  · rename_i x hx
    obtain ⟨hi, rfl, rfl, rfl, rfl⟩ := mSt_inj h
    have hm : ((i, Value.int x) : Nat × Value) ∈ lsl α L := lsl_mem.mpr ⟨.int x, hx, rfl⟩
    obtain ⟨k, hk⟩ := List.getElem?_of_mem hm
    exact lv_iinc f.1.1 f.1.2.1 hd f.2.2.1.1 hk rfl hi rfl fun ls' hl => K α dom H locs cells slots ls' exA.rf (fun _ h => h) (f.keep (f.2.2.1.st (v := .int (x + Int32.ofInt n)) kV_int rfl hl) (by simp) f.2.2.2.2.1)
  · cases h
theorem wk_dup (f : mFr p l R s m args meth c y D cy A b Ls xs emp mi n0 m0 α dom H locs cells slots L S ls σ) (hd : decode (mM y).2.1 pc = .ok (.dup, 1)) (h : mDupS (pc + 1) L S σ = some (.inl (pc2, L2, S2, σ2))) (K : mNx p l e R s m args below meth c Q y D cy A b Ls xs emp mi n0 m0 α dom pc2 L2 S2 σ2) : W p l e R s m args below meth c H locs cells slots Q (F0 m pc ls (S.map (wV α))) := by
  unfold mDupS at h
  split at h
  · obtain ⟨rfl, rfl, rfl, rfl⟩ := mGo_inj h
    exact lv_dup f.1.1 f.1.2.1 hd rfl (K α dom H locs cells slots ls exA.rf (fun _ h => h) (f.stk (mK1 kV_int f.2.2.2.2.1)))
  · obtain ⟨rfl, rfl, rfl, rfl⟩ := mGo_inj h
    exact lv_dup f.1.1 f.1.2.1 hd rfl (K α dom H locs cells slots ls exA.rf (fun _ h => h) (f.stk (mK1 (mK2 f.2.2.2.2.1).1 f.2.2.2.2.1)))
  · cases h
theorem wk_dup_x1 (f : mFr p l R s m args meth c y D cy A b Ls xs emp mi n0 m0 α dom H locs cells slots L S ls σ) (hd : decode (mM y).2.1 pc = .ok (.dup_x1, 1)) (h : mDupX (pc + 1) L S σ = some (.inl (pc2, L2, S2, σ2))) (K : mNx p l e R s m args below meth c Q y D cy A b Ls xs emp mi n0 m0 α dom pc2 L2 S2 σ2) : W p l e R s m args below meth c H locs cells slots Q (F0 m pc ls (S.map (wV α))) := by
  unfold mDupX at h
  split at h
  · obtain ⟨rfl, rfl, rfl, rfl⟩ := mGo_inj h
    obtain ⟨k1, k2⟩ := mK2 f.2.2.2.2.1
    exact lv_dup_x1 f.1.1 f.1.2.1 hd rfl rfl (K α dom H locs cells slots ls exA.rf (fun _ h => h) (f.stk (mK1 k1 (mK1 (mK2 k2).1 (mK1 k1 (mK2 k2).2)))))
  · obtain ⟨rfl, rfl, rfl, rfl⟩ := mGo_inj h
    obtain ⟨k1, k2⟩ := mK2 f.2.2.2.2.1
    exact lv_dup_x1 f.1.1 f.1.2.1 hd rfl rfl (K α dom H locs cells slots ls exA.rf (fun _ h => h) (f.stk (mK1 k1 (mK1 (mK2 k2).1 (mK1 k1 (mK2 k2).2)))))
  · cases h
theorem wk_dup2 (f : mFr p l R s m args meth c y D cy A b Ls xs emp mi n0 m0 α dom H locs cells slots L S ls σ) (hd : decode (mM y).2.1 pc = .ok (.dup2, 1)) (h : mDup2 (pc + 1) L S σ = some (.inl (pc2, L2, S2, σ2))) (K : mNx p l e R s m args below meth c Q y D cy A b Ls xs emp mi n0 m0 α dom pc2 L2 S2 σ2) : W p l e R s m args below meth c H locs cells slots Q (F0 m pc ls (S.map (wV α))) := by
  unfold mDup2 at h
  split at h
  · obtain ⟨rfl, rfl, rfl, rfl⟩ := mGo_inj h
    obtain ⟨k1, k2⟩ := mK2 f.2.2.2.2.1
    exact lv_dup2_11 f.1.1 f.1.2.1 hd rfl rfl (K α dom H locs cells slots ls exA.rf (fun _ h => h) (f.stk (mK1 k1 (mK1 (mK2 k2).1 f.2.2.2.2.1))))
  · cases h
theorem wk_pop (f : mFr p l R s m args meth c y D cy A b Ls xs emp mi n0 m0 α dom H locs cells slots L S ls σ) (hd : decode (mM y).2.1 pc = .ok (.pop, 1)) (h : mPopS (pc + 1) L S σ = some (.inl (pc2, L2, S2, σ2))) (K : mNx p l e R s m args below meth c Q y D cy A b Ls xs emp mi n0 m0 α dom pc2 L2 S2 σ2) : W p l e R s m args below meth c H locs cells slots Q (F0 m pc ls (S.map (wV α))) := by
  unfold mPopS at h
  split at h
  · obtain ⟨rfl, rfl, rfl, rfl⟩ := mGo_inj h
    exact lv_pop f.1.1 f.1.2.1 hd rfl (K α dom H locs cells slots ls exA.rf (fun _ h => h) (f.stk (mK2 f.2.2.2.2.1).2))
  · obtain ⟨rfl, rfl, rfl, rfl⟩ := mGo_inj h
    exact lv_pop f.1.1 f.1.2.1 hd rfl (K α dom H locs cells slots ls exA.rf (fun _ h => h) (f.stk (mK2 f.2.2.2.2.1).2))
  · obtain ⟨rfl, rfl, rfl, rfl⟩ := mGo_inj h
    exact lv_pop f.1.1 f.1.2.1 hd rfl (K α dom H locs cells slots ls exA.rf (fun _ h => h) (f.stk (mK2 f.2.2.2.2.1).2))
  · cases h
theorem wk_goto (f : mFr p l R s m args meth c y D cy A b Ls xs emp mi n0 m0 α dom H locs cells slots L S ls σ) {o : Int} {e1 : Nat} (ht : (pc : Int) + o = (e1 : Int)) (hd : decode (mM y).2.1 pc = .ok (.goto o, 3)) (h : mGo e1 L S σ = some (.inl (pc2, L2, S2, σ2))) (K : mNx p l e R s m args below meth c Q y D cy A b Ls xs emp mi n0 m0 α dom pc2 L2 S2 σ2) : W p l e R s m args below meth c H locs cells slots Q (F0 m pc ls (S.map (wV α))) := by
  obtain ⟨rfl, rfl, rfl, rfl⟩ := mGo_inj h
  exact lv_goto f.1.1 f.1.2.1 hd ht (K α dom H locs cells slots ls exA.rf (fun _ h => h) f)
theorem mBr_inj {c : Prop} [Decidable c] {t u : Nat} {L' : mLs} {S' : List Value} {σ' : mS} (h : mBr c t u L' S' σ' = some (.inl (pc2, L2, S2, σ2))) : (c → t = pc2) ∧ (¬ c → u = pc2) ∧ L' = L2 ∧ S' = S2 ∧ σ' = σ2 := by
  unfold mBr at h
  split at h
  · obtain ⟨h1, h2⟩ := mGo_inj h
    exact ⟨fun _ => h1, fun z => absurd (by assumption) z, h2⟩
  · obtain ⟨h1, h2⟩ := mGo_inj h
    exact ⟨fun z => absurd z (by assumption), fun _ => h1, h2⟩
theorem wk_if_eq (f : mFr p l R s m args meth c y D cy A b Ls xs emp mi n0 m0 α dom H locs cells slots L S ls σ) {o : Int} {e1 : Nat} (ht : (pc : Int) + o = (e1 : Int)) (hd : decode (mM y).2.1 pc = .ok (.ifCond .eq o, 3)) (h : mIfS .eq (pc + 3) e1 L S σ = some (.inl (pc2, L2, S2, σ2))) (K : mNx p l e R s m args below meth c Q y D cy A b Ls xs emp mi n0 m0 α dom pc2 L2 S2 σ2) : W p l e R s m args below meth c H locs cells slots Q (F0 m pc ls (S.map (wV α))) := by
  unfold mIfS at h
  split at h
  · obtain ⟨h1, h2, rfl, rfl, rfl⟩ := mBr_inj h
    simp only [mCmp, decide_eq_true_eq] at h1 h2
    exact lv_if_eq f.1.1 f.1.2.1 hd ht (fun z => by rw [h1 z]; exact K α dom H locs cells slots ls exA.rf (fun _ h => h) (f.stk (mK2 f.2.2.2.2.1).2)) (fun z => by rw [h2 (by exact z)]; exact K α dom H locs cells slots ls exA.rf (fun _ h => h) (f.stk (mK2 f.2.2.2.2.1).2))
  · cases h
theorem wk_icmp_eq (f : mFr p l R s m args meth c y D cy A b Ls xs emp mi n0 m0 α dom H locs cells slots L S ls σ) {o : Int} {e1 : Nat} (ht : (pc : Int) + o = (e1 : Int)) (hd : decode (mM y).2.1 pc = .ok (.if_icmp .eq o, 3)) (h : mIcS .eq (pc + 3) e1 L S σ = some (.inl (pc2, L2, S2, σ2))) (K : mNx p l e R s m args below meth c Q y D cy A b Ls xs emp mi n0 m0 α dom pc2 L2 S2 σ2) : W p l e R s m args below meth c H locs cells slots Q (F0 m pc ls (S.map (wV α))) := by
  unfold mIcS at h
  split at h
  · obtain ⟨h1, h2, rfl, rfl, rfl⟩ := mBr_inj h
    simp only [mCmp, decide_eq_true_eq] at h1 h2
    exact lv_icmp_eq f.1.1 f.1.2.1 hd ht (fun z => by rw [h1 z]; exact K α dom H locs cells slots ls exA.rf (fun _ h => h) (f.stk (mK2 (mK2 f.2.2.2.2.1).2).2)) (fun z => by rw [h2 (by exact z)]; exact K α dom H locs cells slots ls exA.rf (fun _ h => h) (f.stk (mK2 (mK2 f.2.2.2.2.1).2).2))
  · cases h
theorem wk_if_ne (f : mFr p l R s m args meth c y D cy A b Ls xs emp mi n0 m0 α dom H locs cells slots L S ls σ) {o : Int} {e1 : Nat} (ht : (pc : Int) + o = (e1 : Int)) (hd : decode (mM y).2.1 pc = .ok (.ifCond .ne o, 3)) (h : mIfS .ne (pc + 3) e1 L S σ = some (.inl (pc2, L2, S2, σ2))) (K : mNx p l e R s m args below meth c Q y D cy A b Ls xs emp mi n0 m0 α dom pc2 L2 S2 σ2) : W p l e R s m args below meth c H locs cells slots Q (F0 m pc ls (S.map (wV α))) := by
  unfold mIfS at h
  split at h
  · obtain ⟨h1, h2, rfl, rfl, rfl⟩ := mBr_inj h
    simp only [mCmp, decide_eq_true_eq] at h1 h2
    exact lv_if_ne f.1.1 f.1.2.1 hd ht (fun z => by rw [h1 z]; exact K α dom H locs cells slots ls exA.rf (fun _ h => h) (f.stk (mK2 f.2.2.2.2.1).2)) (fun z => by rw [h2 (by exact fun q => q z)]; exact K α dom H locs cells slots ls exA.rf (fun _ h => h) (f.stk (mK2 f.2.2.2.2.1).2))
  · cases h
theorem wk_icmp_ne (f : mFr p l R s m args meth c y D cy A b Ls xs emp mi n0 m0 α dom H locs cells slots L S ls σ) {o : Int} {e1 : Nat} (ht : (pc : Int) + o = (e1 : Int)) (hd : decode (mM y).2.1 pc = .ok (.if_icmp .ne o, 3)) (h : mIcS .ne (pc + 3) e1 L S σ = some (.inl (pc2, L2, S2, σ2))) (K : mNx p l e R s m args below meth c Q y D cy A b Ls xs emp mi n0 m0 α dom pc2 L2 S2 σ2) : W p l e R s m args below meth c H locs cells slots Q (F0 m pc ls (S.map (wV α))) := by
  unfold mIcS at h
  split at h
  · obtain ⟨h1, h2, rfl, rfl, rfl⟩ := mBr_inj h
    simp only [mCmp, decide_eq_true_eq] at h1 h2
    exact lv_icmp_ne f.1.1 f.1.2.1 hd ht (fun z => by rw [h1 z]; exact K α dom H locs cells slots ls exA.rf (fun _ h => h) (f.stk (mK2 (mK2 f.2.2.2.2.1).2).2)) (fun z => by rw [h2 (by exact fun q => q z)]; exact K α dom H locs cells slots ls exA.rf (fun _ h => h) (f.stk (mK2 (mK2 f.2.2.2.2.1).2).2))
  · cases h
theorem wk_if_lt (f : mFr p l R s m args meth c y D cy A b Ls xs emp mi n0 m0 α dom H locs cells slots L S ls σ) {o : Int} {e1 : Nat} (ht : (pc : Int) + o = (e1 : Int)) (hd : decode (mM y).2.1 pc = .ok (.ifCond .lt o, 3)) (h : mIfS .lt (pc + 3) e1 L S σ = some (.inl (pc2, L2, S2, σ2))) (K : mNx p l e R s m args below meth c Q y D cy A b Ls xs emp mi n0 m0 α dom pc2 L2 S2 σ2) : W p l e R s m args below meth c H locs cells slots Q (F0 m pc ls (S.map (wV α))) := by
  unfold mIfS at h
  split at h
  · obtain ⟨h1, h2, rfl, rfl, rfl⟩ := mBr_inj h
    simp only [mCmp, decide_eq_true_eq] at h1 h2
    exact lv_if_lt f.1.1 f.1.2.1 hd ht (fun z => by rw [h1 z]; exact K α dom H locs cells slots ls exA.rf (fun _ h => h) (f.stk (mK2 f.2.2.2.2.1).2)) (fun z => by rw [h2 (by exact z)]; exact K α dom H locs cells slots ls exA.rf (fun _ h => h) (f.stk (mK2 f.2.2.2.2.1).2))
  · cases h
theorem wk_icmp_lt (f : mFr p l R s m args meth c y D cy A b Ls xs emp mi n0 m0 α dom H locs cells slots L S ls σ) {o : Int} {e1 : Nat} (ht : (pc : Int) + o = (e1 : Int)) (hd : decode (mM y).2.1 pc = .ok (.if_icmp .lt o, 3)) (h : mIcS .lt (pc + 3) e1 L S σ = some (.inl (pc2, L2, S2, σ2))) (K : mNx p l e R s m args below meth c Q y D cy A b Ls xs emp mi n0 m0 α dom pc2 L2 S2 σ2) : W p l e R s m args below meth c H locs cells slots Q (F0 m pc ls (S.map (wV α))) := by
  unfold mIcS at h
  split at h
  · obtain ⟨h1, h2, rfl, rfl, rfl⟩ := mBr_inj h
    simp only [mCmp, decide_eq_true_eq] at h1 h2
    exact lv_icmp_lt f.1.1 f.1.2.1 hd ht (fun z => by rw [h1 z]; exact K α dom H locs cells slots ls exA.rf (fun _ h => h) (f.stk (mK2 (mK2 f.2.2.2.2.1).2).2)) (fun z => by rw [h2 (by exact z)]; exact K α dom H locs cells slots ls exA.rf (fun _ h => h) (f.stk (mK2 (mK2 f.2.2.2.2.1).2).2))
  · cases h
theorem wk_if_ge (f : mFr p l R s m args meth c y D cy A b Ls xs emp mi n0 m0 α dom H locs cells slots L S ls σ) {o : Int} {e1 : Nat} (ht : (pc : Int) + o = (e1 : Int)) (hd : decode (mM y).2.1 pc = .ok (.ifCond .ge o, 3)) (h : mIfS .ge (pc + 3) e1 L S σ = some (.inl (pc2, L2, S2, σ2))) (K : mNx p l e R s m args below meth c Q y D cy A b Ls xs emp mi n0 m0 α dom pc2 L2 S2 σ2) : W p l e R s m args below meth c H locs cells slots Q (F0 m pc ls (S.map (wV α))) := by
  unfold mIfS at h
  split at h
  · obtain ⟨h1, h2, rfl, rfl, rfl⟩ := mBr_inj h
    simp only [mCmp, decide_eq_true_eq] at h1 h2
    exact lv_if_ge f.1.1 f.1.2.1 hd ht (fun z => by rw [h1 z]; exact K α dom H locs cells slots ls exA.rf (fun _ h => h) (f.stk (mK2 f.2.2.2.2.1).2)) (fun z => by rw [h2 (by exact z)]; exact K α dom H locs cells slots ls exA.rf (fun _ h => h) (f.stk (mK2 f.2.2.2.2.1).2))
  · cases h
theorem wk_icmp_ge (f : mFr p l R s m args meth c y D cy A b Ls xs emp mi n0 m0 α dom H locs cells slots L S ls σ) {o : Int} {e1 : Nat} (ht : (pc : Int) + o = (e1 : Int)) (hd : decode (mM y).2.1 pc = .ok (.if_icmp .ge o, 3)) (h : mIcS .ge (pc + 3) e1 L S σ = some (.inl (pc2, L2, S2, σ2))) (K : mNx p l e R s m args below meth c Q y D cy A b Ls xs emp mi n0 m0 α dom pc2 L2 S2 σ2) : W p l e R s m args below meth c H locs cells slots Q (F0 m pc ls (S.map (wV α))) := by
  unfold mIcS at h
  split at h
  · obtain ⟨h1, h2, rfl, rfl, rfl⟩ := mBr_inj h
    simp only [mCmp, decide_eq_true_eq] at h1 h2
    exact lv_icmp_ge f.1.1 f.1.2.1 hd ht (fun z => by rw [h1 z]; exact K α dom H locs cells slots ls exA.rf (fun _ h => h) (f.stk (mK2 (mK2 f.2.2.2.2.1).2).2)) (fun z => by rw [h2 (by exact z)]; exact K α dom H locs cells slots ls exA.rf (fun _ h => h) (f.stk (mK2 (mK2 f.2.2.2.2.1).2).2))
  · cases h
theorem wk_if_gt (f : mFr p l R s m args meth c y D cy A b Ls xs emp mi n0 m0 α dom H locs cells slots L S ls σ) {o : Int} {e1 : Nat} (ht : (pc : Int) + o = (e1 : Int)) (hd : decode (mM y).2.1 pc = .ok (.ifCond .gt o, 3)) (h : mIfS .gt (pc + 3) e1 L S σ = some (.inl (pc2, L2, S2, σ2))) (K : mNx p l e R s m args below meth c Q y D cy A b Ls xs emp mi n0 m0 α dom pc2 L2 S2 σ2) : W p l e R s m args below meth c H locs cells slots Q (F0 m pc ls (S.map (wV α))) := by
  unfold mIfS at h
  split at h
  · obtain ⟨h1, h2, rfl, rfl, rfl⟩ := mBr_inj h
    simp only [mCmp, decide_eq_true_eq] at h1 h2
    exact lv_if_gt f.1.1 f.1.2.1 hd ht (fun z => by rw [h1 z]; exact K α dom H locs cells slots ls exA.rf (fun _ h => h) (f.stk (mK2 f.2.2.2.2.1).2)) (fun z => by rw [h2 (by exact z)]; exact K α dom H locs cells slots ls exA.rf (fun _ h => h) (f.stk (mK2 f.2.2.2.2.1).2))
  · cases h
theorem wk_icmp_gt (f : mFr p l R s m args meth c y D cy A b Ls xs emp mi n0 m0 α dom H locs cells slots L S ls σ) {o : Int} {e1 : Nat} (ht : (pc : Int) + o = (e1 : Int)) (hd : decode (mM y).2.1 pc = .ok (.if_icmp .gt o, 3)) (h : mIcS .gt (pc + 3) e1 L S σ = some (.inl (pc2, L2, S2, σ2))) (K : mNx p l e R s m args below meth c Q y D cy A b Ls xs emp mi n0 m0 α dom pc2 L2 S2 σ2) : W p l e R s m args below meth c H locs cells slots Q (F0 m pc ls (S.map (wV α))) := by
  unfold mIcS at h
  split at h
  · obtain ⟨h1, h2, rfl, rfl, rfl⟩ := mBr_inj h
    simp only [mCmp, decide_eq_true_eq] at h1 h2
    exact lv_icmp_gt f.1.1 f.1.2.1 hd ht (fun z => by rw [h1 z]; exact K α dom H locs cells slots ls exA.rf (fun _ h => h) (f.stk (mK2 (mK2 f.2.2.2.2.1).2).2)) (fun z => by rw [h2 (by exact z)]; exact K α dom H locs cells slots ls exA.rf (fun _ h => h) (f.stk (mK2 (mK2 f.2.2.2.2.1).2).2))
  · cases h
theorem wk_if_le (f : mFr p l R s m args meth c y D cy A b Ls xs emp mi n0 m0 α dom H locs cells slots L S ls σ) {o : Int} {e1 : Nat} (ht : (pc : Int) + o = (e1 : Int)) (hd : decode (mM y).2.1 pc = .ok (.ifCond .le o, 3)) (h : mIfS .le (pc + 3) e1 L S σ = some (.inl (pc2, L2, S2, σ2))) (K : mNx p l e R s m args below meth c Q y D cy A b Ls xs emp mi n0 m0 α dom pc2 L2 S2 σ2) : W p l e R s m args below meth c H locs cells slots Q (F0 m pc ls (S.map (wV α))) := by
  unfold mIfS at h
  split at h
  · obtain ⟨h1, h2, rfl, rfl, rfl⟩ := mBr_inj h
    simp only [mCmp, decide_eq_true_eq] at h1 h2
    exact lv_if_le f.1.1 f.1.2.1 hd ht (fun z => by rw [h1 z]; exact K α dom H locs cells slots ls exA.rf (fun _ h => h) (f.stk (mK2 f.2.2.2.2.1).2)) (fun z => by rw [h2 (by exact z)]; exact K α dom H locs cells slots ls exA.rf (fun _ h => h) (f.stk (mK2 f.2.2.2.2.1).2))
  · cases h
theorem wk_icmp_le (f : mFr p l R s m args meth c y D cy A b Ls xs emp mi n0 m0 α dom H locs cells slots L S ls σ) {o : Int} {e1 : Nat} (ht : (pc : Int) + o = (e1 : Int)) (hd : decode (mM y).2.1 pc = .ok (.if_icmp .le o, 3)) (h : mIcS .le (pc + 3) e1 L S σ = some (.inl (pc2, L2, S2, σ2))) (K : mNx p l e R s m args below meth c Q y D cy A b Ls xs emp mi n0 m0 α dom pc2 L2 S2 σ2) : W p l e R s m args below meth c H locs cells slots Q (F0 m pc ls (S.map (wV α))) := by
  unfold mIcS at h
  split at h
  · obtain ⟨h1, h2, rfl, rfl, rfl⟩ := mBr_inj h
    simp only [mCmp, decide_eq_true_eq] at h1 h2
    exact lv_icmp_le f.1.1 f.1.2.1 hd ht (fun z => by rw [h1 z]; exact K α dom H locs cells slots ls exA.rf (fun _ h => h) (f.stk (mK2 (mK2 f.2.2.2.2.1).2).2)) (fun z => by rw [h2 (by exact z)]; exact K α dom H locs cells slots ls exA.rf (fun _ h => h) (f.stk (mK2 (mK2 f.2.2.2.2.1).2).2))
  · cases h
theorem wk_ifnull (f : mFr p l R s m args meth c y D cy A b Ls xs emp mi n0 m0 α dom H locs cells slots L S ls σ) {o : Int} {e1 : Nat} (ht : (pc : Int) + o = (e1 : Int)) (hd : decode (mM y).2.1 pc = .ok (.ifnull o, 3)) (h : mNlS (pc + 3) e1 L S σ = some (.inl (pc2, L2, S2, σ2))) (K : mNx p l e R s m args below meth c Q y D cy A b Ls xs emp mi n0 m0 α dom pc2 L2 S2 σ2) : W p l e R s m args below meth c H locs cells slots Q (F0 m pc ls (S.map (wV α))) := by
  unfold mNlS at h
  split at h
  · obtain ⟨rfl, rfl, rfl, rfl⟩ := mGo_inj h
    exact lv_ifnull f.1.1 f.1.2.1 hd (K α dom H locs cells slots ls exA.rf (fun _ h => h) (f.stk (mK2 f.2.2.2.2.1).2))
  · obtain ⟨rfl, rfl, rfl, rfl⟩ := mGo_inj h
    exact lv_ifnullN f.1.1 f.1.2.1 hd ht (K α dom H locs cells slots ls exA.rf (fun _ h => h) (f.stk (mK2 f.2.2.2.2.1).2))
  · cases h
theorem wk_ifnonnull (f : mFr p l R s m args meth c y D cy A b Ls xs emp mi n0 m0 α dom H locs cells slots L S ls σ) {o : Int} {e1 : Nat} (ht : (pc : Int) + o = (e1 : Int)) (hd : decode (mM y).2.1 pc = .ok (.ifnonnull o, 3)) (h : mNnS (pc + 3) e1 L S σ = some (.inl (pc2, L2, S2, σ2))) (K : mNx p l e R s m args below meth c Q y D cy A b Ls xs emp mi n0 m0 α dom pc2 L2 S2 σ2) : W p l e R s m args below meth c H locs cells slots Q (F0 m pc ls (S.map (wV α))) := by
  unfold mNnS at h
  split at h
  · obtain ⟨rfl, rfl, rfl, rfl⟩ := mGo_inj h
    exact lv_ifnonnull f.1.1 f.1.2.1 hd ht (K α dom H locs cells slots ls exA.rf (fun _ h => h) (f.stk (mK2 f.2.2.2.2.1).2))
  · obtain ⟨rfl, rfl, rfl, rfl⟩ := mGo_inj h
    exact lv_ifnonnullN f.1.1 f.1.2.1 hd (K α dom H locs cells slots ls exA.rf (fun _ h => h) (f.stk (mK2 f.2.2.2.2.1).2))
  · cases h
theorem wk_table (f : mFr p l R s m args meth c y D cy A b Ls xs emp mi n0 m0 α dom H locs cells slots L S ls σ) {d lo hi : Int} {offs : Array Int} {len : Nat} (ht : 0 ≤ (pc : Int) + d) (ho : ∀ o ∈ offs, 0 ≤ (pc : Int) + o) (hd : decode (mM y).2.1 pc = .ok (.tableswitch d lo hi offs, len)) (h : mTabS d lo hi offs pc L S σ = some (.inl (pc2, L2, S2, σ2))) (K : mNx p l e R s m args below meth c Q y D cy A b Ls xs emp mi n0 m0 α dom pc2 L2 S2 σ2) : W p l e R s m args below meth c H locs cells slots Q (F0 m pc ls (S.map (wV α))) := by
  unfold mTabS at h
  split at h
  · split at h
    · rename_i hc
      obtain ⟨rfl, rfl, rfl, rfl⟩ := mGo_inj h
      exact lv_tableOut f.1.1 f.1.2.1 hd hc (Int.toNat_of_nonneg ht).symm (K α dom H locs cells slots ls exA.rf (fun _ h => h) (f.stk (mK2 f.2.2.2.2.1).2))
    · rename_i hc
      split at h
      · rename_i off ho2
        obtain ⟨rfl, rfl, rfl, rfl⟩ := mGo_inj h
        exact lv_tableIn f.1.1 f.1.2.1 hd (fun z => hc (Or.inl z)) (fun z => hc (Or.inr z)) ho2 (Int.toNat_of_nonneg (ho off (Array.mem_of_getElem? ho2))).symm (K α dom H locs cells slots ls exA.rf (fun _ h => h) (f.stk (mK2 f.2.2.2.2.1).2))
      · cases h
  · cases h
end WK2
