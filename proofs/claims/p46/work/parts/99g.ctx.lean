/-! ===== what holds while a method runs ===== -/
abbrev tyL (cy : Nat → ClassId) : List (ClassId × FieldType) := [(cy 0, .int), (cy 1, .int), (cy 2, .int), (cy 3, .object "java/lang/Object"), (cy 4, .object "Ropewalk$Depot"), (cy 5, .object "Ropewalk$Customer"), (cy 6, .object "Ropewalk$Lane")]
def mCas : List (String × String) := [("java/lang/IndexOutOfBoundsException", "java/lang/IndexOutOfBoundsException"), ("java/lang/IllegalArgumentException", "java/lang/IllegalArgumentException"), ("java/lang/IllegalStateException", "java/lang/IllegalStateException"), ("java/util/ArrayList", "java/lang/Object"), ("Ropewalk$Address", "java/lang/Object"), ("Ropewalk$Customer", "java/lang/Object"), ("Ropewalk$Depot", "java/lang/Object"), ("Ropewalk$Lane", "java/lang/Object"), ("Ropewalk$Locker", "java/lang/Object"), ("Ropewalk$Money", "java/lang/Object"), ("Ropewalk$Parcel", "java/lang/Object"), ("Ropewalk$Scan", "java/lang/Object"), ("Ropewalk$Stay", "java/lang/Object"), ("Ropewalk$Van", "java/lang/Object"), ("Ropewalk", "java/lang/Object")]
def mDcl : List MethodName := [⟨"java/lang/RuntimeException", "<init>", "()V"⟩, ⟨"java/lang/RuntimeException", "<init>", "(Ljava/lang/String;)V"⟩, ⟨"java/lang/Exception", "<init>", "()V"⟩, ⟨"java/lang/Exception", "<init>", "(Ljava/lang/String;)V"⟩, ⟨"java/lang/Throwable", "<init>", "()V"⟩, ⟨"java/lang/Throwable", "<init>", "(Ljava/lang/String;)V"⟩]
def mAol : List String := ["java/lang/Object", "Ropewalk$Depot", "Ropewalk$Customer", "Ropewalk$Lane"]
def mNcl : List (String × String) := [("java/lang/IllegalArgumentException", "java/lang/IndexOutOfBoundsException"), ("java/lang/IllegalStateException", "java/lang/IndexOutOfBoundsException"), ("java/lang/IndexOutOfBoundsException", "java/lang/IllegalArgumentException"), ("java/lang/IllegalStateException", "java/lang/IllegalArgumentException"), ("java/lang/IndexOutOfBoundsException", "java/lang/IllegalStateException"), ("java/lang/IllegalArgumentException", "java/lang/IllegalStateException")]
/-- the launch's own things, that nobody changes -/
def mEnv (b Ls : Nat) (xs : Nat → Int32) (emp mi : Nat) (A : Nat → Prop) (U : State) (H : Heap) : Prop :=
  va_X b Ls xs U H ∧ b < H.size ∧ ¬ A b ∧ va_Z "java/util/ArrayList" "DEFAULTCAPACITY_EMPTY_ELEMENTDATA" "[Ljava/lang/Object;" (.ref emp) A U H ∧ va_T (.object "java/lang/Object") emp 0 (fun _ => .null) A U H ∧ va_Mi "[Ljava/lang/Object;" mi U ∧ va_Dc U ∧
  vx_Zq Bundle.tN "UNASSIGNED_STACK" Bundle.steD A U H ∧ vx_Zq Bundle.tN "SUPPRESSED_SENTINEL" Bundle.listD A U H ∧ (∀ q ∈ mCas, va_Nw (.castable q.1 q.2) U) ∧ (∀ q ∈ mNst, va_Nw (.methodLinkNest "Ropewalk$Parcel" q.1 q.2 "Ropewalk") U) ∧ (∀ x ∈ mDcl, va_Nw (.declares x) U) ∧ (∀ C ∈ mAol, va_AO C U) ∧ ∀ q ∈ mNcl, va_Nc q.1 q.2 U
theorem mEnv.narrow {b Ls : Nat} {xs : Nat → Int32} {emp mi : Nat} {A B : Nat → Prop} {U : State} {H : Heap} (h : mEnv b Ls xs emp mi A U H) (hAB : ∀ q, B q → A q) : mEnv b Ls xs emp mi B U H := by
  obtain ⟨h1, h2, h3, h4, h5, h6, h7, h8, h9, h10, h11, h12, h13, h14⟩ := h
  exact ⟨h1, h2, fun z => h3 (hAB _ z), h4.narrow hAB, h5.narrow hAB, h6, h7, h8.narrow hAB, h9.narrow hAB, h10, h11, h12, h13, h14⟩
theorem mEnv.kept {b Ls : Nat} {xs : Nat → Int32} {emp mi : Nat} {A : Nat → Prop} {U : State} {H H1 : Heap} (h : mEnv b Ls xs emp mi A U H) (hz : H.size ≤ H1.size) (hq : ∀ a : Nat, a < H.size → ¬ A a → H1[a]? = H[a]?) : mEnv b Ls xs emp mi A U H1 := by
  obtain ⟨h1, h2, h3, h4, h5, h6, h7, h8, h9, h10, h11, h12, h13, h14⟩ := h
  exact ⟨h1.kept (hq b h2 h3), Nat.lt_of_lt_of_le h2 hz, h3, h4.kept hq, h5.kept hq, h6, h7, h8.kept hq, h9.kept hq, h10, h11, h12, h13, h14⟩
theorem mEnv.moved {b Ls : Nat} {xs : Nat → Int32} {emp mi : Nat} {A : Nat → Prop} {u U : State} {H : Heap} (hW : u.WarmedH U.vm) (h : mEnv b Ls xs emp mi A u H) : mEnv b Ls xs emp mi A U H := by
  obtain ⟨h1, h2, h3, h4, h5, h6, h7, h8, h9, h10, h11, h12, h13, h14⟩ := h
  have hv := hW.alike
  exact ⟨h1.moved hv, h2, h3, h4.moved hv, h5.moved hv, h6.moved hv, h7.moved hv, h8.moved hv, h9.moved hv, fun q hq => va_Nw.warmC hW (h10 q hq), fun q hq => va_Nw.warmM hW (h11 q hq), fun x hx => va_Nw.warmD hW (h12 x hx), fun C hC => (h13 C hC).moved hv, fun q hq => (h14 q hq).moved hv⟩
theorem mEnv.same {b Ls : Nat} {xs : Nat → Int32} {emp mi : Nat} {A : Nat → Prop} {u U : State} {H : Heap} (hv : u.vm = U.vm) (h : mEnv b Ls xs emp mi A u H) : mEnv b Ls xs emp mi A U H := by
  obtain ⟨h1, h2, h3, h4, h5, h6, h7, h8, h9, h10, h11, h12, h13, h14⟩ := h
  have ha : u.vm.Alike U.vm := by rw [hv]; exact Vm.Alike.refl _
  exact ⟨h1.moved ha, h2, h3, h4.moved ha, h5.moved ha, h6.moved ha, h7.moved ha, h8.moved ha, h9.moved ha, fun q hq => va_Nw.same rfl hv (h10 q hq), fun q hq => va_Nw.same rfl hv (h11 q hq), fun x hx => va_Nw.same rfl hv (h12 x hx), fun C hC => (h13 C hC).moved ha, fun q hq => (h14 q hq).moved ha⟩
/-- the frame of a method of ours -/
def mCx (p : Program) (l : Launch) (R : Room) (s : State) (m : MethodId) (args : Array Value) (meth : Method) (c : Code) (y : Nat) : Prop :=
  p.tables.exec = Jvm.exec ∧ c.code = (mM y).2.1 ∧ meth.sig.returnType = (mM y).2.2.2.1 ∧ c.maxLocals = (mM y).2.2.1 ∧ s.vm.findClass (mM y).1.cls = some m.cls ∧ (∀ w ∈ lw_tbl, goodWord w = true → w.before args s = true) ∧ meth.locks = false ∧ ((mM y).2.2.2.2.1 = 2 → meth.name = "<init>") ∧ c.exceptionTable.toList = tableOf (mEh y) ∧ l.stackTraces = false ∧ (mM y).2.2.2.2.2.2.1 ≤ R.frames ∧ 40 * (mM y).2.2.2.2.2.2.1 ≤ R.locals
def mRl (s : State) (D : va_G) (cy : Nat → ClassId) (A : Nat → Prop) (b Ls : Nat) (xs : Nat → Int32) (emp mi : Nat) (α : Nat → Nat) (dom : List Nat) (H : Heap) (locs : List Loc) (σ : mS) : Prop :=
  (va_K D vwCl (tyL cy) s ∧ (∀ q, s.heap.size ≤ q → A q) ∧ mEnv b Ls xs emp mi A s s.heap) ∧ mOK dom σ ∧ va_P D vwCl (wW cy α σ.1 dom) H ∧ va_D A (wW cy α σ.1 dom) ∧ va_S A s.heap H locs ∧ α mEMP = emp ∧ α mSCR = b ∧ α mMIR = mi
def mFr (p : Program) (l : Launch) (R : Room) (s : State) (m : MethodId) (args : Array Value) (meth : Method) (c : Code) (y : Nat) (D : va_G) (cy : Nat → ClassId) (A : Nat → Prop) (b Ls : Nat) (xs : Nat → Int32) (emp mi n0 m0 : Nat) (α : Nat → Nat) (dom : List Nat) (H : Heap) (locs : List Loc) (cells slots : Nat) (L : mLs) (S : List Value) (ls : Array Slot) (σ : mS) : Prop :=
  mCx p l R s m args meth c y ∧ mRl s D cy A b Ls xs emp mi α dom H locs σ ∧ LR α dom L ls ∧ L.length = (mM y).2.2.1 ∧ (∀ v ∈ S, kV dom v) ∧ cells + n0 = σ.2.2.1 ∧ slots + m0 = σ.2.2.2
/-- how it goes on -/
def mNx (p : Program) (l : Launch) (e : Env) (R : Room) (s : State) (m : MethodId) (args : Array Value) (below : List Frame) (meth : Method) (c : Code) (Q : State → Prop) (y : Nat) (D : va_G) (cy : Nat → ClassId) (A : Nat → Prop) (b Ls : Nat) (xs : Nat → Int32) (emp mi n0 m0 : Nat) (α : Nat → Nat) (dom : List Nat) (pc : Nat) (L : mLs) (S : List Value) (σ : mS) : Prop :=
  ∀ (α' : Nat → Nat) (dom' : List Nat) (H : Heap) (locs : List Loc) (cells slots : Nat) (ls : Array Slot), exA dom α α' → (∀ a ∈ dom, a ∈ dom') → mFr p l R s m args meth c y D cy A b Ls xs emp mi n0 m0 α' dom' H locs cells slots L S ls σ → W p l e R s m args below meth c H locs cells slots Q (F0 m pc ls (S.map (wV α')))
theorem mG_word {p : Program} {l : Launch} {R : Room} {s : State} {m : MethodId} {args : Array Value} {meth : Method} {c : Code} {y : Nat} (C : mCx p l R s m args meth c y) {w : Jvm.Cond} (h : w ∈ lw_tbl) (hg : goodWord w = true) : w.before args s = true := C.2.2.2.2.2.1 w h hg
section WK
variable {p : Program} {l : Launch} {e : Env} {R : Room} {s : State} {m : MethodId} {args : Array Value} {below : List Frame} {meth : Method} {c : Code} {Q : State → Prop} {y : Nat} {D : va_G} {cy : Nat → ClassId} {A : Nat → Prop} {b Ls : Nat} {xs : Nat → Int32} {emp mi n0 m0 : Nat} {α : Nat → Nat} {dom : List Nat} {H : Heap} {locs : List Loc} {cells slots pc : Nat} {L : mLs} {S : List Value} {ls : Array Slot} {σ : mS} {pc2 : Nat} {L2 : mLs} {S2 : List Value} {σ2 : mS}
theorem mFr.keep (f : mFr p l R s m args meth c y D cy A b Ls xs emp mi n0 m0 α dom H locs cells slots L S ls σ) {L' : mLs} {S' : List Value} {ls' : Array Slot} (hl : LR α dom L' ls') (hn : L'.length = L.length) (hs : ∀ v ∈ S', kV dom v) : mFr p l R s m args meth c y D cy A b Ls xs emp mi n0 m0 α dom H locs cells slots L' S' ls' σ :=
  ⟨f.1, f.2.1, hl, hn.trans f.2.2.2.1, hs, f.2.2.2.2.2.1, f.2.2.2.2.2.2⟩
theorem mFr.stk (f : mFr p l R s m args meth c y D cy A b Ls xs emp mi n0 m0 α dom H locs cells slots L S ls σ) {S' : List Value} (hs : ∀ v ∈ S', kV dom v) : mFr p l R s m args meth c y D cy A b Ls xs emp mi n0 m0 α dom H locs cells slots L S' ls σ := f.keep f.2.2.1 rfl hs
theorem mK1 {dom : List Nat} {v : Value} {S : List Value} (h : kV dom v) (hs : ∀ v ∈ S, kV dom v) : ∀ w ∈ v :: S, kV dom w := fun w hw => (List.mem_cons.mp hw).elim (fun e => e ▸ h) (hs w)
theorem mK2 {dom : List Nat} {v : Value} {S : List Value} (hs : ∀ w ∈ v :: S, kV dom w) : kV dom v ∧ ∀ w ∈ S, kV dom w := ⟨hs v List.mem_cons_self, fun w hw => hs w (List.mem_cons_of_mem _ hw)⟩
theorem mGo_inj {q : Nat} {L' : mLs} {S' : List Value} {σ' : mS} (h : mGo q L' S' σ' = some (.inl (pc2, L2, S2, σ2))) : q = pc2 ∧ L' = L2 ∧ S' = S2 ∧ σ' = σ2 := by
  cases h
  exact ⟨rfl, rfl, rfl, rfl⟩
theorem wk_iload_n (f : mFr p l R s m args meth c y D cy A b Ls xs emp mi n0 m0 α dom H locs cells slots L S ls σ) {k : Fin 4} (hd : decode (mM y).2.1 pc = .ok (.iload_n k, 1)) (h : mLdI L k (pc + 1) S σ = some (.inl (pc2, L2, S2, σ2))) (K : mNx p l e R s m args below meth c Q y D cy A b Ls xs emp mi n0 m0 α dom pc2 L2 S2 σ2) : W p l e R s m args below meth c H locs cells slots Q (F0 m pc ls (S.map (wV α))) := by
  unfold mLdI at h
  split at h
  · rename_i x hx
    obtain ⟨rfl, rfl, rfl, rfl⟩ := mGo_inj h
    exact lv_iload_n f.1.1 f.1.2.1 hd rfl (f.2.2.1.at hx) (K α dom H locs cells slots ls exA.rf (fun _ h => h) (f.stk (mK1 kV_int f.2.2.2.2.1)))
  · cases h
theorem wk_iload (f : mFr p l R s m args meth c y D cy A b Ls xs emp mi n0 m0 α dom H locs cells slots L S ls σ) {k : Nat} (hd : decode (mM y).2.1 pc = .ok (.iload k, 2)) (h : mLdI L k (pc + 2) S σ = some (.inl (pc2, L2, S2, σ2))) (K : mNx p l e R s m args below meth c Q y D cy A b Ls xs emp mi n0 m0 α dom pc2 L2 S2 σ2) : W p l e R s m args below meth c H locs cells slots Q (F0 m pc ls (S.map (wV α))) := by
  unfold mLdI at h
  split at h
  · rename_i x hx
    obtain ⟨rfl, rfl, rfl, rfl⟩ := mGo_inj h
    exact lv_iload f.1.1 f.1.2.1 hd (f.2.2.1.at hx) (K α dom H locs cells slots ls exA.rf (fun _ h => h) (f.stk (mK1 kV_int f.2.2.2.2.1)))
  · cases h
theorem wk_aload_n (f : mFr p l R s m args meth c y D cy A b Ls xs emp mi n0 m0 α dom H locs cells slots L S ls σ) {k : Fin 4} (hd : decode (mM y).2.1 pc = .ok (.aload_n k, 1)) (h : mLdA L k (pc + 1) S σ = some (.inl (pc2, L2, S2, σ2))) (K : mNx p l e R s m args below meth c Q y D cy A b Ls xs emp mi n0 m0 α dom pc2 L2 S2 σ2) : W p l e R s m args below meth c H locs cells slots Q (F0 m pc ls (S.map (wV α))) := by
  unfold mLdA at h
  split at h
  · rename_i x hx
    obtain ⟨rfl, rfl, rfl, rfl⟩ := mGo_inj h
    exact lv_aload_n f.1.1 f.1.2.1 hd rfl (f.2.2.1.at hx) (K α dom H locs cells slots ls exA.rf (fun _ h => h) (f.stk (mK1 (f.2.2.1.2 _ _ hx).1 f.2.2.2.2.1)))
  · rename_i hx
    obtain ⟨rfl, rfl, rfl, rfl⟩ := mGo_inj h
    exact lv_aload_nN f.1.1 f.1.2.1 hd rfl (f.2.2.1.at hx) (K α dom H locs cells slots ls exA.rf (fun _ h => h) (f.stk (mK1 kV_null f.2.2.2.2.1)))
  · cases h
theorem wk_aload (f : mFr p l R s m args meth c y D cy A b Ls xs emp mi n0 m0 α dom H locs cells slots L S ls σ) {k : Nat} (hd : decode (mM y).2.1 pc = .ok (.aload k, 2)) (h : mLdA L k (pc + 2) S σ = some (.inl (pc2, L2, S2, σ2))) (K : mNx p l e R s m args below meth c Q y D cy A b Ls xs emp mi n0 m0 α dom pc2 L2 S2 σ2) : W p l e R s m args below meth c H locs cells slots Q (F0 m pc ls (S.map (wV α))) := by
  unfold mLdA at h
  split at h
  · rename_i x hx
    obtain ⟨rfl, rfl, rfl, rfl⟩ := mGo_inj h
    exact lv_aload f.1.1 f.1.2.1 hd (f.2.2.1.at hx) (K α dom H locs cells slots ls exA.rf (fun _ h => h) (f.stk (mK1 (f.2.2.1.2 _ _ hx).1 f.2.2.2.2.1)))
  · rename_i hx
    obtain ⟨rfl, rfl, rfl, rfl⟩ := mGo_inj h
    exact lv_aloadN f.1.1 f.1.2.1 hd (f.2.2.1.at hx) (K α dom H locs cells slots ls exA.rf (fun _ h => h) (f.stk (mK1 kV_null f.2.2.2.2.1)))
  · cases h
theorem mSt_inj {i q : Nat} {v : Value} {S' : List Value} {σ' : mS} (h : mSt L i v q S' σ' = some (.inl (pc2, L2, S2, σ2))) : i < L.length ∧ q = pc2 ∧ L.set i (some v) = L2 ∧ S' = S2 ∧ σ' = σ2 := by
  unfold mSt at h
  split at h
  · exact ⟨by assumption, mGo_inj h⟩
  · cases h
theorem wk_istore_n (f : mFr p l R s m args meth c y D cy A b Ls xs emp mi n0 m0 α dom H locs cells slots L S ls σ) {k : Fin 4} (hd : decode (mM y).2.1 pc = .ok (.istore_n k, 1)) (h : mStI L k (pc + 1) S σ = some (.inl (pc2, L2, S2, σ2))) (K : mNx p l e R s m args below meth c Q y D cy A b Ls xs emp mi n0 m0 α dom pc2 L2 S2 σ2) : W p l e R s m args below meth c H locs cells slots Q (F0 m pc ls (S.map (wV α))) := by
  unfold mStI at h
  split at h
  · rename_i x S'
    obtain ⟨hi, rfl, rfl, rfl, rfl⟩ := mSt_inj h
    exact lv_istore_n f.1.1 f.1.2.1 hd rfl f.2.2.1.1 hi rfl fun ls' hl => K α dom H locs cells slots ls' exA.rf (fun _ h => h) (f.keep (f.2.2.1.st kV_int rfl hl) (by simp) (mK2 f.2.2.2.2.1).2)
  · cases h
theorem wk_istore (f : mFr p l R s m args meth c y D cy A b Ls xs emp mi n0 m0 α dom H locs cells slots L S ls σ) {k : Nat} (hd : decode (mM y).2.1 pc = .ok (.istore k, 2)) (h : mStI L k (pc + 2) S σ = some (.inl (pc2, L2, S2, σ2))) (K : mNx p l e R s m args below meth c Q y D cy A b Ls xs emp mi n0 m0 α dom pc2 L2 S2 σ2) : W p l e R s m args below meth c H locs cells slots Q (F0 m pc ls (S.map (wV α))) := by
  unfold mStI at h
  split at h
  · rename_i x S'
    obtain ⟨hi, rfl, rfl, rfl, rfl⟩ := mSt_inj h
    exact lv_istore f.1.1 f.1.2.1 hd f.2.2.1.1 hi rfl fun ls' hl => K α dom H locs cells slots ls' exA.rf (fun _ h => h) (f.keep (f.2.2.1.st kV_int rfl hl) (by simp) (mK2 f.2.2.2.2.1).2)
  · cases h
theorem wk_astore_n (f : mFr p l R s m args meth c y D cy A b Ls xs emp mi n0 m0 α dom H locs cells slots L S ls σ) {k : Fin 4} (hd : decode (mM y).2.1 pc = .ok (.astore_n k, 1)) (h : mStA L k (pc + 1) S σ = some (.inl (pc2, L2, S2, σ2))) (K : mNx p l e R s m args below meth c Q y D cy A b Ls xs emp mi n0 m0 α dom pc2 L2 S2 σ2) : W p l e R s m args below meth c H locs cells slots Q (F0 m pc ls (S.map (wV α))) := by
  unfold mStA at h
  split at h
  · rename_i x S'
    obtain ⟨hi, rfl, rfl, rfl, rfl⟩ := mSt_inj h
    exact lv_astore_n f.1.1 f.1.2.1 hd rfl f.2.2.1.1 hi rfl fun ls' hl => K α dom H locs cells slots ls' exA.rf (fun _ h => h) (f.keep (f.2.2.1.st (v := .ref x) (mK2 f.2.2.2.2.1).1 rfl hl) (by simp) (mK2 f.2.2.2.2.1).2)
  · rename_i S'
    obtain ⟨hi, rfl, rfl, rfl, rfl⟩ := mSt_inj h
    exact lv_astore_nN f.1.1 f.1.2.1 hd rfl f.2.2.1.1 hi rfl fun ls' hl => K α dom H locs cells slots ls' exA.rf (fun _ h => h) (f.keep (f.2.2.1.st (v := .null) kV_null rfl hl) (by simp) (mK2 f.2.2.2.2.1).2)
  · cases h
theorem wk_astore (f : mFr p l R s m args meth c y D cy A b Ls xs emp mi n0 m0 α dom H locs cells slots L S ls σ) {k : Nat} (hd : decode (mM y).2.1 pc = .ok (.astore k, 2)) (h : mStA L k (pc + 2) S σ = some (.inl (pc2, L2, S2, σ2))) (K : mNx p l e R s m args below meth c Q y D cy A b Ls xs emp mi n0 m0 α dom pc2 L2 S2 σ2) : W p l e R s m args below meth c H locs cells slots Q (F0 m pc ls (S.map (wV α))) := by
  unfold mStA at h
  split at h
  · rename_i x S'
    obtain ⟨hi, rfl, rfl, rfl, rfl⟩ := mSt_inj h
    exact lv_astore f.1.1 f.1.2.1 hd f.2.2.1.1 hi rfl fun ls' hl => K α dom H locs cells slots ls' exA.rf (fun _ h => h) (f.keep (f.2.2.1.st (v := .ref x) (mK2 f.2.2.2.2.1).1 rfl hl) (by simp) (mK2 f.2.2.2.2.1).2)
  · rename_i S'
    obtain ⟨hi, rfl, rfl, rfl, rfl⟩ := mSt_inj h
    exact lv_astoreN f.1.1 f.1.2.1 hd f.2.2.1.1 hi rfl fun ls' hl => K α dom H locs cells slots ls' exA.rf (fun _ h => h) (f.keep (f.2.2.1.st (v := .null) kV_null rfl hl) (by simp) (mK2 f.2.2.2.2.1).2)
  · cases h
end WK
