/-! ===== comparisons of references, casts, the JDK's own methods ===== -/
section WK5
variable {p : Program} {l : Launch} {e : Env} {R : Room} {s : State} {m : MethodId} {args : Array Value} {below : List Frame} {meth : Method} {c : Code} {Q : State → Prop} {y : Nat} {D : va_G} {cy : Nat → ClassId} {A : Nat → Prop} {b Ls : Nat} {xs : Nat → Int32} {emp mi n0 m0 : Nat} {α : Nat → Nat} {dom : List Nat} {H : Heap} {locs : List Loc} {cells slots pc : Nat} {L : mLs} {S : List Value} {ls : Array Slot} {σ : mS} {pc2 : Nat} {L2 : mLs} {S2 : List Value} {σ2 : mS}
theorem mFr.sz (f : mFr p l R s m args meth c y D cy A b Ls xs emp mi n0 m0 α dom H locs cells slots L S ls σ) : c.maxLocals = ls.size := by rw [f.1.2.2.2.1, f.2.2.1.1.1, f.2.2.2.1]
theorem mFr.inj (f : mFr p l R s m args meth c y D cy A b Ls xs emp mi n0 m0 α dom H locs cells slots L S ls σ) {a1 a2 : Nat} (h1 : kR dom a1) (h2 : kR dom a2) (hg : a1 = a2 ∨ ((a1 % 128 ≠ 127 ∨ a2 % 128 ≠ 127) ∧ a1 ≠ mMIR ∧ a2 ≠ mMIR)) : some (α a1) = some (α a2) ↔ some a1 = some a2 := by
  refine ⟨fun e => ?_, fun e => by rw [Option.some.inj e]⟩
  have e := Option.some.inj e
  congr 1
  rcases hg with hg | ⟨hg, g1, g2⟩
  · exact hg
  obtain ⟨k1, k2, k3⟩ := f.2.1.2.2.2.2.2
  have hD := f.2.1.2.2.2.1
  obtain ⟨-, -, nb, -, tE, -⟩ := f.2.1.1.2.2
  have nE := tE.out
  have inA : ∀ a ∈ dom, A (α a) := by
    intro a ha
    obtain ⟨q, hq⟩ := List.getElem?_of_mem ha
    have : (wW cy α σ.1 dom)[q]? = some (α a, wE cy α (σ.1 a)) := by unfold wW; rw [List.getElem?_map, hq]; rfl
    exact hD.2 q _ this
  rcases h1 with h1 | h1 | h1 | h1 <;> rcases h2 with h2 | h2 | h2 | h2
  · obtain ⟨i, hi⟩ := List.getElem?_of_mem h1
    obtain ⟨j, hj⟩ := List.getElem?_of_mem h2
    have w1 : (wW cy α σ.1 dom)[i]? = some (α a1, wE cy α (σ.1 a1)) := by unfold wW; rw [List.getElem?_map, hi]; rfl
    have w2 : (wW cy α σ.1 dom)[j]? = some (α a2, wE cy α (σ.1 a2)) := by unfold wW; rw [List.getElem?_map, hj]; rfl
    have := hD.1 i j _ _ w1 w2 e
    subst this
    exact Option.some.inj (hi.symm.trans hj)
  · exact absurd (by rw [← k1, ← h2, ← e]; exact inA _ h1) nE
  · exact absurd (by rw [← k2, ← h2, ← e]; exact inA _ h1) nb
  · exact absurd h2 g2
  · exact absurd (by rw [← k1, ← h1, e]; exact inA _ h2) nE
  · rw [h1, h2]
  · subst h1; subst h2; rcases hg with hg | hg <;> exact absurd (by decide) hg
  · exact absurd h2 g2
  · exact absurd (by rw [← k2, ← h1, e]; exact inA _ h2) nb
  · subst h1; subst h2; rcases hg with hg | hg <;> exact absurd (by decide) hg
  · rw [h1, h2]
  · exact absurd h2 g2
  · exact absurd h1 g1
  · exact absurd h1 g1
  · exact absurd h1 g1
  · exact absurd h1 g1
theorem wk_acmp (f : mFr p l R s m args meth c y D cy A b Ls xs emp mi n0 m0 α dom H locs cells slots L S ls σ) {cd : ACond} {o : Int} {e1 : Nat} (ht : (pc : Int) + o = (e1 : Int)) (hd : decode (mM y).2.1 pc = .ok (.if_acmp cd o, 3)) (h : mAcS cd (pc + 3) e1 L S σ = some (.inl (pc2, L2, S2, σ2))) (K : mNx p l e R s m args below meth c Q y D cy A b Ls xs emp mi n0 m0 α dom pc2 L2 S2 σ2) : W p l e R s m args below meth c H locs cells slots Q (F0 m pc ls (S.map (wV α))) := by
  have fin : ∀ (o1 o2 : Option Nat) (S' : List Value), (∀ v ∈ S', kV dom v) → (o1.map α = o2.map α ↔ o1 = o2) → mBr (mAc cd o1 o2 = true) e1 (pc + 3) L S' σ = some (.inl (pc2, L2, S2, σ2)) → W p l e R s m args below meth c H locs cells slots Q (F0 m pc ls (va_rf (o2.map α) :: va_rf (o1.map α) :: S'.map (wV α))) := by
    intro o1 o2 S' ks hi h
    obtain ⟨h1, h2, rfl, rfl, rfl⟩ := mBr_inj h
    cases cd with
    | eq =>
      refine lv_acmp_eq f.1.1 f.1.2.1 hd ht (fun q => ?_) (fun q => ?_)
      · have := h1 (by simp [mAc]; exact hi.mp q)
        subst this
        exact K α dom H locs cells slots ls exA.rf (fun _ h => h) (f.stk ks)
      · have := h2 (by simp [mAc]; exact fun z => q (hi.mpr z))
        subst this
        exact K α dom H locs cells slots ls exA.rf (fun _ h => h) (f.stk ks)
    | ne =>
      refine lv_acmp_ne f.1.1 f.1.2.1 hd ht (fun q => ?_) (fun q => ?_)
      · have := h1 (by simp [mAc]; exact fun z => q (hi.mpr z))
        subst this
        exact K α dom H locs cells slots ls exA.rf (fun _ h => h) (f.stk ks)
      · have := h2 (by simp [mAc]; exact hi.mp q)
        subst this
        exact K α dom H locs cells slots ls exA.rf (fun _ h => h) (f.stk ks)
  unfold mAcS at h
  split at h
  · rename_i y1 x1 S'
    obtain ⟨ky, ks⟩ := mK2 f.2.2.2.2.1
    obtain ⟨kx, ks⟩ := mK2 ks
    split at h
    · rename_i hg
      exact fin (some x1) (some y1) S' ks (f.inj (kx _ rfl) (ky _ rfl) hg) h
    · cases h
  · rename_i x1 S'
    exact fin (some x1) none S' (mK2 (mK2 f.2.2.2.2.1).2).2 (by simp) h
  · rename_i y1 S'
    exact fin none (some y1) S' (mK2 (mK2 f.2.2.2.2.1).2).2 (by simp) h
  · rename_i S'
    exact fin none none S' (mK2 (mK2 f.2.2.2.2.1).2).2 (by simp) h
  · cases h
theorem mIs_spec {h : Nat → Option mC} {ci a : Nat} (hm : mIs h ci (some (.ref a)) = true) : ∃ fs, h a = some (.inl (ci, fs)) := by
  unfold mIs at hm
  simp only at hm
  split at hm
  · rename_i c0 fs hc
    have : c0 = ci := by simpa using hm
    subst this
    exact ⟨fs, hc⟩
  · cases hm
theorem mFr.recv (f : mFr p l R s m args meth c y D cy A b Ls xs emp mi n0 m0 α dom H locs cells slots L S ls σ) {a ci : Nat} {fs : List Value} (hcell : σ.1 a = some (.inl (ci, fs))) : ci < 12 ∧ ∃ cell : Cell, H[α a]? = some cell ∧ cell.vm.isStatics = false ∧ s.vm.findClass (mCn ci) = some cell.cls := by
  obtain ⟨q, -, hq⟩ := wW_at (cy := cy) (α := α) f.2.1.2.1 hcell
  have hlt := (f.2.1.2.1.2.2.2.1 a _ hcell).1
  obtain ⟨T, N, hc⟩ := mCn_of hlt
  exact ⟨hlt, va_recv f.2.1.1.1 f.2.1.2.2.1 hc hq⟩
theorem wk_checkcast (f : mFr p l R s m args meth c y D cy A b Ls xs emp mi n0 m0 α dom H locs cells slots L S ls σ) {idx e1 : Nat} (hk : mOkC (mM y).1.cls idx (mCn e1) = true) (hd : decode (mM y).2.1 pc = .ok (.checkcast idx, 3)) (h : mCstS (pc + 3) e1 L S σ = some (.inl (pc2, L2, S2, σ2))) (K : mNx p l e R s m args below meth c Q y D cy A b Ls xs emp mi n0 m0 α dom pc2 L2 S2 σ2) : W p l e R s m args below meth c H locs cells slots Q (F0 m pc ls (S.map (wV α))) := by
  unfold mCstS at h
  split at h
  · obtain ⟨rfl, rfl, rfl, rfl⟩ := mGo_inj h
    exact lv_castN f.1.1 f.1.2.1 hd (K α dom H locs cells slots ls exA.rf (fun _ h => h) (f.stk f.2.2.2.2.1))
  · split at h
    · rename_i a S' hm
      obtain ⟨rfl, rfl, rfl, rfl⟩ := mGo_inj h
      obtain ⟨fs, hcell⟩ := mIs_spec hm
      obtain ⟨hlt, hr⟩ := f.recv hcell
      obtain ⟨T, N, hc⟩ := mCn_of hlt
      exact va_castS f.1.1 f.1.2.1 f.1.2.2.2.2.1 (mTs f.1 _ (mC_spec hk)) (f.2.1.1.1.1 _ _ hc).2 hr hd (K α dom H locs cells slots ls exA.rf (fun _ h => h) (f.stk f.2.2.2.2.1))
    · cases h
  · cases h
theorem mCat (v : Value) : v.category ≤ 2 := by cases v <;> first | exact Nat.le_refl _ | exact Nat.le_succ _
theorem mCatS (α : Nat → Nat) (S : List Value) : ((S.map (wV α)).map fun v => v.category).sum ≤ 2 * S.length := by
  induction S with
  | nil => exact Nat.le_refl _
  | cons v S ih =>
    have := mCat (wV α v)
    simp only [List.map_cons, List.sum_cons, List.length_cons]
    omega
theorem wk_ldc (f : mFr p l R s m args meth c y D cy A b Ls xs emp mi n0 m0 α dom H locs cells slots L S ls σ) {idx e1 : Nat} (hk : (e1 = 1 ∧ mOkC (mM y).1.cls idx "[Ljava/lang/Object;" = true) ∨ (e1 = 2 ∧ (mM y).1.cls = "jdk/internal/util/ArraysSupport" ∧ idx = 200) ∨ (3 ≤ e1 ∧ e1 < 9 ∧ (mM y).1.cls = "RopewalkLaw" ∧ idx = mKi e1)) (hd : decode (mM y).2.1 pc = .ok (.ldc idx, 2)) (h : mLdcS (pc + 2) e1 L S σ = some (.inl (pc2, L2, S2, σ2))) (K : mNx p l e R s m args below meth c Q y D cy A b Ls xs emp mi n0 m0 α dom pc2 L2 S2 σ2) : W p l e R s m args below meth c H locs cells slots Q (F0 m pc ls (S.map (wV α))) := by
  unfold mLdcS at h
  rcases hk with ⟨rfl, hk⟩ | ⟨rfl, hk, rfl⟩ | ⟨h3, h9, hk, rfl⟩
  · rw [if_pos rfl] at h
    obtain ⟨rfl, rfl, rfl, rfl⟩ := mGo_inj h
    have kk := K α dom H locs cells slots ls exA.rf (fun _ h => h) (f.stk (mK1 (kV_ref (Or.inr (Or.inr (Or.inr rfl)))) f.2.2.2.2.1))
    obtain ⟨k1, k2, k3⟩ := f.2.1.2.2.2.2.2
    rw [List.map_cons, show wV α (.ref mMIR) = .ref mi from congrArg Value.ref k3] at kk
    exact va_ldcM f.1.1 f.1.2.1 f.1.2.2.2.2.1 (mTs f.1 _ (mC_spec hk)) (mEnv.c6 f.2.1.1.2.2) hd kk
  · rw [if_neg (by decide), if_pos rfl] at h
    obtain ⟨rfl, rfl, rfl, rfl⟩ := mGo_inj h
    refine lv_ldc (own := (mM y).1.cls) f.1.1 f.1.2.1 f.1.2.2.2.2.1 ?_ hd (K α dom H locs cells slots ls exA.rf (fun _ h => h) (f.stk (mK1 kV_int f.2.2.2.2.1)))
    rw [hk]
    exact mTs f.1 _ mConst_w
  · rw [if_neg (by omega), if_neg (by omega), if_pos ⟨h3, h9⟩] at h
    obtain ⟨rfl, rfl, rfl, rfl⟩ := mGo_inj h
    refine lv_ldc (own := (mM y).1.cls) f.1.1 f.1.2.1 f.1.2.2.2.2.1 ?_ hd (K α dom H locs cells slots ls exA.rf (fun _ h => h) (f.stk (mK1 kV_int f.2.2.2.2.1)))
    rw [hk]
    exact mTs f.1 _ (mKon_w h3 h9)
theorem wk_getstatic (f : mFr p l R s m args meth c y D cy A b Ls xs emp mi n0 m0 α dom H locs cells slots L S ls σ) {idx : Nat} (hk : mFl.any (fun q => q.1 == idx && q.2.1 == (mM y).1.cls && q.2.2.1 == "java/util/ArrayList" && q.2.2.2.1 == "DEFAULTCAPACITY_EMPTY_ELEMENTDATA" && q.2.2.2.2.1 == "[Ljava/lang/Object;") = true) (hd : decode (mM y).2.1 pc = .ok (.getstatic idx, 3)) (h : mGo (pc + 3) L (.ref mEMP :: S) σ = some (.inl (pc2, L2, S2, σ2))) (K : mNx p l e R s m args below meth c Q y D cy A b Ls xs emp mi n0 m0 α dom pc2 L2 S2 σ2) : W p l e R s m args below meth c H locs cells slots Q (F0 m pc ls (S.map (wV α))) := by
  obtain ⟨rfl, rfl, rfl, rfl⟩ := mGo_inj h
  simp only [Bool.and_eq_true, List.any_eq_true, beq_iff_eq] at hk
  obtain ⟨q, hq, ⟨⟨⟨e1, e2⟩, e3⟩, e4⟩, e5⟩ := hk
  have hw := mFl_ok q hq
  rw [e1, e2, e3, e4, e5] at hw
  have kk := K α dom H locs cells slots ls exA.rf (fun _ h => h) (f.stk (mK1 (kV_ref (Or.inr (Or.inl rfl))) f.2.2.2.2.1))
  obtain ⟨k1, k2, k3⟩ := f.2.1.2.2.2.2.2
  rw [List.map_cons, show wV α (.ref mEMP) = .ref emp from congrArg Value.ref k1] at kk
  obtain ⟨-, -, -, hZ, -⟩ := f.2.1.1.2.2
  exact va_gets f.1.1 f.1.2.1 hZ f.2.1.2.2.2.2.1 f.1.2.2.2.2.1 (mTs f.1 _ (mTG_of hw rfl)) (fun x hx => hx) hd kk
theorem wk_objInit (f : mFr p l R s m args meth c y D cy A b Ls xs emp mi n0 m0 α dom H locs cells slots L S ls σ) {idx : Nat} (hk : mOkK (mM y).1.cls idx ⟨"java/lang/Object", "<init>", "()V"⟩ = true) (hfr : 1 ≤ (mM y).2.2.2.2.2.2.1) (hd : decode (mM y).2.1 pc = .ok (.invokespecial idx, 3)) (h : (match S with
    | .ref _ :: S => if S.length ≤ 4 then mGo (pc + 3) L S σ else none
    | _ => none) = some (.inl (pc2, L2, S2, σ2))) (K : mNx p l e R s m args below meth c Q y D cy A b Ls xs emp mi n0 m0 α dom pc2 L2 S2 σ2) : W p l e R s m args below meth c H locs cells slots Q (F0 m pc ls (S.map (wV α))) := by
  split at h
  · rename_i a S'
    split at h
    · rename_i hl
      obtain ⟨rfl, rfl, rfl, rfl⟩ := mGo_inj h
      have hcx := f.1.2.2.2.2.2.2.2.2.2.2
      have hsum := mCatS α S'
      have hts := mTs f.1
      exact W.objInit f.1.1 f.1.2.1 f.1.2.2.2.2.1 (hts (.methodLink _ idx Lib.objectInit) (mK_spec hk)) (hts (.instanceMethod Lib.objectInit) mObj_i) (hts _ mObj_c) rfl f.sz.symm rfl hd (by omega) (by have : (F0 m pc ls ((Value.ref a :: S').map (wV α))).monitorRoom = 0 := rfl; omega) (K α dom H locs cells slots ls exA.rf (fun _ h => h) (f.stk (mK2 f.2.2.2.2.1).2))
    · cases h
  · cases h
theorem mAw : nativeFrameWords "java/lang/System" "arraycopy" 5 ≤ 21 := Nat.le_of_ble_eq_true (by decide +kernel)
theorem mCpy_map {α : Nat → Nat} (f0 g : Nat → Option Nat) (i j n : Nat) : (fun k => (va_cpy f0 g i j n k).map α) = va_cpy (fun k => (f0 k).map α) (fun k => (g k).map α) i j n := by
  funext k
  unfold va_cpy
  split <;> rfl
theorem wk_arraycopy (f : mFr p l R s m args meth c y D cy A b Ls xs emp mi n0 m0 α dom H locs cells slots L S ls σ) {idx : Nat} (hk : mOkK (mM y).1.cls idx ⟨"java/lang/System", "arraycopy", "(Ljava/lang/Object;ILjava/lang/Object;II)V"⟩ = true) (hfr : 1 ≤ (mM y).2.2.2.2.2.2.1) (hd : decode (mM y).2.1 pc = .ok (.invokestatic idx, 3)) (h : (match S with
    | .int n :: .int dp :: .ref a :: .int sp :: .ref a0 :: S => match σ.1 a0, σ.1 a with
      | some (.inr (3, n0, .inr (.inr (.inr (.inr f))))), some (.inr (3, n1, .inr (.inr (.inr (.inr g))))) =>
        if ¬ sp < 0 ∧ ¬ dp < 0 ∧ ¬ n < 0 ∧ sp.toNatClampNeg + n.toNatClampNeg ≤ n0 ∧ dp.toNatClampNeg + n.toNatClampNeg ≤ n1 ∧ S.length ≤ 4 then mGo (pc + 3) L S (mPut a (.inr (3, n1, .inr (.inr (.inr (.inr (va_cpy f g sp.toNatClampNeg dp.toNatClampNeg n.toNatClampNeg)))))) σ) else none
      | _, _ => none
    | _ => none) = some (.inl (pc2, L2, S2, σ2))) (K : mNx p l e R s m args below meth c Q y D cy A b Ls xs emp mi n0 m0 α dom pc2 L2 S2 σ2) : W p l e R s m args below meth c H locs cells slots Q (F0 m pc ls (S.map (wV α))) := by
  split at h
  · rename_i n dp a sp a0 S'
    split at h
    · rename_i n2 f0 n1 g hc0 hc1
      split at h
      · rename_i hg
        obtain ⟨h1, h2, h3, h4, h5, hl⟩ := hg
        obtain ⟨rfl, rfl, rfl, rfl⟩ := mGo_inj h
        have hcx := f.1.2.2.2.2.2.2.2.2.2.2
        have hsum := mCatS α S'
        have hts := mTs f.1
        have haw := mAw
        obtain ⟨q0, -, w0⟩ := wW_at (cy := cy) (α := α) f.2.1.2.1 hc0
        obtain ⟨q1, hq1, w1⟩ := wW_at (cy := cy) (α := α) f.2.1.2.1 hc1
        have k0 := (f.2.1.2.1.2.2.2.1 a0 _ hc0).2 f0 rfl
        have k1 := (f.2.1.2.1.2.2.2.1 a _ hc1).2 g rfl
        have o0 := f.2.1.2.1.2.2.2.2 a0 _ hc0 f0 rfl
        have o1 := f.2.1.2.1.2.2.2.2 a _ hc1 g rfl
        have ks := (mK2 (mK2 (mK2 (mK2 (mK2 f.2.2.2.2.1).2).2).2).2).2
        refine va_copyM (n0 := n2) (n1 := n1) (f := fun k => (f0 k).map α) (g := fun k => (g k).map α) f.1.1 f.1.2.1 f.sz f.1.2.2.2.2.1 (hts _ (mK_spec hk)) (hts _ mAcp_n) (hts _ mAcp_s) (hts _ mAcp_i) f.2.1.1.1 f.2.1.2.2.1 f.2.1.2.2.2.1 f.2.1.2.2.2.2.1 q0 q1 3 3 w0 w1 rfl rfl h1 h2 h3 h4 h5 ?_ (by omega) (by omega) hd fun H1 locs1 hP hD hS => ?_
        · intro i hi z hz
          cases hb : f0 (sp.toNatClampNeg + i) with
          | none => rw [hb] at hz; cases hz
          | some b0 =>
            rw [hb] at hz
            cases hz
            obtain ⟨ci, fs, hcb⟩ := o0 _ _ hb
            obtain ⟨qb, -, wb⟩ := wW_at (cy := cy) (α := α) f.2.1.2.1 hcb
            have hlt := (f.2.1.2.1.2.2.2.1 b0 _ hcb).1
            obtain ⟨T, N, hcl⟩ := mCn_of hlt
            exact va_rAny f.2.1.1.1 f.2.1.2.2.1 wb hcl fun comp c0 q1 q2 => vb_asgC (mEnv.c10 f.2.1.1.2.2 (_, _) (mCas_at hlt)) comp c0 q1 q2
        · rw [← mCpy_map] at hP hD
          have cp : ∀ {P : Nat → Prop} (j b : Nat), va_cpy f0 g sp.toNatClampNeg dp.toNatClampNeg n.toNatClampNeg j = some b → (∀ j b, f0 j = some b → P b) → (∀ j b, g j = some b → P b) → P b := by
            intro P j b hb p1 p2
            unfold va_cpy at hb
            split at hb
            · exact p1 _ _ hb
            · exact p2 _ _ hb
          refine K α dom H1 locs1 cells slots ls exA.rf (fun _ h => h) (f.put hc1 (c' := .inr (3, n1, .inr (.inr (.inr (.inr (va_cpy f0 g sp.toNatClampNeg dp.toNatClampNeg n.toNatClampNeg)))))) ⟨by omega, fun g2 e => ⟨by omega, fun j b hb => ?_⟩⟩ (Or.inr ⟨_, _, rfl, rfl⟩) (fun g2 e j b hb => ?_) hq1 hP hD hS ks)
          · cases e
            exact cp (P := fun b => kR dom b) j b hb k0.2 k1.2
          · cases e
            exact cp (P := fun b => ∃ ci fs, σ.1 b = some (.inl (ci, fs))) j b hb o0 o1
      · cases h
    · cases h
  · cases h
theorem mI2_inj {F : Int32 → Int32 → Int32} {q : Nat} (h : mI2 S F q L σ = some (.inl (pc2, L2, S2, σ2))) : ∃ x z S', S = .int z :: .int x :: S' ∧ q = pc2 ∧ L = L2 ∧ .int (F x z) :: S' = S2 ∧ σ = σ2 := by
  unfold mI2 at h
  split at h
  · exact ⟨_, _, _, rfl, mGo_inj h⟩
  · cases h
theorem wk_max (f : mFr p l R s m args meth c y D cy A b Ls xs emp mi n0 m0 α dom H locs cells slots L S ls σ) {idx : Nat} (hk : mOkK (mM y).1.cls idx ⟨"java/lang/Math", "max", "(II)I"⟩ = true) (hfr : 1 ≤ (mM y).2.2.2.2.2.2.1) (hd : decode (mM y).2.1 pc = .ok (.invokestatic idx, 3)) (h : (if S.length ≤ 6 then mI2 S (fun x y => if x < y then y else x) (pc + 3) L σ else none) = some (.inl (pc2, L2, S2, σ2))) (hr : σ2.2.2.1 ≤ R.cells + n0 ∧ σ2.2.2.2 ≤ R.slots + m0) (K : mNx p l e R s m args below meth c Q y D cy A b Ls xs emp mi n0 m0 α dom pc2 L2 S2 σ2) : W p l e R s m args below meth c H locs cells slots Q (F0 m pc ls (S.map (wV α))) := by
  split at h
  · rename_i hl
    obtain ⟨x, z, S', rfl, rfl, rfl, rfl, rfl⟩ := mI2_inj h
    have hcx := f.1.2.2.2.2.2.2.2.2.2.2
    have hsum := mCatS α S'
    have hl : S'.length + 1 + 1 ≤ 6 := hl
    have hts := mTs f.1
    have q1 := f.2.2.2.2.2.1
    have q2 := f.2.2.2.2.2.2
    exact va_mmax f.1.1 f.1.2.1 f.sz f.1.2.2.2.2.1 (hts _ (mK_spec hk)) (hts _ mMax_s) (hts _ mMat_i) (hts _ mMax_c) (by omega) (by omega) (by omega) (by omega) hd (K α dom H locs cells slots ls exA.rf (fun _ h => h) (f.stk (mK1 kV_int (mK2 (mK2 f.2.2.2.2.1).2).2)))
  · cases h
theorem wk_min (f : mFr p l R s m args meth c y D cy A b Ls xs emp mi n0 m0 α dom H locs cells slots L S ls σ) {idx : Nat} (hk : mOkK (mM y).1.cls idx ⟨"java/lang/Math", "min", "(II)I"⟩ = true) (hfr : 1 ≤ (mM y).2.2.2.2.2.2.1) (hd : decode (mM y).2.1 pc = .ok (.invokestatic idx, 3)) (h : (if S.length ≤ 6 then mI2 S (fun x y => if y < x then y else x) (pc + 3) L σ else none) = some (.inl (pc2, L2, S2, σ2))) (hr : σ2.2.2.1 ≤ R.cells + n0 ∧ σ2.2.2.2 ≤ R.slots + m0) (K : mNx p l e R s m args below meth c Q y D cy A b Ls xs emp mi n0 m0 α dom pc2 L2 S2 σ2) : W p l e R s m args below meth c H locs cells slots Q (F0 m pc ls (S.map (wV α))) := by
  split at h
  · rename_i hl
    obtain ⟨x, z, S', rfl, rfl, rfl, rfl, rfl⟩ := mI2_inj h
    have hcx := f.1.2.2.2.2.2.2.2.2.2.2
    have hsum := mCatS α S'
    have hl : S'.length + 1 + 1 ≤ 6 := hl
    have hts := mTs f.1
    have q1 := f.2.2.2.2.2.1
    have q2 := f.2.2.2.2.2.2
    exact va_mmin f.1.1 f.1.2.1 f.sz f.1.2.2.2.2.1 (hts _ (mK_spec hk)) (hts _ mMin_s) (hts _ mMat_i) (hts _ mMin_c) (by omega) (by omega) (by omega) (by omega) hd (K α dom H locs cells slots ls exA.rf (fun _ h => h) (f.stk (mK1 kV_int (mK2 (mK2 f.2.2.2.2.1).2).2)))
  · cases h
theorem wk_abs (f : mFr p l R s m args meth c y D cy A b Ls xs emp mi n0 m0 α dom H locs cells slots L S ls σ) {idx : Nat} (hk : mOkK (mM y).1.cls idx ⟨"java/lang/Math", "abs", "(I)I"⟩ = true) (hfr : 1 ≤ (mM y).2.2.2.2.2.2.1) (hd : decode (mM y).2.1 pc = .ok (.invokestatic idx, 3)) (h : (if S.length ≤ 5 then mI1 S (fun x => if 0 ≤ x then x else 0 - x) (pc + 3) L σ else none) = some (.inl (pc2, L2, S2, σ2))) (hr : σ2.2.2.1 ≤ R.cells + n0 ∧ σ2.2.2.2 ≤ R.slots + m0) (K : mNx p l e R s m args below meth c Q y D cy A b Ls xs emp mi n0 m0 α dom pc2 L2 S2 σ2) : W p l e R s m args below meth c H locs cells slots Q (F0 m pc ls (S.map (wV α))) := by
  split at h
  · rename_i hl
    unfold mI1 at h
    split at h
    · rename_i x S'
      obtain ⟨rfl, rfl, rfl, rfl⟩ := mGo_inj h
      have hcx := f.1.2.2.2.2.2.2.2.2.2.2
      have hsum := mCatS α S'
      have hl : S'.length + 1 ≤ 5 := hl
      have hts := mTs f.1
      have q1 := f.2.2.2.2.2.1
      have q2 := f.2.2.2.2.2.2
      exact va_mabs f.1.1 f.1.2.1 f.sz f.1.2.2.2.2.1 (hts _ (mK_spec hk)) (hts _ mAbs_s) (hts _ mMat_i) (hts _ mAbs_c) (by omega) (by omega) (by omega) (by omega) hd (K α dom H locs cells slots ls exA.rf (fun _ h => h) (f.stk (mK1 kV_int (mK2 f.2.2.2.2.1).2)))
    · cases h
  · cases h
theorem wk_getClass (f : mFr p l R s m args meth c y D cy A b Ls xs emp mi n0 m0 α dom H locs cells slots L S ls σ) {idx : Nat} (hk : mOkK (mM y).1.cls idx ⟨"java/lang/Object", "getClass", "()Ljava/lang/Class;"⟩ = true) (hfr : 1 ≤ (mM y).2.2.2.2.2.2.1) (hd : decode (mM y).2.1 pc = .ok (.invokevirtual idx, 3)) (h : (match S with
    | .ref a :: S => match σ.1 a with
      | some (.inr (3, _, _)) => if S.length ≤ 4 then mGo (pc + 3) L (.ref mMIR :: S) σ else none
      | _ => none
    | _ => none) = some (.inl (pc2, L2, S2, σ2))) (K : mNx p l e R s m args below meth c Q y D cy A b Ls xs emp mi n0 m0 α dom pc2 L2 S2 σ2) : W p l e R s m args below meth c H locs cells slots Q (F0 m pc ls (S.map (wV α))) := by
  split at h
  · rename_i a S'
    split at h
    · rename_i hcell
      split at h
      · rename_i hl
        obtain ⟨rfl, rfl, rfl, rfl⟩ := mGo_inj h
        have hcx := f.1.2.2.2.2.2.2.2.2.2.2
        have hsum := mCatS α S'
        have hts := mTs f.1
        obtain ⟨q0, -, w0⟩ := wW_at (cy := cy) (α := α) f.2.1.2.1 hcell
        have kk := K α dom H locs cells slots ls exA.rf (fun _ h => h) (f.stk (mK1 (kV_ref (Or.inr (Or.inr (Or.inr rfl)))) (mK2 f.2.2.2.2.1).2))
        obtain ⟨k1, k2, k3⟩ := f.2.1.2.2.2.2.2
        rw [List.map_cons, show wV α (.ref mMIR) = .ref mi from congrArg Value.ref k3] at kk
        have hrc : ∃ cell : Cell, H[α a]? = some cell ∧ cell.vm.isStatics = false ∧ s.vm.findClass "[Ljava/lang/Object;" = some cell.cls := by
          have hp := f.2.1.2.2.1 q0 _ w0
          obtain ⟨kA, comp, -, -, -, hcls⟩ := (f.2.1.1.1.2 3 (cy 3, .object "java/lang/Object") rfl).2
          have hp : H[α a]? = some (vp_cell (cy 3) (wA α _)) := hp
          refine ⟨_, hp, ?_, ?_⟩
          · rename_i n9 x9 _
            rcases x9 with x9 | x9 | x9 | x9 | x9 <;> rfl
          · refine Eq.trans (by rfl) (hcls.trans ?_)
            rename_i n9 x9 _
            rcases x9 with x9 | x9 | x9 | x9 | x9 <;> rfl
        exact va_getC f.1.1 f.1.2.1 f.sz f.1.2.2.2.2.1 (hts _ (mK_spec hk)) (va_Dc.use (mEnv.c7 f.2.1.1.2.2)) (hts _ mGcl_s) (hts _ mGcl_i) (hts _ mGcl_n) (mEnv.c6 f.2.1.1.2.2) hrc (by omega) (by omega) hd kk
      · cases h
    · cases h
  · cases h
end WK5
