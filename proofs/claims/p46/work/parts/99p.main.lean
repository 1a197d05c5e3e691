/-! ===== the main induction: what our machine does, the claim's machine does ===== -/
theorem mOfW {l : Launch} {y : MethodName} {ws ws' : List Cond} {rm : Room} {Pc : Array Value → State → Prop} {Qc : Array Value → State → Outcome → State → Prop} {XC : String → State → State → Prop} {mc ms : Nat} {free : Addr → Prop} {cc : ByteArray} {maxL : Nat} {ret : Option FieldType}
    (hy : plainFor y = true) (hw : ws = Cond.code y cc maxL ret :: ws')
    (body : ∀ p e s m args below meth c s₁, BodyLoose p l y (headSpec ws rm) cc maxL ret e s m args below meth c s₁ → c.maxLocals = maxL → c.exceptionTable.toList = tableOf [] → Pc args s →
      W p l e (headSpec ws rm).room s m args below meth c s.heap [] 0 0 (vx_MQ below Qc XC args s mc ms free) (entryFrame m args maxL)) : vx_Met l y ws rm Pc Qc XC mc ms free := by
  refine MetFree.of_bodySF (code := cc) (maxLocals := maxL) (ret := ret) hy ?_ ?_
  · intro args s m h hn
    obtain ⟨meth, c, h1, h2, h3, h4, h5, h6, -, -⟩ := Cond.code_spec hn (atoms_spec (ws := ws) h _ (by rw [hw]; exact List.mem_cons_self))
    exact ⟨meth, c, h1, h2, h3, h4, h5, h6⟩
  · intro p e s m args below meth c s₁ B hml hP _
    have hh0 : s₁.heap = s.heap := by rw [B.state]; rfl
    have ht : c.exceptionTable.toList = tableOf [] := by
      obtain ⟨meth9, c9, h1, h2, -, -, -, -, h7, -⟩ := Cond.code_spec B.named (atoms_spec (ws := ws) B.pre _ (by rw [hw]; exact List.mem_cons_self))
      cases Option.some.inj (h1.symm.trans B.method)
      cases Option.some.inj (h2.symm.trans (Stand.of_body B).code)
      rw [Array.isEmpty_iff.mp h7]
      rfl
    obtain ⟨t, a1, o, b1, b2, b3⟩ := body p e s m args below meth c s₁ B hml ht hP s₁ hh0 (Stand.of_body B)
    exact ⟨t, o, a1, b1, b2, b3⟩
theorem mOfWH {l : Launch} {y : MethodName} {ws ws' : List Cond} {rm : Room} {Pc : Array Value → State → Prop} {Qc : Array Value → State → Outcome → State → Prop} {XC : String → State → State → Prop} {mc ms : Nat} {free : Addr → Prop} {cc : ByteArray} {maxL : Nat} {ret : Option FieldType} {hh : List (Nat × Nat × Nat × Nat)}
    (hy : plainFor y = true) (hw : ws = Cond.codeWith y cc maxL ret hh :: ws')
    (body : ∀ p e s m args below meth c s₁, BodyLoose p l y (headSpec ws rm) cc maxL ret e s m args below meth c s₁ → c.maxLocals = maxL → c.exceptionTable.toList = tableOf hh → Pc args s →
      W p l e (headSpec ws rm).room s m args below meth c s.heap [] 0 0 (vx_MQ below Qc XC args s mc ms free) (entryFrame m args maxL)) : vx_Met l y ws rm Pc Qc XC mc ms free := by
  refine MetFree.of_bodySF (code := cc) (maxLocals := maxL) (ret := ret) hy ?_ ?_
  · intro args s m h hn
    obtain ⟨m9, meth, c, hn9, h1, h2, h3, h4, -, h5, h6, -⟩ := Cond.codeWith_spec (atoms_spec (ws := ws) h _ (by rw [hw]; exact List.mem_cons_self))
    cases hn.symm.trans hn9
    exact ⟨meth, c, h1, h2, h3, h4, h5, h6⟩
  · intro p e s m args below meth c s₁ B hml hP _
    have hh0 : s₁.heap = s.heap := by rw [B.state]; rfl
    have ht := vx_table (x := y) B (atoms_spec (ws := ws) B.pre (Cond.codeWith y cc maxL ret hh) (by rw [hw]; exact List.mem_cons_self))
    obtain ⟨t, a1, o, b1, b2, b3⟩ := body p e s m args below meth c s₁ B hml ht hP s₁ hh0 (Stand.of_body B)
    exact ⟨t, o, a1, b1, b2, b3⟩
theorem mCatL (S : List Value) : (S.map fun v => v.category).sum ≤ 2 * S.length := by
  induction S with
  | nil => exact Nat.le_refl _
  | cons v S ih =>
    have := mCat v
    simp only [List.map_cons, List.sum_cons, List.length_cons]
    omega
theorem mCat1 {S : List Value} (h : ∀ v ∈ S, v.category = 1) : (S.map fun v => v.category).sum ≤ S.length := by
  induction S with
  | nil => exact Nat.le_refl _
  | cons v S ih =>
    have h1 := h v List.mem_cons_self
    have h2 := ih fun w hw => h w (List.mem_cons_of_mem _ hw)
    simp only [List.map_cons, List.sum_cons, List.length_cons]
    omega
theorem mInv_spec {y n : Nat} {S : List Value} {a : mAct} (h : mInv y n S = some a) : ∃ As S', a = .inr (.inl (y, As, n, S')) ∧ S = As.reverse ++ S' ∧ As.length = n ∧ (S'.length ≤ 8 ∧ (S'.map fun v => v.category).sum ≤ 8) ∧ ∀ v ∈ As, v.category = 1 := by
  unfold mInv at h
  split at h
  · rename_i hc
    obtain ⟨h1, h2, h3, h4⟩ := hc
    unfold mCall at h
    cases h
    refine ⟨_, _, rfl, ?_, ?_, ?_, ?_⟩
    · rw [List.reverse_reverse, List.take_append_drop]
    · rw [List.length_reverse, List.length_take]; omega
    · refine ⟨by rw [List.length_drop]; omega, ?_⟩
      rcases h4 with h4 | h4
      · have h5 := mCatL (S.drop n)
        rw [List.length_drop] at h5
        omega
      · have h5 := mCat1 (S := S.drop n) fun v hv => by simpa using List.all_eq_true.mp h4 v (List.mem_of_mem_drop hv)
        rw [List.length_drop] at h5
        omega
    · intro v hv
      have := List.all_eq_true.mp h3 v (List.mem_reverse.mp hv)
      simpa using this
  · cases h
theorem mRecv {n : Nat} {As S S' : List Value} (hS : S = As.reverse ++ S') (hl : As.length = n) (hn : 0 < n) : ∃ v As2, As = v :: As2 ∧ S[n - 1]? = some v := by
  cases As with
  | nil => simp at hl; omega
  | cons v As2 =>
    refine ⟨v, As2, rfl, ?_⟩
    rw [hS, List.reverse_cons, List.append_assoc]
    simp only [List.length_cons] at hl
    rw [List.getElem?_append_right (by rw [List.length_reverse]; omega), List.length_reverse, show n - 1 - As2.length = 0 by omega]
    rfl
section WK10
variable {p : Program} {l : Launch} {e : Env} {R : Room} {s : State} {m : MethodId} {args : Array Value} {below : List Frame} {meth : Method} {c : Code} {Q : State → Prop} {y : Nat} {D : va_G} {cy : Nat → ClassId} {A : Nat → Prop} {b Ls : Nat} {xs : Nat → Int32} {emp mi n0 m0 : Nat} {α : Nat → Nat} {dom : List Nat} {H : Heap} {locs : List Loc} {cells slots pc : Nat} {L : mLs} {S : List Value} {ls : Array Slot} {σ : mS} {pc2 : Nat} {L2 : mLs} {S2 : List Value} {σ2 : mS}
theorem mStep_call {ee : mE} {y' n9 : Nat} {As S' : List Value} (hok : mOkE y pc ee = true) (h : mStep mFk xs Ls ee pc L S σ = some (.inr (.inl (y', As, n9, S')))) : ∃ (idx kd : Nat), mOkI (mM y).1.cls (mM y).2.2.2.2.2.2.1 idx y' ee.2.2.2 kd = true ∧ S = As.reverse ++ S' ∧ As.length = ee.2.2.2 % 16 ∧ (S'.length ≤ 8 ∧ (S'.map fun v => v.category).sum ≤ 8) ∧ (∀ v ∈ As, v.category = 1) ∧
    ((kd = 0 ∧ decode (mM y).2.1 pc = .ok (.invokestatic idx, 3)) ∨ (∃ a As2, As = .ref a :: As2 ∧ ((kd = 1 ∧ decode (mM y).2.1 pc = .ok (.invokevirtual idx, 3) ∧ ∃ ci fs, σ.1 a = some (.inl (ci, fs)) ∧ mCn ci = (mM y').1.cls) ∨ (kd = 2 ∧ decode (mM y).2.1 pc = .ok (.invokespecial idx, 3))))) := by
  obtain ⟨ins, ln, e1, e2⟩ := ee
  unfold mOkE at hok
  simp only [Bool.and_eq_true, decide_eq_true_eq, beq_iff_eq] at hok
  obtain ⟨⟨hd, hln⟩, hx⟩ := hok
  cases ins
  case invokespecial i =>
    dsimp only at hx
    have hln : ln = 3 := hln
    subst hln
    replace h : mSpcS (pc + 3) e1 e2 L S σ = some (.inr (.inl (y', As, n9, S'))) := h
    unfold mSpcS at h
    by_cases h0 : e1 = 1000
    · rw [if_pos h0] at h
      exfalso
      split at h
      · split at h <;> cases h
      · cases h
    · rw [if_neg h0] at h hx
      split at h
      · rename_i hrf
        obtain ⟨As1, S1, ha, hS, hl, h4, hc⟩ := mInv_spec h
        cases ha
        refine ⟨i, 2, hx, hS, hl, h4, hc, Or.inr ?_⟩
        have hpos : 0 < e2 % 16 := by
          unfold mOkI at hx
          simp only [Bool.and_eq_true, Bool.or_eq_true, decide_eq_true_eq, beq_iff_eq] at hx
          exact hx.2.resolve_left (by decide)
        obtain ⟨v, As2, rfl, hv⟩ := mRecv hS hl hpos
        rw [hv] at hrf
        cases v <;> simp [mRf] at hrf
        exact ⟨_, _, rfl, Or.inr ⟨rfl, hd⟩⟩
      · cases h
  case invokestatic i =>
    dsimp only at hx
    have hln : ln = 3 := hln
    subst hln
    replace h : mSttS (pc + 3) e1 e2 L S σ = some (.inr (.inl (y', As, n9, S'))) := h
    unfold mSttS at h
    by_cases h0 : e1 = 1001
    · rw [if_pos h0] at h
      exfalso
      (repeat' split at h) <;> cases h
    rw [if_neg h0] at h hx
    by_cases h0 : e1 = 1003
    · rw [if_pos h0] at h
      exfalso
      unfold mI2 at h
      (repeat' split at h) <;> cases h
    rw [if_neg h0] at h hx
    by_cases h0 : e1 = 1004
    · rw [if_pos h0] at h
      exfalso
      unfold mI2 at h
      (repeat' split at h) <;> cases h
    rw [if_neg h0] at h hx
    by_cases h0 : e1 = 1005
    · rw [if_pos h0] at h
      exfalso
      unfold mI1 at h
      (repeat' split at h) <;> cases h
    rw [if_neg h0] at h hx
    obtain ⟨As1, S1, ha, hS, hl, h4, hc⟩ := mInv_spec h
    cases ha
    exact ⟨i, 0, hx, hS, hl, h4, hc, Or.inl ⟨rfl, hd⟩⟩
  case invokevirtual i =>
    dsimp only at hx
    have hln : ln = 3 := hln
    subst hln
    replace h : mVrtS (pc + 3) e1 e2 L S σ = some (.inr (.inl (y', As, n9, S'))) := h
    unfold mVrtS at h
    by_cases h0 : e1 = 1002
    · rw [if_pos h0] at h
      exfalso
      (repeat' split at h) <;> cases h
    · rw [if_neg h0] at h hx
      split at h
      · rename_i his
        obtain ⟨As1, S1, ha, hS, hl, h4, hc⟩ := mInv_spec h
        cases ha
        simp only [Bool.and_eq_true, decide_eq_true_eq, beq_iff_eq] at hx
        obtain ⟨⟨hx, -⟩, hcn⟩ := hx
        refine ⟨i, 1, hx, hS, hl, h4, hc, Or.inr ?_⟩
        have hpos : 0 < e2 % 16 := by
          unfold mOkI at hx
          simp only [Bool.and_eq_true, Bool.or_eq_true, decide_eq_true_eq, beq_iff_eq] at hx
          exact hx.2.resolve_left (by decide)
        obtain ⟨v, As2, rfl, hv⟩ := mRecv hS hl hpos
        rw [hv] at his
        unfold mIs at his
        split at his
        · rename_i a ha
          cases ha
          split at his
          · rename_i c fs hcell
            have hce : c = e2 / 256 := by simpa using his
            subst hce
            exact ⟨_, _, rfl, Or.inl ⟨rfl, hd, _, _, hcell, hcn⟩⟩
          · cases his
        · cases his
      · cases h
  all_goals
    exfalso
    first
    | (have h : (none : Option mAct) = _ := h; cases h; done)
    | (simp only [mStep, mLdI, mLdA, mStI, mStA, mSt, mI1, mI2, mDivS, mRemS, mI2L, mLcmp, mIincS, mDupS, mDupX, mDup2, mPopS, mIfS, mIcS, mAcS, mNlS, mNnS, mBr, mTabS, mGetS, mPutS, mNewA, mNewR, mNewS, mLenS, mIald, mIast, mBald, mBast, mLald, mLast, mAald, mAast, mCstS, mLdcS, mIretS, mAretS, mVretS, mGo, mEnd] at h; (repeat' split at h) <;> cases h)
end WK10
def mGoal (l : Launch) (n : Nat) : Prop := ∀ (p : Program) (e : Env) (R : Room) (s : State) (m : MethodId) (args : Array Value) (below : List Frame) (meth : Method) (c : Code) (Q : State → Prop) (y : Nat) (D : va_G) (cy : Nat → ClassId) (A : Nat → Prop) (b Ls : Nat) (xs : Nat → Int32) (emp mi n0 m0 : Nat) (α : Nat → Nat) (dom : List Nat) (H : Heap) (locs : List Loc) (cells slots pc : Nat) (L : mLs) (S : List Value) (ls : Array Slot) (σ : mS) (r : mRes) (σ1 : mS), mX mF mHs mFk xs Ls n y pc L S σ = some (r, σ1) → mReal y = true → (σ1.2.2.1 ≤ R.cells + n0 ∧ σ1.2.2.2 ≤ R.slots + m0) → mFr p l R s m args meth c y D cy A b Ls xs emp mi n0 m0 α dom H locs cells slots L S ls σ → mEnds p l e R s m args below meth c Q y D cy A b Ls xs emp mi n0 m0 r σ1 α dom → W p l e R s m args below meth c H locs cells slots Q (F0 m pc ls (S.map (wV α)))
set_option maxHeartbeats 4000000 in
theorem mMet_of {l : Launch} (hl : l.stackTraces = false) (hMm : ∀ y, y < 283 → mMok (mM y) = true) {n : Nat} (ih : mGoal l n) {y mc ms : Nat} {D : va_G} {cy : Nat → ClassId} {A : Nat → Prop} {b Ls : Nat} {xs : Nat → Int32} {emp mi : Nat} {α : Nat → Nat} {dom : List Nat} {As : List Value} {σ : mS} {r : mRes} {σ1 : mS}
    (hx : mX mF mHs mFk xs Ls n y 0 (mL0 As (mM y).2.2.1) [] σ = some (r, σ1)) (h0 : 0 < y) (h283 : mReal y = true) (hA1 : ∀ v ∈ As, v.category = 1) (hAk : ∀ v ∈ As, kV dom v) (hlen : As.length ≤ (mM y).2.2.1) (hO : mOK dom σ) (hD : va_D A (wW cy α σ.1 dom)) (k1 : α mEMP = emp) (k2 : α mSCR = b) (k3 : α mMIR = mi) (hmc : mc + σ.2.2.1 = σ1.2.2.1) (hms : ms + σ.2.2.2 = σ1.2.2.2) :
    vx_Met l (mM y).1 (mWs y) (mRm y mc ms) (mPc D cy A b Ls xs emp mi α dom σ As) (mQc D cy A α dom r σ1) (mXC D cy A α dom r σ1) mc ms A := by
  obtain ⟨wS, wI, wN, wV1, hpl, hne, hpar, hinit⟩ := mMk h0 (mReal_lt h283) (hMm y (mReal_lt h283))
  have body : ∀ p e s m args below meth c s₁, BodyLoose p l (mM y).1 (headSpec (mWs y) (mRm y mc ms)) (mM y).2.1 (mM y).2.2.1 (mM y).2.2.2.1 e s m args below meth c s₁ → c.maxLocals = (mM y).2.2.1 → c.exceptionTable.toList = tableOf (mEh y) → mPc D cy A b Ls xs emp mi α dom σ As args s →
      W p l e (headSpec (mWs y) (mRm y mc ms)).room s m args below meth c s.heap [] 0 0 (vx_MQ below (mQc D cy A α dom r σ1) (mXC D cy A α dom r σ1) args s mc ms A) (entryFrame m args (mM y).2.2.1) := by
    intro p e s m args below meth c s₁ B hml htab hv
    obtain ⟨rfl, ⟨hK, hq, hE⟩, hP⟩ := hv
    have hts : ∀ w ∈ lw_tbl, goodWord w = true → w.before (As.map (wV α)).toArray s = true := fun w hw hg => atoms_spec (ws := mWs y) B.pre w (List.mem_cons_of_mem _ (List.mem_filter.mpr ⟨hw, hg⟩))
    have hname : (mM y).2.2.2.2.1 = 2 → meth.name = "<init>" := fun hk => ((name_of_methodNamed B.named B.method).1).trans (hinit.mp hk)
    rw [lg_entry_eq]
    have C : mCx p l (headSpec (mWs y) (mRm y mc ms)).room s m (As.map (wV α)).toArray meth c y := ⟨B.exec, B.bytes, B.returns, hml, findClass_of_methodNamed B.named, hts, B.notSynchronized, hname, htab, hl, Nat.le_refl _, Nat.le_refl _⟩
    have hRc : (headSpec (mWs y) (mRm y mc ms)).room.cells = mc := rfl
    have hRs : (headSpec (mWs y) (mRm y mc ms)).room.slots = ms := rfl
    refine ih p e (headSpec (mWs y) (mRm y mc ms)).room s m _ below meth c _ y D cy A b Ls xs emp mi σ.2.2.1 σ.2.2.2 α dom s.heap [] 0 0 0 (mL0 As (mM y).2.2.1) [] _ σ r σ1 hx h283 ⟨by omega, by omega⟩ ⟨C, ⟨⟨hK, hq, hE⟩, hO, hP, hD, va_S.rf, k1, k2, k3⟩, LR_entry hA1 hAk hlen, mL0_len hlen, (fun v hv => by cases hv), by omega, by omega⟩ ⟨?_, ?_, ?_, ?_, ?_⟩
    · intro α' dom' H locs cells slots pc L ls x hx hs f hd hret hr
      have e1 : cells = mc := by have := f.2.2.2.2.2.1; omega
      have e2 : slots = ms := by have := f.2.2.2.2.2.2; omega
      subst e1
      subst e2
      have hq : ∀ t : State, t.heap = H → s.WarmedH t.vm → mQc D cy A α dom r σ1 (As.map (wV α)).toArray s (.returned (some (.int x))) t := fun t ht hW => ⟨⟨some (.int x), α', dom', hr, rfl, fun w hw => by cases hw; exact kV_int, hx, hs, f.2.1.2.1, by rw [ht]; exact f.2.1.2.2.1, f.2.1.2.2.2.1⟩, f.2.1.2.2.2.2.1.F ht⟩
      refine vx_ret ?_
      rcases hret with h | ⟨h, hb01⟩
      · exact W.iret f.1.1 f.1.2.1 (f.1.2.2.1.trans h) hq f.2.1.2.2.2.2.1.2.2 hd f.1.2.2.2.2.2.2.1
      · exact W.zret f.1.1 f.1.2.1 (f.1.2.2.1.trans h) (by rcases hb01 with rfl | rfl <;> rfl) hq f.2.1.2.2.2.2.1.2.2 hd f.1.2.2.2.2.2.2.1
    · intro α' dom' H locs cells slots pc L ls v hx hs f hd hret hv hr
      have e1 : cells = mc := by have := f.2.2.2.2.2.1; omega
      have e2 : slots = ms := by have := f.2.2.2.2.2.2; omega
      subst e1
      subst e2
      have hkv : kV dom' v := f.2.2.2.2.1 v List.mem_cons_self
      have hq : ∀ t : State, t.heap = H → s.WarmedH t.vm → mQc D cy A α dom r σ1 (As.map (wV α)).toArray s (.returned (some (wV α' v))) t := fun t ht hW => ⟨⟨some v, α', dom', hr, rfl, fun w hw => by cases hw; exact hkv, hx, hs, f.2.1.2.1, by rw [ht]; exact f.2.1.2.2.1, f.2.1.2.2.2.1⟩, f.2.1.2.2.2.2.1.F ht⟩
      have hv2 : wV α' v = .null ∨ ∃ a, wV α' v = .ref a := by
        rcases hv with rfl | ⟨a, rfl⟩
        · exact Or.inl rfl
        · exact Or.inr ⟨_, rfl⟩
      refine vx_ret ?_
      rcases hret with ⟨z, h⟩ | ⟨z, h⟩
      · exact W.aret f.1.1 f.1.2.1 (f.1.2.2.1.trans h) (Or.inl ⟨z, rfl⟩) hv2 hq f.2.1.2.2.2.2.1.2.2 hd f.1.2.2.2.2.2.2.1
      · exact W.aret f.1.1 f.1.2.1 (f.1.2.2.1.trans h) (Or.inr ⟨z, rfl⟩) hv2 hq f.2.1.2.2.2.2.1.2.2 hd f.1.2.2.2.2.2.2.1
    · intro α' dom' H locs cells slots pc L ls hx hs f hd hret hr
      have e1 : cells = mc := by have := f.2.2.2.2.2.1; omega
      have e2 : slots = ms := by have := f.2.2.2.2.2.2; omega
      subst e1
      subst e2
      refine vx_ret ?_
      exact W.vret f.1.1 f.1.2.1 (f.1.2.2.1.trans hret) (fun t ht hW => ⟨⟨none, α', dom', hr, rfl, (fun w hw => by cases hw), hx, hs, f.2.1.2.1, by rw [ht]; exact f.2.1.2.2.1, f.2.1.2.2.2.1⟩, f.2.1.2.2.2.2.1.F ht⟩) f.2.1.2.2.2.2.1.2.2 hd f.1.2.2.2.2.2.2.1
    · intro α' dom' H locs cells slots pc L ls S σ2 k idx hx hs f hthr hr hk hfr hC d0 d3 d4 d7 hpos hown hl4
      have e1 : cells + 1 = mc := by
        have := f.2.2.2.2.2.1
        have h9 : σ1.2.2.1 = σ2.2.2.1 + 1 := by rw [← hthr]; rfl
        omega
      have e2 : slots + 6 = ms := by
        have := f.2.2.2.2.2.2
        have h9 : σ1.2.2.2 = σ2.2.2.2 + 6 := by rw [← hthr]; rfl
        omega
      have heh : mEh y = [] := by
        refine mEh_hi fun z => ?_
        have h9 := (mHk_lo z.1 z.2).2.1.1
        rw [hown] at h9
        exact absurd h9 (by decide)
      rw [← hthr, hr]
      exact mThrow f hx hs hk hfr hC d0 d3 d4 d7 hown heh hl4 (by omega) (by omega) (by omega) (by omega)
    · intro α' dom' H locs cells slots pc L ls S rest k q ce hx hs f hr hk hhd hce hcv hcl
      have e1 : cells = mc := by have := f.2.2.2.2.2.1; omega
      have e2 : slots = ms := by have := f.2.2.2.2.2.2; omega
      have htb : ∀ z ∈ c.exceptionTable.toList, covers z pc = false ∨ (z.catchType ≠ 0 ∧ ∃ nm : String, (Cond.classLink (mM y).1.cls z.catchType nm).before (As.map (wV α)).toArray s = true ∧ va_Nc (mEx k) nm s) := by
        rw [htab]
        exact f.pass hk (mHz_none _ _ (mHz_y (y := y)) hhd)
      exact vx_outP f.1.2.2.2.2.1 f.1.2.2.2.2.2.2.1 htb hce hcv hcl (fun t ht hW => ⟨⟨k, α', dom', hr, hk, rfl, hx, hs, f.2.1.2.1, by rw [ht]; exact f.2.1.2.2.1, f.2.1.2.2.2.1⟩, f.2.1.2.2.2.2.1.F ht⟩) f.2.1.2.2.2.2.1.2.2 (by omega) (by omega)
  by_cases z : 1 ≤ y ∧ y ≤ 2
  · have hcw : mWs y = Cond.codeWith (mM y).1 (mM y).2.1 (mM y).2.2.1 (mM y).2.2.2.1 (mEh y) :: mTG := by unfold mWs mCw; rw [if_pos z]
    exact mOfWH hpl hcw body
  · have hcw : mWs y = Cond.code (mM y).1 (mM y).2.1 (mM y).2.2.1 (mM y).2.2.2.1 :: mTG := by unfold mWs mCw; rw [if_neg z]
    refine mOfW hpl hcw ?_
    rw [mEh_hi z] at body
    exact body
set_option maxHeartbeats 4000000 in
theorem mMain {l : Launch} (hl : l.stackTraces = false) (hOk : ∀ y pc e, mReal y = true → mF y pc = some e → mOkE y pc e = true) (hMm : ∀ y, y < 283 → mMok (mM y) = true) : ∀ n, mGoal l n := by
  intro n
  induction n with
  | zero => intro p e R s m args below meth c Q y D cy A b Ls xs emp mi n0 m0 α dom H locs cells slots pc L S ls σ r σ1 h; cases h
  | succ n ih =>
    intro p e R s m args below meth c Q y D cy A b Ls xs emp mi n0 m0 α dom H locs cells slots pc L S ls σ r σ1 h hy hr f hE
    unfold mX at h
    cases hF : mF y pc with
    | none => rw [hF] at h; cases h
    | some ee =>
      rw [hF] at h
      have hok := hOk y pc ee hy hF
      simp only at h
      cases hst : mStep mFk xs Ls ee pc L S σ with
      | none => rw [hst] at h; cases h
      | some a =>
        rw [hst] at h
        rcases a with ⟨pc', L', S', σ'⟩ | ⟨y', As, k9, S'⟩ | ⟨r', σ'⟩
        · have h : mX mF mHs mFk xs Ls n y pc' L' S' σ' = some (r, σ1) := h
          have hle := mX_le _ _ _ _ _ _ _ _ _ _ _ _ _ h
          exact mStep_go f hok hst ⟨Nat.le_trans hle.1 hr.1, Nat.le_trans hle.2 hr.2⟩ fun α' dom' H2 locs2 cells2 slots2 ls2 hx hs f2 => ih p e R s m args below meth c Q y D cy A b Ls xs emp mi n0 m0 α' dom' H2 locs2 cells2 slots2 pc' L' S' ls2 σ' r σ1 h hy hr f2 (hE.ex hx hs)
        · simp only at h
          obtain ⟨idx, kd, hokI, hS, hlen, hS4, hc1, hins⟩ := mStep_call hok hst
          have hokI2 := hokI
          unfold mOkI at hokI2
          simp only [Bool.and_eq_true, Bool.or_eq_true, decide_eq_true_eq, beq_iff_eq] at hokI2
          obtain ⟨⟨⟨⟨⟨⟨⟨hp0, hp283⟩, hkd⟩, harg⟩, hml⟩, hfr⟩, hlink⟩, hpos⟩ := hokI2
          rw [← hml] at h
          cases hcal : mX mF mHs mFk xs Ls n y' 0 (mL0 As (mM y').2.2.1) [] σ with
          | none => rw [hcal] at h; cases h
          | some q =>
            rw [hcal] at h
            obtain ⟨r2, σ2⟩ := q
            have hle := mX_le _ _ _ _ _ _ _ _ _ _ _ _ _ hcal
            subst hS
            have hAk : ∀ v ∈ As, kV dom v := fun v hv => f.2.2.2.2.1 v (List.mem_append_left _ (List.mem_reverse.mpr hv))
            have hSk : ∀ v ∈ S', kV dom v := fun v hv => f.2.2.2.2.1 v (List.mem_append_right _ hv)
            have hAl : As.length ≤ (mM y').2.2.1 := by
              have := mAl_ok _ (mM_mem (mReal_lt hp283))
              omega
            have hle2 : mLe σ2 σ1 := by
              rcases r2 with v | E
              · exact mX_le _ _ _ _ _ _ _ _ _ _ _ _ _ h
              · simp only at h
                cases hh : mHd (mHs y) pc E with
                | none => rw [hh] at h; cases h; exact mLe.rf
                | some q => rw [hh] at h; exact mX_le _ _ _ _ _ _ _ _ _ _ _ _ _ h
            obtain ⟨mc, hmc⟩ : ∃ mc, mc + σ.2.2.1 = σ2.2.2.1 := ⟨σ2.2.2.1 - σ.2.2.1, by have := hle.1; omega⟩
            obtain ⟨ms, hms⟩ : ∃ ms, ms + σ.2.2.2 = σ2.2.2.2 := ⟨σ2.2.2.2 - σ.2.2.2, by have := hle.2; omega⟩
            have g1 := f.2.2.2.2.2.1
            have g2 := f.2.2.2.2.2.2
            have g3 := hle2.1
            have g4 := hle2.2
            have g5 := hr.1
            have g6 := hr.2
            have hM := mMet_of hl hMm ih (D := D) (cy := cy) (A := A) (b := b) (emp := emp) (mi := mi) (α := α) (dom := dom) hcal hp0 hp283 hc1 hAk hAl f.2.1.2.1 f.2.1.2.2.2.1 f.2.1.2.2.2.2.2.1 f.2.1.2.2.2.2.2.2.1 f.2.1.2.2.2.2.2.2.2 hmc hms
            have hrun := mRun (e := e) (below := below) (pc := pc) f hp0 (mReal_lt hp283) (hMm y' (mReal_lt hp283)) hokI hM hins hlen hS4 (by omega) (by omega)
            have newf : ∀ (α' : Nat → Nat) (dom' : List Nat) (H1 : Heap) (locs1 : List Loc) (S9 : List Value), mPw D cy A α dom σ2 α' dom' H1 → va_S A s.heap H1 locs1 → (∀ v ∈ S9, kV dom' v) → mFr p l R s m args meth c y D cy A b Ls xs emp mi n0 m0 α' dom' H1 locs1 (cells + mc) (slots + ms) L S9 ls σ2 := fun α' dom' H1 locs1 S9 hpw hS1 hk9 =>
              ⟨f.1, ⟨f.2.1.1, hpw.2.2.1, hpw.2.2.2.1, hpw.2.2.2.2, hS1, (hpw.1 _ (Or.inr (Or.inl rfl))).trans f.2.1.2.2.2.2.2.1, (hpw.1 _ (Or.inr (Or.inr (Or.inl rfl)))).trans f.2.1.2.2.2.2.2.2.1, (hpw.1 _ (Or.inr (Or.inr (Or.inr rfl)))).trans f.2.1.2.2.2.2.2.2.2⟩, f.2.2.1.ex hpw.1 hpw.2.1, f.2.2.2.1, hk9, by omega, by omega⟩
            refine mRun_go (y' := y') hrun f.2.1.2.2.2.2.1 ?_ ?_
            · intro v α' dom' H1 locs1 hrv hkv hpw hS1
              subst hrv
              have h : mX mF mHs mFk xs Ls n y (pc + 3) L (v.toList ++ S') σ2 = some (r, σ1) := h
              have hk9 : ∀ w ∈ v.toList ++ S', kV dom' w := by
                intro w hw
                rcases List.mem_append.mp hw with hw | hw
                · exact hkv w (by cases v <;> simp_all)
                · exact (hSk w hw).mono hpw.2.1
              have hst9 : (v.map (wV α')).toList ++ S'.map (wV α) = (v.toList ++ S').map (wV α') := by
                rw [List.map_append, mS_ex hpw.1 hSk]
                cases v <;> rfl
              rw [hst9]
              exact ih p e R s m args below meth c Q y D cy A b Ls xs emp mi n0 m0 α' dom' H1 locs1 _ _ (pc + 3) L (v.toList ++ S') ls σ2 r σ1 h hy hr (newf α' dom' H1 locs1 _ hpw hS1 hk9) (hE.ex hpw.1 hpw.2.1)
            · intro k q ce α' dom' H1 locs1 hrk hk3 hpw hS1 hce hcv hcl
              subst hrk
              have f9 := newf α' dom' H1 locs1 [] hpw hS1 (fun v hv => by cases hv)
              simp only at h
              cases hh : mHd (mHs y) pc k with
              | none =>
                rw [hh] at h
                cases h
                exact hE.2.2.2.2 α' dom' H1 locs1 _ _ pc L ls [] _ k q ce hpw.1 hpw.2.1 f9 rfl hk3 hh hce hcv hcl
              | some hi =>
                obtain ⟨hp, i⟩ := hi
                rw [hh] at h
                have h : mX mF mHs mFk xs Ls n y hp (L.set i none) [] σ2 = some (r, σ1) := h
                refine mCatch f9 hk3 hh hce hcv hcl fun α2 dom2 H2 locs2 cells2 slots2 ls2 hx hs f2 => ?_
                exact ih p e R s m args below meth c Q y D cy A b Ls xs emp mi n0 m0 α2 dom2 H2 locs2 cells2 slots2 hp (L.set i none) [] ls2 σ2 r σ1 h hy hr f2 ((hE.ex hpw.1 hpw.2.1).ex hx hs)
        · cases h
          exact mStep_end f hok hst hE
