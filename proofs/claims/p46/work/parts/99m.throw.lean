/-! ===== what the words say of the methods; throws ===== -/
def mNm : List String := ["java/lang/RuntimeException", "java/lang/Exception"]
def mTB : List Jvm.Cond := mCas.map (fun q => .castable q.1 q.2) ++ mDcl.map .declares
theorem mTh0 : ∀ w ∈ Cond.initialized (mEx 0) :: vx_at0 "Ropewalk" (mIc 0) (mEx 0) mNm, vx_ot w = true ∧ ((goodWord w = true ∧ w ∈ lw_tbl) ∨ w ∈ mTB) := by decide +kernel
theorem mTh1 : ∀ w ∈ Cond.initialized (mEx 1) :: vx_at0 "Ropewalk" (mIc 1) (mEx 1) mNm, vx_ot w = true ∧ ((goodWord w = true ∧ w ∈ lw_tbl) ∨ w ∈ mTB) := by decide +kernel
theorem mTh2 : ∀ w ∈ Cond.initialized (mEx 2) :: vx_at0 "Ropewalk" (mIc 2) (mEx 2) mNm, vx_ot w = true ∧ ((goodWord w = true ∧ w ∈ lw_tbl) ∨ w ∈ mTB) := by decide +kernel
theorem mTh {k : Nat} (h : k < 3) : ∀ w ∈ Cond.initialized (mEx k) :: vx_at0 "Ropewalk" (mIc k) (mEx k) mNm, vx_ot w = true ∧ ((goodWord w = true ∧ w ∈ lw_tbl) ∨ w ∈ mTB) := by
  match k, h with
  | 0, _ => exact mTh0
  | 1, _ => exact mTh1
  | 2, _ => exact mTh2
  | k + 3, h => exact absurd h (by omega)
theorem mEx_fit {k : Nat} (h : k < 3) : Bundle.fit (mEx k) = true := by
  match k, h with
  | 0, _ => decide +kernel
  | 1, _ => decide +kernel
  | 2, _ => decide +kernel
  | k + 3, h => exact absurd h (by omega)
/-- the world that a call leaves behind -/
def mPw (D : va_G) (cy : Nat → ClassId) (A : Nat → Prop) (α : Nat → Nat) (dom : List Nat) (σ1 : mS) (α' : Nat → Nat) (dom' : List Nat) (H' : Heap) : Prop := exA dom α α' ∧ (∀ a ∈ dom, a ∈ dom') ∧ mOK dom' σ1 ∧ va_P D vwCl (wW cy α' σ1.1 dom') H' ∧ va_D A (wW cy α' σ1.1 dom')
def mQc (D : va_G) (cy : Nat → ClassId) (A : Nat → Prop) (α : Nat → Nat) (dom : List Nat) (r : mRes) (σ1 : mS) : Array Value → State → Outcome → State → Prop := fun _ st oc t => (∃ (v : Option Value) (α' : Nat → Nat) (dom' : List Nat), r = .inl v ∧ oc = .returned (v.map (wV α')) ∧ (∀ w, v = some w → kV dom' w) ∧ mPw D cy A α dom σ1 α' dom' t.heap) ∧ va_F A st t
def mXC (D : va_G) (cy : Nat → ClassId) (A : Nat → Prop) (α : Nat → Nat) (dom : List Nat) (r : mRes) (σ1 : mS) : String → State → State → Prop := fun E st t => (∃ (k : Nat) (α' : Nat → Nat) (dom' : List Nat), r = .inr k ∧ k < 3 ∧ E = mEx k ∧ mPw D cy A α dom σ1 α' dom' t.heap) ∧ va_F A st t
def mPc (D : va_G) (cy : Nat → ClassId) (A : Nat → Prop) (b Ls : Nat) (xs : Nat → Int32) (emp mi : Nat) (α : Nat → Nat) (dom : List Nat) (σ : mS) (As : List Value) : Array Value → State → Prop := va_Pc (As.map (wV α)) (fun U => (va_K D vwCl (tyL cy) U ∧ (∀ q, U.heap.size ≤ q → A q) ∧ mEnv b Ls xs emp mi A U U.heap) ∧ va_P D vwCl (wW cy α σ.1 dom) U.heap)
def mCw (y : Nat) : Jvm.Cond := if 1 ≤ y ∧ y ≤ 2 then .codeWith (mM y).1 (mM y).2.1 (mM y).2.2.1 (mM y).2.2.2.1 (mEh y) else .code (mM y).1 (mM y).2.1 (mM y).2.2.1 (mM y).2.2.2.1
def mWs (y : Nat) : List Jvm.Cond := mCw y :: mTG
def mRm (y mc ms : Nat) : Room := { frames := (mM y).2.2.2.2.2.2.1, cells := mc, slots := ms, locals := 40 * (mM y).2.2.2.2.2.2.1 }
theorem mHl_ok : ∀ y ∈ List.range 3, 1 ≤ y → mW (mM y).2.2.2.2.2.2.2.1 = some (.codeWith (mM y).1 (mM y).2.1 (mM y).2.2.1 (mM y).2.2.2.1 (mEh y)) ∧ ((mM y).1.cls = "RopewalkLaw" ∧ (mM y).2.2.2.2.1 = 0) ∧ mHz (mM y).1.cls (mM y).2.1 (mM y).2.2.1 (mHs y) (mEh y) = true := by decide +kernel
theorem mNl_ok : ∀ q ∈ mMl.drop 3, ¬ (q.1.cls = "RopewalkLaw" ∧ (q.1.name = "law" ∨ q.1.name = "does" ∨ q.1.name = "asks")) := by decide +kernel
theorem mLl_ok : ∀ q ∈ mMl.drop 1, q.1.name ≠ "law" := by decide +kernel
theorem mAl_ok : ∀ q ∈ mMl, q.2.2.2.2.2.1 ≤ q.2.2.1 := by decide +kernel
theorem mMl_le21 : ∀ q ∈ mMl, q.2.2.1 ≤ 21 := by decide +kernel
theorem mMl_len : mMl.length = 283 := by decide +kernel
theorem mM_at {y : Nat} (h : y < 283) : mMl[y]? = some (mM y) := by
  have hl : y < mMl.length := by rw [mMl_len]; exact h
  unfold mM
  rw [List.getD_eq_getElem?_getD, List.getElem?_eq_getElem hl]
  rfl
theorem mM_mem {y : Nat} (h : y < 283) : mM y ∈ mMl := List.mem_of_getElem? (mM_at h)
theorem mM_hi {y : Nat} (h : y < 283) (h2 : 3 ≤ y) : ¬ ((mM y).1.cls = "RopewalkLaw" ∧ ((mM y).1.name = "law" ∨ (mM y).1.name = "does" ∨ (mM y).1.name = "asks")) := by
  refine mNl_ok _ (List.mem_of_getElem? (i := y - 3) ?_)
  rw [List.getElem?_drop, show 3 + (y - 3) = y by omega]
  exact mM_at h
theorem mEh_hi {y : Nat} (h : ¬ (1 ≤ y ∧ y ≤ 2)) : mEh y = [] := by
  have : (Nat.ble 1 y && Nat.ble y 2) = false := by
    cases h1 : Nat.ble 1 y <;> cases h2 : Nat.ble y 2 <;> try rfl
    exact absurd ⟨Nat.le_of_ble_eq_true h1, Nat.le_of_ble_eq_true h2⟩ h
  unfold mEh
  rw [this]
  rfl
theorem mHs_hi {y : Nat} (h : ¬ (1 ≤ y ∧ y ≤ 2)) : mHs y = [] := by
  have : (Nat.ble 1 y && Nat.ble y 2) = false := by
    cases h1 : Nat.ble 1 y <;> cases h2 : Nat.ble y 2 <;> try rfl
    exact absurd ⟨Nat.le_of_ble_eq_true h1, Nat.le_of_ble_eq_true h2⟩ h
  unfold mHs
  rw [this]
  rfl
theorem mCw_in {y : Nat} (h0 : 0 < y) (h : y < 283) (hm : mMok (mM y) = true) : mCw y ∈ mTG := by
  unfold mCw
  split
  · rename_i h1
    exact mTG_of (mHl_ok y (List.mem_range.mpr (by omega)) h1.1).1 rfl
  · rename_i h1
    unfold mMok at hm
    simp only [Bool.and_eq_true, Bool.or_eq_true, decide_eq_true_eq] at hm
    rcases hm.1.1.1.1.1.1.1.1 with h2 | h2
    · exact mTG_of h2 rfl
    · exact absurd h2 (mM_hi h (by omega))
theorem mGood {w : Jvm.Cond} (h : w ∈ mTG) : w ∈ mTG ∧ ((w.onTables && w.keeps) = true ∨ ∃ ty, w = .arrayClass ty) := ⟨h, good_of_word (List.mem_filter.mp h).2⟩
theorem mWs_in {y : Nat} (h0 : 0 < y) (h : y < 283) (hm : mMok (mM y) = true) : GoodIn mTG (mWs y) := by
  intro w hw
  rcases List.mem_cons.mp hw with rfl | hw
  · exact mGood (mCw_in h0 h hm)
  · exact mGood hw
section WK7
variable {p : Program} {l : Launch} {e : Env} {R : Room} {s : State} {m : MethodId} {args : Array Value} {below : List Frame} {meth : Method} {c : Code} {Q : State → Prop} {y : Nat} {D : va_G} {cy : Nat → ClassId} {A : Nat → Prop} {b Ls : Nat} {xs : Nat → Int32} {emp mi n0 m0 : Nat} {α : Nat → Nat} {dom : List Nat} {H : Heap} {locs : List Loc} {cells slots pc : Nat} {L : mLs} {S : List Value} {ls : Array Slot} {σ : mS} {pc2 : Nat} {L2 : mLs} {S2 : List Value} {σ2 : mS}
theorem mThrow (f : mFr p l R s m args meth c y D cy A b Ls xs emp mi n0 m0 α dom H locs cells slots L S ls σ) {α0 : Nat → Nat} {dom0 : List Nat} {k idx mc ms : Nat} (hx0 : exA dom0 α0 α) (hs0 : ∀ a ∈ dom0, a ∈ dom) (hk : k < 3) (hfr : 6 ≤ (mM y).2.2.2.2.2.2.1) (hC : mOkC (mM y).1.cls idx (mEx k) = true) (d0 : decode (mM y).2.1 pc = .ok (.new idx, 3)) (d3 : decode (mM y).2.1 (pc + 3) = .ok (.dup, 1)) (d4 : decode (mM y).2.1 (pc + 4) = .ok (.invokespecial (mIc k), 3)) (d7 : decode (mM y).2.1 (pc + 7) = .ok (.athrow, 1)) (hown : (mM y).1.cls = "Ropewalk") (heh : mEh y = []) (hl : S.length ≤ 4) (hc : cells + 1 ≤ mc) (hs : slots + 6 ≤ ms) (hRc : cells + 1 ≤ R.cells) (hRs : slots + 6 ≤ R.slots) :
    W p l e R s m args below meth c H locs cells slots (vx_MQ below (mQc D cy A α0 dom0 (.inr k) (mThr σ)) (mXC D cy A α0 dom0 (.inr k) (mThr σ)) args s mc ms A) (F0 m pc ls (S.map (wV α))) := by
  have hcx := f.1.2.2.2.2.2.2.2.2.2.2
  have hsum := mCatS α S
  have hts := mTs f.1
  have hth := mTh hk
  have hin : ∀ w ∈ Cond.initialized (mEx k) :: vx_at0 "Ropewalk" (mIc k) (mEx k) mNm, w.before args s = true := by
    intro w hw
    rcases (hth w hw).2 with ⟨g1, g2⟩ | g
    · exact hts w (List.mem_filter.mpr ⟨g2, g1⟩)
    · rcases List.mem_append.mp g with g | g
      · obtain ⟨q, hq, rfl⟩ := List.mem_map.mp g
        exact va_Nw.use rfl (mEnv.c10 f.2.1.1.2.2 q hq)
      · obtain ⟨x, hx, rfl⟩ := List.mem_map.mp g
        exact va_Nw.use rfl (mEnv.c12 f.2.1.1.2.2 x hx)
  obtain ⟨-, -, -, -, -, -, -, hU, hN, -⟩ := f.2.1.1.2.2
  rw [hown] at hC
  refine vx_throw0 (names := mNm) (own := "Ropewalk") (cls := mEx k) (ik := idx) (ic := mIc k) f.1.1 f.1.2.1 f.1.2.2.2.2.2.2.2.2.2.1 (by rw [← hown]; exact f.1.2.2.2.2.1) (mEx_fit hk) (by decide +kernel) (hts _ (mC_spec hC)) (hin _ List.mem_cons_self) (fun w hw => hin w (List.mem_cons_of_mem _ hw)) (fun w hw => ?_) hU hN f.2.1.2.2.2.2.1 f.sz.symm d0 d3 d4 d7 ?_ ?_ ?_ hRc hRs f.1.2.2.2.2.2.2.1 ?_ (fun z hz => f.2.1.2.2.2.2.1.2.2 z hz) hc hs
  · rcases List.mem_cons.mp hw with rfl | hw
    · rfl
    · exact (hth w hw).1
  · have he := f.1.2.2.2.2.2.2.2.2.1
    rw [he, heh]
    intro x hx
    cases hx
  · show 2 + 3 < R.frames
    omega
  · show _ + (13 * (2 + 1) + 42) ≤ R.locals
    omega
  · intro t ht hz hq
    have hP := f.2.1.2.2.1
    have hS := f.2.1.2.2.2.2.1
    refine ⟨⟨k, α, dom, rfl, hk, rfl, hx0, hs0, f.2.1.2.1, hP.kept fun i x hx => hq _ (hP i x hx).lt, f.2.1.2.2.2.1⟩, Nat.le_trans hS.1 hz, fun q h1 h2 => ?_⟩
    rw [hq q (Nat.lt_of_lt_of_le h1 hS.1)]
    exact hS.2.1 q h1 h2
end WK7
