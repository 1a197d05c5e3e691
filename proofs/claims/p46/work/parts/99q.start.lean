/-! THE CLAIM OUT OF ONE WALK OF THE LAW'S BODY. Your part is whole_start (and what it stands on); all else here is the same for every law, but numbers. -/
def R_law : String := "RopewalkLaw"
def lw_P (b : Addr) (xs : List Int32) (args : Array Value) (s : State) : Prop := args = #[.ref b] ∧ s.IntsAt b xs ∧ xs.length ≤ 260 ∧ (Jvm.Cond.and given_1 narrow_1).before args s = true
def lw_Q (_ : Array Value) (s : State) (o : Outcome) (t : State) : Prop := o = .returned (some (.int 1)) ∧ Framed s o t [] room_1.cells room_1.slots
def lw_Z (below : List Frame) (a : Array Value) (s : State) : State → Prop := fun t => ∃ o, t.status = .running ∧ Ended t below o ∧ lw_Q a s o t
/-- the law's own end, with 1 on the stack, nothing written that was there before, its room as the claim has it -/
theorem lw_ret {p : Program} {l : Launch} {e : Env} {s : State} {m : MethodId} {below : List Frame} {meth : Method} {c : Code} {b : Nat} (hx : p.tables.exec = Jvm.exec) (hb : c.code = code) (hr : meth.sig.returnType = ret) (hlocks : meth.locks = false) {pc : Nat} {H : Heap} {ls : Array Slot} (hdg : decode code pc = .ok (.ireturn, 1)) : W p l e room_1 s m #[Value.ref b] below meth c H [] room_1.cells room_1.slots (lw_Z below #[Value.ref b] s) (F0 m pc ls [.int 1]) := by
  intro T hT X
  obtain ⟨fs, hret, hrun, hended, hW, hframe⟩ := X.leave (v := some (.int 1)) (hlocks := hlocks) (fun h => by rw [hr] at h; cases h)
  have hmeth' : T.vm.method? m = some meth := X.method'
  refine ⟨T.setFrames fs, ?_, .returned (some (.int 1)), hrun, hended, rfl, ⟨_, rfl⟩, hW, hframe⟩
  jvm_step X.here [X.here.top, hx, hb, hdg, hmeth', hr, ret, narrow_b1]
  (try refine ⟨rfl, ?_⟩); (try refine ⟨rfl, ?_⟩)
  first | (intro acts; rw [hret _ acts rfl rfl rfl]) | rw [hret _ _ rfl rfl rfl]
  exact Steps.refl _
/-- what holds at the law's entry: the machine, the code, the tables' words (any of lw_tbl by 'hts w (by decide +kernel)'), the script of L ints xs at the cell b, what the Statement gives of the start (any of its parts by flat_of_before) -/
def lw_At (p : Program) (s : State) (m : MethodId) (meth : Method) (c : Code) (b L : Nat) (xs : Nat → Int32) : Prop :=
  p.tables.exec = Jvm.exec ∧ c.code = code ∧ meth.sig.returnType = ret ∧ c.maxLocals = 16 ∧ s.vm.findClass R_law = some m.cls ∧ (∀ w ∈ lw_tbl, w.before #[Value.ref b] s = true) ∧ va_X b L xs s s.heap ∧ b < s.heap.size ∧ meth.locks = false ∧ (Jvm.Cond.and given_1 narrow_1).before #[Value.ref b] s = true ∧ c.exceptionTable.toList = tableOf []
/-- from the law's entry: what our machine's run gives -/
theorem mEmp {b : Nat} {s : State} (h : (Jvm.Cond.and given_1 narrow_1).before #[Value.ref b] s = true) (hlay : (Cond.laysStatic "java/util/ArrayList" "DEFAULTCAPACITY_EMPTY_ELEMENTDATA" "[Ljava/lang/Object;").before #[Value.ref b] s = true) (hini : (Cond.initialized "java/util/ArrayList").before #[Value.ref b] s = true) {A : Nat → Prop} (hA : ∀ a : Nat, a < s.heap.size → ¬ A a) : ∃ emp : Nat, va_Z "java/util/ArrayList" "DEFAULTCAPACITY_EMPTY_ELEMENTDATA" "[Ljava/lang/Object;" (.ref emp) A s s.heap ∧ va_T (.object "java/lang/Object") emp 0 (fun _ => .null) A s s.heap := by
  have hs := flat_of_before _ h
  have h1 : (Cond.arrayOf (.static "java/util/ArrayList" "DEFAULTCAPACITY_EMPTY_ELEMENTDATA" "[Ljava/lang/Object;") (.object "java/lang/Object")).before #[Value.ref b] s = true := hs _ (by decide +kernel)
  have h2 : (Cond.eq (.length (.static "java/util/ArrayList" "DEFAULTCAPACITY_EMPTY_ELEMENTDATA" "[Ljava/lang/Object;")) (.int 0)).before #[Value.ref b] s = true := hs _ (by decide +kernel)
  obtain ⟨t, ht, hT⟩ := va_Tof (N := 0) (f := fun _ => Value.null) (by decide) h1 (va_eqt h2) (fun j hj => absurd hj (Nat.not_lt_zero j)) hA
  exact ⟨t, va_Zref hlay hini ht hA, hT⟩
theorem mKc {s : State} {args : Array Value} (hts : ∀ w ∈ mTG, w.before args s = true) : ∃ D : va_G, ∀ (k : Nat) (q : vw_C), vwCl[k]? = some q → u_Kn s q.1 q.2.1 q.2.2 (D.1 k) (D.2 k) := by
  have h : ∀ k : Nat, ∃ c : Nat × (Nat → Nat), ∀ q, vwCl[k]? = some q → u_Kn s q.1 q.2.1 q.2.2 c.1 c.2 := by
    intro k
    cases hq : vwCl[k]? with
    | none => exact ⟨(0, fun _ => 0), fun q e => by cases e⟩
    | some q =>
      obtain ⟨cC, iS, hk⟩ := u_known (n := q.2.2) hts (mCk_all hq).1 (hts _ (mCk_all hq).2.2.2.1)
      exact ⟨(cC, iS), fun q' e => by cases e; exact hk⟩
  refine ⟨(fun k => (Classical.choose (h k)).1, fun k => (Classical.choose (h k)).2), fun k q hq => Classical.choose_spec (h k) q hq⟩
theorem mAc_p {s : State} {args : Array Value} {t : FieldType} (h : (Cond.arrayClass t).before args s = true) (hr : ∀ c, s.vm.findClass ("[" ++ t.toString) = some c → va_RA s c t) : ∃ c : ClassId, ArrOfT s c t ∧ va_RA s c t := by
  obtain ⟨c, k, comp, h1, h2, h3⟩ := Cond.arrayClass_spec h
  exact ⟨c, fun n z => ⟨fun k h => (by cases h), k, h2, comp, h3⟩, hr c h1⟩
theorem mAc_o {s : State} {args : Array Value} {C : String} (h : (Cond.arrayOver (.object C)).before args s = true) : ∃ c : ClassId, ArrOfT s c (.object C) ∧ va_RA s c (.object C) := by
  obtain ⟨comp, c, k, h1, -, h2, h3, h4⟩ := Cond.arrayOver_spec h
  exact ⟨c, fun n z => ⟨fun k h => (by cases h), k, h2, comp, h3⟩, k, comp, h2, h3, h1, h4⟩
theorem mTyL {s : State} {c0 c1 c2 c3 c4 c5 c6 : ClassId} (h0 : ArrOfT s c0 .int ∧ va_RA s c0 .int) (h1 : ArrOfT s c1 .int ∧ va_RA s c1 .int) (h2 : ArrOfT s c2 .int ∧ va_RA s c2 .int) (h3 : ArrOfT s c3 (.object "java/lang/Object") ∧ va_RA s c3 (.object "java/lang/Object")) (h4 : ArrOfT s c4 (.object "Ropewalk$Depot") ∧ va_RA s c4 (.object "Ropewalk$Depot")) (h5 : ArrOfT s c5 (.object "Ropewalk$Customer") ∧ va_RA s c5 (.object "Ropewalk$Customer")) (h6 : ArrOfT s c6 (.object "Ropewalk$Lane") ∧ va_RA s c6 (.object "Ropewalk$Lane")) : ∃ cy : Nat → ClassId, ∀ (k : Nat) (q : ClassId × FieldType), (tyL cy)[k]? = some q → ArrOfT s q.1 q.2 ∧ va_RA s q.1 q.2 := by
  refine ⟨fun k => if k = 0 then c0 else if k = 1 then c1 else if k = 2 then c2 else if k = 3 then c3 else if k = 4 then c4 else if k = 5 then c5 else c6, ?_⟩
  intro k q hq
  match k, hq with
  | 0, hq => cases hq; exact h0
  | 1, hq => cases hq; exact h1
  | 2, hq => cases hq; exact h2
  | 3, hq => cases hq; exact h3
  | 4, hq => cases hq; exact h4
  | 5, hq => cases hq; exact h5
  | 6, hq => cases hq; exact h6
  | k + 7, hq => simp [tyL] at hq
theorem mW_in {k : Nat} {w : Jvm.Cond} (h : mW k = some w) {args : Array Value} {s : State} (hts : ∀ w ∈ lw_tbl, w.before args s = true) : w.before args s = true := hts w (mW_mem h)
def mCasP : List Nat := [2031, 1167, 2064, 6012, 6016, 6009, 6008, 6010, 6022, 6018, 6017, 6020, 6019, 6021, 6011]
theorem mCas_ok : mCas.map (fun q => Jvm.Cond.castable q.1 q.2) = mCasP.filterMap mW := by decide +kernel
theorem mDcl_ok : mDcl.map Jvm.Cond.declares = [1168, 1169, 1170, 1171, 1172, 1173].filterMap mW := by decide +kernel
theorem mNst_ok : mNst.map (fun q => Jvm.Cond.methodLinkNest "Ropewalk$Parcel" q.1 q.2 "Ropewalk") = [3208, 3035, 3066].filterMap mW := by decide +kernel
theorem mIn_map {α : Type} {l : List α} {f : α → Jvm.Cond} {ps : List Nat} (h : l.map f = ps.filterMap mW) {args : Array Value} {s : State} (hts : ∀ w ∈ lw_tbl, w.before args s = true) : ∀ x ∈ l, (f x).before args s = true := by
  intro x hx
  have h1 : f x ∈ ps.filterMap mW := h ▸ List.mem_map.mpr ⟨x, hx, rfl⟩
  obtain ⟨k, -, hk⟩ := List.mem_filterMap.mp h1
  exact mW_in hk hts
theorem mNcl_ok {b : Nat} {s : State} (h : (Jvm.Cond.and given_1 narrow_1).before #[Value.ref b] s = true) : ∀ q ∈ mNcl, va_Nc q.1 q.2 s := by
  have hs := flat_of_before _ h
  intro q hq
  refine va_Nc.of (args := #[Value.ref b]) (hs _ ?_)
  revert q
  decide +kernel
set_option maxHeartbeats 4000000 in
theorem mStart {p : Program} {e : Env} {s : State} {m : MethodId} {below : List Frame} {meth : Method} {c : Code} (l : Launch) (hflags : l.flags = flags0) (hOk : ∀ y pc e, mReal y = true → mF y pc = some e → mOkE y pc e = true) (hMm : ∀ y, y < 283 → mMok (mM y) = true) {b L : Nat} {xs : Nat → Int32} (C0 : lw_At p s m meth c b L xs)
    (hrun : ∃ (n : Nat) (σ1 : mS), mX mF mHs mFk xs L n 0 0 (mL0 [.ref mSCR] 16) [] (fun _ => none, fun _ => 0, 0, 0) = some (.inl (some (.int 1)), σ1) ∧ σ1.2.2.1 ≤ 200000 ∧ σ1.2.2.2 ≤ 2000000) : W p l e room_1 s m #[Value.ref b] below meth c s.heap [] 0 0 (lw_Z below #[Value.ref b] s) (entryFrame m ([Value.ref b] : List Value).toArray 16) := by
  obtain ⟨hx, hb, hr, hml, hown, hts, hX, hbl, hlocks, hgv, htab⟩ := id C0
  obtain ⟨n, σ1, hrun, hc1, hs1⟩ := hrun
  have hl : l.stackTraces = false := by
    unfold Launch.stackTraces
    rw [hflags]
    decide
  have hA : ∀ q : Nat, s.heap.size ≤ q → (fun q : Nat => s.heap.size ≤ q) q := fun _ h => h
  have hnA : ∀ q : Nat, q < s.heap.size → ¬ (fun q : Nat => s.heap.size ≤ q) q := fun q h => Nat.not_le.mpr h
  have hG : ∀ w ∈ mTG, w.before #[Value.ref b] s = true := fun w hw => hts w (List.mem_filter.mp hw).1
  obtain ⟨emp, hZ, hT⟩ := mEmp hgv (mW_in (k := 1052) (by decide +kernel) hts) (mW_in (k := 1004) (by decide +kernel) hts) hnA
  obtain ⟨D, hKc⟩ := mKc hG
  obtain ⟨c0, h0⟩ := mAc_p (hG _ mArr_int) (fun c h => h)
  obtain ⟨c1, h1⟩ := mAc_p (hG _ mArr_int) (fun c h => h)
  obtain ⟨c2, h2⟩ := mAc_p (hG _ mArr_int) (fun c h => h)
  have a3 := mW_in (w := .arrayOver (.object "java/lang/Object")) (k := 2188) (by decide +kernel) hts
  have a4 := mW_in (w := .arrayOver (.object "Ropewalk$Depot")) (k := 1036) (by decide +kernel) hts
  have a5 := mW_in (w := .arrayOver (.object "Ropewalk$Customer")) (k := 1038) (by decide +kernel) hts
  have a6 := mW_in (w := .arrayOver (.object "Ropewalk$Lane")) (k := 1073) (by decide +kernel) hts
  obtain ⟨c3, h3⟩ := mAc_o a3
  obtain ⟨c4, h4⟩ := mAc_o a4
  obtain ⟨c5, h5⟩ := mAc_o a5
  obtain ⟨c6, h6⟩ := mAc_o a6
  obtain ⟨cy, hKy⟩ := mTyL h0 h1 h2 h3 h4 h5 h6
  have hs := flat_of_before _ hgv
  obtain ⟨mi, hMi⟩ := va_Mi.of (hs (.isRef (.mirror "[Ljava/lang/Object;")) (by decide +kernel))
  have hDc : va_Dc s := va_Dc.of (mW_in (k := 6026) (by decide +kernel) hts)
  have hiT := mW_in (w := .initialized "java/lang/Throwable") (k := 1007) (by decide +kernel) hts
  have hU : vx_Zq Bundle.tN "UNASSIGNED_STACK" Bundle.steD (fun q : Nat => s.heap.size ≤ q) s s.heap := vx_Zqof (mW_in (k := 1192) (by decide +kernel) hts) hiT (hs _ (by decide +kernel)) hnA
  have hN : vx_Zq Bundle.tN "SUPPRESSED_SENTINEL" Bundle.listD (fun q : Nat => s.heap.size ≤ q) s s.heap := vx_Zqof (mW_in (k := 1194) (by decide +kernel) hts) hiT (hs _ (by decide +kernel)) hnA
  have hE : mEnv b L xs emp mi (fun q : Nat => s.heap.size ≤ q) s s.heap := by
    refine ⟨hX, hbl, hnA b hbl, hZ, hT, hMi, hDc, hU, hN, fun q hq => va_Nw.of rfl (mIn_map mCas_ok hts q hq), fun q hq => va_Nw.of rfl (mIn_map mNst_ok hts q hq), fun x hx => va_Nw.of rfl (mIn_map mDcl_ok hts x hx), fun C hC => ?_, mNcl_ok hgv⟩
    unfold mAol at hC
    simp only [List.mem_cons, List.not_mem_nil, or_false] at hC
    rcases hC with rfl | rfl | rfl | rfl
    · exact a3
    · exact a4
    · exact a5
    · exact a6
  obtain ⟨α, k1, k2, k3⟩ : ∃ α : Nat → Nat, α mEMP = emp ∧ α mSCR = b ∧ α mMIR = mi := ⟨fun k => if k = mEMP then emp else if k = mSCR then b else mi, rfl, rfl, rfl⟩
  have C : mCx p l room_1 s m #[Value.ref b] meth c 0 := ⟨hx, hb, hr, hml, hown, fun w hw _ => hts w hw, hlocks, (fun z => absurd z (by decide)), htab, hl, by decide, by decide⟩
  have hLR := LR_entry (α := α) (dom := []) (As := [.ref mSCR]) (n := 16) (fun v hv => by rw [List.mem_singleton] at hv; subst hv; rfl) (fun v hv => by rw [List.mem_singleton] at hv; subst hv; exact kV_ref (Or.inr (Or.inr (Or.inl rfl)))) (by decide)
  have e9 : ([Value.ref mSCR] : List Value).map (wV α) = [Value.ref b] := by
    show [Value.ref (α mSCR)] = _
    rw [k2]
  rw [e9] at hLR
  rw [lg_entry_eq]
  have f : mFr p l room_1 s m #[Value.ref b] meth c 0 D cy (fun q : Nat => s.heap.size ≤ q) b L xs emp mi 0 0 α [] s.heap [] 0 0 (mL0 [.ref mSCR] 16) [] _ (fun _ => none, fun _ => 0, 0, 0) := ⟨C, ⟨⟨⟨hKc, hKy⟩, hA, hE⟩, ⟨List.nodup_nil, fun a => ⟨fun h => (by cases h), fun h => absurd rfl h⟩, fun a h => (by cases h), fun a c h => (by cases h), fun a c h => (by cases h)⟩, fun k q h => (by cases h), ⟨fun i j p q h => (by cases h), fun k q h => (by cases h)⟩, va_S.rf, k1, k2, k3⟩, hLR, rfl, (fun v hv => by cases hv), rfl, rfl⟩
  refine mMain hl hOk hMm n p e room_1 s m _ below meth c _ 0 D cy _ b L xs emp mi 0 0 α [] s.heap [] 0 0 0 _ [] _ _ _ σ1 hrun (by decide) ⟨Nat.le_trans hc1 (by decide), Nat.le_trans hs1 (by decide)⟩ f ⟨?_, ?_, ?_, ?_, ?_⟩
  · intro α' dom' H locs cells slots pc L ls x hx2 hs2 f2 hd hret hr2
    cases hr2
    have g1 : cells = σ1.2.2.1 := f2.2.2.2.2.2.1
    have g2 : slots = σ1.2.2.2 := f2.2.2.2.2.2.2
    refine va_forget (fun q hq => f2.2.1.2.2.2.2.1.2.2 q hq) ?_
    refine W.widen (k := room_1.cells) (n := room_1.slots) (Nat.le_trans (by omega : _ ≤ 200000) (by decide)) (Nat.le_trans (by omega : _ ≤ 2000000) (by decide)) ?_
    exact lw_ret hx hb hr hlocks hd
  · intro α' dom' H locs cells slots pc L ls v hx2 hs2 f2 hd hret hv hr2
    exfalso
    cases hr2
    rcases hv with hv | ⟨a, hv⟩ <;> cases hv
  · intro α' dom' H locs cells slots pc L ls hx2 hs2 f2 hd hret hr2
    cases hr2
  · intro α' dom' H locs cells slots pc L ls S σ2 k idx hx hs f2 hthr hr2
    cases hr2
  · intro α' dom' H locs cells slots pc L ls S rest k q ce hx hs f2 hr2
    cases hr2
