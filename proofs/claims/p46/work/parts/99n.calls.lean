/-! ===== calls ===== -/
theorem mNk_ok : ∀ q ∈ mMl, q.1 ∈ mNst.map (fun q => q.2) → ¬ q.2.2.2.2.1 = 1 := by decide +kernel
theorem mRt_ok : ∀ q ∈ mMl, q.2.2.2.2.1 = 2 → q.2.2.2.1 = none := by decide +kernel
theorem mM_law {y : Nat} (h0 : 0 < y) (h : y < 283) : (mM y).1.name ≠ "law" := by
  refine mLl_ok _ (List.mem_of_getElem? (i := y - 1) ?_)
  rw [List.getElem?_drop, show 1 + (y - 1) = y by omega]
  exact mM_at h
theorem mMk {y : Nat} (h0 : 0 < y) (h : y < 283) (hm : mMok (mM y) = true) : ((mM y).2.2.2.2.1 = 0 → Cond.static (mM y).1 ∈ mTG) ∧ (¬ (mM y).2.2.2.2.1 = 0 → Cond.instanceMethod (mM y).1 ∈ mTG) ∧ Cond.initialized (mM y).1.cls ∈ mTG ∧ ((mM y).2.2.2.2.1 = 1 → Cond.selects (mM y).1.cls (mM y).1 (mM y).1 ∈ mTG) ∧ plainFor (mM y).1 = true ∧ ((mM y).1.cls ≠ "java/lang/invoke/MethodHandle" ∧ (mM y).1.cls ≠ "java/lang/invoke/VarHandle") ∧ (parseMethodDescriptor (mM y).1.desc).map (fun d => d.parameters.length) = some (if (mM y).2.2.2.2.1 = 0 then (mM y).2.2.2.2.2.1 else (mM y).2.2.2.2.2.1 - 1) ∧ ((mM y).2.2.2.2.1 = 2 ↔ (mM y).1.name = "<init>") := by
  unfold mMok at hm
  simp only [Bool.and_eq_true, Bool.or_eq_true, decide_eq_true_eq] at hm
  obtain ⟨⟨⟨⟨⟨⟨⟨⟨-, hB⟩, hC⟩, hD⟩, hP⟩, hM1⟩, hM2⟩, hN⟩, hK⟩ := hm
  have hB := hB.resolve_right (mM_law h0 h)
  refine ⟨fun e => ?_, fun e => ?_, mTG_of hC rfl, fun e => ?_, hP, ⟨hM1, hM2⟩, hN, hK⟩
  · rw [if_pos e] at hB
    exact mTG_of hB rfl
  · rw [if_neg e] at hB
    exact mTG_of hB rfl
  · exact mTG_of (hD.resolve_left (fun z => z e)) rfl
theorem mHk_lo {y : Nat} (h1 : 1 ≤ y) (h2 : y ≤ 2) : mW (mM y).2.2.2.2.2.2.2.1 = some (.codeWith (mM y).1 (mM y).2.1 (mM y).2.2.1 (mM y).2.2.2.1 (mEh y)) ∧ ((mM y).1.cls = "RopewalkLaw" ∧ (mM y).2.2.2.2.1 = 0) ∧ mHz (mM y).1.cls (mM y).2.1 (mM y).2.2.1 (mHs y) (mEh y) = true := mHl_ok y (List.mem_range.mpr (by omega)) h1
section WK8
variable {p : Program} {l : Launch} {e : Env} {R : Room} {s : State} {m : MethodId} {args : Array Value} {below : List Frame} {meth : Method} {c : Code} {Q : State → Prop} {y : Nat} {D : va_G} {cy : Nat → ClassId} {A : Nat → Prop} {b Ls : Nat} {xs : Nat → Int32} {emp mi n0 m0 : Nat} {α : Nat → Nat} {dom : List Nat} {H : Heap} {locs : List Loc} {cells slots pc : Nat} {L : mLs} {S : List Value} {ls : Array Slot} {σ : mS} {pc2 : Nat} {L2 : mLs} {S2 : List Value} {σ2 : mS}
/-- a call's answer, its throw -/
theorem mRun_go {y' mc ms : Nat} {r : mRes} {σ1 : mS} {a : Array Value} {rest st0 : List Value} (hr : vx_Run p l e R s m args below meth c H locs cells slots mc ms (F0 m pc ls st0) rest (mQc D cy A α dom r σ1 a) (mXC D cy A α dom r σ1) A) (hS : va_S A s.heap H locs)
    (kk : ∀ (v : Option Value) (α' : Nat → Nat) (dom' : List Nat) (H1 : Heap) (locs1 : List Loc), r = .inl v → (∀ w, v = some w → kV dom' w) → mPw D cy A α dom σ1 α' dom' H1 → va_S A s.heap H1 locs1 → W p l e R s m args below meth c H1 locs1 (cells + mc) (slots + ms) Q (F0 m (pc + 3) ls ((v.map (wV α')).toList ++ rest)))
    (kx : ∀ (k : Nat) (q : Addr) (ce : Cell) (α' : Nat → Nat) (dom' : List Nat) (H1 : Heap) (locs1 : List Loc), r = .inr k → k < 3 → mPw D cy A α dom σ1 α' dom' H1 → va_S A s.heap H1 locs1 → H1[q]? = some ce → ce.vm = .none → s.vm.findClass (mEx k) = some ce.cls → vx_W p l e R s m args below meth c H1 locs1 (cells + mc) (slots + ms) Q (F0 m pc ls rest) q) :
    W p l e R s m args below meth c H locs cells slots Q (F0 m pc ls st0) := by
  intro T hT X
  rcases hr T hT X with ⟨v, st₀, t, T', L9, h0, X', hL, e1, e2, ⟨⟨v2, α', dom', hrv, hv, hkv, hpw⟩, hF⟩, st⟩ | ⟨q, st₀, t, T', L9, E, ce, h0, X', hL, e1, e2, ⟨⟨k, α', dom', hrk, hk3, hE, hpw⟩, hF⟩, hce, hcv, hcl, st⟩
  · have hv : v = v2.map (wV α') := by injection hv
    subst hv
    obtain ⟨k1, k2, k3⟩ := vx_keep (A0 := A) h0 e1 hS (fun _ _ h => h) (fun _ h => h) hL hF
    rw [← e1] at hpw
    obtain ⟨t2, a1, b1⟩ := kk v2 α' dom' T'.heap (locs ++ L9) hrv hkv hpw k3 T' rfl X'
    exact ⟨t2, st t2 a1, b1⟩
  · obtain ⟨k1, k2, k3⟩ := vx_keep (A0 := A) h0 e1 hS (fun _ _ h => h) (fun _ h => h) hL hF
    rw [← e1] at hpw hce
    subst hE
    obtain ⟨t2, a1, b1⟩ := kx k q ce α' dom' T'.heap (locs ++ L9) hrk hk3 hpw k3 hce hcv hcl T' rfl X'
    exact ⟨t2, st.trans a1, b1⟩
theorem mPre (f : mFr p l R s m args meth c y D cy A b Ls xs emp mi n0 m0 α dom H locs cells slots L S ls σ) {y' : Nat} {As : List Value} : FrameBlind (mPc D cy A b Ls xs emp mi α dom σ As) ∧ ∀ U : State, U.heap = H → s.WarmedH U.vm → mPc D cy A b Ls xs emp mi α dom σ As (As.map (wV α)).toArray U := by
  refine ⟨fun a U g mk q => ?_, fun U hU hW => ⟨rfl, ⟨va_K.moved hW.alike f.2.1.1.1, fun q hq => f.2.1.1.2.1 q ?_, ?_⟩, ?_⟩⟩
  · obtain ⟨q0, ⟨qK, qq, qE⟩, qP⟩ := q
    exact ⟨q0, ⟨va_K.moved (u := U) (U := U.calling g mk a) (Vm.Alike.refl U.vm) qK, qq, mEnv.same (u := U) (U := U.calling g mk a) rfl qE⟩, qP⟩
  · have := f.2.1.2.2.2.2.1.1
    rw [hU] at hq
    exact Nat.le_trans this hq
  · rw [hU]
    exact mEnv.moved hW (f.2.1.1.2.2.kept f.2.1.2.2.2.2.1.1 f.2.1.2.2.2.2.1.2.1)
  · rw [hU]
    exact f.2.1.2.2.1
theorem mCatW (α : Nat → Nat) (S : List Value) : ((S.map (wV α)).map fun v => v.category) = S.map fun v => v.category := by
  rw [List.map_map]
  refine List.map_congr_left fun v _ => ?_
  cases v <;> rfl
theorem mRun (f : mFr p l R s m args meth c y D cy A b Ls xs emp mi n0 m0 α dom H locs cells slots L S ls σ) {y' idx e2 kd mc ms : Nat} {r : mRes} {σ1 : mS} {As S' : List Value} (h0 : 0 < y') (h283 : y' < 283) (hmm : mMok (mM y') = true) (hok : mOkI (mM y).1.cls (mM y).2.2.2.2.2.2.1 idx y' e2 kd = true)
    (hM : vx_Met l (mM y').1 (mWs y') (mRm y' mc ms) (mPc D cy A b Ls xs emp mi α dom σ As) (mQc D cy A α dom r σ1) (mXC D cy A α dom r σ1) mc ms A)
    (hins : (kd = 0 ∧ decode (mM y).2.1 pc = .ok (.invokestatic idx, 3)) ∨ (∃ a As2, As = .ref a :: As2 ∧ ((kd = 1 ∧ decode (mM y).2.1 pc = .ok (.invokevirtual idx, 3) ∧ ∃ ci fs, σ.1 a = some (.inl (ci, fs)) ∧ mCn ci = (mM y').1.cls) ∨ (kd = 2 ∧ decode (mM y).2.1 pc = .ok (.invokespecial idx, 3)))))
    (hlen : As.length = e2 % 16) (hS4 : S'.length ≤ 8 ∧ (S'.map fun v => v.category).sum ≤ 8) (hf1 : cells + mc ≤ R.cells) (hf2 : slots + ms ≤ R.slots) :
    vx_Run p l e R s m args below meth c H locs cells slots mc ms (F0 m pc ls ((As.reverse ++ S').map (wV α))) (S'.map (wV α)) (mQc D cy A α dom r σ1 (As.map (wV α)).toArray) (mXC D cy A α dom r σ1) A := by
  unfold mOkI at hok
  simp only [Bool.and_eq_true, Bool.or_eq_true, decide_eq_true_eq, beq_iff_eq] at hok
  obtain ⟨⟨⟨⟨⟨⟨⟨-, -⟩, hkd⟩, harg⟩, hml⟩, hfr⟩, hlink⟩, hpos⟩ := hok
  obtain ⟨wS, wI, wN, wV1, hpl, hne, hpar, hinit⟩ := mMk h0 h283 hmm
  have hcx := f.1.2.2.2.2.2.2.2.2.2.2
  have hsum : ((S'.map (wV α)).map fun v => v.category).sum ≤ 8 := by
    rw [mCatW]
    exact hS4.2
  have hts := mTs f.1
  have hG := mWs_in h0 h283 hmm
  have hpay := pay_in hts hG
  have h21 := mMl_le21 _ (mM_mem h283)
  have hR : (mM y').2.2.2.2.2.2.1 + 1 ≤ R.frames ∧ 8 + ((mM y').2.2.1 + 11) + 40 * (mM y').2.2.2.2.2.2.1 ≤ R.locals := by omega
  have hpre := mPre f (y' := y') (As := As)
  have hW8 : 2 * (F0 m pc ls ((As.reverse ++ S').map (wV α))).monitorRoom + ((S'.map (wV α)).map fun v => v.category).sum ≤ 8 := lv_room (by omega)
  have hpn : ∀ n, n = (if (mM y').2.2.2.2.1 = 0 then (mM y').2.2.2.2.2.1 else (mM y').2.2.2.2.2.1 - 1) → ∀ sig, parseMethodDescriptor (mM y').1.desc = some sig → n = sig.parameters.length := by
    intro n hn sig hs
    rw [hs] at hpar
    rw [hn]
    exact (Option.some.inj hpar).symm
  have fix : CallFix p m c (mM y).2.1 ls.size s args mTG (mM y).1.cls := ⟨f.1.1, f.1.2.1, f.sz, f.1.2.2.2.2.1, hts⟩
  have hnest : mOkN (mM y).1.cls idx (mM y').1 = true → (Cond.methodLinkNest (mM y).1.cls idx (mM y').1 "Ropewalk").before args s = true ∧ ¬ (1 ≤ y' ∧ y' ≤ 2) := by
    intro hn
    unfold mOkN at hn
    simp only [Bool.and_eq_true, beq_iff_eq, List.any_eq_true, decide_eq_true_eq] at hn
    obtain ⟨ho, q, hq, e1, e2⟩ := hn
    refine ⟨?_, fun z => ?_⟩
    · rw [ho, ← e1, ← e2]
      exact va_Nw.use rfl (mEnv.c11 f.2.1.1.2.2 q hq)
    · have h9 := (mHk_lo z.1 z.2).2.1.1
      rw [← e2] at h9
      revert h9
      revert hq
      clear e1 e2
      revert q
      decide
  have hcode : ¬ (1 ≤ y' ∧ y' ≤ 2) → Cond.code (mM y').1 (mM y').2.1 (mM y').2.2.1 (mM y').2.2.2.1 ∈ mWs y' := by
    intro z
    have : mCw y' = Cond.code (mM y').1 (mM y').2.1 (mM y').2.2.1 (mM y').2.2.2.1 := by unfold mCw; rw [if_neg z]
    rw [← this]
    exact List.mem_cons_self
  rcases hins with ⟨rfl, hd⟩ | ⟨a, As2, rfl, hins⟩
  · have hn : As.length = (if (mM y').2.2.2.2.1 = 0 then (mM y').2.2.2.2.2.1 else (mM y').2.2.2.2.2.1 - 1) := by rw [if_pos hkd]; omega
    have hst : ((As.reverse ++ S').map (wV α)) = (As.map (wV α)).reverse ++ S'.map (wV α) := by rw [List.map_append, List.map_reverse]
    by_cases z : 1 ≤ y' ∧ y' ≤ 2
    · have hcw : Cond.codeWith (mM y').1 (mM y').2.1 (mM y').2.2.1 (mM y').2.2.2.1 (mEh y') ∈ mWs y' := by
        have : mCw y' = Cond.codeWith (mM y').1 (mM y').2.1 (mM y').2.2.1 (mM y').2.2.2.1 (mEh y') := by unfold mCw; rw [if_pos z]
        rw [← this]
        exact List.mem_cons_self
      have hK := hlink.resolve_right (fun h => (hnest h).2 z)
      exact vx_runSX (As := As.map (wV α)) (n := As.length) (hh := mEh y') (bytes := (mM y').2.1) (maxL := (mM y').2.2.1) (ret := (mM y').2.2.2.1) fix hM ⟨⟨rfl, rfl, hR.1, hR.2, hpay, hcw⟩, hts _ (hG _ hcw).1, hts _ wN, hne, hpn _ hn, hts _ (mK_spec hK), hts _ (wS hkd)⟩ hpre rfl (by rw [List.length_map]) rfl hst hW8 hd ⟨hf1, hf2⟩
    · have hcw := hcode z
      rcases hlink with hK | hN
      · exact vx_runS (As := As.map (wV α)) (n := As.length) (bytes := (mM y').2.1) (maxL := (mM y').2.2.1) (ret := (mM y').2.2.2.1) fix hM ⟨⟨rfl, rfl, hR.1, hR.2, hpay, hcw, hts _ (hG _ hcw).1, hts _ wN, hne, hpn _ hn, hts _ (mK_spec hK)⟩, hts _ (wS hkd)⟩ hpre rfl (by rw [List.length_map]) rfl hst hW8 hd ⟨hf1, hf2⟩
      · exact vx_runSN (As := As.map (wV α)) (n := As.length) (host := "Ropewalk") (bytes := (mM y').2.1) (maxL := (mM y').2.2.1) (ret := (mM y').2.2.2.1) fix hM ⟨⟨⟨rfl, rfl, hR.1, hR.2, hpay, hcw⟩, hts _ (hG _ hcw).1, hts _ wN, hne, hpn _ hn, (hnest hN).1⟩, hts _ (wS hkd), trivial⟩ hpre rfl (by rw [List.length_map]) rfl hst hW8 hd ⟨hf1, hf2⟩
  · have hst : (((Value.ref a :: As2).reverse ++ S').map (wV α)) = (As2.map (wV α)).reverse ++ Value.ref (α a) :: S'.map (wV α) := by
      rw [List.reverse_cons, List.append_assoc, List.map_append, List.map_reverse]
      rfl
    have hlen2 : As2.length + 1 = e2 % 16 := hlen
    have hk0 : ¬ (mM y').2.2.2.2.1 = 0 := by rcases hins with ⟨e, -⟩ | ⟨e, -⟩ <;> omega
    have hn : As2.length = (if (mM y').2.2.2.2.1 = 0 then (mM y').2.2.2.2.2.1 else (mM y').2.2.2.2.2.1 - 1) := by rw [if_neg hk0]; omega
    have z : ¬ (1 ≤ y' ∧ y' ≤ 2) := fun z => hk0 (mHk_lo z.1 z.2).2.1.2
    have hcw := hcode z
    rcases hins with ⟨rfl, hd, ci, fs, hcell, hcn⟩ | ⟨rfl, hd⟩
    · obtain ⟨-, hrc⟩ := f.recv hcell
      rw [hcn] at hrc
      have hK : mOkK (mM y).1.cls idx (mM y').1 = true := by
        rcases hlink with h | h
        · exact h
        · exfalso
          unfold mOkN at h
          simp only [Bool.and_eq_true, List.any_eq_true, decide_eq_true_eq] at h
          obtain ⟨-, q, hq, -, e2⟩ := h
          exact mNk_ok _ (mM_mem h283) (e2 ▸ List.mem_map.mpr ⟨q, hq, rfl⟩) hkd
      exact vx_runV (As := As2.map (wV α)) (b := α a) (n := As2.length) (C := (mM y').1.cls) (bytes := (mM y').2.1) (maxL := (mM y').2.2.1) (ret := (mM y').2.2.2.1) fix hM ⟨⟨rfl, rfl, hR.1, hR.2, hpay, hcw, hts _ (hG _ hcw).1, hts _ wN, hne, hpn _ hn, hts _ (mK_spec hK)⟩, hts _ (wI hk0), hts _ (wV1 hkd)⟩ ⟨hpre.1, hrc, hpre.2⟩ rfl (by rw [List.length_map]) rfl hst hW8 hd ⟨hf1, hf2⟩
    · have hret : (mM y').2.2.2.1 = none := mRt_ok _ (mM_mem h283) hkd
      rcases hlink with hK | hN
      · exact vx_runI (As := As2.map (wV α)) (b := α a) (n := As2.length) (bytes := (mM y').2.1) (maxL := (mM y').2.2.1) fix hM ⟨⟨rfl, rfl, hR.1, hR.2, hpay, (hret ▸ hcw), hret ▸ hts _ (hG _ hcw).1, hts _ wN, hne, hpn _ hn, hts _ (mK_spec hK)⟩, hinit.mp hkd, hts _ (wI hk0)⟩ hpre rfl (by rw [List.length_map]) rfl hst hW8 hd ⟨hf1, hf2⟩
      · exact vx_runIN (As := As2.map (wV α)) (b := α a) (n := As2.length) (host := "Ropewalk") (bytes := (mM y').2.1) (maxL := (mM y').2.2.1) fix hM ⟨⟨⟨rfl, rfl, hR.1, hR.2, hpay, (hret ▸ hcw)⟩, hret ▸ hts _ (hG _ hcw).1, hts _ wN, hne, hpn _ hn, (hnest hN).1⟩, hinit.mp hkd, hts _ (wI hk0)⟩ hpre rfl (by rw [List.length_map]) rfl hst hW8 hd ⟨hf1, hf2⟩
end WK8
