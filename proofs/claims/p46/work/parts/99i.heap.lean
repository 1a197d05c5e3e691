/-! ===== steps on the heap ===== -/
section WK3
variable {p : Program} {l : Launch} {e : Env} {R : Room} {s : State} {m : MethodId} {args : Array Value} {below : List Frame} {meth : Method} {c : Code} {Q : State → Prop} {y : Nat} {D : va_G} {cy : Nat → ClassId} {A : Nat → Prop} {b Ls : Nat} {xs : Nat → Int32} {emp mi n0 m0 : Nat} {α : Nat → Nat} {dom : List Nat} {H : Heap} {locs : List Loc} {cells slots pc : Nat} {L : mLs} {S : List Value} {ls : Array Slot} {σ : mS} {pc2 : Nat} {L2 : mLs} {S2 : List Value} {σ2 : mS}
theorem mTs (C : mCx p l R s m args meth c y) : ∀ w ∈ mTG, w.before args s = true := fun w hw => C.2.2.2.2.2.1 w (List.mem_filter.mp hw).1 (List.mem_filter.mp hw).2
theorem mF_spec {own : String} {idx ci k : Nat} (h : mOkF own idx ci k = true) : ∃ C T N ref, vwCl[ci]? = some (C, T, N) ∧ k < N ∧ Cond.fieldLink own idx ref (T k).2.1 (T k).2.2.1 ∈ mTG ∧ (ref = (T k).1 ∨ Cond.sameField ref (T k).1 (T k).2.1 (T k).2.2.1 ∈ mTG) := by
  unfold mOkF at h
  split at h
  · rename_i C T N hc
    simp only [Bool.and_eq_true, decide_eq_true_eq, List.any_eq_true, beq_iff_eq, Bool.or_eq_true] at h
    obtain ⟨hk, q, hq, ⟨⟨⟨e1, e2⟩, e3⟩, e4⟩, e5⟩ := h
    have hw := mFl_ok q hq
    rw [e1, e2, e3, e4] at hw
    refine ⟨C, T, N, q.2.2.1, hc, hk, mTG_of hw rfl, ?_⟩
    rcases e5 with e5 | ⟨⟨⟨a1, a2⟩, a3⟩, a4⟩
    · exact Or.inl e5
    · right
      rw [a1, a2, a3, a4]
      exact mSame_w
  · cases h
theorem mC_spec {own C : String} {idx : Nat} (h : mOkC own idx C = true) : Cond.classLink own idx C ∈ mTG := by
  unfold mOkC at h
  simp only [Bool.and_eq_true, List.any_eq_true, beq_iff_eq] at h
  obtain ⟨q, hq, ⟨e1, e2⟩, e3⟩ := h
  have hw := mCl_ok q hq
  rw [e1, e2, e3] at hw
  exact mTG_of hw rfl
theorem mK_spec {own : String} {idx : Nat} {x : MethodName} (h : mOkK own idx x = true) : Cond.methodLink own idx x ∈ mTG := by
  unfold mOkK at h
  simp only [Bool.and_eq_true, List.any_eq_true, beq_iff_eq, decide_eq_true_eq] at h
  obtain ⟨q, hq, ⟨e1, e2⟩, e3⟩ := h
  have hw := mKl_ok q hq
  rw [e1, e2, e3] at hw
  exact mTG_of hw rfl
theorem mIn_in {i : Int32} {n : Nat} (h : mIn i n = true) : vp_in i n := by
  unfold mIn at h
  simp only [Bool.and_eq_true, Bool.not_eq_true', decide_eq_true_eq, decide_eq_false_iff_not] at h
  rintro (z | z)
  · exact h.1 z
  · omega
theorem mRl.put {σ : mS} (r : mRl s D cy A b Ls xs emp mi α dom H locs σ) {a q : Nat} {c c' : mC} (hcell : σ.1 a = some c) (hc : kC dom c') (hs : mSame c c') (ho : oC σ.1 c') (hq : dom[q]? = some a) {H1 : Heap} {locs1 : List Loc} (hP : va_P D vwCl ((wW cy α σ.1 dom).set q (α a, wC cy α c')) H1) (hD : va_D A ((wW cy α σ.1 dom).set q (α a, wC cy α c'))) (hS : va_S A s.heap H1 locs1) : mRl s D cy A b Ls xs emp mi α dom H1 locs1 (mPut a c' σ) := by
  rw [wW_set r.2.1.1 hq] at hP hD
  exact ⟨r.1, r.2.1.put hcell hc hs ho, hP, hD, hS, r.2.2.2.2.2⟩
theorem mFr.put (f : mFr p l R s m args meth c y D cy A b Ls xs emp mi n0 m0 α dom H locs cells slots L S ls σ) {a q : Nat} {c0 c' : mC} (hcell : σ.1 a = some c0) (hc : kC dom c') (hs : mSame c0 c') (ho : oC σ.1 c') (hq : dom[q]? = some a) {H1 : Heap} {locs1 : List Loc} (hP : va_P D vwCl ((wW cy α σ.1 dom).set q (α a, wC cy α c')) H1) (hD : va_D A ((wW cy α σ.1 dom).set q (α a, wC cy α c'))) (hS : va_S A s.heap H1 locs1) {S' : List Value} (hs' : ∀ v ∈ S', kV dom v) : mFr p l R s m args meth c y D cy A b Ls xs emp mi n0 m0 α dom H1 locs1 cells slots L S' ls (mPut a c' σ) :=
  ⟨f.1, f.2.1.put hcell hc hs ho hq hP hD hS, f.2.2.1, f.2.2.2.1, hs', f.2.2.2.2.2.1, f.2.2.2.2.2.2⟩
theorem mFr.new (f : mFr p l R s m args meth c y D cy A b Ls xs emp mi n0 m0 α dom H locs cells slots L S ls σ) {t r n : Nat} (ht : t < 127) {c' : mC} (hc : kC dom c') (ho : oC σ.1 c') {H1 : Heap} {locs1 : List Loc} (hP : va_P D vwCl (wW cy α σ.1 dom ++ [(r, wC cy α c')]) H1) (hD : va_D A (wW cy α σ.1 dom ++ [(r, wC cy α c')])) (hS : va_S A s.heap H1 locs1) {S' : List Value} (hs' : ∀ v ∈ S', kV dom v) :
    exA dom α (va_up α (mAd t (σ.2.1 t)) r) ∧ mFr p l R s m args meth c y D cy A b Ls xs emp mi n0 m0 (va_up α (mAd t (σ.2.1 t)) r) (dom ++ [mAd t (σ.2.1 t)]) H1 locs1 (cells + 1) (slots + n) L (.ref (mAd t (σ.2.1 t)) :: S') ls (mNew t c' n σ) := by
  have hf := mNew_fresh f.2.1.2.1 ht
  rw [wW_push f.2.1.2.1 hf hc] at hP hD
  have hx : exA dom α (va_up α (mAd t (σ.2.1 t)) r) := fun b hb => va_up_ne _ _ (fun e => hf (e ▸ hb))
  have hsub : ∀ a ∈ dom, a ∈ dom ++ [mAd t (σ.2.1 t)] := fun a h => List.mem_append_left _ h
  obtain ⟨k1, k2, k3⟩ := f.2.1.2.2.2.2.2
  refine ⟨hx, f.1, ⟨f.2.1.1, f.2.1.2.1.new ht hc ho, hP, hD, hS, ?_, ?_, ?_⟩, f.2.2.1.ex hx hsub, f.2.2.2.1, ?_, ?_, ?_⟩
  · rw [hx _ (Or.inr (Or.inl rfl))]; exact k1
  · rw [hx _ (Or.inr (Or.inr (Or.inl rfl)))]; exact k2
  · rw [hx _ (Or.inr (Or.inr (Or.inr rfl)))]; exact k3
  · exact mK1 (kV_ref (Or.inl (List.mem_append_right _ (List.mem_singleton.mpr rfl)))) fun v hv => (hs' v hv).mono hsub
  · show cells + 1 + n0 = σ.2.2.1 + 1
    have := f.2.2.2.2.2.1
    omega
  · show slots + n + m0 = σ.2.2.2 + n
    have := f.2.2.2.2.2.2
    omega
theorem wk_getfield (f : mFr p l R s m args meth c y D cy A b Ls xs emp mi n0 m0 α dom H locs cells slots L S ls σ) {idx e1 e2 : Nat} (hk : mOkF (mM y).1.cls idx e1 e2 = true) (hd : decode (mM y).2.1 pc = .ok (.getfield idx, 3)) (h : mGetS (pc + 3) e1 e2 L S σ = some (.inl (pc2, L2, S2, σ2))) (K : mNx p l e R s m args below meth c Q y D cy A b Ls xs emp mi n0 m0 α dom pc2 L2 S2 σ2) : W p l e R s m args below meth c H locs cells slots Q (F0 m pc ls (S.map (wV α))) := by
  unfold mGetS at h
  split at h
  · rename_i a S'
    split at h
    · rename_i c0 fs hcell
      split at h
      · rename_i hce
        split at h
        · rename_i v hv
          obtain ⟨rfl, rfl, rfl, rfl⟩ := mGo_inj h
          subst hce
          obtain ⟨C, T, N, ref, hc, hkN, hw, hs⟩ := mF_spec hk
          obtain ⟨q, -, hq⟩ := wW_at (cy := cy) (α := α) f.2.1.2.1 hcell
          have hts := mTs f.1
          refine va_get (D := D) (ci := c0) (C := C) (T := T) (N := N) (v := wV α v) f.1.1 f.1.2.1 hts (mCk_all hc).1 f.1.2.2.2.2.1 f.2.1.1.1 f.2.1.2.2.1 q hq hc e2 hkN (hts _ hw) ?_ (by rw [List.getElem?_map, hv]; rfl) hd ?_
          · rcases hs with rfl | hs
            · exact fun x hx => hx
            · exact fun x hx => u_same (hts _ hs) x hx
          · exact K α dom H locs cells slots ls exA.rf (fun _ h => h) (f.stk (mK1 ((f.2.1.2.1.2.2.2.1 a _ hcell).2 v (List.mem_of_getElem? hv)) (mK2 f.2.2.2.2.1).2))
        · cases h
      · cases h
    · cases h
  · cases h
theorem mFit_spec {ty : FieldType} {k : Nat} {v : Value} {α : Nat → Nat} (hty : (ty = .int ∧ k = 0) ∨ (ty = .boolean ∧ k = 1) ∨ ((∃ C, ty = .object C) ∧ k = 2) ∨ ((∃ t, ty = .array t) ∧ k = 2)) (h : mFit k v = true) : narrow ty (wV α v) = wV α v ∧ fits ty (wV α v) = true := by
  rcases hty with ⟨rfl, rfl⟩ | ⟨rfl, rfl⟩ | ⟨⟨C, rfl⟩, rfl⟩ | ⟨⟨t, rfl⟩, rfl⟩ <;> cases v <;> simp [mFit] at h
  · exact ⟨rfl, rfl⟩
  · rcases h with rfl | rfl <;> exact ⟨rfl, rfl⟩
  · exact ⟨rfl, rfl⟩
  · exact ⟨rfl, rfl⟩
  · exact ⟨rfl, rfl⟩
  · exact ⟨rfl, rfl⟩
theorem mP_spec {own : String} {kd ci k c : Nat} {C : String} {T : u_T} {N : Nat} (hc : vwCl[ci]? = some (C, T, N)) (h : mOkP own kd ci k c = true) : (∃ ty, parseFieldDescriptor (T k).2.2.1 = some ty ∧ ((ty = .int ∧ c = 0) ∨ (ty = .boolean ∧ c = 1) ∨ ((∃ C, ty = .object C) ∧ c = 2) ∨ ((∃ t, ty = .array t) ∧ c = 2))) ∧ ((T k).2.2.2 = false ∨ (kd = 2 ∧ (T k).1 = own)) := by
  unfold mOkP at h
  rw [hc] at h
  simp only [Bool.and_eq_true, Bool.or_eq_true, Bool.not_eq_true', beq_iff_eq] at h
  obtain ⟨h1, h2⟩ := h
  refine ⟨?_, h2⟩
  split at h1
  · exact ⟨_, by assumption, Or.inl ⟨rfl, by simpa using h1⟩⟩
  · exact ⟨_, by assumption, Or.inr (Or.inl ⟨rfl, by simpa using h1⟩)⟩
  · exact ⟨_, by assumption, Or.inr (Or.inr (Or.inl ⟨⟨_, rfl⟩, by simpa using h1⟩))⟩
  · exact ⟨_, by assumption, Or.inr (Or.inr (Or.inr ⟨⟨_, rfl⟩, by simpa using h1⟩))⟩
  · cases h1
theorem wk_putfield (f : mFr p l R s m args meth c y D cy A b Ls xs emp mi n0 m0 α dom H locs cells slots L S ls σ) {idx e1 e2 : Nat} (hk : mOkF (mM y).1.cls idx e1 (e2 % 128) = true) (hp : mOkP (mM y).1.cls (mM y).2.2.2.2.1 e1 (e2 % 128) (e2 / 128) = true) (hd : decode (mM y).2.1 pc = .ok (.putfield idx, 3)) (h : mPutS (pc + 3) e1 e2 L S σ = some (.inl (pc2, L2, S2, σ2))) (K : mNx p l e R s m args below meth c Q y D cy A b Ls xs emp mi n0 m0 α dom pc2 L2 S2 σ2) : W p l e R s m args below meth c H locs cells slots Q (F0 m pc ls (S.map (wV α))) := by
  unfold mPutS at h
  split at h
  · rename_i v a S'
    split at h
    · rename_i c0 fs hcell
      split at h
      · rename_i hce
        obtain ⟨hce, hlt, hfit⟩ := hce
        obtain ⟨rfl, rfl, rfl, rfl⟩ := mGo_inj h
        subst hce
        obtain ⟨C, T, N, ref, hc, hkN, hw, hs⟩ := mF_spec hk
        obtain ⟨⟨ty, hty, hty2⟩, hfin⟩ := mP_spec hc hp
        obtain ⟨hn, hft⟩ := mFit_spec (α := α) hty2 hfit
        obtain ⟨q, hq0, hq⟩ := wW_at (cy := cy) (α := α) f.2.1.2.1 hcell
        have hts := mTs f.1
        obtain ⟨g1, g2, ⟨ty0, g3, -⟩, -⟩ := mCk_all hc
        obtain ⟨kv, ks⟩ := mK2 f.2.2.2.2.1
        have hkc := f.2.1.2.1.2.2.2.1 a _ hcell
        have hkc2 : kC dom (.inl (c0, fs.set (e2 % 128) v)) := ⟨hkc.1, fun w hw => by
          rcases List.mem_or_eq_of_mem_set hw with h | h
          · exact hkc.2 w h
          · exact h ▸ kv⟩
        have hsame : ∀ x, s.fieldFound? (T (e2 % 128)).1 (T (e2 % 128)).2.1 (T (e2 % 128)).2.2.1 = some x → s.fieldFound? ref (T (e2 % 128)).2.1 (T (e2 % 128)).2.2.1 = some x := by
          rcases hs with rfl | hs
          · exact fun x hx => hx
          · exact fun x hx => u_same (hts _ hs) x hx
        have fin : ∀ (H1 : Heap) (locs1 : List Loc), va_P D vwCl ((wW cy α σ.1 dom).set q (α a, .inr (c0, (fs.map (wV α)).set (e2 % 128) (wV α v)))) H1 → va_D A ((wW cy α σ.1 dom).set q (α a, .inr (c0, (fs.map (wV α)).set (e2 % 128) (wV α v)))) → va_S A s.heap H1 locs1 → W p l e R s m args below meth c H1 locs1 cells slots Q (F0 m (pc + 3) ls (S'.map (wV α))) := by
          intro H1 locs1 hP1 hD1 hS1
          rw [← List.map_set] at hP1 hD1
          exact K α dom H1 locs1 cells slots ls exA.rf (fun _ h => h) (f.put hcell hkc2 (Or.inl ⟨_, _, rfl, rfl⟩) trivial hq0 hP1 hD1 hS1 (mK2 ks).2)
        rcases hfin with hfin | ⟨hkd, hdecl⟩
        · exact va_put (D := D) (ci := c0) (C := C) (T := T) (N := N) f.1.1 f.1.2.1 hts g1 ty0 g3 g2 f.1.2.2.2.2.1 f.2.1.1.1 f.2.1.2.2.1 f.2.1.2.2.2.1 f.2.1.2.2.2.2.1 q hq hc (e2 % 128) hkN (hts _ hw) hsame hfin hty hn hft (by rw [List.length_map]; exact hlt) hd fin
        · cases hb9 : (T (e2 % 128)).2.2.2 with
          | false => exact va_put (D := D) (ci := c0) (C := C) (T := T) (N := N) f.1.1 f.1.2.1 hts g1 ty0 g3 g2 f.1.2.2.2.2.1 f.2.1.1.1 f.2.1.2.2.1 f.2.1.2.2.2.1 f.2.1.2.2.2.2.1 q hq hc (e2 % 128) hkN (hts _ hw) hsame hb9 hty hn hft (by rw [List.length_map]; exact hlt) hd fin
          | true => exact va_putF (D := D) (ci := c0) (C := C) (T := T) (N := N) f.1.1 f.1.2.1 hts g1 ty0 g3 g2 f.1.2.2.2.2.1 f.2.1.1.1 f.2.1.2.2.1 f.2.1.2.2.2.1 f.2.1.2.2.2.2.1 q hq hc (e2 % 128) hkN (hts _ hw) hsame hb9 (f.1.2.2.2.2.2.2.2.1 hkd) hdecl hty hn hft (by rw [List.length_map]; exact hlt) hd fin
      · cases h
    · cases h
  · cases h
theorem mDf_map {α : Nat → Nat} (l : List Nat) : (l.map mDf).map (wV α) = l.map mDf := by
  rw [List.map_map]
  refine List.map_congr_left fun k _ => ?_
  show wV α (mDf k) = mDf k
  unfold mDf
  split <;> rfl
theorem wk_new (f : mFr p l R s m args meth c y D cy A b Ls xs emp mi n0 m0 α dom H locs cells slots L S ls σ) {idx e1 e2 : Nat} (he1 : e1 < 12) (he2 : e2 < 127) (hk : mOkC (mM y).1.cls idx (mCn e1) = true) (hd : decode (mM y).2.1 pc = .ok (.new idx, 3)) (h : mNewS mFk (pc + 3) e1 e2 L S σ = some (.inl (pc2, L2, S2, σ2))) (hr : σ2.2.2.1 ≤ R.cells + n0 ∧ σ2.2.2.2 ≤ R.slots + m0) (K : mNx p l e R s m args below meth c Q y D cy A b Ls xs emp mi n0 m0 α dom pc2 L2 S2 σ2) : W p l e R s m args below meth c H locs cells slots Q (F0 m pc ls (S.map (wV α))) := by
  unfold mNewS at h
  rw [if_neg (by omega)] at h
  obtain ⟨rfl, rfl, rfl, rfl⟩ := mGo_inj h
  obtain ⟨T, N, hc⟩ := mCn_of he1
  have hts := mTs f.1
  obtain ⟨g1, g2, ⟨ty0, g3, g4⟩, g5, g6, g7⟩ := mCk_all hc
  have hr1 : σ.2.2.1 + 1 ≤ R.cells + n0 := hr.1
  have hr2 : σ.2.2.2 + (mFk e1).length ≤ R.slots + m0 := hr.2
  have q1 := f.2.2.2.2.2.1
  have q2 := f.2.2.2.2.2.2
  have g7 : (mFk e1).length = N := g7
  refine va_new (D := D) (ci := e1) (C := mCn e1) (T := T) (N := N) (fs := (mFk e1).map mDf) f.1.1 f.1.2.1 hts g1 ty0 g3 f.1.2.2.2.2.1 (hts _ (mC_spec hk)) (hts _ g5) (hts _ g6) f.2.1.1.1 f.2.1.2.2.1 f.2.1.2.2.2.1 f.2.1.2.2.2.2.1 f.2.1.1.2.1 hc g4 (by omega) (by omega) hd fun r H1 hP hD hS => ?_
  have hkc : kC dom (.inl (e1, (mFk e1).map mDf)) := ⟨he1, fun v hv => by
    obtain ⟨k, -, rfl⟩ := List.mem_map.mp hv
    unfold mDf
    split
    · exact kV_int
    · exact kV_null⟩
  have e9 : ((r, .inr (e1, (mFk e1).map mDf)) : Nat × va_E) = (r, wC cy α (.inl (e1, (mFk e1).map mDf))) := by
    show _ = (r, Sum.inr (e1, ((mFk e1).map mDf).map (wV α)))
    rw [mDf_map]
  rw [e9] at hP hD
  obtain ⟨hx, f2⟩ := f.new (n := (mFk e1).length) he2 hkc trivial hP hD hS f.2.2.2.2.1
  have kk := K _ _ H1 locs (cells + 1) (slots + (mFk e1).length) ls hx (fun a h => List.mem_append_left _ h) f2
  rw [List.map_cons, mS_ex hx f.2.2.2.2.1] at kk
  rw [show wV (va_up α (mAd e2 (σ.2.1 e2)) r) (.ref (mAd e2 (σ.2.1 e2))) = .ref r from congrArg Value.ref (va_up_self _ _ _), g7] at kk
  exact kk
end WK3
