/-! ===== steps on rows (arrays), casts, the JDK's natives ===== -/
theorem mEnv.c6 {b Ls : Nat} {xs : Nat → Int32} {emp mi : Nat} {A : Nat → Prop} {U : State} {H : Heap} (h : mEnv b Ls xs emp mi A U H) : va_Mi "[Ljava/lang/Object;" mi U := h.2.2.2.2.2.1
theorem mEnv.c7 {b Ls : Nat} {xs : Nat → Int32} {emp mi : Nat} {A : Nat → Prop} {U : State} {H : Heap} (h : mEnv b Ls xs emp mi A U H) : va_Dc U := h.2.2.2.2.2.2.1
theorem mEnv.c10 {b Ls : Nat} {xs : Nat → Int32} {emp mi : Nat} {A : Nat → Prop} {U : State} {H : Heap} (h : mEnv b Ls xs emp mi A U H) : ∀ q ∈ mCas, va_Nw (.castable q.1 q.2) U := h.2.2.2.2.2.2.2.2.2.1
theorem mEnv.c11 {b Ls : Nat} {xs : Nat → Int32} {emp mi : Nat} {A : Nat → Prop} {U : State} {H : Heap} (h : mEnv b Ls xs emp mi A U H) : ∀ q ∈ mNst, va_Nw (.methodLinkNest "Ropewalk$Parcel" q.1 q.2 "Ropewalk") U := h.2.2.2.2.2.2.2.2.2.2.1
theorem mEnv.c12 {b Ls : Nat} {xs : Nat → Int32} {emp mi : Nat} {A : Nat → Prop} {U : State} {H : Heap} (h : mEnv b Ls xs emp mi A U H) : ∀ x ∈ mDcl, va_Nw (.declares x) U := h.2.2.2.2.2.2.2.2.2.2.2.1
theorem mEnv.c13 {b Ls : Nat} {xs : Nat → Int32} {emp mi : Nat} {A : Nat → Prop} {U : State} {H : Heap} (h : mEnv b Ls xs emp mi A U H) : ∀ C ∈ mAol, va_AO C U := h.2.2.2.2.2.2.2.2.2.2.2.2.1
theorem mEnv.c14 {b Ls : Nat} {xs : Nat → Int32} {emp mi : Nat} {A : Nat → Prop} {U : State} {H : Heap} (h : mEnv b Ls xs emp mi A U H) : ∀ q ∈ mNcl, va_Nc q.1 q.2 U := h.2.2.2.2.2.2.2.2.2.2.2.2.2
section WK4
variable {p : Program} {l : Launch} {e : Env} {R : Room} {s : State} {m : MethodId} {args : Array Value} {below : List Frame} {meth : Method} {c : Code} {Q : State → Prop} {y : Nat} {D : va_G} {cy : Nat → ClassId} {A : Nat → Prop} {b Ls : Nat} {xs : Nat → Int32} {emp mi n0 m0 : Nat} {α : Nat → Nat} {dom : List Nat} {H : Heap} {locs : List Loc} {cells slots pc : Nat} {L : mLs} {S : List Value} {ls : Array Slot} {σ : mS} {pc2 : Nat} {L2 : mLs} {S2 : List Value} {σ2 : mS}
theorem tyL_at {cy : Nat → ClassId} {t : Nat} (h : t < 7) : ∃ ty, (tyL cy)[t]? = some (cy t, ty) := by
  match t, h with
  | 0, _ => exact ⟨_, rfl⟩
  | 1, _ => exact ⟨_, rfl⟩
  | 2, _ => exact ⟨_, rfl⟩
  | 3, _ => exact ⟨_, rfl⟩
  | 4, _ => exact ⟨_, rfl⟩
  | 5, _ => exact ⟨_, rfl⟩
  | 6, _ => exact ⟨_, rfl⟩
  | k + 7, h => exact absurd h (by omega)
theorem tyL_ref {cy : Nat → ClassId} {t : Nat} (h : t < 7) (h3 : 3 ≤ t) : (tyL cy)[t]? = some (cy t, .object (mAt t)) := by
  match t, h with
  | 0, _ => omega
  | 1, _ => omega
  | 2, _ => omega
  | 3, _ => rfl
  | 4, _ => rfl
  | 5, _ => rfl
  | 6, _ => rfl
  | k + 7, h => exact absurd h (by omega)
theorem wk_newarray (f : mFr p l R s m args meth c y D cy A b Ls xs emp mi n0 m0 α dom H locs cells slots L S ls σ) {a : ArrayType} {e1 e2 : Nat} (he2 : e2 < 127) (ha : e1 = 0 ∧ a = .int) (hd : decode (mM y).2.1 pc = .ok (.newarray a, 2)) (h : mNewA (pc + 2) e1 e2 L S σ = some (.inl (pc2, L2, S2, σ2))) (hr : σ2.2.2.1 ≤ R.cells + n0 ∧ σ2.2.2.2 ≤ R.slots + m0) (K : mNx p l e R s m args below meth c Q y D cy A b Ls xs emp mi n0 m0 α dom pc2 L2 S2 σ2) : W p l e R s m args below meth c H locs cells slots Q (F0 m pc ls (S.map (wV α))) := by
  unfold mNewA at h
  split at h
  · rename_i n S'
    split at h
    · rename_i hn
      have hts := mTs f.1
      have q1 := f.2.2.2.2.2.1
      have q2 := f.2.2.2.2.2.2
      obtain ⟨kn, ks⟩ := mK2 f.2.2.2.2.1
      have go : ∀ (a0 : vp_A) (ty : FieldType), mArr e1 n.toNatClampNeg = some a0 → newarray.typeOf a = ty → (Cond.arrayClass (newarray.typeOf a)).before args s = true → (∀ cA : ClassId, vp_cell cA a0 = arrV cA n.toNatClampNeg (fun _ => defaultValue ty)) → n.toNatClampNeg * componentBytes ty ≤ 536870912 → (∀ cA : ClassId, va_K D vwCl (tyL cy ++ [(cA, ty)]) s → cA = cy e1) → e1 < 7 → wA α a0 = a0 → (∀ f, a0.2 ≠ .inr (.inr (.inr (.inr f)))) → W p l e R s m args below meth c H locs cells slots Q (F0 m pc ls ((Value.int n :: S').map (wV α))) := by
        intro a0 ty hm hty harr hcell hbytes hcy he7 hwa hno
        rw [hm] at h
        obtain ⟨rfl, rfl, rfl, rfl⟩ := mGo_inj h
        have hr1 : σ.2.2.1 + 1 ≤ R.cells + n0 := hr.1
        have hr2 : σ.2.2.2 + n.toNatClampNeg ≤ R.slots + m0 := hr.2
        refine va_newa (atype := a) f.1.1 f.1.2.1 harr hty f.2.1.1.1 f.2.1.2.2.1 f.2.1.2.2.2.1 f.2.1.2.2.2.2.1 f.2.1.1.2.1 hcell hn.1 rfl hbytes (by omega) (by omega) hd fun r cA H1 hK1 hP hD hS => ?_
        have hc9 := hcy cA hK1
        subst hc9
        have e9 : ((r, .inl (cy e1, a0)) : Nat × va_E) = (r, wC cy α (.inr (e1, a0))) := by
          show _ = (r, Sum.inl (cy e1, wA α a0))
          rw [hwa]
        rw [e9] at hP hD
        obtain ⟨hx, f2⟩ := f.new (n := n.toNatClampNeg) he2 (c' := .inr (e1, a0)) ⟨he7, fun g e => absurd e (hno g)⟩ (fun g e => absurd e (hno g)) hP hD hS ks
        have kk := K _ _ H1 locs (cells + 1) (slots + n.toNatClampNeg) ls hx (fun a h => List.mem_append_left _ h) f2
        rw [List.map_cons, mS_ex hx ks] at kk
        rw [show wV (va_up α (mAd e2 (σ.2.1 e2)) r) (.ref (mAd e2 (σ.2.1 e2))) = .ref r from congrArg Value.ref (va_up_self _ _ _)] at kk
        exact kk
      obtain ⟨rfl, rfl⟩ := ha
      exact go _ _ rfl rfl (hts _ mArr_int) (fun _ => rfl) (by have := hn.2; show _ * 4 ≤ _; omega) (fun cA hK1 => Option.some.inj (((hK1.2 7 (cA, .int) rfl).2 : s.vm.findClass _ = some cA).symm.trans ((f.2.1.1.1.2 0 (cy 0, .int) rfl).2 : s.vm.findClass _ = some (cy 0)))) (by omega) rfl (fun g e => by cases e)
    · cases h
  · cases h
theorem mAol_at {t : Nat} (h : t < 7) (h3 : 3 ≤ t) : mAt t ∈ mAol := by
  match t, h with
  | 0, _ => omega
  | 1, _ => omega
  | 2, _ => omega
  | 3, _ => decide
  | 4, _ => decide
  | 5, _ => decide
  | 6, _ => decide
  | k + 7, h => exact absurd h (by omega)
theorem wk_anewarray (f : mFr p l R s m args meth c y D cy A b Ls xs emp mi n0 m0 α dom H locs cells slots L S ls σ) {idx e1 e2 : Nat} (he3 : 3 ≤ e1) (he7 : e1 < 7) (he2 : e2 < 127) (hk : mOkC (mM y).1.cls idx (mAt e1) = true) (hd : decode (mM y).2.1 pc = .ok (.anewarray idx, 3)) (h : mNewR (pc + 3) e1 e2 L S σ = some (.inl (pc2, L2, S2, σ2))) (hr : σ2.2.2.1 ≤ R.cells + n0 ∧ σ2.2.2.2 ≤ R.slots + m0) (K : mNx p l e R s m args below meth c Q y D cy A b Ls xs emp mi n0 m0 α dom pc2 L2 S2 σ2) : W p l e R s m args below meth c H locs cells slots Q (F0 m pc ls (S.map (wV α))) := by
  unfold mNewR at h
  split at h
  · rename_i n S'
    split at h
    · rename_i hn
      obtain ⟨rfl, rfl, rfl, rfl⟩ := mGo_inj h
      have hts := mTs f.1
      have q1 := f.2.2.2.2.2.1
      have q2 := f.2.2.2.2.2.2
      obtain ⟨kn, ks⟩ := mK2 f.2.2.2.2.1
      have hr1 : σ.2.2.1 + 1 ≤ R.cells + n0 := hr.1
      have hr2 : σ.2.2.2 + n.toNatClampNeg ≤ R.slots + m0 := hr.2
      have hAO := mEnv.c13 f.2.1.1.2.2 (mAt e1) (mAol_at he7 he3)
      refine va_newq f.1.1 f.1.2.1 f.1.2.2.2.2.1 (hts _ (mC_spec hk)) hAO f.2.1.1.1 f.2.1.2.2.1 f.2.1.2.2.2.1 f.2.1.2.2.2.2.1 f.2.1.1.2.1 hn.1 rfl (by have := hn.2; omega) (by omega) (by omega) hd fun r cA H1 hK1 hP hD hS => ?_
      obtain ⟨kA, comp, -, -, -, w1⟩ := (hK1.2 7 (cA, .object (mAt e1)) rfl).2
      obtain ⟨kA2, comp2, -, -, -, w2⟩ := (f.2.1.1.1.2 e1 _ (tyL_ref he7 he3)).2
      have hc9 : cA = cy e1 := Option.some.inj (w1.symm.trans w2)
      subst hc9
      obtain ⟨hx, f2⟩ := f.new (n := n.toNatClampNeg) he2 (c' := .inr (e1, n.toNatClampNeg, .inr (.inr (.inr (.inr fun _ => none))))) ⟨he7, fun g e => ⟨he3, fun j b hb => by cases e; cases hb⟩⟩ (fun g e j b hb => by cases e; cases hb) hP hD hS ks
      have kk := K _ _ H1 locs (cells + 1) (slots + n.toNatClampNeg) ls hx (fun a h => List.mem_append_left _ h) f2
      rw [List.map_cons, mS_ex hx ks] at kk
      rw [show wV (va_up α (mAd e2 (σ.2.1 e2)) r) (.ref (mAd e2 (σ.2.1 e2))) = .ref r from congrArg Value.ref (va_up_self _ _ _)] at kk
      exact kk
    · cases h
  · cases h
theorem wk_arraylength (f : mFr p l R s m args meth c y D cy A b Ls xs emp mi n0 m0 α dom H locs cells slots L S ls σ) (hd : decode (mM y).2.1 pc = .ok (.arraylength, 1)) (h : mLenS Ls (pc + 1) L S σ = some (.inl (pc2, L2, S2, σ2))) (K : mNx p l e R s m args below meth c Q y D cy A b Ls xs emp mi n0 m0 α dom pc2 L2 S2 σ2) : W p l e R s m args below meth c H locs cells slots Q (F0 m pc ls (S.map (wV α))) := by
  unfold mLenS at h
  split at h
  · rename_i a S'
    have ks := (mK2 f.2.2.2.2.1).2
    obtain ⟨k1, k2, k3⟩ := f.2.1.2.2.2.2.2
    split at h
    · rename_i ha
      obtain ⟨rfl, rfl, rfl, rfl⟩ := mGo_inj h
      subst ha
      obtain ⟨w1, w2, w3, -⟩ := f.2.1.1.2.2
      show W p l e R s m args below meth c H locs cells slots Q (F0 m pc ls (.ref (α mSCR) :: S'.map (wV α)))
      rw [k2]
      exact va_slen f.1.1 f.1.2.1 w1 w2 w3 f.2.1.2.2.2.2.1 hd (K α dom H locs cells slots ls exA.rf (fun _ h => h) (f.stk (mK1 kV_int ks)))
    · split at h
      · rename_i ha
        obtain ⟨rfl, rfl, rfl, rfl⟩ := mGo_inj h
        subst ha
        obtain ⟨-, -, -, -, w5, -⟩ := f.2.1.1.2.2
        show W p l e R s m args below meth c H locs cells slots Q (F0 m pc ls (.ref (α mEMP) :: S'.map (wV α)))
        rw [k1]
        exact va_tlen f.1.1 f.1.2.1 w5 f.2.1.2.2.2.2.1 rfl hd (K α dom H locs cells slots ls exA.rf (fun _ h => h) (f.stk (mK1 kV_int ks)))
      · split at h
        · rename_i t n x hcell
          obtain ⟨rfl, rfl, rfl, rfl⟩ := mGo_inj h
          obtain ⟨q, -, hq⟩ := wW_at (cy := cy) (α := α) f.2.1.2.1 hcell
          obtain ⟨ty, hty⟩ := tyL_at (cy := cy) (f.2.1.2.1.2.2.2.1 a _ hcell).1
          have e9 : (wA α (n, x)).1 = n := by
            rcases x with x | x | x | x | x <;> rfl
          refine va_alen f.1.1 f.1.2.1 f.2.1.1.1 f.2.1.2.2.1 q t hq hty (v := Int32.ofNat n) (by rw [e9]) hd (K α dom H locs cells slots ls exA.rf (fun _ h => h) (f.stk (mK1 kV_int ks)))
        · cases h
  · cases h
theorem wk_iaload (f : mFr p l R s m args meth c y D cy A b Ls xs emp mi n0 m0 α dom H locs cells slots L S ls σ) (hd : decode (mM y).2.1 pc = .ok (.iaload, 1)) (h : mIald xs Ls (pc + 1) L S σ = some (.inl (pc2, L2, S2, σ2))) (K : mNx p l e R s m args below meth c Q y D cy A b Ls xs emp mi n0 m0 α dom pc2 L2 S2 σ2) : W p l e R s m args below meth c H locs cells slots Q (F0 m pc ls (S.map (wV α))) := by
  unfold mIald at h
  split at h
  · rename_i i a S'
    have ks := (mK2 (mK2 f.2.2.2.2.1).2).2
    obtain ⟨k1, k2, k3⟩ := f.2.1.2.2.2.2.2
    split at h
    · rename_i ha
      split at h
      · rename_i hi
        obtain ⟨rfl, rfl, rfl, rfl⟩ := mGo_inj h
        subst ha
        obtain ⟨w1, w2, w3, -⟩ := f.2.1.1.2.2
        show W p l e R s m args below meth c H locs cells slots Q (F0 m pc ls (.int i :: .ref (α mSCR) :: S'.map (wV α)))
        rw [k2]
        exact va_sld f.1.1 f.1.2.1 w1 w2 w3 f.2.1.2.2.2.2.1 (mIn_in hi) hd (K α dom H locs cells slots ls exA.rf (fun _ h => h) (f.stk (mK1 kV_int ks)))
      · cases h
    · split at h
      · rename_i n g hcell
        split at h
        · rename_i hi
          obtain ⟨rfl, rfl, rfl, rfl⟩ := mGo_inj h
          obtain ⟨q, -, hq⟩ := wW_at (cy := cy) (α := α) f.2.1.2.1 hcell
          exact va_iald f.1.1 f.1.2.1 f.2.1.1.1 f.2.1.2.2.1 q 0 hq rfl (mIn_in hi) hd (K α dom H locs cells slots ls exA.rf (fun _ h => h) (f.stk (mK1 kV_int ks)))
        · cases h
      · cases h
  · cases h
theorem wk_iastore (f : mFr p l R s m args meth c y D cy A b Ls xs emp mi n0 m0 α dom H locs cells slots L S ls σ) (hd : decode (mM y).2.1 pc = .ok (.iastore, 1)) (h : mIast (pc + 1) L S σ = some (.inl (pc2, L2, S2, σ2))) (K : mNx p l e R s m args below meth c Q y D cy A b Ls xs emp mi n0 m0 α dom pc2 L2 S2 σ2) : W p l e R s m args below meth c H locs cells slots Q (F0 m pc ls (S.map (wV α))) := by
  unfold mIast at h
  split at h
  · rename_i x i a S'
    have ks := (mK2 (mK2 (mK2 f.2.2.2.2.1).2).2).2
    split at h
    · rename_i n g hcell
      split at h
      · rename_i hi
        obtain ⟨rfl, rfl, rfl, rfl⟩ := mGo_inj h
        obtain ⟨q, hq0, hq⟩ := wW_at (cy := cy) (α := α) f.2.1.2.1 hcell
        exact va_iast f.1.1 f.1.2.1 f.2.1.1.1 f.2.1.2.2.1 f.2.1.2.2.2.1 f.2.1.2.2.2.2.1 q 0 hq rfl (mIn_in hi) hd fun H1 locs1 hP hD hS => K α dom H1 locs1 cells slots ls exA.rf (fun _ h => h) (f.put hcell (c' := .inr (0, n, .inl (upd g i.toNatClampNeg x))) ⟨by omega, fun g e => by cases e⟩ (Or.inr ⟨_, _, rfl, rfl⟩) (fun g e => by cases e) hq0 hP hD hS ks)
      · cases h
    · cases h
  · cases h
theorem wV_rf {α : Nat → Nat} (o : Option Nat) : wV α (va_rf o) = va_rf (o.map α) := by cases o <;> rfl
theorem wk_aaload (f : mFr p l R s m args meth c y D cy A b Ls xs emp mi n0 m0 α dom H locs cells slots L S ls σ) (hd : decode (mM y).2.1 pc = .ok (.aaload, 1)) (h : mAald (pc + 1) L S σ = some (.inl (pc2, L2, S2, σ2))) (K : mNx p l e R s m args below meth c Q y D cy A b Ls xs emp mi n0 m0 α dom pc2 L2 S2 σ2) : W p l e R s m args below meth c H locs cells slots Q (F0 m pc ls (S.map (wV α))) := by
  unfold mAald at h
  split at h
  · rename_i i a S'
    have ks := (mK2 (mK2 f.2.2.2.2.1).2).2
    split at h
    · rename_i t n g hcell
      split at h
      · rename_i hi
        obtain ⟨rfl, rfl, rfl, rfl⟩ := mGo_inj h
        obtain ⟨q, -, hq⟩ := wW_at (cy := cy) (α := α) f.2.1.2.1 hcell
        have hkc := f.2.1.2.1.2.2.2.1 a _ hcell
        have h3 := hkc.2 g rfl
        have kk := K α dom H locs cells slots ls exA.rf (fun _ h => h) (f.stk (mK1 (v := va_rf (g i.toNatClampNeg)) (fun b e => by
          cases hg : g i.toNatClampNeg with
          | none => rw [hg] at e; cases e
          | some b2 => rw [hg] at e; cases e; exact h3.2 _ _ hg) ks))
        rw [List.map_cons, wV_rf] at kk
        exact va_aldq (f := fun j => (g j).map α) f.1.1 f.1.2.1 f.2.1.1.1 f.2.1.2.2.1 q t hq (tyL_ref hkc.1 h3.1) (mIn_in hi) hd kk
      · cases h
    · cases h
  · cases h
theorem mMay_spec {h : Nat → Option mC} {t v : Nat} (hm : mMay h t v = true) : ∃ c fs, h v = some (.inl (c, fs)) ∧ (t = 3 ∨ (t = 4 ∧ c = 3) ∨ (t = 5 ∧ c = 2) ∨ (t = 6 ∧ c = 4)) := by
  unfold mMay at hm
  split at hm
  · rename_i c fs hc
    refine ⟨c, fs, hc, ?_⟩
    simp at hm
    rcases hm with ((h | h) | h) | h
    · exact Or.inl h
    · exact Or.inr (Or.inl h)
    · exact Or.inr (Or.inr (Or.inl h))
    · exact Or.inr (Or.inr (Or.inr h))
  · cases hm
theorem mCas_at {c : Nat} (h : c < 12) : (mCn c, "java/lang/Object") ∈ mCas := by
  match c, h with
  | 0, _ | 1, _ | 2, _ | 3, _ | 4, _ | 5, _ | 6, _ | 7, _ | 8, _ | 9, _ | 10, _ | 11, _ => decide +kernel
  | k + 12, h => exact absurd h (by omega)
theorem va_up_map {α : Nat → Nat} (g : Nat → Option Nat) (k : Nat) (o : Option Nat) : (fun j => (va_up g k o j).map α) = va_up (fun j => (g j).map α) k (o.map α) := by
  funext j
  by_cases e : j = k
  · subst e; rw [va_up_self, va_up_self]
  · rw [va_up_ne _ _ e, va_up_ne _ _ e]
theorem wk_aastore (f : mFr p l R s m args meth c y D cy A b Ls xs emp mi n0 m0 α dom H locs cells slots L S ls σ) (hd : decode (mM y).2.1 pc = .ok (.aastore, 1)) (h : mAast (pc + 1) L S σ = some (.inl (pc2, L2, S2, σ2))) (K : mNx p l e R s m args below meth c Q y D cy A b Ls xs emp mi n0 m0 α dom pc2 L2 S2 σ2) : W p l e R s m args below meth c H locs cells slots Q (F0 m pc ls (S.map (wV α))) := by
  unfold mAast at h
  split at h
  · rename_i v i a S'
    obtain ⟨kv, ks⟩ := mK2 f.2.2.2.2.1
    have ks := (mK2 (mK2 ks).2).2
    split at h
    · rename_i t n g hcell
      split at h
      · rename_i hi
        obtain ⟨hi, hm⟩ := hi
        obtain ⟨rfl, rfl, rfl, rfl⟩ := mGo_inj h
        obtain ⟨q, hq0, hq⟩ := wW_at (cy := cy) (α := α) f.2.1.2.1 hcell
        obtain ⟨cv, fv, hcv, hty⟩ := mMay_spec hm
        obtain ⟨qv, -, hqv⟩ := wW_at (cy := cy) (α := α) f.2.1.2.1 hcv
        have hkc := f.2.1.2.1.2.2.2.1 a _ hcell
        have h3 := hkc.2 g rfl
        have hcv13 := (f.2.1.2.1.2.2.2.1 v _ hcv).1
        obtain ⟨T, N, hcl⟩ := mCn_of hcv13
        have fin : ∀ (H1 : Heap) (locs1 : List Loc), va_P D vwCl ((wW cy α σ.1 dom).set q (α a, .inl (cy t, n, .inr (.inr (.inr (.inr (va_up (fun j => (g j).map α) i.toNatClampNeg (some (α v))))))))) H1 → va_D A ((wW cy α σ.1 dom).set q (α a, .inl (cy t, n, .inr (.inr (.inr (.inr (va_up (fun j => (g j).map α) i.toNatClampNeg (some (α v))))))))) → va_S A s.heap H1 locs1 → W p l e R s m args below meth c H1 locs1 cells slots Q (F0 m (pc + 1) ls (S'.map (wV α))) := by
          intro H1 locs1 hP hD hS
          have e9 := va_up_map (α := α) g i.toNatClampNeg (some v)
          rw [show (some (α v) : Option Nat) = (some v).map α from rfl, ← e9] at hP hD
          refine K α dom H1 locs1 cells slots ls exA.rf (fun _ h => h) (f.put hcell (c' := .inr (t, n, .inr (.inr (.inr (.inr (va_up g i.toNatClampNeg (some v))))))) ⟨hkc.1, fun g2 e => ⟨h3.1, fun j b hb => ?_⟩⟩ (Or.inr ⟨_, _, rfl, rfl⟩) (fun g2 e j b hb => ?_) hq0 hP hD hS ks)
          · cases e
            by_cases ej : j = i.toNatClampNeg
            · subst ej; rw [va_up_self] at hb; cases hb; exact kv v rfl
            · rw [va_up_ne _ _ ej] at hb; exact h3.2 j b hb
          · cases e
            by_cases ej : j = i.toNatClampNeg
            · subst ej; rw [va_up_self] at hb; cases hb; exact ⟨cv, fv, hcv⟩
            · rw [va_up_ne _ _ ej] at hb; exact f.2.1.2.1.2.2.2.2 a _ hcell g rfl j b hb
        rcases hty with rfl | ⟨rfl, rfl⟩ | ⟨rfl, rfl⟩ | ⟨rfl, rfl⟩
        · exact va_astqO (E := "java/lang/Object") (f := fun j => (g j).map α) f.1.1 f.1.2.1 f.2.1.1.1 f.2.1.2.2.1 f.2.1.2.2.2.1 f.2.1.2.2.2.2.1 q 3 qv cv hq rfl (mEnv.c10 f.2.1.1.2.2 (_, _) (mCas_at hcv13)) hqv hcl (mIn_in hi) hd fin
        · exact va_astq (r := (RX2, TX2, 8)) (f := fun j => (g j).map α) f.1.1 f.1.2.1 f.2.1.1.1 f.2.1.2.2.1 f.2.1.2.2.2.1 f.2.1.2.2.2.2.1 q 4 qv 3 hq rfl hqv rfl (mIn_in hi) hd fin
        · exact va_astq (r := (RX1, TX1, 2)) (f := fun j => (g j).map α) f.1.1 f.1.2.1 f.2.1.1.1 f.2.1.2.2.1 f.2.1.2.2.2.1 f.2.1.2.2.2.2.1 q 5 qv 2 hq rfl hqv rfl (mIn_in hi) hd fin
        · exact va_astq (r := (RX3, TX3, 13)) (f := fun j => (g j).map α) f.1.1 f.1.2.1 f.2.1.1.1 f.2.1.2.2.1 f.2.1.2.2.2.1 f.2.1.2.2.2.2.1 q 6 qv 4 hq rfl hqv rfl (mIn_in hi) hd fin
      · cases h
    · cases h
  · rename_i i a S'
    have ks := (mK2 (mK2 (mK2 f.2.2.2.2.1).2).2).2
    split at h
    · rename_i t n g hcell
      split at h
      · rename_i hi
        obtain ⟨rfl, rfl, rfl, rfl⟩ := mGo_inj h
        obtain ⟨q, hq0, hq⟩ := wW_at (cy := cy) (α := α) f.2.1.2.1 hcell
        have hkc := f.2.1.2.1.2.2.2.1 a _ hcell
        have h3 := hkc.2 g rfl
        refine va_astqN (C := mAt t) (f := fun j => (g j).map α) f.1.1 f.1.2.1 f.2.1.1.1 f.2.1.2.2.1 f.2.1.2.2.2.1 f.2.1.2.2.2.2.1 q t hq (tyL_ref hkc.1 h3.1) (mIn_in hi) hd fun H1 locs1 hP hD hS => ?_
        have e9 := va_up_map (α := α) g i.toNatClampNeg none
        rw [show (none : Option Nat) = (none : Option Nat).map α from rfl, ← e9] at hP hD
        refine K α dom H1 locs1 cells slots ls exA.rf (fun _ h => h) (f.put hcell (c' := .inr (t, n, .inr (.inr (.inr (.inr (va_up g i.toNatClampNeg none)))))) ⟨hkc.1, fun g2 e => ⟨h3.1, fun j b hb => ?_⟩⟩ (Or.inr ⟨_, _, rfl, rfl⟩) (fun g2 e j b hb => ?_) hq0 hP hD hS ks)
        · cases e
          by_cases ej : j = i.toNatClampNeg
          · subst ej; rw [va_up_self] at hb; cases hb
          · rw [va_up_ne _ _ ej] at hb; exact h3.2 j b hb
        · cases e
          by_cases ej : j = i.toNatClampNeg
          · subst ej; rw [va_up_self] at hb; cases hb
          · rw [va_up_ne _ _ ej] at hb; exact f.2.1.2.1.2.2.2.2 a _ hcell g rfl j b hb
      · cases h
    · cases h
  · cases h
end WK4
