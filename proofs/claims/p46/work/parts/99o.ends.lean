/-! ===== a method's frame; the induction ===== -/
theorem lg_len {vs : List Value} (h : ∀ v ∈ vs, v.category = 1) : (lg_sl vs).length = vs.length := by
  induction vs with
  | nil => rfl
  | cons v vs ih =>
    have h1 := h v List.mem_cons_self
    have h2 := ih fun w hw => h w (List.mem_cons_of_mem _ hw)
    unfold lg_sl at h2 ⊢
    rw [List.flatMap_cons, List.length_append, h2, if_neg (by omega)]
    simp only [List.length_cons, List.length_nil]
    omega
theorem lv_args_at {vs : List Value} (h : ∀ v ∈ vs, v.category = 1) : ∀ (k i : Nat) (v : Value), vs[i]? = some v → (k + i, v) ∈ lv_args k vs := by
  induction vs with
  | nil => intro k i v hv; simp at hv
  | cons w vs ih =>
    intro k i v hv
    have h1 := h w List.mem_cons_self
    unfold lv_args
    rw [if_neg (by omega)]
    cases i with
    | zero => cases hv; exact List.mem_cons_self
    | succ i =>
      have h2 := ih (fun w hw => h w (List.mem_cons_of_mem _ hw)) (k + 1) i v hv
      rw [show k + (i + 1) = k + 1 + i by omega]
      exact List.mem_cons_of_mem _ h2
theorem mL0_len {As : List Value} {n : Nat} (h : As.length ≤ n) : (mL0 As n).length = n := by
  unfold mL0
  rw [List.length_append, List.length_map, List.length_replicate]
  omega
theorem mL0_at {As : List Value} {n i : Nat} {v : Value} (h : (mL0 As n)[i]? = some (some v)) : As[i]? = some v := by
  unfold mL0 at h
  by_cases hi : i < As.length
  · rw [List.getElem?_append_left (by simpa using hi), List.getElem?_map] at h
    cases hv : As[i]? with
    | none => rw [hv] at h; cases h
    | some w => rw [hv] at h; cases h; rfl
  · rw [List.getElem?_append_right (by simpa using hi)] at h
    rw [List.getElem?_replicate] at h
    split at h <;> cases h
theorem LR_entry {α : Nat → Nat} {dom : List Nat} {As : List Value} {n : Nat} (h1 : ∀ v ∈ As, v.category = 1) (hk : ∀ v ∈ As, kV dom v) (hn : As.length ≤ n) : LR α dom (mL0 As n) ((lg_sl (As.map (wV α)) ++ List.replicate (n - (lg_sl (As.map (wV α))).length) Slot.unset).toArray) := by
  have hc : ∀ v ∈ As.map (wV α), v.category = 1 := by
    intro v hv
    obtain ⟨w, hw, rfl⟩ := List.mem_map.mp hv
    rw [wV_cat]
    exact h1 w hw
  have hl : (lg_sl (As.map (wV α))).length ≤ n := by rw [lg_len hc, List.length_map]; exact hn
  obtain ⟨e1, e2, e3⟩ := lv_entry (As.map (wV α)) (n := n) hl
  refine ⟨⟨?_, e2, ?_⟩, ?_⟩
  · rw [mL0_len hn]; exact e1
  · rintro ⟨i, w⟩ hq
    obtain ⟨v, hv, rfl⟩ := lsl_mem.mp hq
    have h2 := mL0_at hv
    have h3 := lv_args_at hc 0 i (wV α v) (by rw [List.getElem?_map, h2]; rfl)
    rw [Nat.zero_add] at h3
    exact e3 _ h3
  · intro i v hv
    have h2 := List.mem_of_getElem? (mL0_at hv)
    exact ⟨hk v h2, h1 v h2⟩
theorem LR.un {α : Nat → Nat} {dom : List Nat} {L : mLs} {ls ls' : Array Slot} (h : LR α dom L ls) {i : Nat} {w : Value} (hl : lv_has ls' L.length ((i, w) :: (lsl α L).filter (fun q => !(q.1 == i) && !(q.1 + 1 == i && q.2.category == 2)))) : LR α dom (L.set i none) ls' := by
  have key : ∀ (j : Nat) (u : Value), (L.set i none)[j]? = some (some u) → j ≠ i ∧ L[j]? = some (some u) := by
    intro j u hu
    by_cases e : j = i
    · subst e
      have hlt := (List.getElem?_eq_some_iff.mp hu).1
      rw [List.length_set] at hlt
      rw [List.getElem?_set_self hlt] at hu
      cases hu
    · rw [List.getElem?_set_ne (Ne.symm e)] at hu
      exact ⟨e, hu⟩
  refine ⟨⟨?_, hl.2.1, ?_⟩, fun j u hu => h.2 j u (key j u hu).2⟩
  · rw [List.length_set]; exact hl.1
  · rintro ⟨j, w⟩ hj
    obtain ⟨u, hu, rfl⟩ := lsl_mem.mp hj
    obtain ⟨e, hu⟩ := key j u hu
    refine hl.2.2 _ (List.mem_cons_of_mem _ (List.mem_filter.mpr ⟨lsl_mem.mpr ⟨u, hu, rfl⟩, ?_⟩))
    have := (h.2 j u hu).2
    have h2 := wV_cat α u
    simp [e, h2, this]
theorem exA.tr {dom dom' : List Nat} {α α' α'' : Nat → Nat} (h : exA dom α α') (hs : ∀ a ∈ dom, a ∈ dom') (k : exA dom' α' α'') : exA dom α α'' := fun a ha => (k a (ha.mono hs)).trans (h a ha)
/-- handlers: found, not found -/
theorem mHz_some {own : String} {cc : ByteArray} {ml pc E hp i : Nat} : ∀ (l : List (Nat × Nat × Nat × Nat × Nat)) (l' : List (Nat × Nat × Nat × Nat)), mHz own cc ml l l' = true → mHd l pc E = some (hp, i) → ∃ pre x suf, tableOf l' = pre ++ x :: suf ∧ (∀ z ∈ pre, covers z pc = false ∨ (z.catchType ≠ 0 ∧ ∃ k, k < 3 ∧ k ≠ E ∧ mOkC own z.catchType (mEx k) = true)) ∧ covers x pc = true ∧ x.catchType ≠ 0 ∧ mOkC own x.catchType (mEx E) = true ∧ i < ml ∧ ((decode cc x.handlerPc = .ok (.astore i, 2) ∧ hp = x.handlerPc + 2) ∨ ((∃ k : Fin 4, (k : Nat) = i ∧ decode cc x.handlerPc = .ok (.astore_n k, 1)) ∧ hp = x.handlerPc + 1)) := by
  intro l
  induction l with
  | nil => intro l' h h2; cases h2
  | cons q l ih =>
    obtain ⟨a, b, h9, k, j⟩ := q
    intro l' h h2
    cases l' with
    | nil => cases h
    | cons q' l' =>
      obtain ⟨a', b', hp', ct⟩ := q'
      unfold mHz at h
      simp only [Bool.and_eq_true, Bool.or_eq_true, decide_eq_true_eq, beq_iff_eq] at h
      obtain ⟨⟨⟨⟨⟨⟨⟨ea, eb⟩, hk3⟩, hct⟩, hC⟩, hj⟩, hdec⟩, hrest⟩ := h
      subst ea
      subst eb
      unfold mHd at h2
      split at h2
      · rename_i hc
        obtain ⟨h3, h4, h5⟩ := hc
        cases h2
        subst h5
        refine ⟨[], ⟨a, b, hp', ct⟩, tableOf l', rfl, fun z hz => (by cases hz), (by simp [covers, h3, h4]), hct, hC, hj, ?_⟩
        rcases hdec with ⟨d, e⟩ | ⟨⟨d1, d2⟩, e⟩
        · exact Or.inl ⟨d, e⟩
        · exact Or.inr ⟨⟨Fin.ofNat 4 i, by show i % 4 = i; omega, d2⟩, e⟩
      · rename_i hc
        obtain ⟨pre, x, suf, e1, e2, e3⟩ := ih l' hrest h2
        refine ⟨⟨a, b, hp', ct⟩ :: pre, x, suf, by show _ :: tableOf l' = _; rw [e1]; rfl, fun z hz => ?_, e3⟩
        rcases List.mem_cons.mp hz with rfl | hz
        · by_cases hcov : a ≤ pc ∧ pc < b
          · exact Or.inr ⟨hct, k, hk3, fun e => hc ⟨hcov.1, hcov.2, e⟩, hC⟩
          · left
            simp only [covers, Bool.and_eq_false_iff, decide_eq_false_iff_not]
            omega
        · exact e2 z hz
theorem mHz_none {own : String} {cc : ByteArray} {ml pc E : Nat} : ∀ (l : List (Nat × Nat × Nat × Nat × Nat)) (l' : List (Nat × Nat × Nat × Nat)), mHz own cc ml l l' = true → mHd l pc E = none → ∀ z ∈ tableOf l', covers z pc = false ∨ (z.catchType ≠ 0 ∧ ∃ k, k < 3 ∧ k ≠ E ∧ mOkC own z.catchType (mEx k) = true) := by
  intro l
  induction l with
  | nil =>
    intro l' h h2 z hz
    cases l' with
    | nil => cases hz
    | cons q l' => cases h
  | cons q l ih =>
    obtain ⟨a, b, h9, k, j⟩ := q
    intro l' h h2
    cases l' with
    | nil => cases h
    | cons q' l' =>
      obtain ⟨a', b', hp', ct⟩ := q'
      unfold mHz at h
      simp only [Bool.and_eq_true, Bool.or_eq_true, decide_eq_true_eq, beq_iff_eq] at h
      obtain ⟨⟨⟨⟨⟨⟨⟨ea, eb⟩, hk3⟩, hct⟩, hC⟩, hj⟩, hdec⟩, hrest⟩ := h
      subst ea
      subst eb
      unfold mHd at h2
      split at h2
      · cases h2
      · rename_i hc
        intro z hz
        rcases List.mem_cons.mp hz with rfl | hz
        · by_cases hcov : a ≤ pc ∧ pc < b
          · exact Or.inr ⟨hct, k, hk3, fun e => hc ⟨hcov.1, hcov.2, e⟩, hC⟩
          · left
            simp only [covers, Bool.and_eq_false_iff, decide_eq_false_iff_not]
            omega
        · exact ih l' hrest h2 z hz
theorem mNc_at {j k : Nat} (hj : j < 3) (hk : k < 3) (h : k ≠ j) : (mEx j, mEx k) ∈ mNcl := by
  match j, k, hj, hk with
  | 0, 0, _, _ => exact absurd rfl h
  | 0, 1, _, _ => decide
  | 0, 2, _, _ => decide
  | 1, 0, _, _ => decide
  | 1, 1, _, _ => exact absurd rfl h
  | 1, 2, _, _ => decide
  | 2, 0, _, _ => decide
  | 2, 1, _, _ => decide
  | 2, 2, _, _ => exact absurd rfl h
  | j + 3, _, h, _ => exact absurd h (by omega)
  | 0, k + 3, _, h => exact absurd h (by omega)
  | 1, k + 3, _, h => exact absurd h (by omega)
  | 2, k + 3, _, h => exact absurd h (by omega)
theorem mCas_ex {k : Nat} (h : k < 3) : (mEx k, mEx k) ∈ mCas := by
  match k, h with
  | 0, _ => decide
  | 1, _ => decide
  | 2, _ => decide
  | k + 3, h => exact absurd h (by omega)
/-- every method's table and its handlers go together -/
theorem mHz_y {y : Nat} : mHz (mM y).1.cls (mM y).2.1 (mM y).2.2.1 (mHs y) (mEh y) = true := by
  by_cases z : 1 ≤ y ∧ y ≤ 2
  · exact (mHk_lo z.1 z.2).2.2
  · rw [mEh_hi z, mHs_hi z]
    rfl
section WK9
variable {p : Program} {l : Launch} {e : Env} {R : Room} {s : State} {m : MethodId} {args : Array Value} {below : List Frame} {meth : Method} {c : Code} {Q : State → Prop} {y : Nat} {D : va_G} {cy : Nat → ClassId} {A : Nat → Prop} {b Ls : Nat} {xs : Nat → Int32} {emp mi n0 m0 : Nat} {α : Nat → Nat} {dom : List Nat} {H : Heap} {locs : List Loc} {cells slots pc : Nat} {L : mLs} {S : List Value} {ls : Array Slot} {σ : mS} {pc2 : Nat} {L2 : mLs} {S2 : List Value} {σ2 : mS}
theorem mFr.pass (f : mFr p l R s m args meth c y D cy A b Ls xs emp mi n0 m0 α dom H locs cells slots L S ls σ) {k : Nat} (hk : k < 3) {T : List ExceptionTableEntry} {pc : Nat} (h : ∀ z ∈ T, covers z pc = false ∨ (z.catchType ≠ 0 ∧ ∃ j, j < 3 ∧ j ≠ k ∧ mOkC (mM y).1.cls z.catchType (mEx j) = true)) : ∀ z ∈ T, covers z pc = false ∨ (z.catchType ≠ 0 ∧ ∃ nm : String, (Cond.classLink (mM y).1.cls z.catchType nm).before args s = true ∧ va_Nc (mEx k) nm s) := by
  intro z hz
  rcases h z hz with h1 | ⟨h1, j, hj, hne, hC⟩
  · exact Or.inl h1
  · exact Or.inr ⟨h1, mEx j, mTs f.1 _ (mC_spec hC), mEnv.c14 f.2.1.1.2.2 (_, _) (mNc_at hk hj hne)⟩
/-- caught: on to the handler -/
theorem mCatch (f : mFr p l R s m args meth c y D cy A b Ls xs emp mi n0 m0 α dom H locs cells slots L S ls σ) {k hp i : Nat} {q : Addr} {ce : Cell} {rest : List Value} (hk : k < 3) (hh : mHd (mHs y) pc k = some (hp, i)) (hce : H[q]? = some ce) (hcv : ce.vm = .none) (hcl : s.vm.findClass (mEx k) = some ce.cls)
    (K : mNx p l e R s m args below meth c Q y D cy A b Ls xs emp mi n0 m0 α dom hp (L.set i none) [] σ) : vx_W p l e R s m args below meth c H locs cells slots Q (F0 m pc ls rest) q := by
  obtain ⟨pre, x, suf, e1, e2, e3, e4, e5, e6, e7⟩ := mHz_some _ _ (mHz_y (y := y)) hh
  have hT : c.exceptionTable.toList = pre ++ x :: suf := by rw [← e1]; exact f.1.2.2.2.2.2.2.2.2.1
  refine vx_catch f.1.2.2.2.2.1 pre x suf hT (f.pass hk e2) e3 e4 (mTs f.1 _ (mC_spec e5)) (va_Nw.use rfl (mEnv.c10 f.2.1.1.2.2 (_, _) (mCas_ex hk))) hce hcv hcl ?_
  have hi : i < L.length := by rw [f.2.2.2.1]; exact e6
  have fin : ∀ ls' : Array Slot, lv_has ls' L.length ((i, Value.ref q) :: (lsl α L).filter (fun q => !(q.1 == i) && !(q.1 + 1 == i && q.2.category == 2))) → W p l e R s m args below meth c H locs cells slots Q (F0 m hp ls' []) := fun ls' hl =>
    K α dom H locs cells slots ls' exA.rf (fun _ h => h) (f.keep (f.2.2.1.un hl) (by simp) (fun v hv => by cases hv))
  rcases e7 with ⟨d, rfl⟩ | ⟨⟨j, hj, d⟩, rfl⟩
  · exact lv_astore f.1.1 f.1.2.1 d f.2.2.1.1 hi rfl fin
  · exact lv_astore_n f.1.1 f.1.2.1 d hj f.2.2.1.1 hi rfl fin
/-- what is owed where the method ends -/
def mEnds (p : Program) (l : Launch) (e : Env) (R : Room) (s : State) (m : MethodId) (args : Array Value) (below : List Frame) (meth : Method) (c : Code) (Q : State → Prop) (y : Nat) (D : va_G) (cy : Nat → ClassId) (A : Nat → Prop) (b Ls : Nat) (xs : Nat → Int32) (emp mi n0 m0 : Nat) (r : mRes) (σ1 : mS) (α : Nat → Nat) (dom : List Nat) : Prop :=
  (∀ (α' : Nat → Nat) (dom' : List Nat) (H : Heap) (locs : List Loc) (cells slots pc : Nat) (L : mLs) (ls : Array Slot) (x : Int32), exA dom α α' → (∀ a ∈ dom, a ∈ dom') → mFr p l R s m args meth c y D cy A b Ls xs emp mi n0 m0 α' dom' H locs cells slots L [] ls σ1 → decode (mM y).2.1 pc = .ok (.ireturn, 1) → ((mM y).2.2.2.1 = some .int ∨ ((mM y).2.2.2.1 = some .boolean ∧ (x = 0 ∨ x = 1))) → r = .inl (some (.int x)) → W p l e R s m args below meth c H locs cells slots Q (F0 m pc ls [.int x])) ∧
  (∀ (α' : Nat → Nat) (dom' : List Nat) (H : Heap) (locs : List Loc) (cells slots pc : Nat) (L : mLs) (ls : Array Slot) (v : Value), exA dom α α' → (∀ a ∈ dom, a ∈ dom') → mFr p l R s m args meth c y D cy A b Ls xs emp mi n0 m0 α' dom' H locs cells slots L [v] ls σ1 → decode (mM y).2.1 pc = .ok (.areturn, 1) → ((∃ n, (mM y).2.2.2.1 = some (.object n)) ∨ ∃ t, (mM y).2.2.2.1 = some (.array t)) → (v = .null ∨ ∃ a, v = .ref a) → r = .inl (some v) → W p l e R s m args below meth c H locs cells slots Q (F0 m pc ls [wV α' v])) ∧
  (∀ (α' : Nat → Nat) (dom' : List Nat) (H : Heap) (locs : List Loc) (cells slots pc : Nat) (L : mLs) (ls : Array Slot), exA dom α α' → (∀ a ∈ dom, a ∈ dom') → mFr p l R s m args meth c y D cy A b Ls xs emp mi n0 m0 α' dom' H locs cells slots L [] ls σ1 → decode (mM y).2.1 pc = .ok (.return_, 1) → (mM y).2.2.2.1 = none → r = .inl none → W p l e R s m args below meth c H locs cells slots Q (F0 m pc ls [])) ∧
  (∀ (α' : Nat → Nat) (dom' : List Nat) (H : Heap) (locs : List Loc) (cells slots pc : Nat) (L : mLs) (ls : Array Slot) (S : List Value) (σ : mS) (k idx : Nat), exA dom α α' → (∀ a ∈ dom, a ∈ dom') → mFr p l R s m args meth c y D cy A b Ls xs emp mi n0 m0 α' dom' H locs cells slots L S ls σ → mThr σ = σ1 → r = .inr k → k < 3 → 6 ≤ (mM y).2.2.2.2.2.2.1 → mOkC (mM y).1.cls idx (mEx k) = true → decode (mM y).2.1 pc = .ok (.new idx, 3) → decode (mM y).2.1 (pc + 3) = .ok (.dup, 1) → decode (mM y).2.1 (pc + 4) = .ok (.invokespecial (mIc k), 3) → decode (mM y).2.1 (pc + 7) = .ok (.athrow, 1) → 0 < y → (mM y).1.cls = "Ropewalk" → S.length ≤ 4 → W p l e R s m args below meth c H locs cells slots Q (F0 m pc ls (S.map (wV α')))) ∧
  (∀ (α' : Nat → Nat) (dom' : List Nat) (H : Heap) (locs : List Loc) (cells slots pc : Nat) (L : mLs) (ls : Array Slot) (S rest : List Value) (k : Nat) (q : Addr) (ce : Cell), exA dom α α' → (∀ a ∈ dom, a ∈ dom') → mFr p l R s m args meth c y D cy A b Ls xs emp mi n0 m0 α' dom' H locs cells slots L S ls σ1 → r = .inr k → k < 3 → mHd (mHs y) pc k = none → H[q]? = some ce → ce.vm = .none → s.vm.findClass (mEx k) = some ce.cls → vx_W p l e R s m args below meth c H locs cells slots Q (F0 m pc ls rest) q)
theorem mEnds.ex {r : mRes} {σ1 : mS} {α' : Nat → Nat} {dom' : List Nat} (h : mEnds p l e R s m args below meth c Q y D cy A b Ls xs emp mi n0 m0 r σ1 α dom) (hx : exA dom α α') (hs : ∀ a ∈ dom, a ∈ dom') : mEnds p l e R s m args below meth c Q y D cy A b Ls xs emp mi n0 m0 r σ1 α' dom' := by
  obtain ⟨h1, h2, h3, h4, h5⟩ := h
  exact ⟨fun α2 dom2 H locs cells slots pc L ls x k1 k2 => h1 α2 dom2 H locs cells slots pc L ls x (hx.tr hs k1) (fun a ha => k2 a (hs a ha)),
    fun α2 dom2 H locs cells slots pc L ls v k1 k2 => h2 α2 dom2 H locs cells slots pc L ls v (hx.tr hs k1) (fun a ha => k2 a (hs a ha)),
    fun α2 dom2 H locs cells slots pc L ls k1 k2 => h3 α2 dom2 H locs cells slots pc L ls (hx.tr hs k1) (fun a ha => k2 a (hs a ha)),
    fun α2 dom2 H locs cells slots pc L ls S σ k idx k1 k2 => h4 α2 dom2 H locs cells slots pc L ls S σ k idx (hx.tr hs k1) (fun a ha => k2 a (hs a ha)),
    fun α2 dom2 H locs cells slots pc L ls S rest k q ce k1 k2 => h5 α2 dom2 H locs cells slots pc L ls S rest k q ce (hx.tr hs k1) (fun a ha => k2 a (hs a ha))⟩
/-- an end: by the row -/
theorem mStep_end {ee : mE} {r : mRes} {σ1 : mS} (f : mFr p l R s m args meth c y D cy A b Ls xs emp mi n0 m0 α dom H locs cells slots L S ls σ) (hok : mOkE y pc ee = true) (h : mStep mFk xs Ls ee pc L S σ = some (.inr (.inr (r, σ1)))) (hE : mEnds p l e R s m args below meth c Q y D cy A b Ls xs emp mi n0 m0 r σ1 α dom) : W p l e R s m args below meth c H locs cells slots Q (F0 m pc ls (S.map (wV α))) := by
  obtain ⟨h1, h2, h3, h4, -⟩ := hE
  obtain ⟨ins, ln, e1, e2⟩ := ee
  unfold mOkE at hok
  simp only [Bool.and_eq_true, decide_eq_true_eq, beq_iff_eq] at hok
  obtain ⟨⟨hd, hln⟩, hx⟩ := hok
  have hle := mStep_le mFk xs Ls (ins, ln, e1, e2) pc L S σ
  cases ins
  case ireturn =>
    dsimp only at hx
    have hln : ln = 1 := hln
    subst hln
    replace h : mIretS e1 S σ = some (.inr (.inr (r, σ1))) := h
    unfold mIretS at h
    split at h
    · rename_i x
      split at h
      · rename_i hfit
        cases h
        refine h1 α dom H locs cells slots pc L ls x exA.rf (fun _ h => h) (f.stk fun v hv => by cases hv) hd ?_ rfl
        simp only [Bool.and_eq_true, Bool.or_eq_true, decide_eq_true_eq, beq_iff_eq] at hx
        rcases hx with ⟨hx, -⟩ | ⟨hx, rfl⟩
        · exact Or.inl hx
        · exact Or.inr ⟨hx, by simpa [mFit] using hfit⟩
      · cases h
    · cases h
  case areturn =>
    dsimp only at hx
    have hln : ln = 1 := hln
    subst hln
    have hx : (∃ n, (mM y).2.2.2.1 = some (.object n)) ∨ ∃ t, (mM y).2.2.2.1 = some (.array t) := by
      split at hx
      · rename_i n hn
        exact Or.inl ⟨n, hn⟩
      · rename_i n hn
        exact Or.inr ⟨n, hn⟩
      · cases hx
    replace h : mAretS S σ = some (.inr (.inr (r, σ1))) := h
    unfold mAretS at h
    split at h
    · rename_i a
      cases h
      exact h2 α dom H locs cells slots pc L ls (.ref a) exA.rf (fun _ h => h) f hd hx (Or.inr ⟨a, rfl⟩) rfl
    · cases h
      exact h2 α dom H locs cells slots pc L ls .null exA.rf (fun _ h => h) f hd hx (Or.inl rfl) rfl
    · cases h
  case return_ =>
    dsimp only at hx
    have hln : ln = 1 := hln
    subst hln
    replace h : mVretS S σ = some (.inr (.inr (r, σ1))) := h
    unfold mVretS at h
    split at h
    · cases h
      exact h3 α dom H locs cells slots pc L ls exA.rf (fun _ h => h) f hd (of_decide_eq_true hx) rfl
    · cases h
  case new i =>
    dsimp only at hx
    have hln : ln = 3 := hln
    subst hln
    replace h : mNewS mFk (pc + 3) e1 e2 L S σ = some (.inr (.inr (r, σ1))) := h
    unfold mNewS at h
    by_cases hc : 100 ≤ e1
    · rw [if_pos hc] at h hx
      split at h
      · rename_i hl
        cases h
        simp only [Bool.and_eq_true, decide_eq_true_eq, beq_iff_eq] at hx
        obtain ⟨⟨⟨⟨⟨⟨⟨⟨g1, g2⟩, g3⟩, g4⟩, g5⟩, g6⟩, g7⟩, g8⟩, g9⟩ := hx
        rw [g9] at g5
        exact h4 α dom H locs cells slots pc L ls S σ (e1 - 100) i exA.rf (fun _ h => h) f rfl rfl (by omega) g2 g3 hd g4 g5 g6 g7 g8 hl
      · cases h
    · rw [if_neg hc] at h
      cases h
  all_goals
    exfalso
    first
    | (have h : (none : Option mAct) = _ := h; cases h; done)
    | (simp only [mStep, mLdI, mLdA, mStI, mStA, mSt, mI1, mI2, mDivS, mRemS, mI2L, mLcmp, mIincS, mDupS, mDupX, mDup2, mPopS, mIfS, mIcS, mAcS, mNlS, mNnS, mBr, mTabS, mGetS, mPutS, mNewA, mNewR, mLenS, mIald, mIast, mBald, mBast, mLald, mLast, mAald, mAast, mCstS, mSpcS, mSttS, mVrtS, mInv, mLdcS, mGo, mCall] at h; (repeat' split at h) <;> cases h)
end WK9
