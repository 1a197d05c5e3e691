/-! ===== our heaps within the machine's ===== -/
def wV (α : Nat → Nat) (v : Value) : Value := match v with
  | .ref a => .ref (α a)
  | v => v
def wA (α : Nat → Nat) (x : vp_A) : vp_A := match x with
  | (n, .inr (.inr (.inr (.inr f)))) => (n, .inr (.inr (.inr (.inr fun j => (f j).map α))))
  | x => x
def wC (cy : Nat → ClassId) (α : Nat → Nat) (c : mC) : va_E := match c with
  | .inl (ci, fs) => .inr (ci, fs.map (wV α))
  | .inr (t, x) => .inl (cy t, wA α x)
def wE (cy : Nat → ClassId) (α : Nat → Nat) (o : Option mC) : va_E := match o with
  | some c => wC cy α c
  | none => .inr (0, [])
def wW (cy : Nat → ClassId) (α : Nat → Nat) (h : Nat → Option mC) (dom : List Nat) : va_W := dom.map fun a => (α a, wE cy α (h a))
/-- a reference that is known -/
def kR (dom : List Nat) (a : Nat) : Prop := a ∈ dom ∨ a = mEMP ∨ a = mSCR ∨ a = mMIR
def kV (dom : List Nat) (v : Value) : Prop := ∀ a, v = .ref a → kR dom a
def kC (dom : List Nat) (c : mC) : Prop := match c with
  | .inl (ci, fs) => ci < 12 ∧ ∀ v ∈ fs, kV dom v
  | .inr (t, x) => t < 7 ∧ ∀ f, x.2 = .inr (.inr (.inr (.inr f))) → 3 ≤ t ∧ ∀ j b, f j = some b → kR dom b
/-- what rows of references hold are objects -/
def oC (h : Nat → Option mC) (c : mC) : Prop := match c with
  | .inl _ => True
  | .inr (_, x) => ∀ f, x.2 = .inr (.inr (.inr (.inr f))) → ∀ j b, f j = some b → ∃ ci fs, h b = some (.inl (ci, fs))
def mOK (dom : List Nat) (σ : mS) : Prop := dom.Nodup ∧ (∀ a, a ∈ dom ↔ σ.1 a ≠ none) ∧ (∀ a ∈ dom, a % 128 < 127 ∧ a / 128 < σ.2.1 (a % 128)) ∧ (∀ a c, σ.1 a = some c → kC dom c) ∧ ∀ a c, σ.1 a = some c → oC σ.1 c
def exA (dom : List Nat) (α α' : Nat → Nat) : Prop := ∀ a, kR dom a → α' a = α a
theorem exA.rf {dom : List Nat} {α : Nat → Nat} : exA dom α α := fun _ _ => rfl
theorem wV_ex {dom : List Nat} {α α' : Nat → Nat} (hx : exA dom α α') {v : Value} (h : kV dom v) : wV α' v = wV α v := by
  cases v <;> simp [wV]
  exact hx _ (h _ rfl)
theorem wA_ex {dom : List Nat} {α α' : Nat → Nat} (hx : exA dom α α') {x : vp_A} (h : ∀ f, x.2 = .inr (.inr (.inr (.inr f))) → ∀ j b, f j = some b → kR dom b) : wA α' x = wA α x := by
  obtain ⟨n, y⟩ := x
  rcases y with y | y | y | y | f <;> try rfl
  show (n, _) = (n, _)
  congr 5
  funext j
  cases hj : f j with
  | none => rfl
  | some b => exact congrArg some (hx b (h f rfl j b hj))
theorem wC_ex {cy : Nat → ClassId} {dom : List Nat} {α α' : Nat → Nat} (hx : exA dom α α') {c : mC} (h : kC dom c) : wC cy α' c = wC cy α c := by
  rcases c with ⟨ci, fs⟩ | ⟨t, x⟩
  · show Sum.inr (ci, _) = Sum.inr (ci, _)
    congr 2
    exact List.map_congr_left fun v hv => wV_ex hx (h.2 v hv)
  · show Sum.inl (cy t, _) = Sum.inl (cy t, _)
    rw [wA_ex hx fun f e => (h.2 f e).2]
theorem kR.mono {dom dom' : List Nat} (hs : ∀ a ∈ dom, a ∈ dom') {a : Nat} (h : kR dom a) : kR dom' a := h.imp (hs a) id
theorem kV.mono {dom dom' : List Nat} (hs : ∀ a ∈ dom, a ∈ dom') {v : Value} (h : kV dom v) : kV dom' v := fun a e => (h a e).mono hs
theorem kC.mono {dom dom' : List Nat} (hs : ∀ a ∈ dom, a ∈ dom') {c : mC} (h : kC dom c) : kC dom' c := by
  rcases c with ⟨ci, fs⟩ | ⟨t, x⟩
  · exact ⟨h.1, fun v hv => (h.2 v hv).mono hs⟩
  · exact ⟨h.1, fun f e => ⟨(h.2 f e).1, fun j b hb => ((h.2 f e).2 j b hb).mono hs⟩⟩
theorem kV_int {dom : List Nat} {x : Int32} : kV dom (.int x) := fun _ e => by cases e
theorem kV_long {dom : List Nat} {x : Int64} : kV dom (.long x) := fun _ e => by cases e
theorem kV_null {dom : List Nat} : kV dom .null := fun _ e => by cases e
theorem kV_ref {dom : List Nat} {a : Nat} (h : kR dom a) : kV dom (.ref a) := fun _ e => by cases e; exact h
/-- where a cell lies in the world -/
theorem wW_at {cy : Nat → ClassId} {α : Nat → Nat} {σ : mS} {dom : List Nat} (hO : mOK dom σ) {a : Nat} {c : mC} (h : σ.1 a = some c) : ∃ q : Nat, dom[q]? = some a ∧ (wW cy α σ.1 dom)[q]? = some (α a, wC cy α c) := by
  have hm : a ∈ dom := (hO.2.1 a).mpr (by rw [h]; exact fun e => by cases e)
  obtain ⟨q, hq⟩ := List.getElem?_of_mem hm
  refine ⟨q, hq, ?_⟩
  unfold wW
  rw [List.getElem?_map, hq]
  simp [h, wE]
theorem wW_set {cy : Nat → ClassId} {α : Nat → Nat} {h : Nat → Option mC} {dom : List Nat} (hn : dom.Nodup) {q a : Nat} (hq : dom[q]? = some a) (c : mC) : (wW cy α h dom).set q (α a, wC cy α c) = wW cy α (va_up h a (some c)) dom := by
  apply List.ext_getElem?
  intro i
  unfold wW
  by_cases hi : i = q
  · subst hi
    have hl : i < dom.length := (List.getElem?_eq_some_iff.mp hq).1
    rw [List.getElem?_set_self (by simpa using hl), List.getElem?_map, hq]
    simp [va_up, wE]
  · rw [List.getElem?_set_ne (Ne.symm hi), List.getElem?_map, List.getElem?_map]
    cases hb : dom[i]? with
    | none => rfl
    | some b =>
      have hne : b ≠ a := by
        intro e
        subst e
        exact hi ((List.getElem?_inj (List.getElem?_eq_some_iff.mp hb).1 hn).mp (hb.trans hq.symm))
      simp [va_up, hne]
theorem wW_push {cy : Nat → ClassId} {α : Nat → Nat} {σ : mS} {dom : List Nat} (hO : mOK dom σ) {a r : Nat} (ha : ¬ kR dom a) {c : mC} (hc : kC dom c) : wW cy α σ.1 dom ++ [(r, wC cy α c)] = wW cy (va_up α a r) (va_up σ.1 a (some c)) (dom ++ [a]) := by
  have hx : exA dom α (va_up α a r) := fun b hb => va_up_ne _ _ (fun e => ha (e ▸ hb))
  unfold wW
  rw [List.map_append]
  congr 1
  · refine List.map_congr_left fun b hb => ?_
    have hne : b ≠ a := fun e => ha (Or.inl (e ▸ hb))
    rw [hx b (Or.inl hb), va_up_ne _ _ hne]
    cases hcb : σ.1 b with
    | none => rfl
    | some cb =>
      show (α b, wC cy α cb) = (α b, wC cy _ cb)
      rw [wC_ex hx (hO.2.2.2.1 b cb hcb)]
  · show [(r, wC cy α c)] = [(va_up α a r a, wE cy (va_up α a r) (va_up σ.1 a (some c) a))]
    rw [va_up_self, va_up_self]
    show _ = [(r, wC cy (va_up α a r) c)]
    rw [wC_ex hx hc]
theorem mAd_mod {t i : Nat} (h : t < 128) : mAd t i % 128 = t := by unfold mAd; omega
theorem mAd_div {t i : Nat} (h : t < 128) : mAd t i / 128 = i := by unfold mAd; omega
theorem mNew_fresh {dom : List Nat} {σ : mS} (hO : mOK dom σ) {t : Nat} (ht : t < 127) : ¬ kR dom (mAd t (σ.2.1 t)) := by
  have h1 := mAd_mod (t := t) (i := σ.2.1 t) (by omega)
  have h2 := mAd_div (t := t) (i := σ.2.1 t) (by omega)
  rintro (h | h | h | h)
  · have := (hO.2.2.1 _ h).2
    rw [h1, h2] at this
    omega
  · rw [h] at h1; simp [mEMP] at h1; omega
  · rw [h] at h1; simp [mSCR] at h1; omega
  · rw [h] at h1; simp [mMIR] at h1; omega
def mSame (c c' : mC) : Prop := (∃ x y, c = .inl x ∧ c' = .inl y) ∨ ∃ x y, c = .inr x ∧ c' = .inr y
theorem oC.put {h : Nat → Option mC} {a : Nat} {c c' d : mC} (hc : h a = some c) (hs : mSame c c') (ho : oC h d) : oC (va_up h a (some c')) d := by
  rcases d with x | ⟨t, x⟩
  · trivial
  · intro f e j b hb
    obtain ⟨ci, fs, hh⟩ := ho f e j b hb
    by_cases q : b = a
    · subst q
      rw [va_up_self]
      rcases hs with ⟨x, y, -, rfl⟩ | ⟨x, y, rfl, -⟩
      · exact ⟨y.1, y.2, rfl⟩
      · rw [hc] at hh; cases hh
    · rw [va_up_ne _ _ q]
      exact ⟨ci, fs, hh⟩
theorem mOK.put {dom : List Nat} {σ : mS} (hO : mOK dom σ) {a : Nat} {c c' : mC} (h : σ.1 a = some c) (hc : kC dom c') (hs : mSame c c') (ho : oC σ.1 c') : mOK dom (mPut a c' σ) := by
  refine ⟨hO.1, fun b => ?_, hO.2.2.1, fun b d hb => ?_, fun b d hb => ?_⟩
  · show _ ↔ va_up σ.1 a (some c') b ≠ none
    by_cases e : b = a
    · subst e
      rw [va_up_self]
      exact ⟨fun _ => by simp, fun _ => (hO.2.1 b).mpr (by rw [h]; simp)⟩
    · rw [va_up_ne _ _ e]
      exact hO.2.1 b
  · have hb : va_up σ.1 a (some c') b = some d := hb
    by_cases e : b = a
    · subst e
      rw [va_up_self] at hb
      cases hb
      exact hc
    · rw [va_up_ne _ _ e] at hb
      exact hO.2.2.2.1 b d hb
  · have hb : va_up σ.1 a (some c') b = some d := hb
    show oC (va_up σ.1 a (some c')) d
    by_cases e : b = a
    · subst e
      rw [va_up_self] at hb
      cases hb
      exact ho.put h hs
    · rw [va_up_ne _ _ e] at hb
      exact (hO.2.2.2.2 b d hb).put h hs
theorem oC.new {h : Nat → Option mC} {a : Nat} {c d : mC} (ha : h a = none) (ho : oC h d) : oC (va_up h a (some c)) d := by
  rcases d with x | ⟨t, x⟩
  · trivial
  · intro f e j b hb
    obtain ⟨ci, fs, hh⟩ := ho f e j b hb
    by_cases q : b = a
    · subst q
      rw [ha] at hh; cases hh
    · rw [va_up_ne _ _ q]
      exact ⟨ci, fs, hh⟩
theorem mOK.new {dom : List Nat} {σ : mS} (hO : mOK dom σ) {t n : Nat} (ht : t < 127) {c : mC} (hc : kC dom c) (ho : oC σ.1 c) : mOK (dom ++ [mAd t (σ.2.1 t)]) (mNew t c n σ) := by
  have hf := mNew_fresh hO ht
  have h1 := mAd_mod (t := t) (i := σ.2.1 t) (by omega)
  have h2 := mAd_div (t := t) (i := σ.2.1 t) (by omega)
  have hfr : σ.1 (mAd t (σ.2.1 t)) = none := by
    cases hx : σ.1 (mAd t (σ.2.1 t)) with
    | none => rfl
    | some d => exact absurd (Or.inl ((hO.2.1 _).mpr (by rw [hx]; simp))) hf
  have key : mNew t c n σ = (va_up σ.1 (mAd t (σ.2.1 t)) (some c), va_up σ.2.1 t (σ.2.1 t + 1), σ.2.2.1 + 1, σ.2.2.2 + n) := rfl
  rw [key]
  generalize mAd t (σ.2.1 t) = a at *
  have hs : ∀ b ∈ dom, b ∈ dom ++ [a] := fun b hb => List.mem_append_left _ hb
  refine ⟨?_, fun b => ?_, fun b hb => ?_, fun b d hb => ?_, fun b d hb => ?_⟩
  · refine List.nodup_append.mpr ⟨hO.1, by simp, fun x hx y hy e => ?_⟩
    rw [List.mem_singleton] at hy
    subst hy
    subst e
    exact hf (Or.inl hx)
  · show _ ↔ va_up σ.1 a (some c) b ≠ none
    by_cases e : b = a
    · subst e
      rw [va_up_self]
      simp
    · rw [va_up_ne _ _ e, List.mem_append, List.mem_singleton]
      constructor
      · rintro (h | h)
        · exact (hO.2.1 b).mp h
        · exact absurd h e
      · exact fun h => Or.inl ((hO.2.1 b).mpr h)
  · show b % 128 < 127 ∧ b / 128 < va_up σ.2.1 t (σ.2.1 t + 1) (b % 128)
    rcases List.mem_append.mp hb with h | h
    · obtain ⟨q1, q2⟩ := hO.2.2.1 b h
      refine ⟨q1, ?_⟩
      by_cases e : b % 128 = t
      · rw [e, va_up_self]
        rw [e] at q2
        omega
      · rw [va_up_ne _ _ e]
        exact q2
    · rw [List.mem_singleton] at h
      subst h
      rw [h1, va_up_self, h2]
      omega
  · have hb : va_up σ.1 a (some c) b = some d := hb
    by_cases e : b = a
    · subst e
      rw [va_up_self] at hb
      cases hb
      exact hc.mono hs
    · rw [va_up_ne _ _ e] at hb
      exact (hO.2.2.2.1 b d hb).mono hs
  · have hb : va_up σ.1 a (some c) b = some d := hb
    show oC (va_up σ.1 a (some c)) d
    by_cases e : b = a
    · subst e
      rw [va_up_self] at hb
      cases hb
      exact ho.new hfr
    · rw [va_up_ne _ _ e] at hb
      exact (hO.2.2.2.2 b d hb).new hfr
/-! the locals -/
def lsl (α : Nat → Nat) (L : mLs) : List (Nat × Value) := (List.range L.length).filterMap fun i => match L[i]? with
  | some (some v) => some (i, wV α v)
  | _ => none
theorem lsl_mem {α : Nat → Nat} {L : mLs} {i : Nat} {w : Value} : (i, w) ∈ lsl α L ↔ ∃ v, L[i]? = some (some v) ∧ w = wV α v := by
  unfold lsl
  rw [List.mem_filterMap]
  constructor
  · rintro ⟨j, hj, h⟩
    split at h
    · rename_i v hv
      cases h
      exact ⟨v, hv, rfl⟩
    · cases h
  · rintro ⟨v, hv, rfl⟩
    refine ⟨i, ?_, ?_⟩
    · rw [List.mem_range]
      exact (List.getElem?_eq_some_iff.mp hv).1
    · rw [hv]
def mLc (dom : List Nat) (L : mLs) : Prop := ∀ (i : Nat) (v : Value), L[i]? = some (some v) → kV dom v ∧ v.category = 1
def LR (α : Nat → Nat) (dom : List Nat) (L : mLs) (ls : Array Slot) : Prop := lv_has ls L.length (lsl α L) ∧ mLc dom L
theorem LR.at {α : Nat → Nat} {dom : List Nat} {L : mLs} {ls : Array Slot} (h : LR α dom L ls) {i : Nat} {v : Value} (hi : L[i]? = some (some v)) : ls[i]? = some (.val (wV α v)) := h.1.2.2 (i, wV α v) (lsl_mem.mpr ⟨v, hi, rfl⟩)
theorem wV_cat (α : Nat → Nat) (v : Value) : (wV α v).category = v.category := by cases v <;> rfl
theorem LR.st {α : Nat → Nat} {dom : List Nat} {L : mLs} {ls ls' : Array Slot} (h : LR α dom L ls) {i : Nat} {v : Value} (hv : kV dom v) (hc : v.category = 1) (hl : lv_has ls' L.length ((i, wV α v) :: (lsl α L).filter (fun q => !(q.1 == i) && !(q.1 + 1 == i && q.2.category == 2)))) : LR α dom (L.set i (some v)) ls' := by
  refine ⟨⟨?_, hl.2.1, ?_⟩, ?_⟩
  · rw [List.length_set]; exact hl.1
  · rintro ⟨j, w⟩ hj
    obtain ⟨u, hu, rfl⟩ := lsl_mem.mp hj
    refine hl.2.2 _ ?_
    by_cases e : j = i
    · subst e
      have hlt := (List.getElem?_eq_some_iff.mp hu).1
      rw [List.length_set] at hlt
      rw [List.getElem?_set_self hlt] at hu
      cases hu
      exact List.mem_cons_self
    · rw [List.getElem?_set_ne (Ne.symm e)] at hu
      refine List.mem_cons_of_mem _ (List.mem_filter.mpr ⟨lsl_mem.mpr ⟨u, hu, rfl⟩, ?_⟩)
      have := (h.2 j u hu).2
      have h2 := wV_cat α u
      simp [e, h2, this]
  · intro j u hu
    by_cases e : j = i
    · subst e
      have hlt := (List.getElem?_eq_some_iff.mp hu).1
      rw [List.length_set] at hlt
      rw [List.getElem?_set_self hlt] at hu
      cases hu
      exact ⟨hv, hc⟩
    · rw [List.getElem?_set_ne (Ne.symm e)] at hu
      exact h.2 j u hu
theorem lsl_ex {α α' : Nat → Nat} {dom : List Nat} {L : mLs} (hx : exA dom α α') (h : mLc dom L) : ∀ q ∈ lsl α' L, q ∈ lsl α L := by
  rintro ⟨i, w⟩ hq
  obtain ⟨v, hv, rfl⟩ := lsl_mem.mp hq
  exact lsl_mem.mpr ⟨v, hv, wV_ex hx (h i v hv).1⟩
theorem LR.ex {α α' : Nat → Nat} {dom dom' : List Nat} {L : mLs} {ls : Array Slot} (h : LR α dom L ls) (hx : exA dom α α') (hs : ∀ a ∈ dom, a ∈ dom') : LR α' dom' L ls :=
  ⟨⟨h.1.1, h.1.2.1, fun q hq => h.1.2.2 q (lsl_ex hx h.2 q hq)⟩, fun i v hv => ⟨(h.2 i v hv).1.mono hs, (h.2 i v hv).2⟩⟩
theorem mS_ex {α α' : Nat → Nat} {dom : List Nat} (hx : exA dom α α') {S : List Value} (h : ∀ v ∈ S, kV dom v) : S.map (wV α') = S.map (wV α) := List.map_congr_left fun v hv => wV_ex hx (h v hv)
