/-! ===== the second machine within the first: what relates their memories ===== -/
/-- how many of a tag there are -/
def nCt (N : Nat → Nat) (t : Nat) : Nat := cond (Nat.ble 100 (nGp t)) (nGp t - 100) (N (nGp t))
def vw (N : Nat → Nat) (v : nV) : Value := match v with
  | .inl x => .int x
  | .inr (.inl x) => .long x
  | .inr (.inr (.inl (t, some k))) => .ref (mAd t k)
  | .inr (.inr (.inl (_, none))) => .null
  | .inr (.inr (.inr (.inl (some (t, k))))) => .ref (mAd t k)
  | .inr (.inr (.inr (.inl none))) => .null
  | .inr (.inr (.inr (.inr t))) => .ref (mAd t (N t))
/-- a value that may be held, p being made -/
def vk (N : Nat → Nat) (p : Option Nat) (v : nV) : Prop := match v with
  | .inl _ => True
  | .inr (.inl _) => True
  | .inr (.inr (.inl (t, o))) => ∀ k, o = some k → (k < nCt N t ∧ nLt t = 0) ∨ (t = 127 ∧ k = 1)
  | .inr (.inr (.inr (.inl o))) => ∀ t k, o = some (t, k) → k < nCt N t ∧ nLt t ≠ 0
  | .inr (.inr (.inr (.inr t))) => p = some t
def nFs (c k : Nat) (s : nS) : List Value := (List.range (nFl c)).map fun j => vw (fN s.1) (nGet c j k s)
def rRf (f : Nat → Option Nat) : (Nat → Int32) ⊕ (Nat → Int64) ⊕ (Nat → UInt32) ⊕ (Nat → UInt64) ⊕ (Nat → Option Nat) := .inr (.inr (.inr (.inr f)))
/-- the array of a tag, a number -/
def nRw (s : nS) (t k : Nat) : Nat × vp_A := match nAt t with
  | 0 => (0, nAl t, .inl (fI s.1 t k))
  | 1 => (1, nAl t, .inl (s.2.1 t))
  | 6 => (0, nAl t, .inl (s.2.1 t))
  | 2 => (2, 1, .inr (.inl s.2.2.2))
  | 4 => (cond (Nat.beq t 12) 4 5, nAl t, rRf fun i => if i < nAl t then some (mAd (cond (Nat.beq t 12) 21 22) i) else none)
  | _ => (6, 10, rRf fun i => (fP s.1 4 k i).map (mAd 23))
/-- how often a list has grown -/
def nLv (c : Nat) : Nat := match c with
  | 10 => 1
  | 15 => 2
  | 22 => 3
  | 33 => 4
  | 49 => 5
  | 73 => 6
  | 109 => 7
  | 163 => 8
  | 244 => 9
  | 366 => 10
  | 549 => 11
  | _ => 0
def nLo (σ : mS) (l : List Nat) (t k : Nat) (q : Option (Nat × Nat)) : Prop :=
  ∃ (mc : Int32) (d : Value), σ.1 (mAd t k) = some (.inl (0, [.int mc, d, .int (Int32.ofNat l.length)])) ∧ l.length ≤ 500 ∧ match q with
    | none => d = .ref mEMP ∧ l = []
    | some (j, cap) => d = .ref (mAd 96 j) ∧ j < σ.2.1 96 ∧ l.length ≤ cap ∧ nLv cap ≠ 0 ∧ ∃ f, σ.1 (mAd 96 j) = some (.inr (3, cap, rRf f)) ∧ ∀ i x, l[i]? = some x → f i = some (mAd (nLt t) x)
abbrev nLT : List Nat := [3, 5, 6, 10, 11, 14, 15, 16, 17, 18, 19, 20]
def nGl (q : Option (Nat × Nat)) : Nat := match q with
  | none => 0
  | some (_, c) => nLv c
def nSm (N : Nat → Nat) (g : Nat → Nat → Option (Nat × Nat)) : Nat := (nLT.map fun t => ((List.range (nCt N t)).map fun k => nGl (g t k)).sum).sum
def nA (N : Nat → Nat) : Nat := N 24 + 3 * N 23 + 4 * N 26 + N 25 + 2 * N 27 + 2 * N 28
def nPn (p : Option Nat) : Nat := match p with
  | none => 0
  | some _ => 1
def nCost (p : Option Nat) (s : nS) (σ : mS) (g : Nat → Nat → Option (Nat × Nat)) : Prop :=
  σ.2.2.1 ≤ 1000 + nA (fN s.1) + s.2.2.1 + nSm (fN s.1) g + nPn p ∧ σ.2.2.2 ≤ 20000 + 20 * nA (fN s.1) + 6 * s.2.2.1 + 549 * nSm (fN s.1) g + 20 * nPn p
def nRel (p : Option Nat) (s : nS) (σ : mS) (g : Nat → Nat → Option (Nat × Nat)) : Prop :=
  (∀ c k, k < nCt (fN s.1) (nTg c) → σ.1 (mAd (nTg c) k) = some (.inl (c, nFs c k s))) ∧
  (∀ t k, nAt t ≠ 9 → k < nCt (fN s.1) t → σ.1 (mAd t k) = some (.inr (nRw s t k))) ∧
  (∀ t k, nLt t ≠ 0 → k < nCt (fN s.1) t → nLo σ (fL s.1 t k) t k (g t k)) ∧
  (∀ t k t' k' j c c', nLt t ≠ 0 → k < nCt (fN s.1) t → nLt t' ≠ 0 → k' < nCt (fN s.1) t' → g t k = some (j, c) → g t' k' = some (j, c') → t = t' ∧ k = k') ∧
  (∀ t, t < 96 → σ.2.1 t = nCt (fN s.1) t + (if p = some t then 1 else 0)) ∧
  (∀ t, p = some t → nGp t = t ∧ ∃ c, nTg c = t ∧ σ.1 (mAd t (fN s.1 t)) = some (.inl (c, (mFk c).map mDf))) ∧
  (∀ c k j, k < nCt (fN s.1) (nTg c) → j < nFl c → vk (fN s.1) none (nGet c j k s)) ∧
  (∀ t k x, nLt t ≠ 0 → k < nCt (fN s.1) t → x ∈ fL s.1 t k → x < nCt (fN s.1) (nLt t)) ∧
  (∀ k i l, k < nCt (fN s.1) 4 → fP s.1 4 k i = some l → l < nCt (fN s.1) 23) ∧
  nCost p s σ g
/-! the tables -/
theorem cond_ite {α : Type} (b : Bool) (x y : α) : cond b x y = if b = true then x else y := by cases b <;> rfl
theorem blt_iff {a b : Nat} : Nat.blt a b = true ↔ a < b := by simp [Nat.blt, Nat.lt_iff_add_one_le]
theorem beq_iff {a b : Nat} : Nat.beq a b = true ↔ a = b := ⟨Nat.eq_of_beq_eq_true, fun h => by subst h; exact Nat.beq_refl a⟩
set_option maxRecDepth 100000 in
set_option maxHeartbeats 4000000 in
theorem nTg_hi {c : Nat} (h : 13 ≤ c) : nTg c = 99 := by
  unfold nTg
  simp only [cond_ite, blt_iff, beq_iff]
  repeat' split
  all_goals first | rfl | omega
set_option maxRecDepth 100000 in
set_option maxHeartbeats 4000000 in
theorem nAt_hi {t : Nat} (h : 96 ≤ t) : nAt t = 9 := by
  unfold nAt
  simp only [cond_ite, blt_iff, beq_iff]
  repeat' split
  all_goals first | rfl | omega
set_option maxRecDepth 100000 in
set_option maxHeartbeats 4000000 in
theorem nLt_hi {t : Nat} (h : 96 ≤ t) : nLt t = 0 := by
  unfold nLt
  simp only [cond_ite, blt_iff, beq_iff]
  repeat' split
  all_goals first | rfl | omega
set_option maxRecDepth 100000 in
set_option maxHeartbeats 4000000 in
theorem nGp_hi {t : Nat} (h : 96 ≤ t) : nGp t = 100 := by
  have h1 : ∀ k, k ≤ 96 → ¬ t < k := fun k hk => by omega
  unfold nGp
  simp (disch := decide) only [cond_ite, blt_iff, beq_iff, h1, if_false]
  split <;> rfl
theorem nCt_hi {N : Nat → Nat} {t : Nat} (h : 96 ≤ t) : nCt N t = 0 := by
  unfold nCt
  rw [nGp_hi h]
  rfl
theorem nCt_lt {N : Nat → Nat} {t k : Nat} (h : k < nCt N t) : t < 96 := by
  refine Nat.lt_of_not_le fun h2 => ?_
  rw [nCt_hi h2] at h
  omega
theorem nTg_lt {N : Nat → Nat} {c k : Nat} (h : k < nCt N (nTg c)) : 1 ≤ c ∧ c < 13 := by
  have h2 := nCt_lt h
  have hi : c < 13 := Nat.lt_of_not_le fun h3 => by rw [nTg_hi h3] at h2; omega
  refine ⟨?_, hi⟩
  refine Nat.lt_of_not_le fun h3 => ?_
  have : c = 0 := by omega
  subst this
  exact absurd h2 (by decide)
theorem nTab1 : ∀ c < 13, 1 ≤ c → nAt (nTg c) = 9 ∧ nLt (nTg c) = 0 ∧ nTg c < 96 ∧ nTg c ≠ 4 ∧ nFl c = (mFk c).length ∧ nFl c ≤ 128 := by decide +kernel
theorem nTab2 : ∀ c < 13, ∀ c' < 13, 1 ≤ c → nTg c = nTg c' → c = c' := by decide +kernel
theorem nTab3 : ∀ t < 96, nAt t ≠ 9 → nLt t = 0 := by decide +kernel
theorem nTab4 : ∀ c < 13, ∀ j < 128, (nKd c j).1 ≠ 9 → j < nFl c ∧ (mFk c)[j]? = some (nFk c j) := by decide +kernel
theorem nTab5 : ∀ c < 13, ∀ j < 128, j < nFl c → (nKd c j).1 < 8 ∧ ((nKd c j).1 = 3 → nLt (nKd c j).2 = 0 ∨ nLt (nKd c j).2 ≠ 0) := by decide +kernel
theorem mAd_inj {t t' k k' : Nat} (h : t < 128) (h' : t' < 128) (e : mAd t k = mAd t' k') : t = t' ∧ k = k' := by
  unfold mAd at e
  omega
theorem mAd_ne {t t' k k' : Nat} (h : t < 128) (h' : t' < 128) (e : ¬ (t = t' ∧ k = k')) : mAd t k ≠ mAd t' k' := fun z => e (mAd_inj h h' z)
theorem mAd_emp : mEMP = mAd 127 0 := rfl
theorem mAd_scr : mSCR = mAd 127 1 := rfl
theorem mAd_mir : mMIR = mAd 127 2 := rfl
section NREL
variable {p : Option Nat} {s : nS} {σ : mS} {g : Nat → Nat → Option (Nat × Nat)}
theorem nRel.obj (r : nRel p s σ g) {c k : Nat} (h : k < nCt (fN s.1) (nTg c)) : σ.1 (mAd (nTg c) k) = some (.inl (c, nFs c k s)) := r.1 c k h
theorem nRel.arr (r : nRel p s σ g) {t k : Nat} (h9 : nAt t ≠ 9) (h : k < nCt (fN s.1) t) : σ.1 (mAd t k) = some (.inr (nRw s t k)) := r.2.1 t k h9 h
theorem nFs_at {c j k : Nat} (h : j < nFl c) : (nFs c k s)[j]? = some (vw (fN s.1) (nGet c j k s)) := by
  unfold nFs
  rw [List.getElem?_map, List.getElem?_range h]
  rfl
theorem nFs_len {c k : Nat} : (nFs c k s).length = nFl c := by
  unfold nFs
  rw [List.length_map, List.length_range]
theorem nLo.mono {σ' : mS} {l : List Nat} {t k : Nat} {q : Option (Nat × Nat)} (h : nLo σ l t k q) (h1 : σ'.1 (mAd t k) = σ.1 (mAd t k)) (h2 : ∀ j c, q = some (j, c) → σ'.1 (mAd 96 j) = σ.1 (mAd 96 j)) (h3 : σ.2.1 96 ≤ σ'.2.1 96) : nLo σ' l t k q := by
  obtain ⟨mc, d, a1, a2, a3⟩ := h
  refine ⟨mc, d, h1.trans a1, a2, ?_⟩
  cases q with
  | none => exact a3
  | some jc =>
    obtain ⟨j, c⟩ := jc
    obtain ⟨b1, b2, b3, b4, f, b5, b6⟩ := a3
    exact ⟨b1, Nat.lt_of_lt_of_le b2 h3, b3, b4, f, (h2 j c rfl).trans b5, b6⟩
/-- a field is written -/
theorem nRel.put (r : nRel p s σ g) {s' : nS} {c k j : Nat} {v : nV} (hk : k < nCt (fN s.1) (nTg c)) (hj : j < nFl c)
    (hN : fN s'.1 = fN s.1) (hL : fL s'.1 = fL s.1) (hT : s'.2.2.1 = s.2.2.1) (hv : nGet c j k s' = v) (hvk : vk (fN s.1) none v)
    (ho : ∀ c' k' j', k' < nCt (fN s.1) (nTg c') → ¬ (c' = c ∧ k' = k ∧ j' = j) → nGet c' j' k' s' = nGet c' j' k' s)
    (ha : ∀ t k', nAt t ≠ 9 → k' < nCt (fN s.1) t → nRw s' t k' = nRw s t k') (h4 : ∀ k' i, k' < nCt (fN s.1) 4 → fP s'.1 4 k' i = fP s.1 4 k' i) :
    nRel p s' (mPut (mAd (nTg c) k) (.inl (c, (nFs c k s).set j (vw (fN s.1) v))) σ) g := by
  obtain ⟨r1, r2, r3, r4, r5, r6, r7, r8, r9, r10⟩ := r
  obtain ⟨c1, c13⟩ := nTg_lt hk
  obtain ⟨t1, t2, t3, t4, -, -⟩ := nTab1 c c13 c1
  have hfs : nFs c k s' = (nFs c k s).set j (vw (fN s.1) v) := by
    apply List.ext_getElem?
    intro i
    by_cases hi : i < nFl c
    · rw [nFs_at hi, hN]
      by_cases e : i = j
      · subst e
        rw [List.getElem?_set_self (by rw [nFs_len]; exact hi), hv]
      · rw [List.getElem?_set_ne (Ne.symm e), nFs_at hi, ho c k i hk (fun z => e z.2.2)]
    · rw [List.getElem?_eq_none (by rw [nFs_len]; omega), List.getElem?_eq_none (by rw [List.length_set, nFs_len]; omega)]
  have hne : ∀ (t k' : Nat), t < 128 → ¬ (t = nTg c ∧ k' = k) → (mPut (mAd (nTg c) k) (.inl (c, (nFs c k s).set j (vw (fN s.1) v))) σ).1 (mAd t k') = σ.1 (mAd t k') := fun t k' ht hn => va_up_ne _ _ (mAd_ne ht (by omega) hn)
  refine ⟨fun c' k' h => ?_, fun t k' h9 h => ?_, fun t k' hl h => ?_, ?_, ?_, fun t h => ?_, fun c' k' j' h hj' => ?_, ?_, fun k' i l h hl => ?_, ?_⟩
  · rw [hN] at h
    obtain ⟨d1, d13⟩ := nTg_lt h
    by_cases e : c' = c ∧ k' = k
    · obtain ⟨rfl, rfl⟩ := e
      rw [hfs]
      exact va_up_self _ _ _
    · rw [hne _ _ (by have := nCt_lt h; omega) (fun z => e ⟨nTab2 c' d13 c c13 d1 z.1, z.2⟩), r1 c' k' h]
      congr 3
      unfold nFs
      rw [hN]
      exact List.map_congr_left fun i _ => congrArg _ (ho c' k' i h (fun z => e ⟨z.1, z.2.1⟩)).symm
  · rw [hN] at h
    rw [hne t k' (by have := nCt_lt h; omega) (fun z => h9 (by rw [z.1]; exact t1)), ha t k' h9 h]
    exact r2 t k' h9 h
  · rw [hN] at h
    rw [hL]
    refine (r3 t k' hl h).mono (hne _ _ (by have := nCt_lt h; omega) (fun z => hl (by rw [z.1]; exact t2))) (fun i c9 _ => hne 96 i (by omega) (fun z => by omega)) (Nat.le_refl _)
  · rw [hN]; exact r4
  · rw [hN]; exact r5
  · rw [hN]
    obtain ⟨a1, c9, a2, a3⟩ := r6 t h
    refine ⟨a1, c9, a2, ?_⟩
    have ht : t < 128 := by
      refine Nat.lt_of_not_le fun z => ?_
      have := nGp_hi (t := t) (by omega)
      omega
    rw [hne t _ ht ?_, a3]
    rintro ⟨z1, z2⟩
    rw [← z1] at hk
    have : nCt (fN s.1) t = fN s.1 t := by
      unfold nCt
      rw [a1]
      have h100 : Nat.ble 100 t = false := by
        cases hb : Nat.ble 100 t with
        | false => rfl
        | true => have := Nat.le_of_ble_eq_true hb; have := nGp_hi (t := t) (by omega); omega
      rw [h100]
      rfl
    omega
  · rw [hN] at h ⊢
    by_cases e : c' = c ∧ k' = k ∧ j' = j
    · obtain ⟨rfl, rfl, rfl⟩ := e
      rw [hv]
      exact hvk
    · rw [ho c' k' j' h e]
      exact r7 c' k' j' h hj'
  · rw [hN, hL]; exact r8
  · rw [hN] at h ⊢
    rw [h4 k' i h] at hl
    exact r9 k' i l h hl
  · unfold nCost at r10 ⊢
    rw [hN, hT]
    exact r10
/-- an element is written -/
theorem nRel.arp (r : nRel p s σ g) {s' : nS} {t k : Nat} (h9 : nAt t ≠ 9) (hk : k < nCt (fN s.1) t)
    (hN : fN s'.1 = fN s.1) (hL : fL s'.1 = fL s.1) (hT : s'.2.2.1 = s.2.2.1)
    (ho : ∀ c' k' j', k' < nCt (fN s.1) (nTg c') → nGet c' j' k' s' = nGet c' j' k' s)
    (ha : ∀ t' k', nAt t' ≠ 9 → k' < nCt (fN s.1) t' → ¬ (t' = t ∧ k' = k) → nRw s' t' k' = nRw s t' k') (h4 : ∀ k' i l, k' < nCt (fN s.1) 4 → fP s'.1 4 k' i = some l → l < nCt (fN s.1) 23) :
    nRel p s' (mPut (mAd t k) (.inr (nRw s' t k)) σ) g := by
  obtain ⟨r1, r2, r3, r4, r5, r6, r7, r8, r9, r10⟩ := r
  have t3 := nCt_lt hk
  have t2 := nTab3 t t3 h9
  have hne : ∀ (t' k' : Nat), t' < 128 → ¬ (t' = t ∧ k' = k) → (mPut (mAd t k) (.inr (nRw s' t k)) σ).1 (mAd t' k') = σ.1 (mAd t' k') := fun t k' ht hn => va_up_ne _ _ (mAd_ne ht (by omega) hn)
  refine ⟨fun c' k' h => ?_, fun t' k' h9' h => ?_, fun t' k' hl h => ?_, ?_, ?_, fun t' h => ?_, fun c' k' j' h hj' => ?_, ?_, fun k' i l h hl => ?_, ?_⟩
  · rw [hN] at h
    obtain ⟨d1, d13⟩ := nTg_lt h
    obtain ⟨u1, u2, u3, u4, -, -⟩ := nTab1 c' d13 d1
    rw [hne _ _ (by omega) (fun z => h9 (by rw [← z.1]; exact u1)), r1 c' k' h]
    congr 3
    unfold nFs
    rw [hN]
    exact List.map_congr_left fun i _ => congrArg _ (ho c' k' i h).symm
  · rw [hN] at h
    by_cases e : t' = t ∧ k' = k
    · obtain ⟨rfl, rfl⟩ := e
      exact va_up_self _ _ _
    · rw [hne _ _ (by have := nCt_lt h; omega) e, ha t' k' h9' h e]
      exact r2 t' k' h9' h
  · rw [hN] at h
    rw [hL]
    refine (r3 t' k' hl h).mono (hne _ _ (by have := nCt_lt h; omega) (fun z => hl (by rw [z.1]; exact t2))) (fun i c9 _ => hne 96 i (by omega) (fun z => by omega)) (Nat.le_refl _)
  · rw [hN]; exact r4
  · rw [hN]; exact r5
  · rw [hN]
    obtain ⟨a1, c9, a2, a3⟩ := r6 t' h
    refine ⟨a1, c9, a2, ?_⟩
    have ht : t' < 128 := by
      refine Nat.lt_of_not_le fun z => ?_
      have := nGp_hi (t := t') (by omega)
      omega
    rw [hne t' _ ht ?_, a3]
    rintro ⟨z1, z2⟩
    rw [← z1] at hk
    have : nCt (fN s.1) t' = fN s.1 t' := by
      unfold nCt
      rw [a1]
      have h100 : Nat.ble 100 t' = false := by
        cases hb : Nat.ble 100 t' with
        | false => rfl
        | true => have := Nat.le_of_ble_eq_true hb; have := nGp_hi (t := t') (by omega); omega
      rw [h100]
      rfl
    omega
  · rw [hN] at h ⊢
    rw [ho c' k' j' h]
    exact r7 c' k' j' h hj'
  · rw [hN, hL]; exact r8
  · rw [hN] at h ⊢
    exact h4 k' i l h hl
  · unfold nCost at r10 ⊢
    rw [hN, hT]
    exact r10
/-- a throw -/
theorem nRel.thr (r : nRel none s σ g) : nRel none (uT s) (mThr σ) g := by
  obtain ⟨r1, r2, r3, r4, r5, r6, r7, r8, r9, r10⟩ := r
  refine ⟨r1, r2, r3, r4, r5, r6, r7, r8, r9, ?_⟩
  unfold nCost at r10 ⊢
  obtain ⟨a, b⟩ := r10
  refine ⟨?_, ?_⟩
  · show σ.2.2.1 + 1 ≤ 1000 + nA (fN s.1) + (s.2.2.1 + 1) + nSm (fN s.1) g + nPn none
    omega
  · show σ.2.2.2 + 6 ≤ 20000 + 20 * nA (fN s.1) + 6 * (s.2.2.1 + 1) + 549 * nSm (fN s.1) g + 20 * nPn none
    omega
end NREL
