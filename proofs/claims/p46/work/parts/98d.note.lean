/-! ===== what is noted ===== -/
section KAP
variable {κ : kP}
section OPV
variable {xs : Nat → Int32} {nx : Nat}
def ntM (k d : Nat) (a : Int32) (m : nM) : nM := uM 1 69 (m 1 69 + 1) (uM 94 (m 1 69).toNatClampNeg a (uM 93 (m 1 69).toNatClampNeg (m 1 0) (uM 92 (m 1 69).toNatClampNeg (iN d) (uM 91 (m 1 69).toNatClampNeg (iN k) m))))
/-- the reference's scan -/
def scM (k d : Nat) (a : Int32) (m : nM) : nM :=
  if 0 < m 32 d then uM 32 d (m 32 d - 1) m else if m 1 69 < 400 then (if 0 < m 33 d then (if m 1 69 + 1 < 400 then ntM k d a (uM 33 d (m 33 d - 1) (ntM k d a m)) else uM 33 d (m 33 d - 1) (ntM k d a m)) else ntM k d a m) else m
def ntC (k b : Nat) (c : nC) : nC := uL 10 k (fL c 10 k ++ [b]) (uL 19 0 (fL c 19 0 ++ [b]) c)
def nwC (k d : Nat) (a ck : Int32) (c : nC) : nC := uI 25 (fN c 25) 3 a (uI 25 (fN c 25) 2 ck (uX 25 (fN c 25) 1 d (uI 25 (fN c 25) 0 (iN k) (uN 25 (fN c 25 + 1) c))))
theorem ntM_ne {k d t : Nat} {a : Int32} {m : nM} (h : t ≠ 1 ∧ (t < 91 ∨ 94 < t)) : ntM k d a m t = m t := by
  unfold ntM
  rw [uM_ne h.1, uM_ne (by omega), uM_ne (by omega), uM_ne (by omega), uM_ne (by omega)]
theorem ntM_1 {k d j : Nat} {a : Int32} {m : nM} (h : j ≠ 69) : ntM k d a m 1 j = m 1 j := by
  unfold ntM
  rw [uM1_ne h, uM_ne (by decide), uM_ne (by decide), uM_ne (by decide), uM_ne (by decide)]
theorem ntM_69 {k d : Nat} {a : Int32} {m : nM} : ntM k d a m 1 69 = m 1 69 + 1 := by
  unfold ntM
  rw [uM_at, if_pos rfl]
theorem i32_lt400 {n : Nat} (h : n < 2 ^ 31) : iN n < (400 : Int32) ↔ n < 400 := iN_lt (b := 400) h (by decide)
theorem r192 {k d B : Nat} {a : Int32} {s : nS} (hB : s.2.1 1 69 = iN B) (hB4 : B < 400) : R1 xs nx 192 0 [some (vR 1 (some 0)), some (vI (iN k)), some (vI (iN d)), some (vI a)] [] s = some (.inl none, (s.1, ntM k d a s.2.1, s.2.2)) := by
  have hin : mIn (s.2.1 1 69) 400 = true := by rw [hB]; exact iN_in hB4 (by decide)
  rw [d_192_0, if_pos (by rw [hB]; exact (i32_lt400 (by omega)).mpr hB4), if_pos hin, if_pos hin, if_pos hin, if_pos hin]
  rfl
theorem r192' {k d B : Nat} {a : Int32} {s : nS} (hB : s.2.1 1 69 = iN B) (hB4 : ¬ B < 400) (hB5 : B < 1000) : R1 xs nx 192 0 [some (vR 1 (some 0)), some (vI (iN k)), some (vI (iN d)), some (vI a)] [] s = some (.inl none, s) := by
  rw [d_192_0, if_neg (by rw [hB]; exact fun z => hB4 ((i32_lt400 (by omega)).mp z))]
theorem r193 {k d B : Nat} {a : Int32} {s : nS} (hd : d < 5) (hB : s.2.1 1 69 = iN B) (hB4 : B ≤ 400) : R1 xs nx 193 0 [some (vR 1 (some 0)), some (vI (iN k)), some (vI (iN d)), some (vI a)] [] s = some (.inl none, (s.1, scM k d a s.2.1, s.2.2)) := by
  have hin : mIn (iN d) 5 = true := iN_in hd (by decide)
  have en : (iN d).toNatClampNeg = d := i32_nat (by omega)
  unfold scM
  rw [d_193_0, if_pos hin, en]
  by_cases h1 : 0 < s.2.1 32 d
  · rw [if_pos h1, if_pos hin, if_pos hin, if_pos h1]
  · rw [if_neg h1, if_neg h1]
    by_cases h2 : s.2.1 1 69 < 400
    · rw [if_pos h2, if_pos h2]
      have hB5 : B < 400 := by rw [hB] at h2; exact (i32_lt400 (by omega)).mp h2
      rw [r192 hB hB5, bV_none, if_pos hin]
      show (if 0 < ntM k d a s.2.1 33 d then _ else _) = _
      rw [ntM_ne (by decide)]
      by_cases h3 : 0 < s.2.1 33 d
      · rw [if_pos h3, if_pos h3, if_pos hin, if_pos hin]
        show bV (R1 xs nx 192 0 _ [] (s.1, uM 33 d (ntM k d a s.2.1 33 d - 1) (ntM k d a s.2.1), s.2.2)) _ _ = _
        rw [ntM_ne (by decide)]
        have hB' : uM 33 d (s.2.1 33 d - 1) (ntM k d a s.2.1) 1 69 = iN (B + 1) := by rw [uM_ne (by decide), ntM_69, hB, iN_add1]
        by_cases h4 : s.2.1 1 69 + 1 < 400
        · rw [if_pos h4]
          rw [hB, iN_add1] at h4
          rw [r192 (s := (s.1, uM 33 d (s.2.1 33 d - 1) (ntM k d a s.2.1), s.2.2)) hB' ((i32_lt400 (by omega)).mp h4)]
          rfl
        · rw [if_neg h4]
          rw [hB, iN_add1] at h4
          rw [r192' (s := (s.1, uM 33 d (s.2.1 33 d - 1) (ntM k d a s.2.1), s.2.2)) hB' (fun z => h4 ((i32_lt400 (by omega)).mpr z)) (by omega)]
          rfl
      · rw [if_neg h3, if_neg h3]
    · rw [if_neg h2, if_neg h2]
/-- one scan more in the book -/
theorem bok_add {X X' : Nat → Nat → Nat} {f f' : Nat → Nat → Int32} {bk : List Nat} {L L' : Nat → List Nat} {n25 n25' n26 k b d n : Nat} {ck a : Int32} {m1 m2 m3 m4 m1' m2' m3' m4' : Nat → Int32}
    (H : gBok X f bk L n25 n26 ck m1 m2 m3 m4) (hn : bk.length = n) (hk : k < n26) (h40 : n26 ≤ 40) (hnn : n25 ≤ n25') (hf : ∀ x j, x < n25 → f' x j = f x j) (hX : ∀ x, x < n25 → X' x 1 = X x 1) (hb : b < n25')
    (b0 : f' b 0 = iN k) (b1 : X' b 1 = d) (b2 : f' b 2 = ck) (b3 : f' b 3 = a) (hd : d < 5) (ha : nIn a 0 9) (hck : nIn ck 0 600)
    (hL : ∀ x, L' x = if x = k then L x ++ [b] else L x) (e1 : ∀ j, m1' j = if j = n then iN k else m1 j) (e2 : ∀ j, m2' j = if j = n then iN d else m2 j) (e3 : ∀ j, m3' j = if j = n then ck else m3 j) (e4 : ∀ j, m4' j = if j = n then a else m4 j) :
    gBok X' f' (bk ++ [b]) L' n25' n26 ck m1' m2' m3' m4' := by
  obtain ⟨h1, h2, h3⟩ := H
  have hlt : ∀ x, x ∈ bk → x < n25 := by
    intro x hx
    obtain ⟨i, hi⟩ := List.getElem?_of_mem hx
    exact (h1 i x hi).1
  refine ⟨fun i x hx => ?_, fun x hx => ?_, fun x hx => ?_⟩
  · rw [e1, e2, e3, e4]
    by_cases hi : i < n
    · rw [List.getElem?_append_left (by omega)] at hx
      obtain ⟨y1, y2, y3, y4, y5, y6⟩ := h1 i x hx
      have : i ≠ n := by omega
      rw [if_neg this, if_neg this, if_neg this, if_neg this, hf x 0 y1, hf x 2 y1, hf x 3 y1, hX x y1]
      exact ⟨by omega, y2, y3, y4, y5, y6⟩
    · rw [List.getElem?_append_right (by omega)] at hx
      have hi' : i = n := by
        rcases Nat.lt_or_ge (i - bk.length) 1 with z | z
        · omega
        · rw [List.getElem?_eq_none (by simpa using z)] at hx
          cases hx
      subst hi'
      rw [show i - bk.length = 0 by omega] at hx
      have hx : b = x := Option.some.inj hx
      subst hx
      rw [if_pos rfl, if_pos rfl, if_pos rfl, if_pos rfl, b0, b1, b2, b3]
      refine ⟨hb, rfl, ⟨k, Nat.zero_le _, by omega, rfl⟩, ⟨hd, rfl⟩, ⟨rfl, hck, ?_⟩, rfl, ha⟩
      rw [Int32.le_iff_toInt_le]
      omega
  · have hc : bk.filter (fun y => decide (f' y 0 = iN x)) = bk.filter (fun y => decide (f y 0 = iN x)) := by
      apply List.filter_congr
      intro y hy
      rw [hf y 0 (hlt y hy)]
    rw [hL, List.filter_append, hc, h2 x hx, List.filter_cons, b0]
    by_cases e : x = k
    · subst e
      simp
    · rw [if_neg e, if_neg (by
        intro z
        have z := of_decide_eq_true z
        exact e ((iN_inj (by omega) (by omega)).mp z).symm)]
      simp
  · rcases List.mem_append.mp hx with z | z
    · obtain ⟨y, y1, y2⟩ := h3 x z
      exact ⟨y, y1, by rw [hf x 0 (hlt x z)]; exact y2⟩
    · rw [List.mem_singleton] at z
      subst z
      exact ⟨k, hk, b0⟩
theorem up4 {t j j' : Nat} {x : Int32} {m : nM} : uM t j x m t j' = if j' = j then x else m t j' := uM_at
theorem gBko_add {bk : List Nat} {b : Nat} {f f' : Nat → Int32} {x : Int32} (h : gBko bk f) (hx : ∀ i, i < bk.length → f i ≤ x) (hf : ∀ j, f' j = if j = bk.length then x else f j) : gBko (bk ++ [b]) f' := by
  intro i j hij hj
  rw [List.length_append, List.length_singleton] at hj
  rw [hf, hf, if_neg (show ¬ i = bk.length by omega)]
  by_cases e : j = bk.length
  · rw [if_pos e]
    exact hx i (by omega)
  · rw [if_neg e]
    exact h i j hij (by omega)
theorem gBok_le {X : Nat → Nat → Nat} {f : Nat → Nat → Int32} {bk : List Nat} {L : Nat → List Nat} {n25 n26 : Nat} {ck : Int32} {a b d e : Nat → Int32} (h : gBok X f bk L n25 n26 ck a b d e) : ∀ i, i < bk.length → d i ≤ ck := by
  intro i hi
  exact (h.1 i _ (List.getElem?_eq_getElem hi)).2.2.2.2.1.2.2
/-- a scan is noted: the object is there -/
theorem nJ_nt {i k b d : Nat} {a : Int32} {c : nC} {m : nM} (hJ : nJ κ i c m) (hk : k < fN c 26) (hl : (fL c 19 0).length < 400) (hl2 : fN c 25 ≤ (fL c 19 0).length) (hb : b < fN c 25) (b0 : fI c 25 b 0 = iN k) (b1 : fX c 25 b 1 = d) (b2 : fI c 25 b 2 = m 1 0) (b3 : fI c 25 b 3 = a) (hd : d < 5) (ha : nIn a 0 9) :
    nJ κ i (ntC k b c) (ntM k d a m) := by
  have hck := (nJ_ck hJ).2
  have h40 := hJ.1.2.2.1.1
  have h69 := hJ.1.2.2.2.2.2.2.2
  have en : (m 1 69).toNatClampNeg = (fL c 19 0).length := by rw [h69]; exact i32_nat (by omega)
  have hB := hJ.2.2.2.2.2.2.2.2.2.2.2.2.2.1
  unfold ntC ntM
  rw [en, h69]
  unfold nJ at hJ ⊢
  obtain ⟨j1, j2, j3, j4, j5, j6, j7, j8, j9, j10, j11, j12, j13, j14, j15⟩ := hJ
  simp (disch := decide) only [uM_ne, uM1_ne, fL_ne, fI_uL, fX_uL, fP_uL, fQ_uL, fN_uL]
  refine ⟨?_, ?_, j3, j4, j5, j6, j7, j8, j9, j10, j11, j12, j13, ?_, j15.1, j15.2.1, j15.2.2.1, j15.2.2.2.1, j15.2.2.2.2.1, ?_⟩
  · unfold gCnt at j1 ⊢
    simp (disch := decide) only [uM_ne, uM1_ne, uM_at, if_true]
    obtain ⟨q1, q2, q3, q4, q5, q6, q7, q8⟩ := j1
    refine ⟨q1, q2, q3, q4, q5, ?_⟩
    rw [fL_at, if_pos rfl, List.length_append]
    exact ⟨by omega, by simp only [List.length_singleton]; omega, iN_add1⟩
  · unfold gClk at j2 ⊢
    simp (disch := decide) only [uM_ne, uM1_ne]
    exact j2
  · have e19 : fL (uL 19 0 (fL c 19 0 ++ [b]) c) 19 0 = fL c 19 0 ++ [b] := by rw [fL_at, if_pos rfl]
    rw [e19]
    refine bok_add (k := k) (d := d) (a := a) hB rfl hk h40 (Nat.le_refl _) (fun x j h => rfl) (fun x h => rfl) hb b0 b1 b2 b3 hd ha hck (fun x => ?_) (fun j => uM_at) (fun j => uM_at) (fun j => uM_at) (fun j => uM_at)
    rw [fL_at, fL_ne (by decide)]
    by_cases e : x = k
    · rw [if_pos e, if_pos e, e]
    · rw [if_neg e, if_neg e]
  · rw [fL_at, if_pos rfl]
    exact gBko_add j15.2.2.2.2.2 (gBok_le hB) (fun j => uM_at)
/-- a scan is noted: the object is new -/
theorem nJ_nw {i k d : Nat} {a : Int32} {c : nC} {m : nM} (hJ : nJ κ i c m) (hk : k < fN c 26) (hl : (fL c 19 0).length < 400) (hd : d < 5) (ha : nIn a 0 9) :
    nJ κ i (ntC k (fN c 25) (nwC k d a (m 1 0) c)) (ntM k d a m) := by
  have hck := (nJ_ck hJ).2
  have h40 := hJ.1.2.2.1.1
  have h25 := hJ.1.2.2.2.2.2.1
  have h69 := hJ.1.2.2.2.2.2.2.2
  have en : (m 1 69).toNatClampNeg = (fL c 19 0).length := by rw [h69]; exact i32_nat (by omega)
  have hB := hJ.2.2.2.2.2.2.2.2.2.2.2.2.2.1
  unfold ntC nwC ntM
  rw [en, h69]
  unfold nJ at hJ ⊢
  obtain ⟨j1, j2, j3, j4, j5, j6, j7, j8, j9, j10, j11, j12, j13, j14, j15⟩ := hJ
  simp (disch := decide) only [uM_ne, uM1_ne, fL_ne, fI_ne, fX_ne, fN_ne, fI_uL, fX_uL, fP_uL, fQ_uL, fN_uL, fI_uX, fX_uI, fP_uI, fP_uX, fQ_uI, fQ_uX, fL_uI, fL_uX, fN_uI, fN_uX, fI_uN, fX_uN, fP_uN, fQ_uN, fL_uN, fN_at]
  refine ⟨?_, ?_, j3, j4, j5, j6, j7, j8, j9, j10, j11, j12, j13, ?_, j15.1, j15.2.1, j15.2.2.1, j15.2.2.2.1, j15.2.2.2.2.1, ?_⟩
  · unfold gCnt at j1 ⊢
    simp (disch := decide) only [uM_ne, uM1_ne, uM_at, if_true, fN_uL, fN_uI, fN_uX, fN_ne, fN_at, fL_ne, fL_uI, fL_uX, fL_uN]
    obtain ⟨q1, q2, q3, q4, q5, q6, q7, q8⟩ := j1
    refine ⟨q1, q2, q3, q4, q5, ?_⟩
    rw [fL_at, if_pos rfl, List.length_append]
    exact ⟨by simp only [List.length_singleton]; omega, by simp only [List.length_singleton]; omega, iN_add1⟩
  · unfold gClk at j2 ⊢
    simp (disch := decide) only [uM_ne, uM1_ne]
    exact j2
  · rw [fL_at, if_pos rfl]
    refine bok_add (k := k) (d := d) (a := a) hB rfl hk h40 (Nat.le_succ _) (fun x j h => ?_) (fun x h => ?_) (Nat.lt_succ_self _) ?_ ?_ ?_ ?_ hd ha hck (fun x => ?_) (fun j => uM_at) (fun j => uM_at) (fun j => uM_at) (fun j => uM_at)
    · have e : x ≠ fN c 25 := by omega
      rw [fI_n e, fI_n e, fI_uX, fI_n e]
      rfl
    · have e : x ≠ fN c 25 := by omega
      rw [fX_n e]
      rfl
    · rw [fI_k, if_neg (by decide), fI_k, if_neg (by decide), fI_uX, fI_k, if_pos rfl]
    · rw [fX_k, if_pos rfl]
    · rw [fI_k, if_neg (by decide), fI_k, if_pos rfl]
    · rw [fI_k, if_pos rfl]
    · rw [fL_at, fL_ne (by decide)]
      by_cases e : x = k
      · rw [if_pos e, if_pos e, e]
      · rw [if_neg e, if_neg e]
        rfl
  · rw [fL_at, if_pos rfl]
    exact gBko_add j15.2.2.2.2.2 (gBok_le hB) (fun j => uM_at)
theorem nJ_bl {i d : Nat} {c : nC} {m : nM} (hJ : nJ κ i c m) (hd : d < 5) (h : 0 < m 32 d) : nJ κ i (uI 21 d 6 (m 32 d - 1) c) (uM 32 d (m 32 d - 1) m) := by
  have hD := hJ.2.2.1
  refine nJ_dep hJ ?_ (fun t ht => by rw [fI_ne ht]) rfl (fun t ht => by rw [uM_ne (by omega)])
  simp (disch := decide) only [uM_ne, uM1_ne]
  intro x hx
  have h9 := hD x hx
  by_cases e : x = d
  · subst e
    simp (disch := decide) only [fI_k, uM_kk]
    obtain ⟨y1, y2, y3, ⟨y4, n, n1, n2, n3⟩, y5, y6⟩ := h9
    refine ⟨y1, y2, y3, ⟨by trivial, n - 1, by omega, by omega, ?_⟩, y5, y6⟩
    rw [n3] at h ⊢
    exact i32_sub (b := 1) (by have := (iN_lt (a := 0) (by omega) (by omega)).mp h; omega) (by omega)
  · simp only [fI_n e, uM_k e]
    exact h9
theorem nJ_sm {i d : Nat} {c : nC} {m : nM} (hJ : nJ κ i c m) (hd : d < 5) (h : 0 < m 33 d) : nJ κ i (uI 21 d 7 (m 33 d - 1) c) (uM 33 d (m 33 d - 1) m) := by
  have hD := hJ.2.2.1
  refine nJ_dep hJ ?_ (fun t ht => by rw [fI_ne ht]) rfl (fun t ht => by rw [uM_ne (by omega)])
  simp (disch := decide) only [uM_ne, uM1_ne]
  intro x hx
  have h9 := hD x hx
  by_cases e : x = d
  · subst e
    simp (disch := decide) only [fI_k, uM_kk]
    obtain ⟨y1, y2, y3, y4, ⟨y5, n, n1, n2, n3⟩, y6⟩ := h9
    refine ⟨y1, y2, y3, y4, ⟨by trivial, n - 1, by omega, by omega, ?_⟩, y6⟩
    rw [n3] at h ⊢
    exact i32_sub (b := 1) (by have := (iN_lt (a := 0) (by omega) (by omega)).mp h; omega) (by omega)
  · simp only [fI_n e, uM_k e]
    exact h9
/-- what a note leaves -/
def nSame (c c' : nC) : Prop := (∀ t, t ≠ 21 → t ≠ 25 → fI c' t = fI c t) ∧ (∀ t, t ≠ 25 → fX c' t = fX c t) ∧ fP c' = fP c ∧ fQ c' = fQ c ∧ (∀ t, t ≠ 10 → t ≠ 19 → fL c' t = fL c t) ∧ (∀ t, t ≠ 25 → fN c' t = fN c t) ∧ ∀ d, fI c' 21 d 5 = fI c 21 d 5
theorem noteJ {i k d : Nat} {a : Int32} {c : nC} {m : nM} (hJ : nJ κ i c m) (hk : k < fN c 26) (hd : d < 5) (ha : nIn a 0 9) :
    ∃ c', nJ κ i c' (scM k d a m) ∧ nSame c c' ∧ ∀ z, R1 xs nx 95 0 [some (vR 0 (some 0)), some (vR 26 (some k)), some (vR 21 (some d)), some (vI a), none] [] (c, z) = some (.inl none, (c', z)) := by
  have h40 := hJ.1.2.2.1.1
  obtain ⟨h25, h400, h69⟩ := hJ.1.2.2.2.2.2
  have ck := (nJ_ck hJ).1
  have hD := hJ.2.2.1 d hd
  have e6 : fI c 21 d 6 = m 32 d := hD.2.2.2.1.1
  have e7 : fI c 21 d 7 = m 33 d := hD.2.2.2.2.1.1
  have h10 : (fL c 10 k).length ≤ 400 := by
    rw [hJ.2.2.2.2.2.2.2.2.2.2.2.2.2.1.2.1 k hk]
    exact Nat.le_trans (List.length_filter_le _ _) h400
  unfold scM
  by_cases h1 : 0 < m 32 d
  · rw [if_pos h1]
    refine ⟨_, nJ_bl hJ hd h1, ⟨fun t t1 t2 => fI_ne t1, fun t t1 => rfl, rfl, rfl, fun t t1 t2 => rfl, fun t t1 => rfl, fun d' => by rw [fI_at, if_neg (fun z => absurd z.2 (by decide))]⟩, fun z => ?_⟩
    rw [d_95_0]
    dsimp only
    rw [e6, if_pos h1]
  · rw [if_neg h1]
    by_cases h2 : m 1 69 < 400
    · rw [if_pos h2]
      have hl : (fL c 19 0).length < 400 := by rw [h69] at h2; exact (i32_lt400 (by omega)).mp h2
      have hA := nJ_nw hJ hk hl hd ha
      have sA : nSame c (ntC k (fN c 25) (nwC k d a (m 1 0) c)) := by
        unfold ntC nwC
        refine ⟨fun t t1 t2 => ?_, fun t t1 => ?_, rfl, rfl, fun t t1 t2 => ?_, fun t t1 => ?_, fun d' => by rw [fI_uL, fI_uL, fI_ne (by decide), fI_ne (by decide), fI_uX, fI_ne (by decide), fI_uN]⟩
        · rw [fI_uL, fI_uL, fI_ne t2, fI_ne t2, fI_uX, fI_ne t2, fI_uN]
        · rw [fX_uL, fX_uL, fX_uI, fX_uI, fX_ne t1]
          rfl
        · rw [fL_ne t1, fL_ne t2]
          rfl
        · rw [fN_uL, fN_uL, fN_uI, fN_uI, fN_uX, fN_uI, fN_ne t1]
      by_cases h3 : 0 < m 33 d
      · rw [if_pos h3]
        have hS := nJ_sm hA hd (by rw [ntM_ne (by decide)]; exact h3)
        rw [ntM_ne (by decide)] at hS
        have sS : nSame c (uI 21 d 7 (m 33 d - 1) (ntC k (fN c 25) (nwC k d a (m 1 0) c))) := ⟨fun t t1 t2 => by rw [fI_ne t1]; exact sA.1 t t1 t2, sA.2.1, sA.2.2.1, sA.2.2.2.1, sA.2.2.2.2.1, sA.2.2.2.2.2.1, fun d' => by rw [fI_at, if_neg (fun z => absurd z.2 (by decide))]; exact sA.2.2.2.2.2.2 d'⟩
        by_cases h4 : m 1 69 + 1 < 400
        · rw [if_pos h4]
          have hl' : (fL c 19 0).length + 1 < 400 := by rw [h69, iN_add1] at h4; exact (i32_lt400 (by omega)).mp h4
          have e19 : fL (uI 21 d 7 (m 33 d - 1) (ntC k (fN c 25) (nwC k d a (m 1 0) c))) 19 0 = fL c 19 0 ++ [fN c 25] := by
            unfold ntC nwC
            rw [fL_uI, fL_ne (by decide), fL_at, if_pos rfl]
            rfl
          have e25 : fN (uI 21 d 7 (m 33 d - 1) (ntC k (fN c 25) (nwC k d a (m 1 0) c))) 25 = fN c 25 + 1 := by
            unfold ntC nwC
            rw [fN_uI, fN_uL, fN_uL, fN_uI, fN_uI, fN_uX, fN_uI, fN_at]
          have hB := nJ_nt (k := k) (b := fN c 25) (d := d) (a := a) hS (by rw [sS.2.2.2.2.2.1 26 (by decide)]; exact hk) (by rw [e19, List.length_append]; simp only [List.length_singleton]; omega) (by rw [e19, e25, List.length_append]; simp only [List.length_singleton]; omega) (by rw [e25]; omega)
            (by rw [fI_ne (by decide)]; unfold ntC nwC; rw [fI_uL, fI_uL, fI_k, if_neg (by decide), fI_k, if_neg (by decide), fI_uX, fI_k, if_pos rfl]) (by rw [fX_uI]; unfold ntC nwC; rw [fX_uL, fX_uL, fX_uI, fX_uI, fX_k, if_pos rfl]) (by rw [fI_ne (by decide), uM_ne (by decide), ntM_1 (by decide)]; unfold ntC nwC; rw [fI_uL, fI_uL, fI_k, if_neg (by decide), fI_k, if_pos rfl]) (by rw [fI_ne (by decide)]; unfold ntC nwC; rw [fI_uL, fI_uL, fI_k, if_pos rfl]) hd ha
          refine ⟨_, hB, ?_, fun z => ?_⟩
          · obtain ⟨s1, s2, s3, s4, s5, s6, s7⟩ := sS
            exact ⟨s1, s2, s3, s4, fun t t1 t2 => by unfold ntC; rw [fL_ne t1, fL_ne t2]; exact s5 t t1 t2, s6, s7⟩
          · rw [d_95_0]
            dsimp only
            rw [e6, if_neg h1, if_pos ((i32_lt400 (by omega)).mpr hl), if_pos (by omega), if_pos (by omega), e7, if_pos h3, if_pos (by rw [List.length_append]; exact (i32_lt400 (by simp only [List.length_singleton]; omega)).mpr (by simp only [List.length_singleton]; omega)), if_pos (by rw [List.length_append]; simp only [List.length_singleton]; omega), if_pos (by rw [fL_at, if_pos rfl, List.length_append]; simp only [List.length_singleton]; omega), ck]
            unfold ntC
            rw [show fL (uI 21 d 7 (m 33 d - 1) (uL 10 k (fL (nwC k d a (m 1 0) c) 10 k ++ [fN c 25]) (uL 19 0 (fL (nwC k d a (m 1 0) c) 19 0 ++ [fN c 25]) (nwC k d a (m 1 0) c)))) 19 0 = fL c 19 0 ++ [fN c 25] from e19]
            rfl
        · rw [if_neg h4]
          have hl' : ¬ (fL c 19 0).length + 1 < 400 := fun z => by rw [h69, iN_add1] at h4; exact h4 ((i32_lt400 (by omega)).mpr z)
          refine ⟨_, hS, sS, fun z => ?_⟩
          rw [d_95_0]
          dsimp only
          rw [e6, if_neg h1, if_pos ((i32_lt400 (by omega)).mpr hl), if_pos (by omega), if_pos (by omega), e7, if_pos h3, if_neg (by rw [List.length_append]; exact fun z => hl' ((i32_lt400 (n := (fL c 19 0).length + 1) (by omega)).mp z)), ck]
          rfl
      · rw [if_neg h3]
        refine ⟨_, hA, sA, fun z => ?_⟩
        rw [d_95_0]
        dsimp only
        rw [e6, if_neg h1, if_pos ((i32_lt400 (by omega)).mpr hl), if_pos (by omega), if_pos (by omega), e7, if_neg h3, ck]
        rfl
    · rw [if_neg h2]
      have hl : ¬ (fL c 19 0).length < 400 := fun z => h2 (by rw [h69]; exact (i32_lt400 (by omega)).mpr z)
      refine ⟨c, hJ, ⟨fun _ _ _ => rfl, fun _ _ => rfl, rfl, rfl, fun _ _ _ => rfl, fun _ _ => rfl, fun _ => rfl⟩, fun z => ?_⟩
      rw [d_95_0]
      dsimp only
      rw [e6, if_neg h1, if_neg (fun z => hl ((i32_lt400 (by omega)).mp z))]
/-- the reference's scan and an update elsewhere -/
theorem uM_comm {t t' j j' : Nat} {x y : Int32} {m : nM} (h : t ≠ t' ∨ j ≠ j') : uM t j x (uM t' j' y m) = uM t' j' y (uM t j x m) := by
  funext a b
  unfold uM up2
  by_cases e1 : a = t ∧ b = j
  · by_cases e2 : a = t' ∧ b = j'
    · exfalso
      rcases h with h | h
      · exact h (by rw [← e1.1, ← e2.1])
      · exact h (by rw [← e1.2, ← e2.2])
    · rw [if_pos e1, if_neg e2, if_pos e1]
  · by_cases e2 : a = t' ∧ b = j'
    · rw [if_neg e1, if_pos e2, if_pos e2]
    · rw [if_neg e1, if_neg e2, if_neg e2, if_neg e1]
theorem ntM_uM {k d t j : Nat} {a x : Int32} {m : nM} (h : (t = 1 ∧ j ≠ 0 ∧ j ≠ 69) ∨ (t ≠ 1 ∧ (t < 91 ∨ 94 < t))) : ntM k d a (uM t j x m) = uM t j x (ntM k d a m) := by
  have e69 : uM t j x m 1 69 = m 1 69 := by
    rcases h with ⟨rfl, h1, h2⟩ | ⟨h1, -⟩
    · exact uM1_ne (by omega)
    · rw [uM_ne (by omega)]
  have e0 : uM t j x m 1 0 = m 1 0 := by
    rcases h with ⟨rfl, h1, h2⟩ | ⟨h1, -⟩
    · exact uM1_ne (by omega)
    · rw [uM_ne (by omega)]
  unfold ntM
  rw [e69, e0, uM_comm (t := 91) (t' := t) (by omega), uM_comm (t := 92) (t' := t) (by omega), uM_comm (t := 93) (t' := t) (by omega), uM_comm (t := 94) (t' := t) (by omega), uM_comm (t := 1) (j := 69) (t' := t) (by omega)]
theorem scM_uM {k d t j : Nat} {a x : Int32} {m : nM} (h : (t = 1 ∧ j ≠ 0 ∧ j ≠ 69) ∨ (t ≠ 1 ∧ t ≠ 32 ∧ t ≠ 33 ∧ (t < 91 ∨ 94 < t))) : scM k d a (uM t j x m) = uM t j x (scM k d a m) := by
  have h' : (t = 1 ∧ j ≠ 0 ∧ j ≠ 69) ∨ (t ≠ 1 ∧ (t < 91 ∨ 94 < t)) := by omega
  have e69 : uM t j x m 1 69 = m 1 69 := by
    rcases h with ⟨rfl, h1, h2⟩ | ⟨h1, -⟩
    · exact uM1_ne (by omega)
    · rw [uM_ne (by omega)]
  have e32 : uM t j x m 32 = m 32 := uM_ne (by omega)
  have e33 : uM t j x m 33 = m 33 := uM_ne (by omega)
  unfold scM
  rw [e69, e32, e33, ntM_uM h', uM_comm (t := 32) (t' := t) (by omega), uM_comm (t := 33) (t' := t) (by omega), ntM_uM h']
  split
  · rfl
  · split
    · split
      · split
        · rfl
        · rfl
      · rfl
    · rfl
theorem scM_ne {k d t : Nat} {a : Int32} {m : nM} (h : t ≠ 1 ∧ t ≠ 32 ∧ t ≠ 33 ∧ (t < 91 ∨ 94 < t)) : scM k d a m t = m t := by
  have h' : ∀ m : nM, ntM k d a m t = m t := fun m => ntM_ne (by omega)
  unfold scM
  split
  · rw [uM_ne (by omega)]
  · split
    · split
      · split
        · rw [h', uM_ne (by omega), h']
        · rw [uM_ne (by omega), h']
      · rw [h']
    · rfl
theorem scM_1 {k d j : Nat} {a : Int32} {m : nM} (h : j ≠ 69) : scM k d a m 1 j = m 1 j := by
  unfold scM
  split
  · rw [uM_ne (by omega)]
  · split
    · split
      · split
        · rw [ntM_1 h, uM_ne (by omega), ntM_1 h]
        · rw [uM_ne (by omega), ntM_1 h]
      · rw [ntM_1 h]
    · rfl
theorem scM_mMv {k d k' : Nat} {a w x : Int32} {m : nM} : mMv k' w x (scM k d a m) = scM k d a (mMv k' w x m) := by
  unfold mMv
  rw [scM_1 (by decide), scM_uM (by omega), scM_uM (by omega), scM_uM (by omega), scM_uM (by omega)]
end OPV
end KAP
