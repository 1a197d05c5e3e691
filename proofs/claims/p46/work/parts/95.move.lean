/-! ===== moves: a parcel leaves its place and comes to another ===== -/
section KAP
variable {κ : kP}
section OPN
variable {xs : Nat → Int32} {nx : Nat}
def cLin (k : Nat) (c : nC) : nC := match fQ c k with
  | none => c
  | some p => uL p.1 p.2 ((fL c p.1 p.2).erase k) c
def cOut (k : Nat) (c : nC) : nC := match fP c 9 k 5 with
  | none => cLin k c
  | some b => uI 7 b (fI c 9 k 6).toNatClampNeg (fI c 7 b (fI c 9 k 6).toNatClampNeg + 1) (cLin k c)
def cMv0 (k : Nat) (w a : Int32) (D : Option Nat) (q : Option (Nat × Nat)) (ck : Int32) (c : nC) : nC :=
  uI 9 k 2 ck (uQ k q (uP 9 k 3 D (uI 9 k 1 a (uI 9 k 0 w (uI 9 k 7 0 (uI 9 k 6 0 (uP 9 k 5 none (cOut k c))))))))
/-- the class's move -/
def cMv (k : Nat) (w a : Int32) (D : Option Nat) (q : Option (Nat × Nat)) (ck : Int32) (c : nC) : nC := match q with
  | none => cMv0 k w a D none ck c
  | some p => uL p.1 p.2 (fL (cOut k c) p.1 p.2 ++ [k]) (cMv0 k w a D (some p) ck c)
/-- the reference's -/
def mMv (k : Nat) (w a : Int32) (m : nM) : nM := uM 1 1 (m 1 1 + 1) (uM 68 k (m 1 1) (uM 67 k a (uM 66 k w m)))
section AC
variable {k : Nat} {w a ck : Int32} {D : Option Nat} {q : Option (Nat × Nat)} {c : nC}
theorem cLin_I : fI (cLin k c) = fI c := by unfold cLin; split <;> rfl
theorem cLin_X : fX (cLin k c) = fX c := by unfold cLin; split <;> rfl
theorem cLin_P : fP (cLin k c) = fP c := by unfold cLin; split <;> rfl
theorem cLin_Q : fQ (cLin k c) = fQ c := by unfold cLin; split <;> rfl
theorem cLin_N : fN (cLin k c) = fN c := by unfold cLin; split <;> rfl
theorem cLin_L {t l : Nat} : fL (cLin k c) t l = if fQ c k = some (t, l) then (fL c t l).erase k else fL c t l := by
  unfold cLin
  split
  · rename_i h
    rw [h, if_neg (by intro z; cases z)]
  · rename_i p h
    rw [h]
    by_cases e : p = (t, l)
    · subst e
      rw [if_pos rfl, fL_at, if_pos rfl]
    · rw [if_neg (fun z => e (Option.some.inj z))]
      by_cases e1 : t = p.1
      · subst e1
        rw [fL_at, if_neg (fun z => e (by rw [z]))]
      · rw [fL_ne e1]
theorem cOut_X : fX (cOut k c) = fX c := by unfold cOut; split; exact cLin_X; rw [fX_uI]; exact cLin_X
theorem cOut_P : fP (cOut k c) = fP c := by unfold cOut; split; exact cLin_P; rw [fP_uI]; exact cLin_P
theorem cOut_Q : fQ (cOut k c) = fQ c := by unfold cOut; split; exact cLin_Q; rw [fQ_uI]; exact cLin_Q
theorem cOut_N : fN (cOut k c) = fN c := by unfold cOut; split; exact cLin_N; rw [fN_uI]; exact cLin_N
theorem cOut_I {t : Nat} (h : t ≠ 7) : fI (cOut k c) t = fI c t := by unfold cOut; split; rw [cLin_I]; rw [fI_ne h, cLin_I]
theorem cOut_L {t l : Nat} : fL (cOut k c) t l = if fQ c k = some (t, l) then (fL c t l).erase k else fL c t l := by unfold cOut; split; exact cLin_L; rw [fL_uI]; exact cLin_L
theorem cOut_7 {b j : Nat} : fI (cOut k c) 7 b j = if fP c 9 k 5 = some b ∧ j = (fI c 9 k 6).toNatClampNeg then fI c 7 b j + 1 else fI c 7 b j := by
  unfold cOut
  split
  · rename_i h
    rw [h, cLin_I, if_neg (fun z => by cases z.1)]
  · rename_i b' h
    rw [h, fI_at, cLin_I]
    by_cases e : b = b' ∧ j = (fI c 9 k 6).toNatClampNeg
    · rw [if_pos e, if_pos ⟨by rw [e.1], e.2⟩, e.1, ← e.2]
    · rw [if_neg e, if_neg (fun z => e ⟨(Option.some.inj z.1).symm, z.2⟩)]
theorem cMv_X : fX (cMv k w a D q ck c) = fX c := by unfold cMv; split <;> exact cOut_X
theorem cMv_N : fN (cMv k w a D q ck c) = fN c := by unfold cMv; split <;> exact cOut_N
theorem cMv_I {t : Nat} (h : t ≠ 9) : fI (cMv k w a D q ck c) t = fI (cOut k c) t := by
  unfold cMv cMv0
  split <;> (first | rw [fI_uL, fI_ne h] | rw [fI_ne h]) <;> rw [fI_uQ, fI_uP, fI_ne h, fI_ne h, fI_ne h, fI_ne h, fI_uP]
theorem cMv_P {t : Nat} (h : t ≠ 9) : fP (cMv k w a D q ck c) t = fP c t := by
  unfold cMv cMv0
  split <;> (simp only [fP_uL, fP_uQ, fP_uI]; rw [fP_ne h]; simp only [fP_uI]; rw [fP_ne h, cOut_P])
theorem cMv_9 {j : Nat} : fI (cMv k w a D q ck c) 9 k j = if j = 2 then ck else if j = 1 then a else if j = 0 then w else if j = 7 then 0 else if j = 6 then 0 else fI c 9 k j := by
  unfold cMv cMv0
  split <;> (simp only [fI_uL, fI_uQ, fI_uP, fI_at, true_and, cOut_I (show (9 : Nat) ≠ 7 by decide)])
theorem cMv_9n {k' j : Nat} (h : k' ≠ k) : fI (cMv k w a D q ck c) 9 k' j = fI c 9 k' j := by
  unfold cMv cMv0
  split <;> (simp only [fI_uL, fI_uQ, fI_uP, fI_at, h, false_and, if_false, cOut_I (show (9 : Nat) ≠ 7 by decide)])
theorem cMv_P3 : fP (cMv k w a D q ck c) 9 k 3 = D := by
  unfold cMv cMv0
  split <;> (simp only [fP_uL, fP_uQ, fP_uI, fP_at, and_self, if_true])
theorem cMv_P5 : fP (cMv k w a D q ck c) 9 k 5 = none := by
  unfold cMv cMv0
  split <;> (simp only [fP_uL, fP_uQ, fP_uI, fP_at, and_self, if_true, show ¬ (5 : Nat) = 3 by decide, and_false, if_false])
theorem cMv_Pn {k' j : Nat} (h : k' ≠ k) : fP (cMv k w a D q ck c) 9 k' j = fP c 9 k' j := by
  unfold cMv cMv0
  split <;> (simp only [fP_uL, fP_uQ, fP_uI, fP_at, h, false_and, if_false, cOut_P])
theorem cMv_Q : fQ (cMv k w a D q ck c) k = q := by
  unfold cMv cMv0
  split <;> (simp only [fQ_uL, fQ_uI, fQ_uQ, up1, if_true])
theorem cMv_Qn {k' : Nat} (h : k' ≠ k) : fQ (cMv k w a D q ck c) k' = fQ c k' := by
  unfold cMv cMv0
  split <;> (simp only [fQ_uL, fQ_uI, fQ_uQ, fQ_uP, up1, h, if_false, cOut_Q])
theorem cMv_L {t l : Nat} : fL (cMv k w a D q ck c) t l = if q = some (t, l) then fL (cOut k c) t l ++ [k] else fL (cOut k c) t l := by
  unfold cMv
  split
  · rw [if_neg (by intro z; cases z)]
    rfl
  · rename_i p
    by_cases e : p = (t, l)
    · subst e
      rw [if_pos rfl, fL_at, if_pos rfl]
    · rw [if_neg (fun z => e (Option.some.inj z))]
      by_cases e1 : t = p.1
      · subst e1
        rw [fL_at, if_neg (fun z => e (by rw [z]))]
        rfl
      · rw [fL_ne e1]
        rfl
end AC
theorem fst_ix (k : Nat) : ∀ L : List Nat, k ∈ L → ∃ n, L[n]? = some k ∧ (∀ j, j < n → L[j]? ≠ some k) ∧ L.eraseIdx n = L.erase k
  | [], h => by cases h
  | x :: L, h => by
    by_cases e : x = k
    · subst e
      exact ⟨0, rfl, fun j hj => absurd hj (Nat.not_lt_zero j), by simp⟩
    · obtain ⟨n, h1, h2, h3⟩ := fst_ix k L (by
        rcases List.mem_cons.mp h with z | z
        · exact absurd z.symm e
        · exact z)
      refine ⟨n + 1, h1, fun j hj => ?_, ?_⟩
      · cases j with
        | zero => intro z; exact e (Option.some.inj z)
        | succ j => exact h2 j (by omega)
      · rw [List.erase_cons_tail (by simpa using e)]
        show x :: L.eraseIdx n = _
        rw [h3]
theorem ix56 {t l k n : Nat} {s : nS} (ht : nLt t = 26) (hn : (fL s.1 t l)[n]? = some k) (hf : ∀ j, j < n → (fL s.1 t l)[j]? ≠ some k) (hl : (fL s.1 t l).length < 1000) : ∀ (m i : Nat), i + m = n → R1 xs nx 56 2 [some (vL (some (t, l))), some (vR 26 (some k)), some (vI (iN i))] [] s = some (.inl (some (vI (iN n))), s) := by
  have hlt : n < (fL s.1 t l).length := by
    rcases Nat.lt_or_ge n (fL s.1 t l).length with z | z
    · exact z
    · rw [List.getElem?_eq_none z] at hn; cases hn
  intro m
  induction m with
  | zero =>
    intro i e
    have : i = n := by omega
    subst this
    rw [d_56_2, if_pos ((iN_lt (by omega) (by omega)).mpr hlt), if_neg (iN_pos (by omega)), i32_nat (by omega), hn, nn_some, ht, ntg_self, if_pos rfl]
  | succ m ih =>
    intro i e
    have hi : (fL s.1 t l)[i]? = some (fL s.1 t l)[i] := List.getElem?_eq_getElem (by omega)
    have hne := hf i (by omega)
    rw [d_56_2, if_pos ((iN_lt (by omega) (by omega)).mpr (by omega)), if_neg (iN_pos (by omega)), i32_nat (by omega), hi, nn_some, ht, ntg_self, if_neg (by rw [← hi]; exact hne), iN_add1]
    exact ih (i + 1) (by omega)
theorem mv57 {k : Nat} {w a ck : Int32} {D : Option Nat} {q : Option (Nat × Nat)} {c : nC} {z : nM × Nat × (Nat → Int64)}
    (hq : ∀ p, fQ c k = some p → nLt p.1 = 26 ∧ k ∈ fL c p.1 p.2 ∧ (fL c p.1 p.2).length < 400) (hb : ∀ b, fP c 9 k 5 = some b → ∃ j, 1 ≤ j ∧ j < 4 ∧ fI c 9 k 6 = iN j)
    (hn : ∀ p, q = some p → nLt p.1 = 26 ∧ (fL (cOut k c) p.1 p.2).length < 500) : R1 xs nx 57 0 [some (vR 26 (some k)), some (vI w), some (vI a), some (vR 21 D), some (vL q), some (vI ck), none, none] [] (c, z) = some (.inl none, (cMv k w a D q ck c, z)) := by
  have h82 : ∀ (q6 : Option (Nat × Nat)) (a7 : Int32), R1 xs nx 57 82 [some (vR 26 (some k)), some (vI w), some (vI a), some (vR 21 D), some (vL q), some (vI ck), some (vL q6), some (vI a7)] [] (cOut k c, z) = some (.inl none, (cMv k w a D q ck c, z)) := by
    intro q6 a7
    rw [d_57_82]
    cases q with
    | none => rfl
    | some p =>
      obtain ⟨h1, h2⟩ := hn p rfl
      show ntg 26 (nLt p.1) (if (fL (cOut k c) p.1 p.2).length < 500 then _ else none) = _
      rw [h1, ntg_self, if_pos h2]
      rfl
  have h54 : ∀ (q6 : Option (Nat × Nat)) (a7 : Int32), R1 xs nx 57 54 [some (vR 26 (some k)), some (vI w), some (vI a), some (vR 21 D), some (vL q), some (vI ck), some (vL q6), some (vI a7)] [] (cLin k c, z) = some (.inl none, (cMv k w a D q ck c, z)) := by
    intro q6 a7
    rw [d_57_54]
    show nz (fP (cLin k c) 9 k 5) _ _ = _
    rw [cLin_P]
    cases h : fP c 9 k 5 with
    | none =>
      have e : cLin k c = cOut k c := by unfold cOut; rw [h]
      rw [e]
      exact h82 q6 a7
    | some b =>
      obtain ⟨j, j1, j2, hj⟩ := hb b h
      have e : cOut k c = uI 7 b j (fI (cLin k c) 7 b j + 1) (cLin k c) := by unfold cOut; rw [h, cLin_I, hj, i32_nat (show j < 2 ^ 31 by omega)]
      show bV (R1 xs nx 54 0 [some (vR 28 (some b)), some (vI (fI (cLin k c) 9 k 6)), some (vI (1 : Int32))] [] (cLin k c, z)) _ _ = _
      rw [cLin_I, hj, d_54_0, if_neg (iN_pos (by omega)), if_pos (show iN j < (4 : Int32) from (iN_lt (b := 4) (by omega) (by omega)).mpr j2), if_pos (iN_in j2 (by decide)), if_pos (iN_in j2 (by decide)), i32_nat (show j < 2 ^ 31 by omega)]
      show R1 xs nx 57 82 _ [] (uI 7 b j (fI (cLin k c) 7 b j + 1) (cLin k c), z) = _
      rw [← e]
      exact h82 q6 a7
  rw [d_57_0]
  show nzL (fQ c k) _ _ = _
  cases h : fQ c k with
  | none =>
    show R1 xs nx 57 24 _ _ _ = _
    rw [d_57_24]
    show R1 xs nx 57 54 _ _ _ = _
    have e : cLin k c = c := by unfold cLin; rw [h]
    have h9 := h54 none (-1)
    rw [e] at h9
    exact h9
  | some p =>
    obtain ⟨h1, h2, h3⟩ := hq p h
    obtain ⟨n, n1, n2, n3⟩ := fst_ix k _ h2
    have hlt : n < (fL c p.1 p.2).length := by
      rcases Nat.lt_or_ge n (fL c p.1 p.2).length with z | z
      · exact z
      · rw [List.getElem?_eq_none z] at n1; cases n1
    have hx := ix56 (xs := xs) (nx := nx) (s := (c, z)) h1 n1 n2 (show (fL c p.1 p.2).length < 1000 by omega) n 0 (Nat.zero_add _)
    show bI (R1 xs nx 56 0 [some (vL (some p)), some (vR 26 (some k)), none] [] (c, z)) _ _ = _
    rw [show (some p : Option (Nat × Nat)) = some (p.1, p.2) from rfl, d_56_0, show (0 : Int32) = iN 0 from rfl, hx]
    show R1 xs nx 57 24 _ [(vI (iN n))] (c, z) = _
    rw [d_57_24]
    show (if iN n < 0 then _ else if iN n < iN (fL c p.1 p.2).length then (if iN n < 0 then none else nn ((fL c p.1 p.2)[(iN n).toNatClampNeg]?) _) else _) = _
    rw [if_neg (iN_pos (by omega)), if_pos ((iN_lt (by omega) (by omega)).mpr hlt), if_neg (iN_pos (by omega)), i32_nat (by omega), n1, nn_some, n3]
    have e : cLin k c = uL p.1 p.2 ((fL c p.1 p.2).erase k) c := by unfold cLin; rw [h]
    have h9 := h54 (some p) (iN n)
    rw [e] at h9
    exact h9
theorem r190 {k : Nat} {w a : Int32} {s : nS} (hk : k < 40) : R1 xs nx 190 0 [some (vR 1 (some 0)), some (vI (iN k)), some (vI w), some (vI a)] [] s = some (.inl none, (s.1, mMv k w a s.2.1, s.2.2)) := by
  rw [d_190_0, if_pos (iN_in40 hk), if_pos (iN_in40 hk), if_pos (iN_in40 hk), i32_nat (by omega)]
  rfl
end OPN
end KAP
