/-! ===== isNet: made by wip/p46/gen2/mk98zr.py ===== -/
/-- what a part of the law comes to, if all holds -/
def lRes (xs : Nat → Int32) (nx : Nat) (y : Nat) (L : nLs) (i n : Nat) (c : nC) (m a : nM) (q : Nat) (J : Nat → Int64) : Prop := ∃ (κ' : kP) (i' : Nat) (c' : nC) (m' a' : nM) (q' : Nat), i ≤ i' ∧ i' ≤ i + n ∧ q' ≤ q + n ∧ nJ κ' i' c' m' ∧ pA κ' a' ∧ m' 1 0 = m 1 0 ∧ a' 80 5 = a 80 5 ∧ R1 xs nx y 0 L [] (c, a, q, J) = nVl 1 c' (a', q', J)
def pC (c : nC) (cp : Nat → Int32) (a : nM) : Prop := pA (kNet 0 cp c) a
theorem nwL {c c' : nC} {d t : Nat} {a3 a4 : Int32} (e : c' = uL 14 0 (List.range (fN c 23) ++ [fN c 23]) (uI 23 (fN c 23) 12 (-1) (uI 23 (fN c 23) 11 1 (uI 23 (fN c 23) 10 1 (uI 23 (fN c 23) 9 1 (uI 23 (fN c 23) 8 0 (uI 23 (fN c 23) 7 10 (uI 23 (fN c 23) 4 a4 (uI 23 (fN c 23) 3 a3 (uX 23 (fN c 23) 2 t (uX 23 (fN c 23) 1 d (uL 6 (fN c 23) [] (uL 5 (fN c 23) [] (uN 23 (fN c 23 + 1) c)))))))))))))) : fN c' 23 = fN c 23 + 1 ∧ (∀ t, t ≠ 23 → fN c' t = fN c t) ∧ (∀ l, fX c' 23 l 1 = if l = fN c 23 then d else fX c 23 l 1) ∧ (∀ l, fX c' 23 l 2 = if l = fN c 23 then t else fX c 23 l 2) ∧ (∀ l, fI c' 23 l 3 = if l = fN c 23 then a3 else fI c 23 l 3) ∧ (∀ t, t ≠ 23 → fX c' t = fX c t) ∧ ∀ t, t ≠ 23 → fI c' t = fI c t := by
  subst e
  refine ⟨?_, fun t h => ?_, fun l => ?_, fun l => ?_, fun l => ?_, fun t h => ?_, fun t h => ?_⟩
  · simp only [fN_uL, fN_uI, fN_uX, fN_at]
  · simp only [fN_uL, fN_uI, fN_uX, fN_ne h]
  · simp [fX_uL, fX_uI, fX_at, fX_uN]
  · simp [fX_uL, fX_uI, fX_at, fX_uN]
  · simp [fI_uL, fI_uX, fI_at, fI_uN]
  · simp only [fX_uL, fX_uI, fX_ne h, fX_uN]
  · simp only [fI_uL, fI_uX, fI_ne h, fI_uN]
theorem nwA {c c' : nC} {d : Nat} {a2 : Int32} (e : c' = uL 15 0 (List.range (fN c 24) ++ [fN c 24]) (uI 24 (fN c 24) 3 0 (uI 24 (fN c 24) 2 0 (uI 24 (fN c 24) 1 a2 (uX 24 (fN c 24) 0 d (uN 24 (fN c 24 + 1) c)))))) : fN c' 24 = fN c 24 + 1 ∧ (∀ t, t ≠ 24 → fN c' t = fN c t) ∧ (∀ l, fX c' 24 l 0 = if l = fN c 24 then d else fX c 24 l 0) ∧ (∀ t, t ≠ 24 → fX c' t = fX c t) ∧ ∀ t, t ≠ 24 → fI c' t = fI c t := by
  subst e
  refine ⟨?_, fun t h => ?_, fun l => ?_, fun t h => ?_, fun t h => ?_⟩
  · simp only [fN_uL, fN_uI, fN_uX, fN_at]
  · simp only [fN_uL, fN_uI, fN_uX, fN_ne h]
  · simp [fX_uL, fX_uI, fX_at, fX_uN]
  · simp only [fX_uL, fX_uI, fX_ne h, fX_uN]
  · simp only [fI_uL, fI_uX, fI_ne h, fI_uN]
theorem nwV {c c' : nC} {d : Nat} {a2 a3 : Int32} (e : c' = uL 17 0 (List.range (fN c 27) ++ [fN c 27]) (uI 27 (fN c 27) 6 0 (uI 27 (fN c 27) 5 0 (uI 27 (fN c 27) 3 a3 (uI 27 (fN c 27) 2 a2 (uX 27 (fN c 27) 1 d (uL 11 (fN c 27) [] (uN 27 (fN c 27 + 1) c)))))))) : fN c' 27 = fN c 27 + 1 ∧ (∀ t, t ≠ 27 → fN c' t = fN c t) ∧ (∀ l, fX c' 27 l 1 = if l = fN c 27 then d else fX c 27 l 1) ∧ (∀ l, fI c' 27 l 3 = if l = fN c 27 then a3 else fI c 27 l 3) ∧ (∀ t, t ≠ 27 → fX c' t = fX c t) ∧ ∀ t, t ≠ 27 → fI c' t = fI c t := by
  subst e
  refine ⟨?_, fun t h => ?_, fun l => ?_, fun l => ?_, fun t h => ?_, fun t h => ?_⟩
  · simp only [fN_uL, fN_uI, fN_uX, fN_at]
  · simp only [fN_uL, fN_uI, fN_uX, fN_ne h]
  · simp [fX_uL, fX_uI, fX_at, fX_uN]
  · simp [fI_uL, fI_uX, fI_at, fI_uN]
  · simp only [fX_uL, fX_uI, fX_ne h, fX_uN]
  · simp only [fI_uL, fI_uX, fI_ne h, fI_uN]
theorem nwK {c c' : nC} {d : Nat} {a2 a3 a4 : Int32} (e : c' = uL 18 0 (List.range (fN c 28) ++ [fN c 28]) (uW 7 (fN c 28) (upd (upd (upd (upd (fun _ => 0) 0 0) 1 a2) 2 a3) 3 a4) (uX 28 (fN c 28) 1 d (uN 28 (fN c 28 + 1) c)))) : fN c' 28 = fN c 28 + 1 ∧ (∀ t, t ≠ 28 → fN c' t = fN c t) ∧ (∀ l, fX c' 28 l 1 = if l = fN c 28 then d else fX c 28 l 1) ∧ (∀ t, t ≠ 28 → fX c' t = fX c t) ∧ ∀ t, t ≠ 7 → fI c' t = fI c t := by
  subst e
  refine ⟨?_, fun t h => ?_, fun l => ?_, fun t h => ?_, fun t h => ?_⟩
  · simp only [fN_uL, fN_uW, fN_uX, fN_at]
  · simp only [fN_uL, fN_uW, fN_uX, fN_ne h]
  · simp [fX_uL, fX_uW, fX_at, fX_uN]
  · simp only [fX_uL, fX_uW, fX_ne h, fX_uN]
  · simp only [fI_uL, fI_uX, fI_Wn h, fI_uN]
section KAP
variable {κ : kP}
section NET
variable {xs : Nat → Int32} {nx : Nat} {i : Nat} {c : nC} {m a : nM} {q : Nat} {J : Nat → Int64}
theorem pA_C (hJ : nJ κ i c m) : pA κ a ↔ pC c κ.2.2.2.2.2.2.2.2 a := by
  obtain ⟨⟨k1, k2, k3, k4, k5⟩, k6, k7, k8, k9, k10, k11, -⟩ := nJ_k hJ
  unfold pC pA kNet
  simp only [k1, k2, k3, k4, k5, k6, k7, k8, k9, k10, k11]
theorem pA_l {c' : nC} {cp : Nat → Int32} {d t H X : Nat} {a3 : Int32} {κH : Nat} (hA : pC c cp a) (hn : fN c 23 < 12) (h1 : fN c' 23 = fN c 23 + 1) (h2 : ∀ t, t ≠ 23 → fN c' t = fN c t) (h3 : ∀ l, fX c' 23 l 1 = if l = fN c 23 then d else fX c 23 l 1) (h4 : ∀ l, fX c' 23 l 2 = if l = fN c 23 then t else fX c 23 l 2) (h5 : ∀ l, fI c' 23 l 3 = if l = fN c 23 then a3 else fI c 23 l 3) (h6 : ∀ t, t ≠ 23 → fX c' t = fX c t) (h7 : ∀ t, t ≠ 23 → fI c' t = fI c t) (hH : H ≤ 24) (hX : X ≤ 1) (eH : a3 = iN H) : pA (kNet κH cp c') (uM 80 0 (a 80 0 + 1) (uM 35 (fN c 23) (iN (wN d t H X)) a)) := by
  obtain ⟨⟨b0, b1, b2, b3, b4⟩, b5, b6, b7, b8⟩ := hA
  have b0 : a 80 0 = iN (fN c 23) := b0
  refine ⟨⟨?_, ?_, ?_, ?_, ?_⟩, fun l hl => ?_, fun l hl => ?_, fun l hl => ?_, fun l hl => ?_⟩
  · show uM 80 0 _ _ 80 0 = iN (fN c' 23)
    rw [uM_kk, b0, h1, iN_add1]
  · show uM 80 0 _ _ 80 1 = iN (fN c' 24)
    rw [uM_k (by decide), uM_ne (by decide), h2 24 (by decide)]
    exact b1
  · show uM 80 0 _ _ 80 2 = iN (fN c' 26)
    rw [uM_k (by decide), uM_ne (by decide), h2 26 (by decide)]
    exact b2
  · show uM 80 0 _ _ 80 3 = iN (fN c' 27)
    rw [uM_k (by decide), uM_ne (by decide), h2 27 (by decide)]
    exact b3
  · show uM 80 0 _ _ 80 4 = iN (fN c' 28)
    rw [uM_k (by decide), uM_ne (by decide), h2 28 (by decide)]
    exact b4
  · have hl : l < fN c' 23 := hl
    rw [h1] at hl
    show ∃ H X, H ≤ 24 ∧ X ≤ 1 ∧ fI c' 23 l 3 = iN H ∧ uM 80 0 _ _ 35 l = iN (wN (fX c' 23 l 1) (fX c' 23 l 2) H X)
    rw [h3, h4, h5, uM_ne (by decide), uM_at]
    by_cases e : l = fN c 23
    · rw [if_pos e, if_pos e, if_pos e, if_pos e]
      exact ⟨H, X, hH, hX, eH, rfl⟩
    · rw [if_neg e, if_neg e, if_neg e, if_neg e]
      exact b5 l (show l < fN c 23 by omega)
  · show uM 80 0 _ _ 45 l = iN (fX c' 24 l 0)
    rw [uM_ne (by decide), uM_ne (by decide), h6 24 (by decide)]
    exact b6 l (by rw [show (kNet κH cp c').2.1 24 = fN c' 24 from rfl, h2 24 (by decide)] at hl; exact hl)
  · show ∃ S, S ≤ 23 ∧ fI c' 27 l 3 = iN S ∧ uM 80 0 _ _ 79 l = iN (fX c' 27 l 1 + 10 * S)
    rw [uM_ne (by decide), uM_ne (by decide), h6 27 (by decide), h7 27 (by decide)]
    exact b7 l (by rw [show (kNet κH cp c').2.1 27 = fN c' 27 from rfl, h2 27 (by decide)] at hl; exact hl)
  · show ∃ C, C ≤ 15 ∧ cp l = iN C ∧ uM 80 0 _ _ 29 l = iN (fX c' 28 l 1 + 10 * C)
    rw [uM_ne (by decide), uM_ne (by decide), h6 28 (by decide)]
    exact b8 l (by rw [show (kNet κH cp c').2.1 28 = fN c' 28 from rfl, h2 28 (by decide)] at hl; exact hl)
theorem pA_a {c' : nC} {cp : Nat → Int32} {d : Nat} {κH : Nat} (hA : pC c cp a) (h1 : fN c' 24 = fN c 24 + 1) (h2 : ∀ t, t ≠ 24 → fN c' t = fN c t) (h3 : ∀ l, fX c' 24 l 0 = if l = fN c 24 then d else fX c 24 l 0) (h6 : ∀ t, t ≠ 24 → fX c' t = fX c t) (h7 : ∀ t, t ≠ 24 → fI c' t = fI c t) : pA (kNet κH cp c') (uM 80 1 (a 80 1 + 1) (uM 45 (fN c 24) (iN d) a)) := by
  obtain ⟨⟨b0, b1, b2, b3, b4⟩, b5, b6, b7, b8⟩ := hA
  have b1 : a 80 1 = iN (fN c 24) := b1
  refine ⟨⟨?_, ?_, ?_, ?_, ?_⟩, fun l hl => ?_, fun l hl => ?_, fun l hl => ?_, fun l hl => ?_⟩
  · show uM 80 1 _ _ 80 0 = iN (fN c' 23)
    rw [uM_k (by decide), uM_ne (by decide), h2 23 (by decide)]
    exact b0
  · show uM 80 1 _ _ 80 1 = iN (fN c' 24)
    rw [uM_kk, b1, h1, iN_add1]
  · show uM 80 1 _ _ 80 2 = iN (fN c' 26)
    rw [uM_k (by decide), uM_ne (by decide), h2 26 (by decide)]
    exact b2
  · show uM 80 1 _ _ 80 3 = iN (fN c' 27)
    rw [uM_k (by decide), uM_ne (by decide), h2 27 (by decide)]
    exact b3
  · show uM 80 1 _ _ 80 4 = iN (fN c' 28)
    rw [uM_k (by decide), uM_ne (by decide), h2 28 (by decide)]
    exact b4
  · show ∃ H X, H ≤ 24 ∧ X ≤ 1 ∧ fI c' 23 l 3 = iN H ∧ uM 80 1 _ _ 35 l = iN (wN (fX c' 23 l 1) (fX c' 23 l 2) H X)
    rw [uM_ne (by decide), uM_ne (by decide), h6 23 (by decide), h7 23 (by decide)]
    exact b5 l (by rw [show (kNet κH cp c').2.1 23 = fN c' 23 from rfl, h2 23 (by decide)] at hl; exact hl)
  · have hl : l < fN c' 24 := hl
    rw [h1] at hl
    show uM 80 1 _ _ 45 l = iN (fX c' 24 l 0)
    rw [h3, uM_ne (by decide), uM_at]
    by_cases e : l = fN c 24
    · rw [if_pos e, if_pos e]
    · rw [if_neg e, if_neg e]
      exact b6 l (show l < fN c 24 by omega)
  · show ∃ S, S ≤ 23 ∧ fI c' 27 l 3 = iN S ∧ uM 80 1 _ _ 79 l = iN (fX c' 27 l 1 + 10 * S)
    rw [uM_ne (by decide), uM_ne (by decide), h6 27 (by decide), h7 27 (by decide)]
    exact b7 l (by rw [show (kNet κH cp c').2.1 27 = fN c' 27 from rfl, h2 27 (by decide)] at hl; exact hl)
  · show ∃ C, C ≤ 15 ∧ cp l = iN C ∧ uM 80 1 _ _ 29 l = iN (fX c' 28 l 1 + 10 * C)
    rw [uM_ne (by decide), uM_ne (by decide), h6 28 (by decide)]
    exact b8 l (by rw [show (kNet κH cp c').2.1 28 = fN c' 28 from rfl, h2 28 (by decide)] at hl; exact hl)
theorem pA_v {c' : nC} {cp : Nat → Int32} {d S : Nat} {a3 : Int32} {κH : Nat} (hA : pC c cp a) (h1 : fN c' 27 = fN c 27 + 1) (h2 : ∀ t, t ≠ 27 → fN c' t = fN c t) (h3 : ∀ l, fX c' 27 l 1 = if l = fN c 27 then d else fX c 27 l 1) (h5 : ∀ l, fI c' 27 l 3 = if l = fN c 27 then a3 else fI c 27 l 3) (h6 : ∀ t, t ≠ 27 → fX c' t = fX c t) (h7 : ∀ t, t ≠ 27 → fI c' t = fI c t) (hS : S ≤ 23) (eS : a3 = iN S) : pA (kNet κH cp c') (uM 80 3 (a 80 3 + 1) (uM 79 (fN c 27) (iN (d + 10 * S)) a)) := by
  obtain ⟨⟨b0, b1, b2, b3, b4⟩, b5, b6, b7, b8⟩ := hA
  have b3 : a 80 3 = iN (fN c 27) := b3
  refine ⟨⟨?_, ?_, ?_, ?_, ?_⟩, fun l hl => ?_, fun l hl => ?_, fun l hl => ?_, fun l hl => ?_⟩
  · show uM 80 3 _ _ 80 0 = iN (fN c' 23)
    rw [uM_k (by decide), uM_ne (by decide), h2 23 (by decide)]
    exact b0
  · show uM 80 3 _ _ 80 1 = iN (fN c' 24)
    rw [uM_k (by decide), uM_ne (by decide), h2 24 (by decide)]
    exact b1
  · show uM 80 3 _ _ 80 2 = iN (fN c' 26)
    rw [uM_k (by decide), uM_ne (by decide), h2 26 (by decide)]
    exact b2
  · show uM 80 3 _ _ 80 3 = iN (fN c' 27)
    rw [uM_kk, b3, h1, iN_add1]
  · show uM 80 3 _ _ 80 4 = iN (fN c' 28)
    rw [uM_k (by decide), uM_ne (by decide), h2 28 (by decide)]
    exact b4
  · show ∃ H X, H ≤ 24 ∧ X ≤ 1 ∧ fI c' 23 l 3 = iN H ∧ uM 80 3 _ _ 35 l = iN (wN (fX c' 23 l 1) (fX c' 23 l 2) H X)
    rw [uM_ne (by decide), uM_ne (by decide), h6 23 (by decide), h7 23 (by decide)]
    exact b5 l (by rw [show (kNet κH cp c').2.1 23 = fN c' 23 from rfl, h2 23 (by decide)] at hl; exact hl)
  · show uM 80 3 _ _ 45 l = iN (fX c' 24 l 0)
    rw [uM_ne (by decide), uM_ne (by decide), h6 24 (by decide)]
    exact b6 l (by rw [show (kNet κH cp c').2.1 24 = fN c' 24 from rfl, h2 24 (by decide)] at hl; exact hl)
  · have hl : l < fN c' 27 := hl
    rw [h1] at hl
    show ∃ S, S ≤ 23 ∧ fI c' 27 l 3 = iN S ∧ uM 80 3 _ _ 79 l = iN (fX c' 27 l 1 + 10 * S)
    rw [h3, h5, uM_ne (by decide), uM_at]
    by_cases e : l = fN c 27
    · rw [if_pos e, if_pos e, if_pos e]
      exact ⟨S, hS, eS, rfl⟩
    · rw [if_neg e, if_neg e, if_neg e]
      exact b7 l (show l < fN c 27 by omega)
  · show ∃ C, C ≤ 15 ∧ cp l = iN C ∧ uM 80 3 _ _ 29 l = iN (fX c' 28 l 1 + 10 * C)
    rw [uM_ne (by decide), uM_ne (by decide), h6 28 (by decide)]
    exact b8 l (by rw [show (kNet κH cp c').2.1 28 = fN c' 28 from rfl, h2 28 (by decide)] at hl; exact hl)
theorem pA_k {c' : nC} {cp : Nat → Int32} {d C : Nat} {x : Int32} {κH : Nat} (hA : pC c cp a) (h1 : fN c' 28 = fN c 28 + 1) (h2 : ∀ t, t ≠ 28 → fN c' t = fN c t) (h3 : ∀ l, fX c' 28 l 1 = if l = fN c 28 then d else fX c 28 l 1) (h6 : ∀ t, t ≠ 28 → fX c' t = fX c t) (h7 : ∀ t, t ≠ 7 → fI c' t = fI c t) (hC : C ≤ 15) (eC : x = iN C) : pA (kNet κH (up1 cp (fN c 28) x) c') (uM 80 4 (a 80 4 + 1) (uM 29 (fN c 28) (iN (d + 10 * C)) a)) := by
  obtain ⟨⟨b0, b1, b2, b3, b4⟩, b5, b6, b7, b8⟩ := hA
  have b4 : a 80 4 = iN (fN c 28) := b4
  refine ⟨⟨?_, ?_, ?_, ?_, ?_⟩, fun l hl => ?_, fun l hl => ?_, fun l hl => ?_, fun l hl => ?_⟩
  · show uM 80 4 _ _ 80 0 = iN (fN c' 23)
    rw [uM_k (by decide), uM_ne (by decide), h2 23 (by decide)]
    exact b0
  · show uM 80 4 _ _ 80 1 = iN (fN c' 24)
    rw [uM_k (by decide), uM_ne (by decide), h2 24 (by decide)]
    exact b1
  · show uM 80 4 _ _ 80 2 = iN (fN c' 26)
    rw [uM_k (by decide), uM_ne (by decide), h2 26 (by decide)]
    exact b2
  · show uM 80 4 _ _ 80 3 = iN (fN c' 27)
    rw [uM_k (by decide), uM_ne (by decide), h2 27 (by decide)]
    exact b3
  · show uM 80 4 _ _ 80 4 = iN (fN c' 28)
    rw [uM_kk, b4, h1, iN_add1]
  · show ∃ H X, H ≤ 24 ∧ X ≤ 1 ∧ fI c' 23 l 3 = iN H ∧ uM 80 4 _ _ 35 l = iN (wN (fX c' 23 l 1) (fX c' 23 l 2) H X)
    rw [uM_ne (by decide), uM_ne (by decide), h6 23 (by decide), h7 23 (by decide)]
    exact b5 l (by rw [show (kNet κH (up1 cp (fN c 28) x) c').2.1 23 = fN c' 23 from rfl, h2 23 (by decide)] at hl; exact hl)
  · show uM 80 4 _ _ 45 l = iN (fX c' 24 l 0)
    rw [uM_ne (by decide), uM_ne (by decide), h6 24 (by decide)]
    exact b6 l (by rw [show (kNet κH (up1 cp (fN c 28) x) c').2.1 24 = fN c' 24 from rfl, h2 24 (by decide)] at hl; exact hl)
  · show ∃ S, S ≤ 23 ∧ fI c' 27 l 3 = iN S ∧ uM 80 4 _ _ 79 l = iN (fX c' 27 l 1 + 10 * S)
    rw [uM_ne (by decide), uM_ne (by decide), h6 27 (by decide), h7 27 (by decide)]
    exact b7 l (by rw [show (kNet κH (up1 cp (fN c 28) x) c').2.1 27 = fN c' 27 from rfl, h2 27 (by decide)] at hl; exact hl)
  · have hl : l < fN c' 28 := hl
    rw [h1] at hl
    show ∃ C, C ≤ 15 ∧ up1 cp (fN c 28) x l = iN C ∧ uM 80 4 _ _ 29 l = iN (fX c' 28 l 1 + 10 * C)
    rw [h3, uM_ne (by decide), uM_at]
    unfold up1
    by_cases e : l = fN c 28
    · rw [if_pos e, if_pos e, if_pos e]
      exact ⟨C, hC, eC, rfl⟩
    · rw [if_neg e, if_neg e, if_neg e]
      exact b8 l (show l < fN c 28 by omega)
/-! small numbers -/
theorem mdN {x : Nat} (n : Nat) (hx : x < 2 ^ 31) (hn : n < 2 ^ 31) : iN x - iN x / iN n * iN n = iN (x % n) := iN_mod hx hn
theorem isD_n {x : Nat} (hx : x < 5) : ∃ d, d < 5 ∧ iN x = iN d := ⟨x, hx, rfl⟩
theorem isD_5 : ¬ ∃ d, d < 5 ∧ (5 : Int32) = iN d := by
  rintro ⟨d, hd, e⟩
  have := (iN_inj (a := 5) (by omega) (by omega)).mp e
  omega
theorem ltN {x b : Nat} (hb : b < 2 ^ 31) (hx : x < 2 ^ 31) (h : b ≤ x) : ¬ iN x < iN b := iN_nlt h hx hb
/-- depots are five -/
theorem sorts5 : R1 xs nx 1 0 [some (vR 0 (some 0)), some (vI 0), some (vI 5), some (vI 0), some (vI 0), some (vI 0), some (vI 0), some (vI 0), none] [] (c, a, q, J) = nVl (-3000000) c (a, q + 1, J) := by
  have h : R1 xs nx 81 0 [some (vR 0 (some 0)), some (vI 5), some (vI 0), none, none] [] (c, a, q, J) = nTh 0 c (a, q, J) := by
    rw [d_81_0, p78n (a, q, J)]
    rfl
  rw [doR0, h]
  rfl
theorem nt958 (L7 L8 L9 : Int32) {v : Int32} (hv : ¬ v < 0) : R1 xs nx 8 958 [some (vR 0 (some 0)), some (vR 35 (some 0)), some (vR 45 (some 0)), some (vR 79 (some 0)), some (vR 29 (some 0)), some (vR 80 (some 0)), some (vI L7), some (vI L8), some (vI L9), none, none, none, none, none, none] [vI v] (c, a, q, J) = nVl 1 c (a, q + 1, J) := by
  rw [d_8_958, if_neg hv, sorts5, bI_Vl, if_pos rfl]
  rfl
theorem nIn_nn {v : Int32} {a b : Nat} (h : nIn v a b) (hb : b < 100000) : ¬ v < 0 := by
  obtain ⟨n, -, h2, rfl⟩ := h
  exact iN_pos (by omega)
end NET
end KAP
