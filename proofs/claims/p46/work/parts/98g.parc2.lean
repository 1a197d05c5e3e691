/-! ===== parcel: the call ===== -/
section KAP
variable {κ : kP}
section OPY
variable {xs : Nat → Int32} {nx : Nat}
theorem cOut_id {k : Nat} {c : nC} (h1 : fP c 9 k 5 = none) (h2 : fQ c k = none) : cOut k c = c := by
  unfold cOut cLin
  rw [h1]
  dsimp only
  rw [h2]
/-- the same customer's same reference -/
theorem hasR {i : Nat} {c : nC} {m : nM} (hJ : nJ κ i c m) {u : Nat} (hu : u < 4) (a2 : Int32) :
    nFst (fun k => decide (fP c 26 k 8 = some u ∧ fI c 26 k 9 = a2)) (fN c 26) 0 = nFst (fun k => decide (m 49 k = iN u ∧ m 50 k = a2)) (fN c 26) 0 := by
  apply nFst_cg
  intro k hk
  obtain ⟨⟨u', u1, u2, u3⟩, y2, -⟩ := hJ.2.2.2.2.2.1 k (by omega)
  apply decide_eq_decide.mpr
  rw [u2, u3, y2.1, Option.some.injEq, iN_inj (by omega) (by omega)]
theorem iN_100 {t : Nat} : iN t + (100 : Int32) = iN (t + 100) := i32_add (b := 100)
section PB
variable {k sd r : Nat} {sz ex told : Int32} {c : nC}
theorem pI_26_2 : fI (nParcel k sd r sz ex told c) 26 k 2 = sz := by
  unfold nParcel
  simp (disch := decide) only [fI_ne, fI_k, fI_uX, fI_uP, fI_uL, fI_uQ, fI_uN, fX_ne, fX_k, fX_uI, fX_uP, fX_uL, fX_uQ, fX_uN, fP_ne, fP_k, fP_uI, fP_uX, fP_uL, fP_uQ, fP_uN]
  rfl
theorem pI_26_3 : fI (nParcel k sd r sz ex told c) 26 k 3 = ex := by
  unfold nParcel
  simp (disch := decide) only [fI_ne, fI_k, fI_uX, fI_uP, fI_uL, fI_uQ, fI_uN, fX_ne, fX_k, fX_uI, fX_uP, fX_uL, fX_uQ, fX_uN, fP_ne, fP_k, fP_uI, fP_uX, fP_uL, fP_uQ, fP_uN]
  rfl
theorem pI_26_4 : fI (nParcel k sd r sz ex told c) 26 k 4 = told := by
  unfold nParcel
  simp (disch := decide) only [fI_ne, fI_k, fI_uX, fI_uP, fI_uL, fI_uQ, fI_uN, fX_ne, fX_k, fX_uI, fX_uP, fX_uL, fX_uQ, fX_uN, fP_ne, fP_k, fP_uI, fP_uX, fP_uL, fP_uQ, fP_uN]
  rfl
theorem pI_26_9 : fI (nParcel k sd r sz ex told c) 26 k 9 = 0 := by
  unfold nParcel
  simp (disch := decide) only [fI_ne, fI_k, fI_uX, fI_uP, fI_uL, fI_uQ, fI_uN, fX_ne, fX_k, fX_uI, fX_uP, fX_uL, fX_uQ, fX_uN, fP_ne, fP_k, fP_uI, fP_uX, fP_uL, fP_uQ, fP_uN]
  rfl
theorem pI_26_12 : fI (nParcel k sd r sz ex told c) 26 k 12 = 0 := by
  unfold nParcel
  simp (disch := decide) only [fI_ne, fI_k, fI_uX, fI_uP, fI_uL, fI_uQ, fI_uN, fX_ne, fX_k, fX_uI, fX_uP, fX_uL, fX_uQ, fX_uN, fP_ne, fP_k, fP_uI, fP_uX, fP_uL, fP_uQ, fP_uN]
  rfl
theorem pI_26_13 : fI (nParcel k sd r sz ex told c) 26 k 13 = 24 := by
  unfold nParcel
  simp (disch := decide) only [fI_ne, fI_k, fI_uX, fI_uP, fI_uL, fI_uQ, fI_uN, fX_ne, fX_k, fX_uI, fX_uP, fX_uL, fX_uQ, fX_uN, fP_ne, fP_k, fP_uI, fP_uX, fP_uL, fP_uQ, fP_uN]
  rfl
theorem pI_26_14 : fI (nParcel k sd r sz ex told c) 26 k 14 = told + 100 := by
  unfold nParcel
  simp (disch := decide) only [fI_ne, fI_k, fI_uX, fI_uP, fI_uL, fI_uQ, fI_uN, fX_ne, fX_k, fX_uI, fX_uP, fX_uL, fX_uQ, fX_uN, fP_ne, fP_k, fP_uI, fP_uX, fP_uL, fP_uQ, fP_uN]
  rfl
theorem pI_26_15 : fI (nParcel k sd r sz ex told c) 26 k 15 = 0 := by
  unfold nParcel
  simp (disch := decide) only [fI_ne, fI_k, fI_uX, fI_uP, fI_uL, fI_uQ, fI_uN, fX_ne, fX_k, fX_uI, fX_uP, fX_uL, fX_uQ, fX_uN, fP_ne, fP_k, fP_uI, fP_uX, fP_uL, fP_uQ, fP_uN]
  rfl
theorem pI_26_16 : fI (nParcel k sd r sz ex told c) 26 k 16 = 0 := by
  unfold nParcel
  simp (disch := decide) only [fI_ne, fI_k, fI_uX, fI_uP, fI_uL, fI_uQ, fI_uN, fX_ne, fX_k, fX_uI, fX_uP, fX_uL, fX_uQ, fX_uN, fP_ne, fP_k, fP_uI, fP_uX, fP_uL, fP_uQ, fP_uN]
  rfl
theorem pI_26_17 : fI (nParcel k sd r sz ex told c) 26 k 17 = 1 := by
  unfold nParcel
  simp (disch := decide) only [fI_ne, fI_k, fI_uX, fI_uP, fI_uL, fI_uQ, fI_uN, fX_ne, fX_k, fX_uI, fX_uP, fX_uL, fX_uQ, fX_uN, fP_ne, fP_k, fP_uI, fP_uX, fP_uL, fP_uQ, fP_uN]
  rfl
theorem pI_8_0 : fI (nParcel k sd r sz ex told c) 8 k 0 = 0 := by
  unfold nParcel
  simp (disch := decide) only [fI_ne, fI_k, fI_uX, fI_uP, fI_uL, fI_uQ, fI_uN, fX_ne, fX_k, fX_uI, fX_uP, fX_uL, fX_uQ, fX_uN, fP_ne, fP_k, fP_uI, fP_uX, fP_uL, fP_uQ, fP_uN]
  rfl
theorem pI_8_1 : fI (nParcel k sd r sz ex told c) 8 k 1 = 0 := by
  unfold nParcel
  simp (disch := decide) only [fI_ne, fI_k, fI_uX, fI_uP, fI_uL, fI_uQ, fI_uN, fX_ne, fX_k, fX_uI, fX_uP, fX_uL, fX_uQ, fX_uN, fP_ne, fP_k, fP_uI, fP_uX, fP_uL, fP_uQ, fP_uN]
  rfl
theorem pI_8_2 : fI (nParcel k sd r sz ex told c) 8 k 2 = 0 := by
  unfold nParcel
  simp (disch := decide) only [fI_ne, fI_k, fI_uX, fI_uP, fI_uL, fI_uQ, fI_uN, fX_ne, fX_k, fX_uI, fX_uP, fX_uL, fX_uQ, fX_uN, fP_ne, fP_k, fP_uI, fP_uX, fP_uL, fP_uQ, fP_uN]
  rfl
theorem pI_8_3 : fI (nParcel k sd r sz ex told c) 8 k 3 = 0 := by
  unfold nParcel
  simp (disch := decide) only [fI_ne, fI_k, fI_uX, fI_uP, fI_uL, fI_uQ, fI_uN, fX_ne, fX_k, fX_uI, fX_uP, fX_uL, fX_uQ, fX_uN, fP_ne, fP_k, fP_uI, fP_uX, fP_uL, fP_uQ, fP_uN]
  rfl
theorem pI_8_4 : fI (nParcel k sd r sz ex told c) 8 k 4 = 0 := by
  unfold nParcel
  simp (disch := decide) only [fI_ne, fI_k, fI_uX, fI_uP, fI_uL, fI_uQ, fI_uN, fX_ne, fX_k, fX_uI, fX_uP, fX_uL, fX_uQ, fX_uN, fP_ne, fP_k, fP_uI, fP_uX, fP_uL, fP_uQ, fP_uN]
  rfl
theorem pX_26_1 : fX (nParcel k sd r sz ex told c) 26 k 1 = sd := by
  unfold nParcel
  simp (disch := decide) only [fI_ne, fI_k, fI_uX, fI_uP, fI_uL, fI_uQ, fI_uN, fX_ne, fX_k, fX_uI, fX_uP, fX_uL, fX_uQ, fX_uN, fP_ne, fP_k, fP_uI, fP_uX, fP_uL, fP_uQ, fP_uN]
  rfl
theorem pX_26_10 : fX (nParcel k sd r sz ex told c) 26 k 10 = r := by
  unfold nParcel
  simp (disch := decide) only [fI_ne, fI_k, fI_uX, fI_uP, fI_uL, fI_uQ, fI_uN, fX_ne, fX_k, fX_uI, fX_uP, fX_uL, fX_uQ, fX_uN, fP_ne, fP_k, fP_uI, fP_uX, fP_uL, fP_uQ, fP_uN]
  rfl
theorem pP_26_11 : fP (nParcel k sd r sz ex told c) 26 k 11 = none := by
  unfold nParcel
  simp (disch := decide) only [fI_ne, fI_k, fI_uX, fI_uP, fI_uL, fI_uQ, fI_uN, fX_ne, fX_k, fX_uI, fX_uP, fX_uL, fX_uQ, fX_uN, fP_ne, fP_k, fP_uI, fP_uX, fP_uL, fP_uQ, fP_uN]
  rfl
end PB
theorem parcJ {i k u sd r d : Nat} {a2 a5 a6 : Int32} {c : nC} {m : nM} (hJ : nJ κ i c m) (hi : i % 100000 < 90000) (hk : fN c 26 = k) (h40 : k < 40) (hu : u < 4) (hs : sd < fN c 24) (hr : r < fN c 24) (h2 : nIn a2 0 999) (h5 : nIn a5 1 3) (h6 : a6 = 0 ∨ a6 = 1) (hd : fX c 24 sd 0 = d) (hU : ∀ j, j < k → m 49 j = iN u → m 50 j ≠ a2) :
    nJ (kNet κ.1 κ.2.2.2.2.2.2.2.2 (cMv k 0 (iN d) (some d) (some (3, d)) (m 1 0) (uL 16 0 (fL c 16 0 ++ [k]) (uI 26 k 9 a2 (uP 26 k 8 (some u) (nParcel k sd r a5 a6 (m 1 0) c)))))) (i + 1) (cMv k 0 (iN d) (some d) (some (3, d)) (m 1 0) (uL 16 0 (fL c 16 0 ++ [k]) (uI 26 k 9 a2 (uP 26 k 8 (some u) (nParcel k sd r a5 a6 (m 1 0) c)))))
      (mMv k 0 (iN d) (uM 76 k 0 (uM 62 k 1 (uM 61 k (m 1 0) (uM 60 k (-1) (uM 59 k (m 1 0 + 100) (uM 58 k 24 (uM 54 k a6 (uM 53 k a5 (uM 52 k (iN r) (uM 51 k (iN sd) (uM 50 k a2 (uM 49 k (iN u) (uM 1 24 (iN (k + 1)) m)))))))))))))) := by
  have hd5 : d < 5 := by rw [← hd]; exact (hJ.2.2.2.2.1.1 sd hs).1.1
  have hO : cOut k (uL 16 0 (fL c 16 0 ++ [k]) (uI 26 k 9 a2 (uP 26 k 8 (some u) (nParcel k sd r a5 a6 (m 1 0) c)))) = uL 16 0 (fL c 16 0 ++ [k]) (uI 26 k 9 a2 (uP 26 k 8 (some u) (nParcel k sd r a5 a6 (m 1 0) c))) := by
    refine cOut_id ?_ ?_
    · rw [fP_uL, fP_uI, fP_ne (by decide), p95]
    · rw [fQ_uL, fQ_uI, fQ_uP, pQ]
  obtain ⟨-, t, -, ht, et⟩ := nJ_ck hJ
  have hnew := hJ.2.2.2.2.2.2.1 k (by omega) h40
  have e26 : ∀ j, fI (cMv k 0 (iN d) (some d) (some (3, d)) (m 1 0) (uL 16 0 (fL c 16 0 ++ [k]) (uI 26 k 9 a2 (uP 26 k 8 (some u) (nParcel k sd r a5 a6 (m 1 0) c))))) 26 k j = if j = 9 then a2 else fI (nParcel k sd r a5 a6 (m 1 0) c) 26 k j := fun j => by
    rw [cMv_I (by decide), hO, fI_uL, fI_k, fI_uP]
  have e8 : ∀ j, fI (cMv k 0 (iN d) (some d) (some (3, d)) (m 1 0) (uL 16 0 (fL c 16 0 ++ [k]) (uI 26 k 9 a2 (uP 26 k 8 (some u) (nParcel k sd r a5 a6 (m 1 0) c))))) 8 k j = fI (nParcel k sd r a5 a6 (m 1 0) c) 8 k j := fun j => by
    rw [cMv_I (by decide), hO, fI_uL, fI_ne (by decide), fI_uP]
  have x26 : ∀ j, fX (cMv k 0 (iN d) (some d) (some (3, d)) (m 1 0) (uL 16 0 (fL c 16 0 ++ [k]) (uI 26 k 9 a2 (uP 26 k 8 (some u) (nParcel k sd r a5 a6 (m 1 0) c))))) 26 k j = fX (nParcel k sd r a5 a6 (m 1 0) c) 26 k j := fun j => by
    rw [cMv_X, fX_uL, fX_uI, fX_uP]
  have q26 : ∀ j, fP (cMv k 0 (iN d) (some d) (some (3, d)) (m 1 0) (uL 16 0 (fL c 16 0 ++ [k]) (uI 26 k 9 a2 (uP 26 k 8 (some u) (nParcel k sd r a5 a6 (m 1 0) c))))) 26 k j = if j = 8 then some u else fP (nParcel k sd r a5 a6 (m 1 0) c) 26 k j := fun j => by
    rw [cMv_P (by decide), fP_uL, fP_uI, fP_k]
  refine nJ_new hJ hi hk h40 hd5 (fun t t1 t2 t3 => ?_) (fun t k' j h => ?_) (fun t t1 => ?_) (fun t k' j h => ?_) (fun t t1 t2 t3 => ?_) (fun t k' j h => ?_) (fun k' h => ?_) (fun t t1 t2 t3 => ?_) (fun l => ?_) (fun l => ?_) ?_ (fun t t1 => ?_) ?_ ?_ ?_ (fun t t1 t2 => ?_) (fun t k' t1 h => ?_) (fun j t1 t2 => ?_) ?_ ?_ mMv_66 mMv_67 ?_ ?_ ?_ ?_
  · rw [cMv_I t3, hO, fI_uL, fI_ne t1, fI_uP, pI t1 t2 t3]
  · by_cases e : t = 9
    · subst e
      rw [cMv_9n h, fI_uL, fI_n h, fI_uP, pIn h]
    · rw [cMv_I e, hO, fI_uL, fI_n h, fI_uP, pIn h]
  · rw [cMv_X, fX_uL, fX_uI, fX_uP, pX t1]
  · rw [cMv_X, fX_uL, fX_uI, fX_uP, pXn h]
  · rw [cMv_P t3, fP_uL, fP_uI, fP_ne t1, pP t1 t2 t3]
  · by_cases e : t = 9
    · subst e
      rw [cMv_Pn h, fP_uL, fP_uI, fP_n h, pPn h]
    · rw [cMv_P e, fP_uL, fP_uI, fP_n h, pPn h]
  · rw [cMv_Qn h, fQ_uL, fQ_uI, fQ_uP, pQn h]
  · funext l
    rw [cMv_L, hO, if_neg (fun z => t1 (by have := Option.some.inj z; exact (congrArg (·.1) this).symm)), fL_ne t3, fL_uI, fL_uP, pL t2]
  · rw [cMv_L, hO, fL_ne (by decide), fL_uI, fL_uP, pL (by decide)]
    by_cases e : l = d
    · subst e
      rw [if_pos rfl, if_pos rfl]
    · rw [if_neg e, if_neg (fun z => e (by have := Option.some.inj z; exact (congrArg (·.2) this).symm))]
  · rw [cMv_L, hO, if_neg (fun z => by have := Option.some.inj z; exact absurd (congrArg (·.1) this) (show ¬ (3 : Nat) = 10 by decide)), fL_ne (by decide), fL_uI, fL_uP, pL10]
  · rw [cMv_L, hO, if_neg (fun z => by have := Option.some.inj z; exact absurd (congrArg (·.1) this) (show ¬ (3 : Nat) = 16 by decide)), fL_at, if_pos rfl]
  · rw [cMv_N, fN_uL, fN_uI, fN_uP, pN t1]
  · rw [cMv_N, fN_uL, fN_uI, fN_uP, pN26]
  · rw [e8]
    unfold nParcel
    simp (disch := decide) only [fI_ne, fI_k, fI_uX, fI_uP, fI_uL, fI_uQ, fI_uN]
    rfl
  · rw [cMv_P (by decide), fP_uL, fP_uI, fP_ne (by decide)]
    unfold nParcel
    simp (disch := decide) only [fP_ne, fP_k, fP_uX, fP_uI, fP_uL, fP_uQ, fP_uN]
    rfl
  · rw [mMv_ne ⟨t1, by omega⟩]
    simp only [uM_ne (show t ≠ 76 by omega), uM_ne (show t ≠ 62 by omega), uM_ne (show t ≠ 61 by omega), uM_ne (show t ≠ 60 by omega), uM_ne (show t ≠ 59 by omega), uM_ne (show t ≠ 58 by omega), uM_ne (show t ≠ 54 by omega), uM_ne (show t ≠ 53 by omega), uM_ne (show t ≠ 52 by omega), uM_ne (show t ≠ 51 by omega), uM_ne (show t ≠ 50 by omega), uM_ne (show t ≠ 49 by omega), uM_ne t1]
  · rw [mMv_k t1 h]
    simp only [uM_k h, uM_ne t1]
  · rw [mMv_1 t1]
    simp (disch := decide) only [uM_ne]
    rw [uM1_ne t2]
  · rw [mMv_1 (by decide)]
    simp (disch := decide) only [uM_ne]
    rw [uM_at, if_pos rfl]
  · rw [mMv_11]
    simp (disch := decide) only [uM_ne, uM1_ne]
  · rw [mMv_68]
    simp (disch := decide) only [uM_ne, uM1_ne]
  · unfold nPar
    simp (disch := decide) only [e26, e8, x26, q26, pI_26_2, pI_26_3, pI_26_4, pI_26_9, pI_26_12, pI_26_13, pI_26_14, pI_26_15, pI_26_16, pI_26_17, pI_8_0, pI_8_1, pI_8_2, pI_8_3, pI_8_4, pX_26_1, pX_26_10, pP_26_11, mMv_ne, uM_ne, uM_kk, hnew, if_true]
    obtain ⟨w1, w2, w3, w4, w5, w6, w7, w8⟩ := hnew
    refine ⟨⟨u, hu, by trivial, by trivial⟩, ⟨by trivial, h2⟩, ⟨hs, by trivial⟩, ⟨hr, by trivial⟩, ⟨by trivial, h5⟩, ⟨by trivial, h6⟩, ⟨by trivial, 0, by omega, by omega, by trivial⟩, ⟨by trivial, 0, by omega, by omega, by trivial⟩, ⟨by trivial, Or.inl (by trivial)⟩, ⟨by trivial, 0, by omega, by omega, by trivial⟩, ⟨by trivial, 0, by omega, by omega, by trivial⟩, ⟨by trivial, 24, by omega, by omega, by trivial⟩, ⟨by trivial, t + 100, by omega, by omega, ?_⟩, ⟨by trivial, (nJ_d2 hJ).1, (nJ_d2 hJ).2⟩, by trivial, ⟨by trivial, Or.inr (by trivial)⟩, ⟨by trivial, Or.inl (by trivial)⟩, ⟨by trivial, 0, by omega, by omega, by trivial⟩⟩
    rw [et, iN_100]
  · unfold nSty
    simp only [cMv_9, cMv_P3, cMv_P5, cMv_Q, mMv_66, mMv_67]
    exact ⟨by trivial, by trivial, (nJ_d2 hJ).1, (nJ_d2 hJ).2, Or.inl ⟨by trivial, d, hd5, by trivial, by trivial, by trivial, by trivial, by trivial, by trivial⟩⟩
  · intro j hj
    have hn : j ≠ k := by omega
    simp (disch := decide) only [mMv_ne, uM_ne, uM_kk, uM_k hn]
    exact hU j hj
end OPY
end KAP
