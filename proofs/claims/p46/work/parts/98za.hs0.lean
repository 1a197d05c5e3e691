/-! ===== an hour: the locker for a parcel that has failed ===== -/
section KAP
variable {κ : kP}
section ORA
variable {xs : Nat → Int32} {nx : Nat}
def cmp (c : nC) (l s : Nat) : Option Nat := nFst (fun j => decide (0 < fI c 7 l j)) (4 - s) s
def cvI (o : Option Nat) : Int32 := match o with
  | none => 0
  | some k => iN k
theorem comp55 {c C : nC} {l s : Nat} {z : nM × Nat × (Nat → Int64)} (hC : fI C 7 l = fI c 7 l) (h1 : 1 ≤ s) (h3 : s ≤ 3) : R1 xs nx 55 0 [some (vR 28 (some l)), some (vI (iN s)), none] [] (C, z) = some (.inl (some (vI (oI (cmp c l s)))), (C, z)) := by
  have key : ∀ (n j : Nat), j + n = 4 → 1 ≤ j → R1 xs nx 55 2 [some (vR 28 (some l)), some (vI (iN s)), some (vI (iN j))] [] (C, z) = some (.inl (some (vI (oI (nFst (fun j => decide (0 < fI c 7 l j)) n j)))), (C, z)) := by
    intro n
    induction n with
    | zero =>
      intro j e hj
      have : j = 4 := by omega
      subst this
      rw [d_55_2, if_neg (by decide)]
      rfl
    | succ n ih =>
      intro j e hj
      have hlt : iN j < (4 : Int32) := (iN_lt (b := 4) (by omega) (by omega)).mpr (by omega)
      rw [d_55_2, if_pos hlt, d_53_0, if_neg (iN_pos (by omega)), if_pos hlt, if_pos (iN_in (by omega) (by omega)), i32_nat (by omega), bI_some]
      dsimp only
      rw [hC]
      by_cases q : 0 < fI c 7 l j
      · rw [if_pos q]
        simp only [nFst, q, decide_true, if_true]
        rfl
      · rw [if_neg q, iN_add1, ih (j + 1) (by omega) (by omega)]
        simp only [nFst, q, decide_false, Bool.false_eq_true, if_false]
  rw [d_55_0]
  exact key (4 - s) s (by omega) h1
theorem comp217 {i e l s : Nat} {c : nC} {m : nM} (hJ : nJ κ i c m) (he : e < fN c 26) (hl : l < fN c 28) (h1 : 1 ≤ s) (h3 : s ≤ 3) (hs : m 53 e = iN s) : ∀ c9 z, R1 xs nx 217 0 [some (vR 1 (some 0)), some (vI (iN e)), some (vI (iN l)), none, none] [] (c9, m, z) = some (.inl (some (vI (cvI (cmp c l s)))), (c9, m, z)) := by
  intro c9 z
  have h40 := k40 hJ he
  have kin : mIn (iN e) 40 = true := iN_in40 h40
  have ken : (iN e).toNatClampNeg = e := i32_nat (by omega)
  have key : ∀ (n a4 : Nat), a4 + 1 = s + n → a4 ≤ 3 → R1 xs nx 217 5 [some (vR 1 (some 0)), some (vI (iN e)), some (vI (iN l)), some (vI (cvI (nFst (fun j => decide (0 < fI c 7 l j)) (3 - a4) (a4 + 1)))), some (vI (iN a4))] [] (c9, m, z) = some (.inl (some (vI (cvI (cmp c l s)))), (c9, m, z)) := by
    intro n
    induction n with
    | zero =>
      intro a4 e' ha
      have hlt : iN a4 < iN s := (iN_lt (by omega) (by omega)).mpr (by omega)
      rw [d_217_5, if_pos kin, ken]
      simp only [hs]
      rw [if_pos hlt]
      unfold cmp
      rw [show 3 - a4 = 4 - s by omega, show a4 + 1 = s by omega]
    | succ n ih =>
      intro a4 e' ha
      have hn : ¬ iN a4 < iN s := by rw [iN_lt (by omega) (by omega)]; omega
      rw [d_217_5, if_pos kin, ken]
      simp only [hs]
      rw [if_neg hn, free216 hJ hl (by omega) (by omega) (c9, m, z) rfl rfl rfl rfl rfl, bI_some]
      have hnext := ih (a4 - 1) (by omega) (by omega)
      rw [show 3 - (a4 - 1) = (3 - a4) + 1 by omega, show a4 - 1 + 1 = a4 by omega] at hnext
      have ea : iN a4 + (-1) = iN (a4 - 1) := by
        rw [iN_m1, show iN a4 = iN (a4 - 1 + 1) by rw [show a4 - 1 + 1 = a4 by omega]]
        exact iN_sub1 (by omega)
      by_cases q : 0 < fI c 7 l a4
      · rw [if_pos q, d_217_32, ea]
        simp only [nFst, q, decide_true, if_true] at hnext
        exact hnext
      · rw [if_neg q, d_217_32, ea]
        simp only [nFst, q, decide_false, Bool.false_eq_true, if_false] at hnext
        exact hnext
  rw [d_217_0]
  exact key (4 - s) 3 (by omega) (Nat.le_refl _)
theorem cmp_some {c : nC} {l s j : Nat} (h : cmp c l s = some j) (h3 : s ≤ 3) : s ≤ j ∧ j < 4 ∧ 0 < fI c 7 l j := by
  obtain ⟨h1, h2, h3'⟩ := nFst_some _ _ h
  exact ⟨h1, by omega, of_decide_eq_true h3'⟩
def lkP (c : nC) (D s : Nat) (l : Nat) : Bool := decide (fX c 28 l 1 = D ∧ cmp c l s ≠ none)
theorem lock119 {i D s : Nat} {c : nC} {m : nM} (hJ : nJ κ i c m) (h1 : 1 ≤ s) (h3 : s ≤ 3) {z : nM × Nat × (Nat → Int64)} : R1 xs nx 119 0 [some (vR 0 (some 0)), some (vR 21 (some D)), some (vI (iN s)), none, none] [] (c, z) = some (.inl (some (vR 28 (nFst (lkP c D s) (fN c 28) 0))), (c, z)) := by
  obtain ⟨q1, q2, q3⟩ := hJ.1.2.2.2.2.1
  have key : ∀ (n l : Nat) (l4 : Option nV), l + n = fN c 28 → R1 xs nx 119 2 [some (vR 0 (some 0)), some (vR 21 (some D)), some (vI (iN s)), some (vI (iN l)), l4] [] (c, z) = some (.inl (some (vR 28 (nFst (lkP c D s) n l))), (c, z)) := by
    intro n
    induction n with
    | zero =>
      intro l l4 e
      have : l = fN c 28 := by omega
      subst this
      have hn : ¬ iN (fN c 28) < iN (fN c 28) := by rw [iN_lt (by omega) (by omega)]; omega
      rw [d_119_2]
      dsimp only
      rw [q3, List.length_range, if_neg hn]
      rfl
    | succ n ih =>
      intro l l4 e
      have hl : l < fN c 28 := by omega
      have hlt : iN l < iN (fN c 28) := (iN_lt (by omega) (by omega)).mpr hl
      rw [d_119_2]
      dsimp only
      rw [q3, List.length_range, if_pos hlt, if_neg (iN_pos (by omega)), i32_nat (by omega), List.getElem?_range hl, nn_some]
      by_cases y : fX c 28 l 1 = D
      · rw [if_pos (by rw [y]), comp55 rfl h1 h3, bI_some]
        cases hc : cmp c l s with
        | none =>
          have hp : lkP c D s l = false := decide_eq_false (fun w => w.2 hc)
          rw [show oI none = (-1 : Int32) from rfl, if_pos rfl, d_119_48, iN_add1, ih (l + 1) _ (by omega)]
          simp only [nFst, hp, Bool.false_eq_true, if_false]
        | some j =>
          have hp : lkP c D s l = true := decide_eq_true ⟨y, by rw [hc]; intro w; cases w⟩
          have hj := (cmp_some hc h3).2.1
          rw [show oI (some j) = iN j from rfl, if_neg (iN_ne1 (by omega))]
          simp only [nFst, hp, if_true]
      · have hp : lkP c D s l = false := decide_eq_false (fun w => y w.1)
        rw [if_neg (fun w => y (Option.some.inj w)), d_119_48, iN_add1, ih (l + 1) _ (by omega)]
        simp only [nFst, hp, Bool.false_eq_true, if_false]
  rw [d_119_0]
  exact key (fN c 28) 0 none (Nat.zero_add _)
theorem lock218 {i e D s : Nat} {c : nC} {m : nM} (hJ : nJ κ i c m) (he : e < fN c 26) (hD : D < 5) (h1 : 1 ≤ s) (h3 : s ≤ 3) (hs : m 53 e = iN s) : ∀ c9 z, R1 xs nx 218 0 [some (vR 1 (some 0)), some (vI (iN e)), some (vI (iN D)), none, none] [] (c9, m, z) = some (.inl (some (vI (oI (nFst (lkP c D s) (fN c 28) 0)))), (c9, m, z)) := by
  intro c9 z
  obtain ⟨q1, q2, q3⟩ := hJ.1.2.2.2.2.1
  have key : ∀ (n : Nat), n ≤ fN c 28 → R1 xs nx 218 10 [some (vR 1 (some 0)), some (vI (iN e)), some (vI (iN D)), some (vI (oI (nFst (lkP c D s) (fN c 28 - n) n))), some (vI (iN n - 1))] [] (c9, m, z) = some (.inl (some (vI (oI (nFst (lkP c D s) (fN c 28) 0)))), (c9, m, z)) := by
    intro n
    induction n with
    | zero =>
      intro hn
      rw [d_218_10, if_pos (by decide), Nat.sub_zero]
    | succ n ih =>
      intro hn
      have hl : n < fN c 28 := by omega
      obtain ⟨⟨x1, x2⟩, -⟩ := hJ.2.2.2.2.2.2.2.2.2.2.2.2.1 n hl
      have hnext := ih (by omega)
      rw [show fN c 28 - n = (fN c 28 - (n + 1)) + 1 by omega] at hnext
      rw [d_218_10, iN_sub1 (by omega), if_neg (iN_pos (by omega)), if_pos (iN_in (by omega) (by omega)), i32_nat (by omega)]
      simp only [x2]
      by_cases y : fX c 28 n 1 = D
      · rw [if_pos (by rw [y]), comp217 hJ he hl h1 h3 hs, bI_some]
        cases hc : cmp c n s with
        | none =>
          have hp : lkP c D s n = false := decide_eq_false (fun w => w.2 hc)
          rw [show cvI none = (0 : Int32) from rfl, if_neg (by decide), d_218_41, d_218_42, iN_m1]
          simp only [nFst, hp, Bool.false_eq_true, if_false] at hnext
          exact hnext
        | some j =>
          have hp : lkP c D s n = true := decide_eq_true ⟨y, by rw [hc]; intro w; cases w⟩
          have hj := cmp_some hc h3
          rw [show cvI (some j) = iN j from rfl, if_pos (show (0 : Int32) < iN j from (iN_lt (a := 0) (by omega) (by omega)).mpr (by omega)), d_218_42, iN_m1]
          simp only [nFst, hp, if_true] at hnext
          exact hnext
      · have hp : lkP c D s n = false := decide_eq_false (fun w => y w.1)
        rw [if_neg (by rw [iN_inj (by omega) (by omega)]; exact y), d_218_41, d_218_42, iN_m1]
        simp only [nFst, hp, Bool.false_eq_true, if_false] at hnext
        exact hnext
  rw [d_218_0]
  simp only [q2]
  have := key (fN c 28) (Nat.le_refl _)
  rw [Nat.sub_self] at this
  exact this
/-- a parcel comes into a locker -/
def cLk (e l j : Nat) (code ck : Int32) (c : nC) : nC := uI 7 l j (fI c 7 l j + (-1)) (uI 9 e 7 code (uI 9 e 6 (iN j) (uP 9 e 5 (some l) (cMv e 5 (iN l) (some (fX c 28 l 1)) none ck c))))
def mLk (e l j : Nat) (code ck : Int32) (m : nM) : nM := uM 70 e ck (uM 72 e code (mMv e 5 (iN l) (uM 71 e (iN j) m)))
theorem put5r {i e l j : Nat} {code : Int32} {c : nC} {m : nM} (hJ : nJ κ i c m) (hi : i % 100000 < 90000) (hk : e < fN c 26) (h7 : m 66 e ≠ 7) (h5 : m 66 e ≠ 5) (hr : ∀ v, v < fN c 27 → i / 100000 ≠ 2 + v → e ∉ fL c 11 v) (hf : m 62 e ≠ 1) (hl : l < fN c 28) (hcr : nIn code 1000 9999) (j1 : 1 ≤ j) (j4 : j < 4) (hj : 0 < fI c 7 l j)
    (s0 : ∀ v, v < fN c 27 → i / 100000 ≠ 2 + v → m 78 e ≠ iN (1 + v)) : nJ κ (i + 1) (cLk e l j code (m 1 0) c) (mLk e l j code (m 1 0) m) := by
  have hP5 : fP c 9 e 5 = none := by
    rcases nJ_5 hJ hk with ⟨z, -⟩ | ⟨-, y⟩
    · exact absurd z h5
    · exact y
  have hO : cOut e c = cLin e c := by unfold cOut; rw [hP5]
  have ck1 : (uM 71 e (iN j) m) 1 1 = m 1 1 := by rw [uM_ne (by decide)]
  have hV := hJ.2.2.2.2.2.2.2.2.2.2.2.1
  have hM := hJ.2.2.2.2.2.2.2.2.2.2.1 e hk
  have hL := hJ.2.2.2.2.2.2.2.2.2.2.2.2.1
  have hP := hJ.1.2.2.1.1
  have e28 := hJ.1.2.2.2.2.1.1
  have r66 : ∀ t, t ≠ 70 → t ≠ 71 → t ≠ 72 → t ≠ 1 → (t < 66 ∨ 68 < t) → mLk e l j code (m 1 0) m t = m t := fun t a1 a2 a3 a4 a5 => by
    unfold mLk
    rw [uM_ne a1, uM_ne a3, mMv_ne ⟨a4, a5⟩, uM_ne a2]
  have m66 : mLk e l j code (m 1 0) m 66 e = 5 := by unfold mLk; rw [uM_ne (by decide), uM_ne (by decide), mMv_66]
  have m67 : mLk e l j code (m 1 0) m 67 e = iN l := by unfold mLk; rw [uM_ne (by decide), uM_ne (by decide), mMv_67]
  have m71 : mLk e l j code (m 1 0) m 71 e = iN j := by unfold mLk; rw [uM_ne (by decide), uM_ne (by decide), mMv_ne (by decide), uM_kk]
  have mk : ∀ t k', t ≠ 1 → k' ≠ e → mLk e l j code (m 1 0) m t k' = m t k' := fun t k' t1 h => by
    unfold mLk
    rw [uM_k h, uM_k h, mMv_k t1 h, uM_k h]
  have c7 : ∀ x y, fI (cLk e l j code (m 1 0) c) 7 x y = if x = l ∧ y = j then fI c 7 l j + (-1) else fI c 7 x y := by
    intro x y
    unfold cLk
    rw [fI_at, fI_ne (by decide), fI_ne (by decide), fI_uP, cMv_I (by decide), hO, cLin_I]
  refine nJ_mv (w := 5) (a := iN l) (q := none) hJ hi hk (fun t t9 t7 => ?_) (fun k' x h => ?_) (fun k' x h => ?_) (fun k' h => ?_) ?_ ?_ (fun t h => ?_) (fun t y => ?_) (Or.inr (Or.inr (Or.inr ⟨by decide, by decide, by decide, rfl⟩)))
    (fun t t1 t2 => ?_) (fun x h => ?_) ?_ mk m66 m67 ?_ ?_ ?_ ⟨fun z => absurd (m66.symm.trans z) (by decide), fun z => absurd (m66.symm.trans z) (by decide)⟩ ?_ ?_ h7 (by rw [if_neg (by decide)]) (fun l z => by cases z)
  · unfold cLk; rw [fI_ne t7, fI_ne t9, fI_ne t9, fI_uP, cMv_I t9, cOut_I t7]
  · unfold cLk; rw [fI_ne (by decide), fI_n h, fI_n h, fI_uP, cMv_9n h]
  · unfold cLk; rw [fP_uI, fP_uI, fP_uI, fP_n h, cMv_Pn h]
  · unfold cLk; rw [fQ_uI, fQ_uI, fQ_uI, fQ_uP, cMv_Qn h]
  · unfold cLk; rw [fX_uI, fX_uI, fX_uI, fX_uP, cMv_X]
  · unfold cLk; rw [fN_uI, fN_uI, fN_uI, fN_uP, cMv_N]
  · unfold cLk; rw [fP_uI, fP_uI, fP_uI, fP_ne h, cMv_P h]
  · unfold cLk; rw [fL_uI, fL_uI, fL_uI, fL_uP, cMv_L]
  · by_cases a1 : t = 70
    · omega
    · by_cases a2 : t = 71
      · omega
      · by_cases a3 : t = 72
        · omega
        · exact r66 t a1 a2 a3 t1 (by omega)
  · unfold mLk; rw [uM_ne (by decide), uM_ne (by decide), mMv_1 h, uM_ne (by decide)]
  · unfold mLk; rw [uM_ne (by decide), uM_ne (by decide), mMv_11, ck1]
  · unfold mLk; rw [uM_ne (by decide), uM_ne (by decide), mMv_68, ck1]
  · have h9 : ∀ x, fI (cLk e l j code (m 1 0) c) 9 e x = if x = 7 then code else if x = 6 then iN j else fI (cMv e 5 (iN l) (some (fX c 28 l 1)) none (m 1 0) c) 9 e x := fun x => by
      unfold cLk
      rw [fI_ne (by decide), fI_k, fI_k, fI_uP]
    have p9 : ∀ x, fP (cLk e l j code (m 1 0) c) 9 e x = if x = 5 then some l else fP (cMv e 5 (iN l) (some (fX c 28 l 1)) none (m 1 0) c) 9 e x := fun x => by
      unfold cLk
      rw [fP_uI, fP_uI, fP_uI, fP_k]
    have q9 : fQ (cLk e l j code (m 1 0) c) e = none := by unfold cLk; rw [fQ_uI, fQ_uI, fQ_uI, fQ_uP, cMv_Q]
    have m70 : mLk e l j code (m 1 0) m 70 e = m 1 0 := by unfold mLk; rw [uM_kk]
    have m72 : mLk e l j code (m 1 0) m 72 e = code := by unfold mLk; rw [uM_ne (by decide), uM_kk]
    have h0 : fI (cLk e l j code (m 1 0) c) 9 e 0 = 5 := by rw [h9, if_neg (by decide), if_neg (by decide), cMv_9, if_neg (by decide), if_neg (by decide), if_pos rfl]
    have h1 : fI (cLk e l j code (m 1 0) c) 9 e 1 = iN l := by rw [h9, if_neg (by decide), if_neg (by decide), cMv_9, if_neg (by decide), if_pos rfl]
    have h2 : fI (cLk e l j code (m 1 0) c) 9 e 2 = m 1 0 := by rw [h9, if_neg (by decide), if_neg (by decide), cMv_9, if_pos rfl]
    have h6 : fI (cLk e l j code (m 1 0) c) 9 e 6 = iN j := by rw [h9, if_neg (by decide), if_pos rfl]
    have h7' : fI (cLk e l j code (m 1 0) c) 9 e 7 = code := by rw [h9, if_pos rfl]
    have p3 : fP (cLk e l j code (m 1 0) c) 9 e 3 = some (fX c 28 l 1) := by rw [p9, if_neg (by decide), cMv_P3]
    have p5 : fP (cLk e l j code (m 1 0) c) 9 e 5 = some l := by rw [p9, if_pos rfl]
    unfold nSty
    rw [h0, h1, h2, h6, h7', p3, p5, q9, m66, m67, m70, m71, m72]
    exact ⟨rfl, rfl, (nJ_d2 hJ).1, (nJ_d2 hJ).2, Or.inr (Or.inr (Or.inr (Or.inr (Or.inr (Or.inl ⟨rfl, l, hl, rfl, rfl, rfl, rfl, rfl, rfl, ⟨j, j1, by omega, rfl⟩, rfl, hcr⟩)))))⟩
  · unfold nMon at hM ⊢
    rw [m66, r66 77 (by decide) (by decide) (by decide) (by decide) (by decide), r66 78 (by decide) (by decide) (by decide) (by decide) (by decide)]
    obtain ⟨y1, y2, y3, y4, y5, y6, y7, y8, y9⟩ := hM
    exact ⟨y1, y2, fun _ => y3 h7, fun z => absurd z (by decide), y5, fun z => absurd z hf, fun _ => y7 (Or.inr h7), y8, y9⟩
  · refine gVan_mv hV hr (fun v hv hp z => absurd (m66.symm.trans z) (by decide)) (fun v hv hp => ?_) (fun x h => mk 66 x (by decide) h) (fun x h => mk 67 x (by decide) h) (fun x h => mk 78 x (by decide) h) (fun x h => ?_)
    · rw [r66 78 (by decide) (by decide) (by decide) (by decide) (by decide)]
      exact s0 v hv hp
    · unfold cLk; rw [fI_ne (by decide), fI_n h, fI_n h, fI_uP, cMv_9n h]
  · intro l' hl'
    refine ⟨(hL l' hl').1, fun j' j1' j4' => ?_⟩
    obtain ⟨x1, x2, x3⟩ := (hL l' hl').2 j' j1' j4'
    refine ⟨x1, ?_⟩
    have hc := cnt_upd (p := fun x => decide (m 66 x = 5 ∧ m 67 x = iN l' ∧ m 71 x = iN j')) (p' := fun x => decide (mLk e l j code (m 1 0) m 66 x = 5 ∧ mLk e l j code (m 1 0) m 67 x = iN l' ∧ mLk e l j code (m 1 0) m 71 x = iN j')) (k := e) (fun x hx => by simp only [mk 66 x (by decide) hx, mk 67 x (by decide) hx, mk 71 x (by decide) hx]) (fN c 26) hk
    have hle := cnt_le (p := fun x => decide (mLk e l j code (m 1 0) m 66 x = 5 ∧ mLk e l j code (m 1 0) m 67 x = iN l' ∧ mLk e l j code (m 1 0) m 71 x = iN j')) (P := fN c 26)
    have hle0 := cnt_le (p := fun x => decide (m 66 x = 5 ∧ m 67 x = iN l' ∧ m 71 x = iN j')) (P := fN c 26)
    rw [if_neg (show ¬ (decide (m 66 e = 5 ∧ m 67 e = iN l' ∧ m 71 e = iN j') = true) from fun z => h5 (of_decide_eq_true z).1)] at hc
    obtain ⟨M, -, x4, x5⟩ := x1
    obtain ⟨F, -, x6, x7⟩ := x2
    rw [x5, x7] at x3
    rw [show iN F + iN _ = iN (F + _) from i32_add, iN_inj (by omega) (by omega)] at x3
    rw [c7]
    by_cases y : l' = l ∧ j' = j
    · obtain ⟨rfl, rfl⟩ := y
      rw [if_pos ⟨rfl, rfl⟩]
      rw [if_pos (decide_eq_true ⟨m66, m67, m71⟩)] at hc
      have hF : 0 < F := by
        rw [x7] at hj
        exact (iN_lt (a := 0) (by omega) (by omega)).mp hj
      have eF : iN F + (-1) = iN (F - 1) := by
        rw [iN_m1]
        exact i32_sub (b := 1) (by omega) (by omega)
      rw [x7, eF, x5, show iN (F - 1) + iN _ = iN (F - 1 + _) from i32_add]
      exact ⟨⟨F - 1, Nat.zero_le _, by omega, rfl⟩, by congr 1; omega⟩
    · rw [if_neg y]
      rw [if_neg (fun z => y (by
        have z := of_decide_eq_true z
        rw [m67, m71] at z
        exact ⟨((iN_inj (by omega) (by omega)).mp z.2.1).symm, ((iN_inj (by omega) (by omega)).mp z.2.2).symm⟩))] at hc
      rw [x7, x5, show iN F + iN _ = iN (F + _) from i32_add]
      exact ⟨⟨F, Nat.zero_le _, x6, rfl⟩, by congr 1; omega⟩
end ORA
end KAP
