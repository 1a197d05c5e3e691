/-! ===== an hour: what a van takes ===== -/
section KAP
variable {κ : kP}
section ORD
variable {xs : Nat → Int32} {nx : Nat}
def cV (m : nM) (D : Nat) (left : Int32) (e : Nat) : Bool := decide (m 66 e = 3 ∧ m 67 e = iN D ∧ ¬ left < m 53 e)
def aV (m : nM) (e x : Nat) : Bool := decide (if m 54 e = m 54 x then m 58 e < m 58 x else m 54 e ≠ 0)
/-- which parcel a van takes next -/
theorem next122 {i v D : Nat} {left : Int32} {c : nC} {m : nM} (hJ : nJ κ i c m) (hv : v < fN c 27) (hD : D < 5) (h79 : m 79 v = iN D) : (∀ z, R1 xs nx 122 0 [some (vR 0 (some 0)), some (vR 21 (some D)), some (vI left), none, none, none, none] [] (c, z) = some (.inl (some (vR 26 (nSel (cV m D left) (aV m) (fN c 26) 0 none))), (c, z))) ∧
    ∀ c9 z, R1 xs nx 213 0 [some (vR 1 (some 0)), some (vI (iN v)), some (vI left), none, none, none, none] [] (c9, m, z) = some (.inl (some (vI (oI (nSel (cV m D left) (aV m) (fN c 26) 0 none)))), (c9, m, z)) := by
  have h26 := hJ.1.2.2.1
  have h27 := hJ.1.2.2.2.1.1
  have vin : mIn (iN v) 6 = true := iN_in (by omega) (by omega)
  have ven : (iN v).toNatClampNeg = v := i32_nat (by omega)
  have hPar : ∀ e, e < fN c 26 → fI c 26 e 2 = m 53 e ∧ fI c 26 e 3 = m 54 e ∧ nBo (m 54 e) ∧ fI c 26 e 13 = m 58 e := fun e he => by
    obtain ⟨y1, y2, y3, y4, y5, y6, y7, y8, y9, y10, y11, y12, y13, y14, y15, y16, y17, y18⟩ := hJ.2.2.2.2.2.1 e he
    exact ⟨y5.1, y6.1, y6.1 ▸ y6.2, y12.1⟩
  have hcan : ∀ e, e < fN c 26 → (cV m D left e = true ↔ fI c 9 e 0 = 3 ∧ fP c 9 e 3 = some D ∧ ¬ left < fI c 26 e 2) := fun e he => by
    obtain ⟨k0, -⟩ := kind8 hJ he
    unfold cV
    rw [decide_eq_true_iff, k0, (hPar e he).1]
    constructor
    · rintro ⟨a1, a2, a3⟩
      obtain ⟨d, d1, d2, d3⟩ := sty3 hJ he a1
      have : d = D := (iN_inj (by omega) (by omega)).mp (d2.symm.trans a2)
      exact ⟨a1, by rw [← this]; exact d3, a3⟩
    · rintro ⟨a1, a2, a3⟩
      obtain ⟨d, d1, d2, d3⟩ := sty3 hJ he a1
      have : d = D := Option.some.inj (d3.symm.trans a2)
      exact ⟨a1, by rw [← this]; exact d2, a3⟩
  have keyC : ∀ (n i : Nat) (b : Option Nat) (l5 l6 : Option nV), i + n = fN c 26 → (∀ x, b = some x → x < i) → ∀ z, R1 xs nx 122 5 [some (vR 0 (some 0)), some (vR 21 (some D)), some (vI left), some (vR 26 b), some (vI (iN i)), l5, l6] [] (c, z) = some (.inl (some (vR 26 (nSel (cV m D left) (aV m) n i b))), (c, z)) := by
    intro n
    induction n with
    | zero =>
      intro i b l5 l6 e hb z
      have hn : ¬ iN i < iN (fN c 26) := by rw [iN_lt (by omega) (by omega)]; omega
      rw [d_122_5]
      dsimp only
      rw [h26.2.2, List.length_range, if_neg hn]
      rfl
    | succ n ih =>
      intro i b l5 l6 e hb z
      have hi : i < fN c 26 := by omega
      have hlt : iN i < iN (fN c 26) := (iN_lt (by omega) (by omega)).mpr hi
      have st : R1 xs nx 122 5 [some (vR 0 (some 0)), some (vR 21 (some D)), some (vI left), some (vR 26 b), some (vI (iN i)), l5, l6] [] (c, z) = R1 xs nx 122 69 [some (vR 0 (some 0)), some (vR 21 (some D)), some (vI left), some (vR 26 b), some (vI (iN i)), some (vR 26 (some i)), l6] [(vI (if cV m D left i = true then 1 else 0))] (c, z) := by
        rw [d_122_5]
        dsimp only
        rw [h26.2.2, List.length_range, if_pos hlt, if_neg (iN_pos (by omega)), i32_nat (by omega), List.getElem?_range hi, nn_some]
        by_cases q1 : fI c 9 i 0 = 3
        · rw [if_pos q1]
          by_cases q2 : fP c 9 i 3 = some D
          · rw [if_pos q2]
            by_cases q3 : left < fI c 26 i 2
            · rw [if_pos q3, d_122_68, if_neg (fun w => ((hcan i hi).mp w).2.2 q3)]
            · rw [if_neg q3, if_pos ((hcan i hi).mpr ⟨q1, q2, q3⟩)]
          · rw [if_neg q2, d_122_68, if_neg (fun w => q2 ((hcan i hi).mp w).2.1)]
        · rw [if_neg q1, d_122_68, if_neg (fun w => q1 ((hcan i hi).mp w).1)]
      rw [st, d_122_69]
      by_cases hc : cV m D left i = true
      · rw [if_pos hc, if_neg n10]
        cases b with
        | none =>
          rw [nz_none, d_122_89, d_122_92, iN_add1]
          have := ih (i + 1) (some i) (some (vR 26 (some i))) (some (vI 1)) (by omega) (fun x hx => by cases hx; omega) z
          simp only [nSel, hc, if_true]
          exact this
        | some x =>
          have hx := hb x rfl
          obtain ⟨-, p3, p4, p5⟩ := hPar i hi
          obtain ⟨-, x3, x4, x5⟩ := hPar x (by omega)
          have h69 : R1 xs nx 69 0 [some (vR 26 (some i)), some (vR 26 (some x))] [] (c, z) = some (.inl (some (vI (if aV m i x = true then 1 else 0))), (c, z)) := by
            rw [d_69_0]
            dsimp only
            rw [p3, x3, p5, x5]
            unfold aV
            by_cases y1 : m 54 i = m 54 x
            · rw [if_pos y1]
              simp only [y1, if_true]
              by_cases y2 : m 58 i = m 58 x
              · rw [if_pos y2, if_neg (by rw [iN_lt (by omega) (by omega)]; omega), if_neg]
                intro w
                have w := of_decide_eq_true w
                rw [y2, Int32.lt_iff_toInt_lt] at w
                omega
              · rw [if_neg y2]
                by_cases y3 : m 58 i < m 58 x
                · rw [if_pos y3, if_pos (decide_eq_true y3)]
                · rw [if_neg y3, if_neg (fun w => y3 (of_decide_eq_true w))]
            · rw [if_neg y1, if_pos (show m 54 i = 0 ∨ m 54 i = 1 from p4)]
              simp only [y1, if_false]
              rcases p4 with y | y
              · rw [if_neg (fun w => (show m 54 i ≠ 0 from of_decide_eq_true w) y), y]
              · rw [if_pos (decide_eq_true (by rw [y]; exact n10)), y]
          rw [nz_some, h69, bI_some]
          by_cases ha : aV m i x = true
          · rw [if_pos ha, if_neg n10, d_122_89, d_122_92, iN_add1]
            have := ih (i + 1) (some i) (some (vR 26 (some i))) (some (vI 1)) (by omega) (fun x hx => by cases hx; omega) z
            simp only [nSel, hc, ha, if_true]
            exact this
          · rw [if_neg ha, if_pos rfl, d_122_92, iN_add1]
            have := ih (i + 1) (some x) (some (vR 26 (some i))) (some (vI 1)) (by omega) (fun y hy => by cases hy; omega) z
            simp only [nSel, hc, ha, if_true, Bool.false_eq_true, if_false]
            exact this
      · rw [if_neg hc, if_pos rfl, d_122_92, iN_add1]
        have := ih (i + 1) b (some (vR 26 (some i))) (some (vI 0)) (by omega) (fun y hy => by have := hb y hy; omega) z
        simp only [nSel, hc, Bool.false_eq_true, if_false]
        exact this
  have keyM : ∀ (n i : Nat) (b : Option Nat) (l5 l6 : Option nV), i + n = fN c 26 → (∀ x, b = some x → x < i) → ∀ c9 z, R1 xs nx 213 5 [some (vR 1 (some 0)), some (vI (iN v)), some (vI left), some (vI (oI b)), some (vI (iN i)), l5, l6] [] (c9, m, z) = some (.inl (some (vI (oI (nSel (cV m D left) (aV m) n i b)))), (c9, m, z)) := by
    intro n
    induction n with
    | zero =>
      intro i b l5 l6 e hb c9 z
      have hn : ¬ iN i < iN (fN c 26) := by rw [iN_lt (by omega) (by omega)]; omega
      rw [d_213_5]
      simp only [h26.2.1, hn, if_false]
      rfl
    | succ n ih =>
      intro i b l5 l6 e hb c9 z
      have hlt : iN i < iN (fN c 26) := (iN_lt (by omega) (by omega)).mpr (by omega)
      have hin : mIn (iN i) 40 = true := iN_in40 (by omega)
      have en : (iN i).toNatClampNeg = i := i32_nat (by omega)
      have st : R1 xs nx 213 5 [some (vR 1 (some 0)), some (vI (iN v)), some (vI left), some (vI (oI b)), some (vI (iN i)), l5, l6] [] (c9, m, z) = R1 xs nx 213 57 [some (vR 1 (some 0)), some (vI (iN v)), some (vI left), some (vI (oI b)), some (vI (iN i)), l5, l6] [(vI (if cV m D left i = true then 1 else 0))] (c9, m, z) := by
        rw [d_213_5]
        simp only [h26.2.1, hlt, hin, en, vin, ven, if_true, h79]
        unfold cV
        by_cases q1 : m 66 i = 3
        · rw [if_pos q1]
          by_cases q2 : m 67 i = iN D
          · rw [if_pos q2]
            by_cases q3 : left < m 53 i
            · rw [if_pos q3, if_neg (fun z => (of_decide_eq_true z).2.2 q3), d_213_56]
            · rw [if_neg q3, if_pos (decide_eq_true ⟨q1, q2, q3⟩)]
          · rw [if_neg q2, if_neg (fun z => q2 (of_decide_eq_true z).2.1), d_213_56]
        · rw [if_neg q1, if_neg (fun z => q1 (of_decide_eq_true z).1), d_213_56]
      rw [st]
      by_cases hc : cV m D left i = true
      · rw [if_pos hc]
        cases b with
        | none =>
          rw [show oI none = (-1 : Int32) from rfl, d_213_57, if_pos rfl, d_213_118, d_213_119, if_neg n10, if_pos rfl, d_213_136, d_213_142, iN_add1]
          have := ih (i + 1) (some i) (some (vI 1)) (some (vI 0)) (by omega) (fun x hx => by cases hx; omega) c9 z
          simp only [nSel, hc, if_true]
          exact this
        | some x =>
          have hx := hb x rfl
          have xin : mIn (iN x) 40 = true := iN_in40 (by omega)
          have xn : (iN x).toNatClampNeg = x := i32_nat (by omega)
          have st2 : R1 xs nx 213 57 [some (vR 1 (some 0)), some (vI (iN v)), some (vI left), some (vI (iN x)), some (vI (iN i)), l5, l6] [(vI 1)] (c9, m, z) = R1 xs nx 213 119 [some (vR 1 (some 0)), some (vI (iN v)), some (vI left), some (vI (iN x)), some (vI (iN i)), some (vI 1), l6] [(vI (if aV m i x = true then 1 else 0))] (c9, m, z) := by
            rw [d_213_57, if_neg (iN_ne1 (by omega)), if_neg n10]
            simp only [hin, en, xin, xn, if_true]
            unfold aV
            by_cases q1 : m 54 i = m 54 x
            · rw [if_pos q1]
              simp only [q1, if_true]
              by_cases q2 : m 58 i < m 58 x
              · rw [if_pos q2, if_pos (decide_eq_true q2), d_213_114]
              · rw [if_neg q2, if_neg (fun z => q2 (of_decide_eq_true z)), d_213_118]
            · rw [if_neg q1]
              simp only [q1, if_false]
              by_cases q2 : m 54 i = 0
              · rw [if_pos q2, if_neg (fun z => (show m 54 i ≠ 0 from of_decide_eq_true z) q2), d_213_118]
              · rw [if_neg q2, if_pos (decide_eq_true q2), d_213_114]
          rw [show oI (some x) = iN x from rfl, st2, d_213_119, if_neg n10, if_neg (iN_ne1 (by omega))]
          by_cases ha : aV m i x = true
          · rw [if_pos ha, if_neg n10, d_213_136, d_213_142, iN_add1]
            have := ih (i + 1) (some i) (some (vI 1)) (some (vI 1)) (by omega) (fun x hx => by cases hx; omega) c9 z
            simp only [nSel, hc, ha, if_true]
            exact this
          · rw [if_neg ha, if_pos rfl, d_213_141, d_213_142, iN_add1]
            have := ih (i + 1) (some x) (some (vI 1)) (some (vI 0)) (by omega) (fun y hy => by cases hy; omega) c9 z
            simp only [nSel, hc, ha, if_true, Bool.false_eq_true, if_false]
            exact this
      · rw [if_neg hc]
        have st3 : R1 xs nx 213 57 [some (vR 1 (some 0)), some (vI (iN v)), some (vI left), some (vI (oI b)), some (vI (iN i)), l5, l6] [(vI 0)] (c9, m, z) = R1 xs nx 213 5 [some (vR 1 (some 0)), some (vI (iN v)), some (vI left), some (vI (oI b)), some (vI (iN (i + 1))), some (vI 0), some (vI 0)] [] (c9, m, z) := by
          rw [d_213_57]
          by_cases q : oI b = -1
          · rw [if_pos q, d_213_118, d_213_119, if_pos rfl, d_213_141, d_213_142, iN_add1]
          · rw [if_neg q, if_pos rfl, d_213_118, d_213_119, if_pos rfl, d_213_141, d_213_142, iN_add1]
        rw [st3]
        have := ih (i + 1) b (some (vI 0)) (some (vI 0)) (by omega) (fun y hy => by have := hb y hy; omega) c9 z
        simp only [nSel, hc, Bool.false_eq_true, if_false]
        exact this
  refine ⟨fun z => ?_, fun c9 z => ?_⟩
  · rw [d_122_0]
    exact keyC (fN c 26) 0 none none none (Nat.zero_add _) (fun x hx => by cases hx) z
  · rw [d_213_0]
    exact keyM (fN c 26) 0 none none none (Nat.zero_add _) (fun x hx => by cases hx) c9 z
/-- a parcel comes on a van -/
theorem put4r {i v D e : Nat} {c : nC} {m : nM} (hJ : nJ κ i c m) (hi : i % 100000 < 90000) (hp : i / 100000 = 2 + v) (hv : v < fN c 27) (hk : e < fN c 26) (h3 : m 66 e = 3) (h67 : m 67 e = iN D) (h79 : m 79 v = iN D) : nJ κ (i + 1) (cMv e 4 (iN v) none none (m 1 0) c) (mMv e 4 (iN v) m) := by
  have hV := hJ.2.2.2.2.2.2.2.2.2.2.2.1
  have hM := hJ.2.2.2.2.2.2.2.2.2.2.1 e hk
  have h27 := hJ.1.2.2.2.1.1
  have h7 : m 66 e ≠ 7 := by rw [h3]; decide
  obtain ⟨g1, g2⟩ := (hJ.2.2.2.2.2.2.2.2.1.2 e hk).1 h3
  have hf := notFresh hJ hk (by rw [h3]; decide) (by rw [h3]; decide)
  have h78 : m 78 e = 0 := hM.2.2.2.2.2.2.1 (Or.inr h7)
  refine nJ_mv (w := 4) (a := iN v) (q := none) hJ hi hk (fun t t9 t7 => by rw [cMv_I t9, cOut_I t7]) (fun k' x h => cMv_9n h) (fun k' x h => cMv_Pn h) (fun k' h => cMv_Qn h) cMv_X cMv_N (fun t h => cMv_P h) (fun t y => cMv_L) (Or.inr (Or.inr (Or.inr ⟨by decide, by decide, by decide, rfl⟩)))
    (fun t t1 t2 => mMv_ne ⟨t1, by omega⟩) (fun x h => mMv_1 h) mMv_11 (fun t k' t1 h => mMv_k t1 h) mMv_66 mMv_67 mMv_68 ?_ ?_ ⟨fun z => absurd (mMv_66.symm.trans z) (by decide), fun _ => ⟨g1, ?_⟩⟩ ?_ ?_ h7 (by rw [if_neg (by decide)]) (fun l z => by cases z)
  · unfold nSty
    simp only [cMv_9, cMv_P3, cMv_P5, cMv_Q, mMv_66, mMv_67]
    exact ⟨by trivial, by trivial, (nJ_d2 hJ).1, (nJ_d2 hJ).2, Or.inr (Or.inr (Or.inr (Or.inr (Or.inl ⟨by trivial, v, hv, by trivial, by trivial, by trivial, by trivial, by trivial, by trivial⟩))))⟩
  · unfold nMon at hM ⊢
    rw [mMv_66, mMv_ne (t := 77) (by decide), mMv_ne (t := 78) (by decide)]
    obtain ⟨y1, y2, y3, y4, y5, y6, y7, y8, y9⟩ := hM
    exact ⟨y1, y2, fun _ => y3 h7, fun z => absurd z (by decide), y5, fun z => absurd z hf, fun _ => h78, y8, y9⟩
  · rw [mMv_67, i32_nat (by omega), h79, ← g2, h67]
  · refine gVan_mv hV (nJ_nl hJ (by rw [h3]; decide) h7) (fun w hw hpw _ => ?_) (fun w hw hpw => ?_) (fun x h => mMv_k (by decide) h) (fun x h => mMv_k (by decide) h) (fun x h => by rw [mMv_ne (t := 78) (by decide)]) (fun x h => cMv_9n h)
    · rw [mMv_67, ne_eq, iN_inj (by omega) (by omega)]
      intro z
      exact hpw (by rw [hp, z])
    · rw [mMv_ne (t := 78) (by decide), h78]
      intro z
      have := (iN_inj (a := 0) (by omega) (by omega)).mp z
      omega
  · exact gLoc_mv hJ hk (by rw [cMv_I (by decide)]) (by rw [mMv_66]; decide) (fun x h => mMv_k (by decide) h) (fun x h => mMv_k (by decide) h) (fun x h => by rw [mMv_ne (t := 71) (by decide)])
/-- the hour at which a parcel of a round is to be met -/
theorem nJ_99 {i v e : Nat} {x : Int32} {c : nC} {m : nM} (hJ : nJ κ i c m) (hp : i / 100000 = 2 + v) (hr : ∀ w, w < fN c 27 → w ≠ v → e ∉ fL c 11 w) : nJ κ i (uI 9 e 9 x c) m := by
  have h9 : ∀ k j, j ≠ 9 → fI (uI 9 e 9 x c) 9 k j = fI c 9 k j := fun k j hj => by rw [fI_at, if_neg (fun z => hj z.2)]
  unfold nJ at hJ ⊢
  rw [hp] at hJ ⊢
  obtain ⟨j1, j2, j3, j4, j5, j6, j7, j8, j9, j10, j11, j12, j13, j14, j15⟩ := hJ
  simp (disch := decide) only [fI_ne, fX_uI, fP_uI, fQ_uI, fL_uI, fN_uI]
  refine ⟨j1, j2, j3, j4, j5, j6, j7, fun k hk => ?_, j9, ?_, j11, ⟨fun w hw => ?_, j12.2⟩, j13, j14, j15⟩
  · have := j8 k hk
    unfold nSty at this ⊢
    simp (disch := decide) only [h9]
    exact this
  · obtain ⟨g1, g2, g3⟩ := j10
    refine ⟨g1, g2, fun l hl => ⟨(g3 l hl).1, ?_⟩⟩
    refine List.Pairwise.imp ?_ (g3 l hl).2
    intro a b hab
    rw [h9 a 2 (by decide), h9 b 2 (by decide)]
    exact hab
  · obtain ⟨y1, y2, y3, y4, y5⟩ := j12.1 w hw
    refine ⟨y1, y2, y3, fun hpw => ?_, y5⟩
    have e0 : w ≠ v := fun z => hpw (by rw [z])
    obtain ⟨r1, r2, r3, r4, r5, r6⟩ := y4 hpw
    refine ⟨r1, r2, r3, r4, r5, fun j k hjk => ?_⟩
    have hne : k ≠ e := fun z => hr w hw e0 (by rw [← z]; exact List.mem_of_getElem? hjk)
    rw [fI_n hne]
    exact r6 j k hjk
end ORD
end KAP
